/-! the reference judges: what is told stays told; find -/
def sameR (σ : RS) (t u : Nat) : Prop := aL σ 7 t = aL σ 7 u ∧ aI σ 8 t = aI σ 8 u ∧ aI σ 5 t = aI σ 5 u
/-- variable v is known at token t under its NAME -/
def VkR (σ : RS) (t : Int32) (v : Nat) : Prop := aI σ 46 v = gI σ 89 ∧ aI σ 43 v < t ∧ t ≤ aI σ 48 v ∧ sameR σ (aI σ 43 v).toNatClampNeg t.toNatClampNeg
def FdR (σ : RS) (t : Int32) (r : Int) : Prop := (0 ≤ r ∧ r < (gI σ 42).toInt ∧ VkR σ t r.toNat ∧ ∀ v : Nat, r < (v : Int) → (v : Int) < (gI σ 42).toInt → ¬ VkR σ t v) ∨ (r = -2 ∧ ∀ v : Nat, (v : Int) < (gI σ 42).toInt → ¬ VkR σ t v)
theorem nT_x {v : Int32} {n : Nat} (h : v.toInt = (n : Int)) : v.toNatClampNeg = n := by
  show v.toInt.toNat = n
  rw [h]
  rfl
theorem i32_m {v : Int32} {x : Int} (h : v.toInt = x) (h0 : -2147483647 ≤ x) (h1 : x ≤ 2147483647) : (v + -1).toInt = x - 1 := by
  rw [Int32.toInt_add, h]
  exact Int.bmod_eq_of_le (by have : (-1 : Int32).toInt = -1 := rfl; omega) (by have : (-1 : Int32).toInt = -1 := rfl; omega)
theorem i32_s {v : Int32} {x : Int} {k : Int32} {y : Int} (h : v.toInt = x) (g : k.toInt = y) (h0 : -2147483648 ≤ x - y) (h1 : x - y ≤ 2147483647) : (v - k).toInt = x - y := by
  rw [Int32.toInt_sub, h, g]
  exact Int.bmod_eq_of_le (by omega) (by omega)
def Pv_find : UP1 := fun A1 σ => match A1 with
  | [.int t] => True
  | _ => False
def Qv_find : UQ1 := fun A1 σ w τ => match A1 with
  | [.int t] => σ = τ ∧ ∃ r : Int32, w = some (.int r) ∧ (0 ≤ (gI σ 42).toInt → FdR σ t r.toInt)
  | _ => False
def Qw_find : UQ1 := fun A1 σ w τ => Pv_find A1 σ → Qv_find A1 σ w τ
set_option maxRecDepth 100000 in
set_option maxHeartbeats 4000000 in
theorem v_find : UMet 71 (Pv_find) (Qv_find) := by
  refine UMet.by Bfind [(63, (fun _ _ => True), Qw_sameNameZ)] rfl (ucc w_sameNameZ uc0) ?_
  intro A1 σ hP K hB hW
  unfold Pv_find at hP
  split at hP
  next t =>
    have loop : ∀ (N : Nat) (v : Int32) (k : Nat), (0 ≤ (gI σ 42).toInt → v.toInt = (k : Int) - 1 ∧ (k : Int) ≤ (gI σ 42).toInt ∧ ∀ u : Nat, k ≤ u → (u : Int) < (gI σ 42).toInt → ¬ VkR σ t u) → K N 7 [(0, .ref 1000), (1, .int t), (2, .int v)] [] σ := by
      intro N
      induction N using Nat.strongRecOn with
      | ind N loop =>
        intro v k hI
        refine hB _ _ _ _ _ (fun m1 hm1 => ?_)
        dsimp only [ugo, uwp, ust, uct, rfd, Bfind, Bfind_7, Nat.beq, lv_args, rlk, rs1, rs2, rdl, rky, rcd, rno, rsw, Value.category, List.filter, List.take, List.drop, List.reverse, List.reverseAux, List.cons_append, List.nil_append, Option.toList, Int.toNat, Int.reduceToNat, if_pos, if_neg, reduceIte, ↓reduceIte, Nat.reduceAdd, Nat.reduceEqDiff, Nat.reduceBEq, beq_self_eq_true, Bool.not_true, Bool.not_false, Bool.and_true, Bool.and_false, Bool.true_and, Bool.false_and, gI_sI, gI_sL, gI_sA, gI_sM, gL_sI, gL_sL, gL_sA, gL_sM, aI_sI, aI_sL, aI_sA, aI_sM, aL_sI, aL_sL, aL_sA, aL_sM]; try dsimp only
        refine ⟨fun h2 => ?_, fun h2 => ?_⟩
        · refine hB _ _ _ _ _ (fun m3 hm3 => ?_)
          dsimp only [ugo, uwp, ust, uct, rfd, Bfind, Bfind_66, Nat.beq, lv_args, rlk, rs1, rs2, rdl, rky, rcd, rno, rsw, Value.category, List.filter, List.take, List.drop, List.reverse, List.reverseAux, List.cons_append, List.nil_append, Option.toList, Int.toNat, Int.reduceToNat, if_pos, if_neg, reduceIte, ↓reduceIte, Nat.reduceAdd, Nat.reduceEqDiff, Nat.reduceBEq, beq_self_eq_true, Bool.not_true, Bool.not_false, Bool.and_true, Bool.and_false, Bool.true_and, Bool.false_and, gI_sI, gI_sL, gI_sA, gI_sM, gL_sI, gL_sL, gL_sA, gL_sM, aI_sI, aI_sL, aI_sA, aI_sM, aL_sI, aL_sL, aL_sA, aL_sM, oi_m2]; try dsimp only
          unfold Qv_find
          try dsimp only
          refine ⟨rfl, -2, rfl, fun hH => Or.inr ⟨rfl, fun u hu => ?_⟩⟩
          obtain ⟨hv, hk, ha⟩ := hI hH
          refine ha u ?_ hu
          have := Int32.lt_iff_toInt_lt.mp (show v < (0 : Int32) by lia)
          have z : (0 : Int32).toInt = 0 := rfl
          omega
        · refine hB _ _ _ _ _ (fun m4 hm4 => ?_)
          dsimp only [ugo, uwp, ust, uct, rfd, Bfind, Bfind_11, Nat.beq, lv_args, rlk, rs1, rs2, rdl, rky, rcd, rno, rsw, Value.category, List.filter, List.take, List.drop, List.reverse, List.reverseAux, List.cons_append, List.nil_append, Option.toList, Int.toNat, Int.reduceToNat, if_pos, if_neg, reduceIte, ↓reduceIte, Nat.reduceAdd, Nat.reduceEqDiff, Nat.reduceBEq, beq_self_eq_true, Bool.not_true, Bool.not_false, Bool.and_true, Bool.and_false, Bool.true_and, Bool.false_and, gI_sI, gI_sL, gI_sA, gI_sM, gL_sI, gL_sL, gL_sA, gL_sM, aI_sI, aI_sL, aI_sA, aI_sM, aL_sI, aL_sL, aL_sA, aL_sM]; try dsimp only
          intro p5
          refine ⟨fun h6 => ?_, fun h6 => ?_⟩
          · refine hB _ _ _ _ _ (fun m7 hm7 => ?_)
            dsimp only [ugo, uwp, ust, uct, rfd, Bfind, Bfind_60, Nat.beq, lv_args, rlk, rs1, rs2, rdl, rky, rcd, rno, rsw, Value.category, List.filter, List.take, List.drop, List.reverse, List.reverseAux, List.cons_append, List.nil_append, Option.toList, Int.toNat, Int.reduceToNat, if_pos, if_neg, reduceIte, ↓reduceIte, Nat.reduceAdd, Nat.reduceEqDiff, Nat.reduceBEq, beq_self_eq_true, Bool.not_true, Bool.not_false, Bool.and_true, Bool.and_false, Bool.true_and, Bool.false_and, gI_sI, gI_sL, gI_sA, gI_sM, gL_sI, gL_sL, gL_sA, gL_sM, aI_sI, aI_sL, aI_sA, aI_sM, aL_sI, aL_sL, aL_sA, aL_sM, oi_m1]; try dsimp only
            have hno : ¬ VkR σ t v.toNatClampNeg := fun q => h6 q.1
            have hk0 : 0 ≤ v.toInt := by have := Int32.le_iff_toInt_le.mp (show (0 : Int32) ≤ v by lia); have z : (0 : Int32).toInt = 0 := rfl; omega
            exact hW _ 7 [(0, .ref 1000), (1, .int t), (2, .int (v + -1))] _ _ _ (by simp [rdl, rky, Value.category]) (loop _ (by omega) (v + -1) (k - 1) (fun hH => by
              obtain ⟨hv, hk, ha⟩ := hI hH
              have e1 : (v + -1).toInt = ((k - 1 : Nat) : Int) - 1 := by rw [i32_m hv (by omega) (by have := (gI σ 42).toInt_lt; omega)]; omega
              refine ⟨e1, by omega, fun u h1 h2 q => ?_⟩
              by_cases hu : k ≤ u
              · exact ha u hu h2 q
              · obtain rfl : u = k - 1 := by omega
                have en : v.toNatClampNeg = k - 1 := nT_x (by omega)
                rw [← en] at q
                exact hno q))
          · refine hB _ _ _ _ _ (fun m8 hm8 => ?_)
            dsimp only [ugo, uwp, ust, uct, rfd, Bfind, Bfind_24, Nat.beq, lv_args, rlk, rs1, rs2, rdl, rky, rcd, rno, rsw, Value.category, List.filter, List.take, List.drop, List.reverse, List.reverseAux, List.cons_append, List.nil_append, Option.toList, Int.toNat, Int.reduceToNat, if_pos, if_neg, reduceIte, ↓reduceIte, Nat.reduceAdd, Nat.reduceEqDiff, Nat.reduceBEq, beq_self_eq_true, Bool.not_true, Bool.not_false, Bool.and_true, Bool.and_false, Bool.true_and, Bool.false_and, gI_sI, gI_sL, gI_sA, gI_sM, gL_sI, gL_sL, gL_sA, gL_sM, aI_sI, aI_sL, aI_sA, aI_sM, aL_sI, aL_sL, aL_sA, aL_sM]; try dsimp only
            intro p9
            refine ⟨fun h10 => ?_, fun h10 => ?_⟩
            · refine hB _ _ _ _ _ (fun m11 hm11 => ?_)
              dsimp only [ugo, uwp, ust, uct, rfd, Bfind, Bfind_60, Nat.beq, lv_args, rlk, rs1, rs2, rdl, rky, rcd, rno, rsw, Value.category, List.filter, List.take, List.drop, List.reverse, List.reverseAux, List.cons_append, List.nil_append, Option.toList, Int.toNat, Int.reduceToNat, if_pos, if_neg, reduceIte, ↓reduceIte, Nat.reduceAdd, Nat.reduceEqDiff, Nat.reduceBEq, beq_self_eq_true, Bool.not_true, Bool.not_false, Bool.and_true, Bool.and_false, Bool.true_and, Bool.false_and, gI_sI, gI_sL, gI_sA, gI_sM, gL_sI, gL_sL, gL_sA, gL_sM, aI_sI, aI_sL, aI_sA, aI_sM, aL_sI, aL_sL, aL_sA, aL_sM, oi_m1]; try dsimp only
              have hno : ¬ VkR σ t v.toNatClampNeg := fun q => absurd q.2.1 (Int32.not_lt.mpr h10)
              have hk0 : 0 ≤ v.toInt := by have := Int32.le_iff_toInt_le.mp (show (0 : Int32) ≤ v by lia); have z : (0 : Int32).toInt = 0 := rfl; omega
              exact hW _ 7 [(0, .ref 1000), (1, .int t), (2, .int (v + -1))] _ _ _ (by simp [rdl, rky, Value.category]) (loop _ (by omega) (v + -1) (k - 1) (fun hH => by
                obtain ⟨hv, hk, ha⟩ := hI hH
                have e1 : (v + -1).toInt = ((k - 1 : Nat) : Int) - 1 := by rw [i32_m hv (by omega) (by have := (gI σ 42).toInt_lt; omega)]; omega
                refine ⟨e1, by omega, fun u h1 h2 q => ?_⟩
                by_cases hu : k ≤ u
                · exact ha u hu h2 q
                · obtain rfl : u = k - 1 := by omega
                  have en : v.toNatClampNeg = k - 1 := nT_x (by omega)
                  rw [← en] at q
                  exact hno q))
            · refine hB _ _ _ _ _ (fun m12 hm12 => ?_)
              dsimp only [ugo, uwp, ust, uct, rfd, Bfind, Bfind_34, Nat.beq, lv_args, rlk, rs1, rs2, rdl, rky, rcd, rno, rsw, Value.category, List.filter, List.take, List.drop, List.reverse, List.reverseAux, List.cons_append, List.nil_append, Option.toList, Int.toNat, Int.reduceToNat, if_pos, if_neg, reduceIte, ↓reduceIte, Nat.reduceAdd, Nat.reduceEqDiff, Nat.reduceBEq, beq_self_eq_true, Bool.not_true, Bool.not_false, Bool.and_true, Bool.and_false, Bool.true_and, Bool.false_and, gI_sI, gI_sL, gI_sA, gI_sM, gL_sI, gL_sL, gL_sA, gL_sM, aI_sI, aI_sL, aI_sA, aI_sM, aL_sI, aL_sL, aL_sA, aL_sM]; try dsimp only
              intro p13
              refine ⟨fun h14 => ?_, fun h14 => ?_⟩
              · refine hB _ _ _ _ _ (fun m15 hm15 => ?_)
                dsimp only [ugo, uwp, ust, uct, rfd, Bfind, Bfind_60, Nat.beq, lv_args, rlk, rs1, rs2, rdl, rky, rcd, rno, rsw, Value.category, List.filter, List.take, List.drop, List.reverse, List.reverseAux, List.cons_append, List.nil_append, Option.toList, Int.toNat, Int.reduceToNat, if_pos, if_neg, reduceIte, ↓reduceIte, Nat.reduceAdd, Nat.reduceEqDiff, Nat.reduceBEq, beq_self_eq_true, Bool.not_true, Bool.not_false, Bool.and_true, Bool.and_false, Bool.true_and, Bool.false_and, gI_sI, gI_sL, gI_sA, gI_sM, gL_sI, gL_sL, gL_sA, gL_sM, aI_sI, aI_sL, aI_sA, aI_sM, aL_sI, aL_sL, aL_sA, aL_sM, oi_m1]; try dsimp only
                have hno : ¬ VkR σ t v.toNatClampNeg := fun q => absurd q.2.2.1 (Int32.not_le.mpr h14)
                have hk0 : 0 ≤ v.toInt := by have := Int32.le_iff_toInt_le.mp (show (0 : Int32) ≤ v by lia); have z : (0 : Int32).toInt = 0 := rfl; omega
                exact hW _ 7 [(0, .ref 1000), (1, .int t), (2, .int (v + -1))] _ _ _ (by simp [rdl, rky, Value.category]) (loop _ (by omega) (v + -1) (k - 1) (fun hH => by
                  obtain ⟨hv, hk, ha⟩ := hI hH
                  have e1 : (v + -1).toInt = ((k - 1 : Nat) : Int) - 1 := by rw [i32_m hv (by omega) (by have := (gI σ 42).toInt_lt; omega)]; omega
                  refine ⟨e1, by omega, fun u h1 h2 q => ?_⟩
                  by_cases hu : k ≤ u
                  · exact ha u hu h2 q
                  · obtain rfl : u = k - 1 := by omega
                    have en : v.toNatClampNeg = k - 1 := nT_x (by omega)
                    rw [← en] at q
                    exact hno q))
              · refine hB _ _ _ _ _ (fun m16 hm16 => ?_)
                dsimp only [ugo, uwp, ust, uct, rfd, Bfind, Bfind_44, Nat.beq, lv_args, rlk, rs1, rs2, rdl, rky, rcd, rno, rsw, Value.category, List.filter, List.take, List.drop, List.reverse, List.reverseAux, List.cons_append, List.nil_append, Option.toList, Int.toNat, Int.reduceToNat, if_pos, if_neg, reduceIte, ↓reduceIte, Nat.reduceAdd, Nat.reduceEqDiff, Nat.reduceBEq, beq_self_eq_true, Bool.not_true, Bool.not_false, Bool.and_true, Bool.and_false, Bool.true_and, Bool.false_and, gI_sI, gI_sL, gI_sA, gI_sM, gL_sI, gL_sL, gL_sA, gL_sM, aI_sI, aI_sL, aI_sA, aI_sM, aL_sI, aL_sL, aL_sA, aL_sM]; try dsimp only
                intro p17
                refine ⟨trivial, fun w18 τ18 hq18 => ?_⟩
                obtain ⟨rfl, hb18⟩ := hq18 trivial
                rcases hb18 with ⟨rfl, hs18⟩ | ⟨rfl, hs18⟩
                · dsimp only [Option.toList, List.cons_append, List.nil_append, Nat.beq, gI_sI, gI_sL, gI_sA, gI_sM, gL_sI, gL_sL, gL_sA, gL_sM, aI_sI, aI_sL, aI_sA, aI_sM, aL_sI, aL_sL, aL_sA, aL_sM]
                  have hs18 : sameR σ (((aI σ 43) (v).toNatClampNeg)).toNatClampNeg (t).toNatClampNeg := hs18
                  refine ⟨fun h19 => absurd h19 (by decide), fun h19 => ?_⟩
                  clear h19
                  refine hB _ _ _ _ _ (fun m20 hm20 => ?_)
                  dsimp only [ugo, uwp, ust, uct, rfd, Bfind, Bfind_58, Nat.beq, lv_args, rlk, rs1, rs2, rdl, rky, rcd, rno, rsw, Value.category, List.filter, List.take, List.drop, List.reverse, List.reverseAux, List.cons_append, List.nil_append, Option.toList, Int.toNat, Int.reduceToNat, if_pos, if_neg, reduceIte, ↓reduceIte, Nat.reduceAdd, Nat.reduceEqDiff, Nat.reduceBEq, beq_self_eq_true, Bool.not_true, Bool.not_false, Bool.and_true, Bool.and_false, Bool.true_and, Bool.false_and, gI_sI, gI_sL, gI_sA, gI_sM, gL_sI, gL_sL, gL_sA, gL_sM, aI_sI, aI_sL, aI_sA, aI_sM, aL_sI, aL_sL, aL_sA, aL_sM]; try dsimp only
                  unfold Qv_find
                  try dsimp only
                  have hk0 : 0 ≤ v.toInt := by have := Int32.le_iff_toInt_le.mp (show (0 : Int32) ≤ v by lia); have z : (0 : Int32).toInt = 0 := rfl; omega
                  refine ⟨rfl, v, rfl, fun hH => ?_⟩
                  obtain ⟨hv, hk, ha⟩ := hI hH
                  exact Or.inl ⟨hk0, by omega, ⟨by first | assumption | lia, by first | assumption | exact Int32.not_le.mp (by assumption) | lia, by first | assumption | exact Int32.not_lt.mp (by assumption) | lia, hs18⟩, fun u h1 h2 => ha u (by omega) h2⟩
                · dsimp only [Option.toList, List.cons_append, List.nil_append, Nat.beq, gI_sI, gI_sL, gI_sA, gI_sM, gL_sI, gL_sL, gL_sA, gL_sM, aI_sI, aI_sL, aI_sA, aI_sM, aL_sI, aL_sL, aL_sA, aL_sM]
                  have hs18 : ¬ sameR σ (((aI σ 43) (v).toNatClampNeg)).toNatClampNeg (t).toNatClampNeg := hs18
                  refine ⟨fun h21 => ?_, fun h21 => absurd h21 (by decide)⟩
                  clear h21
                  refine hB _ _ _ _ _ (fun m22 hm22 => ?_)
                  dsimp only [ugo, uwp, ust, uct, rfd, Bfind, Bfind_60, Nat.beq, lv_args, rlk, rs1, rs2, rdl, rky, rcd, rno, rsw, Value.category, List.filter, List.take, List.drop, List.reverse, List.reverseAux, List.cons_append, List.nil_append, Option.toList, Int.toNat, Int.reduceToNat, if_pos, if_neg, reduceIte, ↓reduceIte, Nat.reduceAdd, Nat.reduceEqDiff, Nat.reduceBEq, beq_self_eq_true, Bool.not_true, Bool.not_false, Bool.and_true, Bool.and_false, Bool.true_and, Bool.false_and, gI_sI, gI_sL, gI_sA, gI_sM, gL_sI, gL_sL, gL_sA, gL_sM, aI_sI, aI_sL, aI_sA, aI_sM, aL_sI, aL_sL, aL_sA, aL_sM, oi_m1]; try dsimp only
                  have hno : ¬ VkR σ t v.toNatClampNeg := fun q => hs18 q.2.2.2
                  have hk0 : 0 ≤ v.toInt := by have := Int32.le_iff_toInt_le.mp (show (0 : Int32) ≤ v by lia); have z : (0 : Int32).toInt = 0 := rfl; omega
                  exact hW _ 7 [(0, .ref 1000), (1, .int t), (2, .int (v + -1))] _ _ _ (by simp [rdl, rky, Value.category]) (loop _ (by omega) (v + -1) (k - 1) (fun hH => by
                    obtain ⟨hv, hk, ha⟩ := hI hH
                    have e1 : (v + -1).toInt = ((k - 1 : Nat) : Int) - 1 := by rw [i32_m hv (by omega) (by have := (gI σ 42).toInt_lt; omega)]; omega
                    refine ⟨e1, by omega, fun u h1 h2 q => ?_⟩
                    by_cases hu : k ≤ u
                    · exact ha u hu h2 q
                    · obtain rfl : u = k - 1 := by omega
                      have en : v.toNatClampNeg = k - 1 := nT_x (by omega)
                      rw [← en] at q
                      exact hno q))
    intro n0
    refine hB _ _ _ _ _ (fun m1 hm1 => ?_)
    dsimp only [ugo, uwp, ust, uct, rfd, Bfind, Bfind_0, Nat.beq, lv_args, rlk, rs1, rs2, rdl, rky, rcd, rno, rsw, Value.category, List.filter, List.take, List.drop, List.reverse, List.reverseAux, List.cons_append, List.nil_append, Option.toList, Int.toNat, Int.reduceToNat, if_pos, if_neg, reduceIte, ↓reduceIte, Nat.reduceAdd, Nat.reduceEqDiff, Nat.reduceBEq, beq_self_eq_true, Bool.not_true, Bool.not_false, Bool.and_true, Bool.and_false, Bool.true_and, Bool.false_and, gI_sI, gI_sL, gI_sA, gI_sM, gL_sI, gL_sL, gL_sA, gL_sM, aI_sI, aI_sL, aI_sA, aI_sM, aL_sI, aL_sL, aL_sA, aL_sM, oi_1]; try dsimp only
    exact hW _ 7 [(0, .ref 1000), (1, .int t), (2, .int (gI σ 42 - 1))] _ _ _ (by simp [rdl, rky, Value.category]) (loop _ (gI σ 42 - 1) (gI σ 42).toInt.toNat (fun hH => ⟨by rw [i32_s (x := (gI σ 42).toInt) (k := 1) (y := 1) rfl rfl (by omega) (by have := (gI σ 42).toInt_lt; omega)]; omega, by omega, fun u h1 h2 => by omega⟩))
  next => exact hP.elim
theorem w_find : UMet 71 (fun _ _ => True) Qw_find := fun A1 σ _ w τ h hP => v_find A1 σ hP w τ h
def Pv_literalA : UP1 := fun A1 σ => match A1 with
  | [.int c, .int t] => ¬ gI σ 66 = 0
  | _ => False
def Qv_literalA : UQ1 := fun A1 σ w τ => match A1 with
  | [.int c, .int t] => w = none ∧ ¬ gI τ 66 = 0
  | _ => False
def Qw_literalA : UQ1 := fun A1 σ w τ => Pv_literalA A1 σ → Qv_literalA A1 σ w τ
set_option maxRecDepth 100000 in
set_option maxHeartbeats 4000000 in
theorem v_literalA : UMet 89 (Pv_literalA) (Qv_literalA) := by
  refine UMet.by Bliteral [(70, (fun _ _ => True), Qw_err), (77, (fun _ _ => True), Qw_lie), (78, (fun _ _ => True), Qw_none)] rfl (ucc w_err (ucc w_lie (ucc w_none uc0))) ?_
  intro A1 σ hP K hB hW
  unfold Pv_literalA at hP
  split at hP
  next c t =>
    have all : ∀ N : Nat, (∀ (x1 : Int32) (x2 : Int32) (Y : RS), ¬ gI Y 66 = 0 → K N 0 [(0, .ref 1000), (1, .int x1), (2, .int x2)] [] Y) ∧ (∀ (x1 : Int32) (x2 : Int32) (Y : RS), ¬ gI Y 66 = 0 → K N 10 [(0, .ref 1000), (1, .int x1), (2, .int x2)] [] Y) ∧ (∀ (x1 : Int32) (x2 : Int32) (Y : RS), ¬ gI Y 66 = 0 → K N 20 [(0, .ref 1000), (1, .int x1), (2, .int x2)] [] Y) ∧ (∀ (x1 : Int32) (x2 : Int32) (Y : RS), ¬ gI Y 66 = 0 → K N 30 [(0, .ref 1000), (1, .int x1), (2, .int x2)] [] Y) ∧ (∀ (x1 : Int32) (x2 : Int32) (Y : RS), ¬ gI Y 66 = 0 → K N 39 [(0, .ref 1000), (1, .int x1), (2, .int x2)] [] Y) ∧ (∀ (x1 : Int32) (x2 : Int32) (Y : RS), ¬ gI Y 66 = 0 → K N 51 [(0, .ref 1000), (1, .int x1), (2, .int x2)] [] Y) ∧ (∀ (x1 : Int32) (x2 : Int32) (Y : RS), ¬ gI Y 66 = 0 → K N 61 [(0, .ref 1000), (1, .int x1), (2, .int x2)] [] Y) ∧ (∀ (x1 : Int32) (x2 : Int32) (Y : RS), ¬ gI Y 66 = 0 → K N 72 [(0, .ref 1000), (1, .int x1), (2, .int x2)] [] Y) ∧ (∀ (x1 : Int32) (x2 : Int32) (Y : RS), ¬ gI Y 66 = 0 → K N 76 [(0, .ref 1000), (1, .int x1), (2, .int x2)] [] Y) ∧ (∀ (x1 : Int32) (x2 : Int32) (Y : RS), ¬ gI Y 66 = 0 → K N 80 [(0, .ref 1000), (1, .int x1), (2, .int x2)] [] Y) ∧ (∀ (x1 : Int32) (x2 : Int32) (Y : RS), ¬ gI Y 66 = 0 → K N 90 [(0, .ref 1000), (1, .int x1), (2, .int x2)] [] Y) ∧ (∀ (x1 : Int32) (x2 : Int32) (Y : RS), ¬ gI Y 66 = 0 → K N 101 [(0, .ref 1000), (1, .int x1), (2, .int x2)] [] Y) ∧ (∀ (x1 : Int32) (x2 : Int32) (s0 : Int64) (Y : RS), ¬ gI Y 66 = 0 → K N 107 [(0, .ref 1000), (1, .int x1), (2, .int x2)] [.long s0] Y) := by
      intro N
      induction N using Nat.strongRecOn with
      | ind N ih =>
        refine ⟨?_, ?_, ?_, ?_, ?_, ?_, ?_, ?_, ?_, ?_, ?_, ?_, ?_⟩
        · intro x1 x2 Y hz
          refine hB _ _ _ _ _ (fun m1 hm1 => ?_)
          dsimp only [ugo, uwp, ust, uct, rfd, Bliteral, Bliteral_0, Nat.beq, lv_args, rlk, rs1, rs2, rdl, rky, rcd, rno, rsw, Value.category, List.filter, List.take, List.drop, List.reverse, List.reverseAux, List.cons_append, List.nil_append, Option.toList, Int.toNat, Int.reduceToNat, if_pos, if_neg, reduceIte, ↓reduceIte, Nat.reduceAdd, Nat.reduceEqDiff, Nat.reduceBEq, beq_self_eq_true, Bool.not_true, Bool.not_false, Bool.and_true, Bool.and_false, Bool.true_and, Bool.false_and, gI_sI, gI_sL, gI_sA, gI_sM, gL_sI, gL_sL, gL_sA, gL_sM, aI_sI, aI_sL, aI_sA, aI_sM, aL_sI, aL_sL, aL_sA, aL_sM, oi_2]; try dsimp only
          intro p2
          refine ⟨fun h3 => ?_, fun h3 => ?_⟩
          · exact hW _ 51 [(0, .ref 1000), (1, .int x1), (2, .int x2)] _ _ _ (by simp [rdl, rky, Value.category]) ((ih m1 hm1).2.2.2.2.2.1 x1 x2 _ hz)
          · exact hW _ 10 [(0, .ref 1000), (1, .int x1), (2, .int x2)] _ _ _ (by simp [rdl, rky, Value.category]) ((ih m1 hm1).2.1 x1 x2 _ hz)
        · intro x1 x2 Y hz
          refine hB _ _ _ _ _ (fun m1 hm1 => ?_)
          dsimp only [ugo, uwp, ust, uct, rfd, Bliteral, Bliteral_10, Nat.beq, lv_args, rlk, rs1, rs2, rdl, rky, rcd, rno, rsw, Value.category, List.filter, List.take, List.drop, List.reverse, List.reverseAux, List.cons_append, List.nil_append, Option.toList, Int.toNat, Int.reduceToNat, if_pos, if_neg, reduceIte, ↓reduceIte, Nat.reduceAdd, Nat.reduceEqDiff, Nat.reduceBEq, beq_self_eq_true, Bool.not_true, Bool.not_false, Bool.and_true, Bool.and_false, Bool.true_and, Bool.false_and, gI_sI, gI_sL, gI_sA, gI_sM, gL_sI, gL_sL, gL_sA, gL_sM, aI_sI, aI_sL, aI_sA, aI_sM, aL_sI, aL_sL, aL_sA, aL_sM, oi_2]; try dsimp only
          intro p2
          refine ⟨fun h3 => ?_, fun h3 => ?_⟩
          · exact hW _ 39 [(0, .ref 1000), (1, .int x1), (2, .int x2)] _ _ _ (by simp [rdl, rky, Value.category]) ((ih m1 hm1).2.2.2.2.1 x1 x2 _ hz)
          · exact hW _ 20 [(0, .ref 1000), (1, .int x1), (2, .int x2)] _ _ _ (by simp [rdl, rky, Value.category]) ((ih m1 hm1).2.2.1 x1 x2 _ hz)
        · intro x1 x2 Y hz
          refine hB _ _ _ _ _ (fun m1 hm1 => ?_)
          dsimp only [ugo, uwp, ust, uct, rfd, Bliteral, Bliteral_20, Nat.beq, lv_args, rlk, rs1, rs2, rdl, rky, rcd, rno, rsw, Value.category, List.filter, List.take, List.drop, List.reverse, List.reverseAux, List.cons_append, List.nil_append, Option.toList, Int.toNat, Int.reduceToNat, if_pos, if_neg, reduceIte, ↓reduceIte, Nat.reduceAdd, Nat.reduceEqDiff, Nat.reduceBEq, beq_self_eq_true, Bool.not_true, Bool.not_false, Bool.and_true, Bool.and_false, Bool.true_and, Bool.false_and, gI_sI, gI_sL, gI_sA, gI_sM, gL_sI, gL_sL, gL_sA, gL_sM, aI_sI, aI_sL, aI_sA, aI_sM, aL_sI, aL_sL, aL_sA, aL_sM, oi_1]; try dsimp only
          intro p2
          refine ⟨fun h3 => ?_, fun h3 => ?_⟩
          · exact hW _ 51 [(0, .ref 1000), (1, .int x1), (2, .int x2)] _ _ _ (by simp [rdl, rky, Value.category]) ((ih m1 hm1).2.2.2.2.2.1 x1 x2 _ hz)
          · exact hW _ 30 [(0, .ref 1000), (1, .int x1), (2, .int x2)] _ _ _ (by simp [rdl, rky, Value.category]) ((ih m1 hm1).2.2.2.1 x1 x2 _ hz)
        · intro x1 x2 Y hz
          refine hB _ _ _ _ _ (fun m1 hm1 => ?_)
          dsimp only [ugo, uwp, ust, uct, rfd, Bliteral, Bliteral_30, Nat.beq, lv_args, rlk, rs1, rs2, rdl, rky, rcd, rno, rsw, Value.category, List.filter, List.take, List.drop, List.reverse, List.reverseAux, List.cons_append, List.nil_append, Option.toList, Int.toNat, Int.reduceToNat, if_pos, if_neg, reduceIte, ↓reduceIte, Nat.reduceAdd, Nat.reduceEqDiff, Nat.reduceBEq, beq_self_eq_true, Bool.not_true, Bool.not_false, Bool.and_true, Bool.and_false, Bool.true_and, Bool.false_and, gI_sI, gI_sL, gI_sA, gI_sM, gL_sI, gL_sL, gL_sA, gL_sM, aI_sI, aI_sL, aI_sA, aI_sM, aL_sI, aL_sL, aL_sA, aL_sM]; try dsimp only
          intro p2
          refine ⟨fun h3 => ?_, fun h3 => ?_⟩
          · exact hW _ 51 [(0, .ref 1000), (1, .int x1), (2, .int x2)] _ _ _ (by simp [rdl, rky, Value.category]) ((ih m1 hm1).2.2.2.2.2.1 x1 x2 _ hz)
          · exact hW _ 39 [(0, .ref 1000), (1, .int x1), (2, .int x2)] _ _ _ (by simp [rdl, rky, Value.category]) ((ih m1 hm1).2.2.2.2.1 x1 x2 _ hz)
        · intro x1 x2 Y hz
          refine hB _ _ _ _ _ (fun m1 hm1 => ?_)
          dsimp only [ugo, uwp, ust, uct, rfd, Bliteral, Bliteral_39, Nat.beq, lv_args, rlk, rs1, rs2, rdl, rky, rcd, rno, rsw, Value.category, List.filter, List.take, List.drop, List.reverse, List.reverseAux, List.cons_append, List.nil_append, Option.toList, Int.toNat, Int.reduceToNat, if_pos, if_neg, reduceIte, ↓reduceIte, Nat.reduceAdd, Nat.reduceEqDiff, Nat.reduceBEq, beq_self_eq_true, Bool.not_true, Bool.not_false, Bool.and_true, Bool.and_false, Bool.true_and, Bool.false_and, gI_sI, gI_sL, gI_sA, gI_sM, gL_sI, gL_sL, gL_sA, gL_sM, aI_sI, aI_sL, aI_sA, aI_sM, aL_sI, aL_sL, aL_sA, aL_sM, oi_4]; try dsimp only
          refine ⟨trivial, fun w2 τ2 hq2 => ?_⟩
          obtain ⟨rfl, hz2⟩ := hq2 (show ¬ (4 : Int32) = 0 by decide)
          dsimp only [Option.toList, List.cons_append, List.nil_append, Nat.beq, gI_sI, gI_sL, gI_sA, gI_sM, gL_sI, gL_sL, gL_sA, gL_sM, aI_sI, aI_sL, aI_sA, aI_sM, aL_sI, aL_sL, aL_sA, aL_sM]
          refine ⟨trivial, fun w3 τ3 hq3 => ?_⟩
          obtain ⟨rfl, rfl⟩ := hq3 trivial
          dsimp only [Option.toList, List.cons_append, List.nil_append, Nat.beq, gI_sI, gI_sL, gI_sA, gI_sM, gL_sI, gL_sL, gL_sA, gL_sM, aI_sI, aI_sL, aI_sA, aI_sM, aL_sI, aL_sL, aL_sA, aL_sM]
          unfold Qv_literalA
          try dsimp only
          exact ⟨rfl, hz2⟩
        · intro x1 x2 Y hz
          refine hB _ _ _ _ _ (fun m1 hm1 => ?_)
          dsimp only [ugo, uwp, ust, uct, rfd, Bliteral, Bliteral_51, Nat.beq, lv_args, rlk, rs1, rs2, rdl, rky, rcd, rno, rsw, Value.category, List.filter, List.take, List.drop, List.reverse, List.reverseAux, List.cons_append, List.nil_append, Option.toList, Int.toNat, Int.reduceToNat, if_pos, if_neg, reduceIte, ↓reduceIte, Nat.reduceAdd, Nat.reduceEqDiff, Nat.reduceBEq, beq_self_eq_true, Bool.not_true, Bool.not_false, Bool.and_true, Bool.and_false, Bool.true_and, Bool.false_and, gI_sI, gI_sL, gI_sA, gI_sM, gL_sI, gL_sL, gL_sA, gL_sM, aI_sI, aI_sL, aI_sA, aI_sM, aL_sI, aL_sL, aL_sA, aL_sM, oi_4]; try dsimp only
          intro p2
          refine ⟨fun h3 => ?_, fun h3 => ?_⟩
          · exact hW _ 80 [(0, .ref 1000), (1, .int x1), (2, .int x2)] _ _ _ (by simp [rdl, rky, Value.category]) ((ih m1 hm1).2.2.2.2.2.2.2.2.2.1 x1 x2 _ hz)
          · exact hW _ 61 [(0, .ref 1000), (1, .int x1), (2, .int x2)] _ _ _ (by simp [rdl, rky, Value.category]) ((ih m1 hm1).2.2.2.2.2.2.1 x1 x2 _ hz)
        · intro x1 x2 Y hz
          refine hB _ _ _ _ _ (fun m1 hm1 => ?_)
          dsimp only [ugo, uwp, ust, uct, rfd, Bliteral, Bliteral_61, Nat.beq, lv_args, rlk, rs1, rs2, rdl, rky, rcd, rno, rsw, Value.category, List.filter, List.take, List.drop, List.reverse, List.reverseAux, List.cons_append, List.nil_append, Option.toList, Int.toNat, Int.reduceToNat, if_pos, if_neg, reduceIte, ↓reduceIte, Nat.reduceAdd, Nat.reduceEqDiff, Nat.reduceBEq, beq_self_eq_true, Bool.not_true, Bool.not_false, Bool.and_true, Bool.and_false, Bool.true_and, Bool.false_and, gI_sI, gI_sL, gI_sA, gI_sM, gL_sI, gL_sL, gL_sA, gL_sM, aI_sI, aI_sL, aI_sA, aI_sM, aL_sI, aL_sL, aL_sA, aL_sM, oi_22]; try dsimp only
          intro p2
          refine ⟨fun h3 => ?_, fun h3 => ?_⟩
          · exact hW _ 76 [(0, .ref 1000), (1, .int x1), (2, .int x2)] _ _ _ (by simp [rdl, rky, Value.category]) ((ih m1 hm1).2.2.2.2.2.2.2.2.1 x1 x2 _ hz)
          · exact hW _ 72 [(0, .ref 1000), (1, .int x1), (2, .int x2)] _ _ _ (by simp [rdl, rky, Value.category]) ((ih m1 hm1).2.2.2.2.2.2.2.1 x1 x2 _ hz)
        · intro x1 x2 Y hz
          refine hB _ _ _ _ _ (fun m1 hm1 => ?_)
          dsimp only [ugo, uwp, ust, uct, rfd, Bliteral, Bliteral_72, Nat.beq, lv_args, rlk, rs1, rs2, rdl, rky, rcd, rno, rsw, Value.category, List.filter, List.take, List.drop, List.reverse, List.reverseAux, List.cons_append, List.nil_append, Option.toList, Int.toNat, Int.reduceToNat, if_pos, if_neg, reduceIte, ↓reduceIte, Nat.reduceAdd, Nat.reduceEqDiff, Nat.reduceBEq, beq_self_eq_true, Bool.not_true, Bool.not_false, Bool.and_true, Bool.and_false, Bool.true_and, Bool.false_and, gI_sI, gI_sL, gI_sA, gI_sM, gL_sI, gL_sL, gL_sA, gL_sM, aI_sI, aI_sL, aI_sA, aI_sM, aL_sI, aL_sL, aL_sA, aL_sM]; try dsimp only
          exact hW _ 107 [(0, .ref 1000), (1, .int x1), (2, .int x2)] _ _ _ (by simp [rdl, rky, Value.category]) ((ih m1 hm1).2.2.2.2.2.2.2.2.2.2.2.2 x1 x2 (1 : Int64) _ hz)
        · intro x1 x2 Y hz
          refine hB _ _ _ _ _ (fun m1 hm1 => ?_)
          dsimp only [ugo, uwp, ust, uct, rfd, Bliteral, Bliteral_76, Nat.beq, lv_args, rlk, rs1, rs2, rdl, rky, rcd, rno, rsw, Value.category, List.filter, List.take, List.drop, List.reverse, List.reverseAux, List.cons_append, List.nil_append, Option.toList, Int.toNat, Int.reduceToNat, if_pos, if_neg, reduceIte, ↓reduceIte, Nat.reduceAdd, Nat.reduceEqDiff, Nat.reduceBEq, beq_self_eq_true, Bool.not_true, Bool.not_false, Bool.and_true, Bool.and_false, Bool.true_and, Bool.false_and, gI_sI, gI_sL, gI_sA, gI_sM, gL_sI, gL_sL, gL_sA, gL_sM, aI_sI, aI_sL, aI_sA, aI_sM, aL_sI, aL_sL, aL_sA, aL_sM]; try dsimp only
          exact hW _ 107 [(0, .ref 1000), (1, .int x1), (2, .int x2)] _ _ _ (by simp [rdl, rky, Value.category]) ((ih m1 hm1).2.2.2.2.2.2.2.2.2.2.2.2 x1 x2 (0 : Int64) _ hz)
        · intro x1 x2 Y hz
          refine hB _ _ _ _ _ (fun m1 hm1 => ?_)
          dsimp only [ugo, uwp, ust, uct, rfd, Bliteral, Bliteral_80, Nat.beq, lv_args, rlk, rs1, rs2, rdl, rky, rcd, rno, rsw, Value.category, List.filter, List.take, List.drop, List.reverse, List.reverseAux, List.cons_append, List.nil_append, Option.toList, Int.toNat, Int.reduceToNat, if_pos, if_neg, reduceIte, ↓reduceIte, Nat.reduceAdd, Nat.reduceEqDiff, Nat.reduceBEq, beq_self_eq_true, Bool.not_true, Bool.not_false, Bool.and_true, Bool.and_false, Bool.true_and, Bool.false_and, gI_sI, gI_sL, gI_sA, gI_sM, gL_sI, gL_sL, gL_sA, gL_sM, aI_sI, aI_sL, aI_sA, aI_sM, aL_sI, aL_sL, aL_sA, aL_sM, oi_3]; try dsimp only
          intro p2
          refine ⟨fun h3 => ?_, fun h3 => ?_⟩
          · exact hW _ 101 [(0, .ref 1000), (1, .int x1), (2, .int x2)] _ _ _ (by simp [rdl, rky, Value.category]) ((ih m1 hm1).2.2.2.2.2.2.2.2.2.2.2.1 x1 x2 _ hz)
          · exact hW _ 90 [(0, .ref 1000), (1, .int x1), (2, .int x2)] _ _ _ (by simp [rdl, rky, Value.category]) ((ih m1 hm1).2.2.2.2.2.2.2.2.2.2.1 x1 x2 _ hz)
        · intro x1 x2 Y hz
          refine hB _ _ _ _ _ (fun m1 hm1 => ?_)
          dsimp only [ugo, uwp, ust, uct, rfd, Bliteral, Bliteral_90, Nat.beq, lv_args, rlk, rs1, rs2, rdl, rky, rcd, rno, rsw, Value.category, List.filter, List.take, List.drop, List.reverse, List.reverseAux, List.cons_append, List.nil_append, Option.toList, Int.toNat, Int.reduceToNat, if_pos, if_neg, reduceIte, ↓reduceIte, Nat.reduceAdd, Nat.reduceEqDiff, Nat.reduceBEq, beq_self_eq_true, Bool.not_true, Bool.not_false, Bool.and_true, Bool.and_false, Bool.true_and, Bool.false_and, gI_sI, gI_sL, gI_sA, gI_sM, gL_sI, gL_sL, gL_sA, gL_sM, aI_sI, aI_sL, aI_sA, aI_sM, aL_sI, aL_sL, aL_sA, aL_sM]; try dsimp only
          intro p2
          exact hW _ 107 [(0, .ref 1000), (1, .int x1), (2, .int x2)] _ _ _ (by simp [rdl, rky, Value.category]) ((ih m1 hm1).2.2.2.2.2.2.2.2.2.2.2.2 x1 x2 ((((aL Y 9) (x2).toNatClampNeg)).toInt32).toInt64 _ hz)
        · intro x1 x2 Y hz
          refine hB _ _ _ _ _ (fun m1 hm1 => ?_)
          dsimp only [ugo, uwp, ust, uct, rfd, Bliteral, Bliteral_101, Nat.beq, lv_args, rlk, rs1, rs2, rdl, rky, rcd, rno, rsw, Value.category, List.filter, List.take, List.drop, List.reverse, List.reverseAux, List.cons_append, List.nil_append, Option.toList, Int.toNat, Int.reduceToNat, if_pos, if_neg, reduceIte, ↓reduceIte, Nat.reduceAdd, Nat.reduceEqDiff, Nat.reduceBEq, beq_self_eq_true, Bool.not_true, Bool.not_false, Bool.and_true, Bool.and_false, Bool.true_and, Bool.false_and, gI_sI, gI_sL, gI_sA, gI_sM, gL_sI, gL_sL, gL_sA, gL_sM, aI_sI, aI_sL, aI_sA, aI_sM, aL_sI, aL_sL, aL_sA, aL_sM]; try dsimp only
          intro p2
          exact hW _ 107 [(0, .ref 1000), (1, .int x1), (2, .int x2)] _ _ _ (by simp [rdl, rky, Value.category]) ((ih m1 hm1).2.2.2.2.2.2.2.2.2.2.2.2 x1 x2 ((aL Y 9) (x2).toNatClampNeg) _ hz)
        · intro x1 x2 s0 Y hz
          refine hB _ _ _ _ _ (fun m1 hm1 => ?_)
          dsimp only [ugo, uwp, ust, uct, rfd, Bliteral, Bliteral_107, Nat.beq, lv_args, rlk, rs1, rs2, rdl, rky, rcd, rno, rsw, Value.category, List.filter, List.take, List.drop, List.reverse, List.reverseAux, List.cons_append, List.nil_append, Option.toList, Int.toNat, Int.reduceToNat, if_pos, if_neg, reduceIte, ↓reduceIte, Nat.reduceAdd, Nat.reduceEqDiff, Nat.reduceBEq, beq_self_eq_true, Bool.not_true, Bool.not_false, Bool.and_true, Bool.and_false, Bool.true_and, Bool.false_and, gI_sI, gI_sL, gI_sA, gI_sM, gL_sI, gL_sL, gL_sA, gL_sM, aI_sI, aI_sL, aI_sA, aI_sM, aL_sI, aL_sL, aL_sA, aL_sM, oi_1]; try dsimp only
          intro p2
          refine ⟨trivial, fun w3 τ3 hq3 => ?_⟩
          obtain ⟨rfl, rfl⟩ := hq3 trivial
          dsimp only [Option.toList, List.cons_append, List.nil_append, Nat.beq, gI_sI, gI_sL, gI_sA, gI_sM, gL_sI, gL_sL, gL_sA, gL_sM, aI_sI, aI_sL, aI_sA, aI_sM, aL_sI, aL_sL, aL_sA, aL_sM]
          unfold Qv_literalA
          try dsimp only
          exact ⟨rfl, hz⟩
    intro n0
    exact (all n0).1 c t σ hP
  next => exact hP.elim
theorem w_literalA : UMet 89 (fun _ _ => True) Qw_literalA := fun A1 σ _ w τ h hP => v_literalA A1 σ hP w τ h
def Pv_stepA : UP1 := fun A1 σ => match A1 with
  | [.int c, .int t] => ¬ gI σ 66 = 0
  | _ => False
def Qv_stepA : UQ1 := fun A1 σ w τ => match A1 with
  | [.int c, .int t] => w = none ∧ ¬ gI τ 66 = 0
  | _ => False
def Qw_stepA : UQ1 := fun A1 σ w τ => Pv_stepA A1 σ → Qv_stepA A1 σ w τ
set_option maxRecDepth 100000 in
set_option maxHeartbeats 4000000 in
theorem v_stepA : UMet 90 (Pv_stepA) (Qv_stepA) := by
  refine UMet.by Bstep [(70, (fun _ _ => True), Qw_err), (71, (fun _ _ => True), Qw_find), (77, (fun _ _ => True), Qw_lie), (78, (fun _ _ => True), Qw_none)] rfl (ucc w_err (ucc w_find (ucc w_lie (ucc w_none uc0)))) ?_
  intro A1 σ hP K hB hW
  unfold Pv_stepA at hP
  split at hP
  next c t =>
    have all : ∀ N : Nat, (∀ (x1 : Int32) (x2 : Int32) (Y : RS), ¬ gI Y 66 = 0 → K N 0 [(0, .ref 1000), (1, .int x1), (2, .int x2)] [] Y) ∧ (∀ (x1 : Int32) (x2 : Int32) (x3 : Int32) (Y : RS), ¬ gI Y 66 = 0 → K N 17 [(0, .ref 1000), (1, .int x1), (2, .int x2), (3, .int x3)] [] Y) ∧ (∀ (x1 : Int32) (x2 : Int32) (x3 : Int32) (Y : RS), ¬ gI Y 66 = 0 → K N 29 [(0, .ref 1000), (1, .int x1), (2, .int x2), (3, .int x3)] [] Y) ∧ (∀ (x1 : Int32) (x2 : Int32) (x3 : Int32) (x4 : Int32) (Y : RS), ¬ gI Y 66 = 0 → K N 48 [(0, .ref 1000), (1, .int x1), (2, .int x2), (3, .int x3), (4, .int x4)] [] Y) ∧ (∀ (x1 : Int32) (x2 : Int32) (x3 : Int32) (x4 : Int32) (Y : RS), ¬ gI Y 66 = 0 → K N 58 [(0, .ref 1000), (1, .int x1), (2, .int x2), (3, .int x3), (4, .int x4)] [] Y) ∧ (∀ (x1 : Int32) (x2 : Int32) (x3 : Int32) (x4 : Int32) (Y : RS), ¬ gI Y 66 = 0 → K N 67 [(0, .ref 1000), (1, .int x1), (2, .int x2), (3, .int x3), (4, .int x4)] [] Y) ∧ (∀ (x1 : Int32) (x2 : Int32) (x3 : Int32) (x4 : Int32) (Y : RS), ¬ gI Y 66 = 0 → K N 81 [(0, .ref 1000), (1, .int x1), (2, .int x2), (3, .int x3), (4, .int x4)] [] Y) ∧ (∀ (x1 : Int32) (x2 : Int32) (x3 : Int32) (x4 : Int32) (Y : RS), ¬ gI Y 66 = 0 → K N 86 [(0, .ref 1000), (1, .int x1), (2, .int x2), (3, .int x3), (4, .int x4)] [] Y) ∧ (∀ (x1 : Int32) (x2 : Int32) (x3 : Int32) (x4 : Int32) (Y : RS), ¬ gI Y 66 = 0 → K N 102 [(0, .ref 1000), (1, .int x1), (2, .int x2), (3, .int x3), (4, .int x4)] [] Y) ∧ (∀ (x1 : Int32) (x2 : Int32) (x3 : Int32) (x4 : Int32) (Y : RS), ¬ gI Y 66 = 0 → K N 107 [(0, .ref 1000), (1, .int x1), (2, .int x2), (3, .int x3), (4, .int x4)] [] Y) := by
      intro N
      induction N using Nat.strongRecOn with
      | ind N ih =>
        refine ⟨?_, ?_, ?_, ?_, ?_, ?_, ?_, ?_, ?_, ?_⟩
        · intro x1 x2 Y hz
          refine hB _ _ _ _ _ (fun m1 hm1 => ?_)
          dsimp only [ugo, uwp, ust, uct, rfd, Bstep, Bstep_0, Nat.beq, lv_args, rlk, rs1, rs2, rdl, rky, rcd, rno, rsw, Value.category, List.filter, List.take, List.drop, List.reverse, List.reverseAux, List.cons_append, List.nil_append, Option.toList, Int.toNat, Int.reduceToNat, if_pos, if_neg, reduceIte, ↓reduceIte, Nat.reduceAdd, Nat.reduceEqDiff, Nat.reduceBEq, beq_self_eq_true, Bool.not_true, Bool.not_false, Bool.and_true, Bool.and_false, Bool.true_and, Bool.false_and, gI_sI, gI_sL, gI_sA, gI_sM, gL_sI, gL_sL, gL_sA, gL_sM, aI_sI, aI_sL, aI_sA, aI_sM, aL_sI, aL_sL, aL_sA, aL_sM]; try dsimp only
          refine ⟨trivial, fun w2 τ2 hq2 => ?_⟩
          obtain ⟨rfl, r2, rfl, hr2⟩ := hq2 trivial
          dsimp only [Option.toList, List.cons_append, List.nil_append, Nat.beq, gI_sI, gI_sL, gI_sA, gI_sM, gL_sI, gL_sL, gL_sA, gL_sM, aI_sI, aI_sL, aI_sA, aI_sM, aL_sI, aL_sL, aL_sA, aL_sM]
          intro p3
          refine ⟨fun h4 => ?_, fun h4 => ?_⟩
          · exact hW _ 29 [(0, .ref 1000), (1, .int x1), (2, .int x2), (3, .int r2)] _ _ _ (by simp [rdl, rky, Value.category]) ((ih m1 hm1).2.2.1 x1 x2 r2 _ hz)
          · exact hW _ 17 [(0, .ref 1000), (1, .int x1), (2, .int x2), (3, .int r2)] _ _ _ (by simp [rdl, rky, Value.category]) ((ih m1 hm1).2.1 x1 x2 r2 _ hz)
        · intro x1 x2 x3 Y hz
          refine hB _ _ _ _ _ (fun m1 hm1 => ?_)
          dsimp only [ugo, uwp, ust, uct, rfd, Bstep, Bstep_17, Nat.beq, lv_args, rlk, rs1, rs2, rdl, rky, rcd, rno, rsw, Value.category, List.filter, List.take, List.drop, List.reverse, List.reverseAux, List.cons_append, List.nil_append, Option.toList, Int.toNat, Int.reduceToNat, if_pos, if_neg, reduceIte, ↓reduceIte, Nat.reduceAdd, Nat.reduceEqDiff, Nat.reduceBEq, beq_self_eq_true, Bool.not_true, Bool.not_false, Bool.and_true, Bool.and_false, Bool.true_and, Bool.false_and, gI_sI, gI_sL, gI_sA, gI_sM, gL_sI, gL_sL, gL_sA, gL_sM, aI_sI, aI_sL, aI_sA, aI_sM, aL_sI, aL_sL, aL_sA, aL_sM, oi_3]; try dsimp only
          refine ⟨trivial, fun w2 τ2 hq2 => ?_⟩
          obtain ⟨rfl, hz2⟩ := hq2 (show ¬ (3 : Int32) = 0 by decide)
          dsimp only [Option.toList, List.cons_append, List.nil_append, Nat.beq, gI_sI, gI_sL, gI_sA, gI_sM, gL_sI, gL_sL, gL_sA, gL_sM, aI_sI, aI_sL, aI_sA, aI_sM, aL_sI, aL_sL, aL_sA, aL_sM]
          refine ⟨trivial, fun w3 τ3 hq3 => ?_⟩
          obtain ⟨rfl, rfl⟩ := hq3 trivial
          dsimp only [Option.toList, List.cons_append, List.nil_append, Nat.beq, gI_sI, gI_sL, gI_sA, gI_sM, gL_sI, gL_sL, gL_sA, gL_sM, aI_sI, aI_sL, aI_sA, aI_sM, aL_sI, aL_sL, aL_sA, aL_sM]
          unfold Qv_stepA
          try dsimp only
          exact ⟨rfl, hz2⟩
        · intro x1 x2 x3 Y hz
          refine hB _ _ _ _ _ (fun m1 hm1 => ?_)
          dsimp only [ugo, uwp, ust, uct, rfd, Bstep, Bstep_29, Nat.beq, lv_args, rlk, rs1, rs2, rdl, rky, rcd, rno, rsw, Value.category, List.filter, List.take, List.drop, List.reverse, List.reverseAux, List.cons_append, List.nil_append, Option.toList, Int.toNat, Int.reduceToNat, if_pos, if_neg, reduceIte, ↓reduceIte, Nat.reduceAdd, Nat.reduceEqDiff, Nat.reduceBEq, beq_self_eq_true, Bool.not_true, Bool.not_false, Bool.and_true, Bool.and_false, Bool.true_and, Bool.false_and, gI_sI, gI_sL, gI_sA, gI_sM, gL_sI, gL_sL, gL_sA, gL_sM, aI_sI, aI_sL, aI_sA, aI_sM, aL_sI, aL_sL, aL_sA, aL_sM, oi_1]; try dsimp only
          intro p2
          intro p3
          refine ⟨fun h4 => ?_, fun h4 => ?_⟩
          · exact hW _ 58 [(0, .ref 1000), (1, .int x1), (2, .int x2), (3, .int x3), (4, .int 1)] _ _ _ (by simp [rdl, rky, Value.category]) ((ih m1 hm1).2.2.2.2.1 x1 x2 x3 1 _ hz)
          · exact hW _ 48 [(0, .ref 1000), (1, .int x1), (2, .int x2), (3, .int x3), (4, .int 1)] _ _ _ (by simp [rdl, rky, Value.category]) ((ih m1 hm1).2.2.2.1 x1 x2 x3 1 _ hz)
        · intro x1 x2 x3 x4 Y hz
          refine hB _ _ _ _ _ (fun m1 hm1 => ?_)
          dsimp only [ugo, uwp, ust, uct, rfd, Bstep, Bstep_48, Nat.beq, lv_args, rlk, rs1, rs2, rdl, rky, rcd, rno, rsw, Value.category, List.filter, List.take, List.drop, List.reverse, List.reverseAux, List.cons_append, List.nil_append, Option.toList, Int.toNat, Int.reduceToNat, if_pos, if_neg, reduceIte, ↓reduceIte, Nat.reduceAdd, Nat.reduceEqDiff, Nat.reduceBEq, beq_self_eq_true, Bool.not_true, Bool.not_false, Bool.and_true, Bool.and_false, Bool.true_and, Bool.false_and, gI_sI, gI_sL, gI_sA, gI_sM, gL_sI, gL_sL, gL_sA, gL_sM, aI_sI, aI_sL, aI_sA, aI_sM, aL_sI, aL_sL, aL_sA, aL_sM, oi_0, oi_7]; try dsimp only
          refine ⟨trivial, fun w2 τ2 hq2 => ?_⟩
          obtain ⟨rfl, hz2⟩ := hq2 (show ¬ (7 : Int32) = 0 by decide)
          dsimp only [Option.toList, List.cons_append, List.nil_append, Nat.beq, gI_sI, gI_sL, gI_sA, gI_sM, gL_sI, gL_sL, gL_sA, gL_sM, aI_sI, aI_sL, aI_sA, aI_sM, aL_sI, aL_sL, aL_sA, aL_sM]
          exact hW _ 58 [(0, .ref 1000), (1, .int x1), (2, .int x2), (3, .int x3), (4, .int 0)] _ _ _ (by simp [rdl, rky, Value.category]) ((ih m1 hm1).2.2.2.2.1 x1 x2 x3 0 _ hz2)
        · intro x1 x2 x3 x4 Y hz
          refine hB _ _ _ _ _ (fun m1 hm1 => ?_)
          dsimp only [ugo, uwp, ust, uct, rfd, Bstep, Bstep_58, Nat.beq, lv_args, rlk, rs1, rs2, rdl, rky, rcd, rno, rsw, Value.category, List.filter, List.take, List.drop, List.reverse, List.reverseAux, List.cons_append, List.nil_append, Option.toList, Int.toNat, Int.reduceToNat, if_pos, if_neg, reduceIte, ↓reduceIte, Nat.reduceAdd, Nat.reduceEqDiff, Nat.reduceBEq, beq_self_eq_true, Bool.not_true, Bool.not_false, Bool.and_true, Bool.and_false, Bool.true_and, Bool.false_and, gI_sI, gI_sL, gI_sA, gI_sM, gL_sI, gL_sL, gL_sA, gL_sM, aI_sI, aI_sL, aI_sA, aI_sM, aL_sI, aL_sL, aL_sA, aL_sM]; try dsimp only
          intro p2
          refine ⟨fun h3 => ?_, fun h3 => ?_⟩
          · exact hW _ 81 [(0, .ref 1000), (1, .int x1), (2, .int x2), (3, .int x3), (4, .int x4)] _ _ _ (by simp [rdl, rky, Value.category]) ((ih m1 hm1).2.2.2.2.2.2.1 x1 x2 x3 x4 _ hz)
          · exact hW _ 67 [(0, .ref 1000), (1, .int x1), (2, .int x2), (3, .int x3), (4, .int x4)] _ _ _ (by simp [rdl, rky, Value.category]) ((ih m1 hm1).2.2.2.2.2.1 x1 x2 x3 x4 _ hz)
        · intro x1 x2 x3 x4 Y hz
          refine hB _ _ _ _ _ (fun m1 hm1 => ?_)
          dsimp only [ugo, uwp, ust, uct, rfd, Bstep, Bstep_67, Nat.beq, lv_args, rlk, rs1, rs2, rdl, rky, rcd, rno, rsw, Value.category, List.filter, List.take, List.drop, List.reverse, List.reverseAux, List.cons_append, List.nil_append, Option.toList, Int.toNat, Int.reduceToNat, if_pos, if_neg, reduceIte, ↓reduceIte, Nat.reduceAdd, Nat.reduceEqDiff, Nat.reduceBEq, beq_self_eq_true, Bool.not_true, Bool.not_false, Bool.and_true, Bool.and_false, Bool.true_and, Bool.false_and, gI_sI, gI_sL, gI_sA, gI_sM, gL_sI, gL_sL, gL_sA, gL_sM, aI_sI, aI_sL, aI_sA, aI_sM, aL_sI, aL_sL, aL_sA, aL_sM, oi_0, oi_5]; try dsimp only
          intro p2
          refine ⟨trivial, fun w3 τ3 hq3 => ?_⟩
          obtain ⟨rfl, hz3⟩ := hq3 (show ¬ (5 : Int32) = 0 by decide)
          dsimp only [Option.toList, List.cons_append, List.nil_append, Nat.beq, gI_sI, gI_sL, gI_sA, gI_sM, gL_sI, gL_sL, gL_sA, gL_sM, aI_sI, aI_sL, aI_sA, aI_sM, aL_sI, aL_sL, aL_sA, aL_sM]
          exact hW _ 81 [(0, .ref 1000), (1, .int x1), (2, .int x2), (3, .int x3), (4, .int 0)] _ _ _ (by simp [rdl, rky, Value.category]) ((ih m1 hm1).2.2.2.2.2.2.1 x1 x2 x3 0 _ hz3)
        · intro x1 x2 x3 x4 Y hz
          refine hB _ _ _ _ _ (fun m1 hm1 => ?_)
          dsimp only [ugo, uwp, ust, uct, rfd, Bstep, Bstep_81, Nat.beq, lv_args, rlk, rs1, rs2, rdl, rky, rcd, rno, rsw, Value.category, List.filter, List.take, List.drop, List.reverse, List.reverseAux, List.cons_append, List.nil_append, Option.toList, Int.toNat, Int.reduceToNat, if_pos, if_neg, reduceIte, ↓reduceIte, Nat.reduceAdd, Nat.reduceEqDiff, Nat.reduceBEq, beq_self_eq_true, Bool.not_true, Bool.not_false, Bool.and_true, Bool.and_false, Bool.true_and, Bool.false_and, gI_sI, gI_sL, gI_sA, gI_sM, gL_sI, gL_sL, gL_sA, gL_sM, aI_sI, aI_sL, aI_sA, aI_sM, aL_sI, aL_sL, aL_sA, aL_sM]; try dsimp only
          refine ⟨fun h2 => ?_, fun h2 => ?_⟩
          · exact hW _ 102 [(0, .ref 1000), (1, .int x1), (2, .int x2), (3, .int x3), (4, .int x4)] _ _ _ (by simp [rdl, rky, Value.category]) ((ih m1 hm1).2.2.2.2.2.2.2.2.1 x1 x2 x3 x4 _ hz)
          · exact hW _ 86 [(0, .ref 1000), (1, .int x1), (2, .int x2), (3, .int x3), (4, .int x4)] _ _ _ (by simp [rdl, rky, Value.category]) ((ih m1 hm1).2.2.2.2.2.2.2.1 x1 x2 x3 x4 _ hz)
        · intro x1 x2 x3 x4 Y hz
          refine hB _ _ _ _ _ (fun m1 hm1 => ?_)
          dsimp only [ugo, uwp, ust, uct, rfd, Bstep, Bstep_86, Nat.beq, lv_args, rlk, rs1, rs2, rdl, rky, rcd, rno, rsw, Value.category, List.filter, List.take, List.drop, List.reverse, List.reverseAux, List.cons_append, List.nil_append, Option.toList, Int.toNat, Int.reduceToNat, if_pos, if_neg, reduceIte, ↓reduceIte, Nat.reduceAdd, Nat.reduceEqDiff, Nat.reduceBEq, beq_self_eq_true, Bool.not_true, Bool.not_false, Bool.and_true, Bool.and_false, Bool.true_and, Bool.false_and, gI_sI, gI_sL, gI_sA, gI_sM, gL_sI, gL_sL, gL_sA, gL_sM, aI_sI, aI_sL, aI_sA, aI_sM, aL_sI, aL_sL, aL_sA, aL_sM, oi_0]; try dsimp only
          intro p2
          refine ⟨trivial, fun w3 τ3 hq3 => ?_⟩
          obtain ⟨rfl, rfl⟩ := hq3 trivial
          dsimp only [Option.toList, List.cons_append, List.nil_append, Nat.beq, gI_sI, gI_sL, gI_sA, gI_sM, gL_sI, gL_sL, gL_sA, gL_sM, aI_sI, aI_sL, aI_sA, aI_sM, aL_sI, aL_sL, aL_sA, aL_sM]
          exact hW _ 107 [(0, .ref 1000), (1, .int x1), (2, .int x2), (3, .int x3), (4, .int x4)] _ _ _ (by simp [rdl, rky, Value.category]) ((ih m1 hm1).2.2.2.2.2.2.2.2.2 x1 x2 x3 x4 _ hz)
        · intro x1 x2 x3 x4 Y hz
          refine hB _ _ _ _ _ (fun m1 hm1 => ?_)
          dsimp only [ugo, uwp, ust, uct, rfd, Bstep, Bstep_102, Nat.beq, lv_args, rlk, rs1, rs2, rdl, rky, rcd, rno, rsw, Value.category, List.filter, List.take, List.drop, List.reverse, List.reverseAux, List.cons_append, List.nil_append, Option.toList, Int.toNat, Int.reduceToNat, if_pos, if_neg, reduceIte, ↓reduceIte, Nat.reduceAdd, Nat.reduceEqDiff, Nat.reduceBEq, beq_self_eq_true, Bool.not_true, Bool.not_false, Bool.and_true, Bool.and_false, Bool.true_and, Bool.false_and, gI_sI, gI_sL, gI_sA, gI_sM, gL_sI, gL_sL, gL_sA, gL_sM, aI_sI, aI_sL, aI_sA, aI_sM, aL_sI, aL_sL, aL_sA, aL_sM]; try dsimp only
          refine ⟨trivial, fun w2 τ2 hq2 => ?_⟩
          obtain ⟨rfl, rfl⟩ := hq2 trivial
          dsimp only [Option.toList, List.cons_append, List.nil_append, Nat.beq, gI_sI, gI_sL, gI_sA, gI_sM, gL_sI, gL_sL, gL_sA, gL_sM, aI_sI, aI_sL, aI_sA, aI_sM, aL_sI, aL_sL, aL_sA, aL_sM]
          exact hW _ 107 [(0, .ref 1000), (1, .int x1), (2, .int x2), (3, .int x3), (4, .int x4)] _ _ _ (by simp [rdl, rky, Value.category]) ((ih m1 hm1).2.2.2.2.2.2.2.2.2 x1 x2 x3 x4 _ hz)
        · intro x1 x2 x3 x4 Y hz
          refine hB _ _ _ _ _ (fun m1 hm1 => ?_)
          dsimp only [ugo, uwp, ust, uct, rfd, Bstep, Bstep_107, Nat.beq, lv_args, rlk, rs1, rs2, rdl, rky, rcd, rno, rsw, Value.category, List.filter, List.take, List.drop, List.reverse, List.reverseAux, List.cons_append, List.nil_append, Option.toList, Int.toNat, Int.reduceToNat, if_pos, if_neg, reduceIte, ↓reduceIte, Nat.reduceAdd, Nat.reduceEqDiff, Nat.reduceBEq, beq_self_eq_true, Bool.not_true, Bool.not_false, Bool.and_true, Bool.and_false, Bool.true_and, Bool.false_and, gI_sI, gI_sL, gI_sA, gI_sM, gL_sI, gL_sL, gL_sA, gL_sM, aI_sI, aI_sL, aI_sA, aI_sM, aL_sI, aL_sL, aL_sA, aL_sM]; try dsimp only
          unfold Qv_stepA
          try dsimp only
          exact ⟨rfl, hz⟩
    intro n0
    exact (all n0).1 c t σ hP
  next => exact hP.elim
theorem w_stepA : UMet 90 (fun _ _ => True) Qw_stepA := fun A1 σ _ w τ h hP => v_stepA A1 σ hP w τ h
def Pv_unaryA : UP1 := fun A1 σ => match A1 with
  | [.int c] => ¬ gI σ 66 = 0
  | _ => False
def Qv_unaryA : UQ1 := fun A1 σ w τ => match A1 with
  | [.int c] => w = none ∧ ¬ gI τ 66 = 0
  | _ => False
def Qw_unaryA : UQ1 := fun A1 σ w τ => Pv_unaryA A1 σ → Qv_unaryA A1 σ w τ
set_option maxRecDepth 100000 in
set_option maxHeartbeats 4000000 in
theorem v_unaryA : UMet 91 (Pv_unaryA) (Qv_unaryA) := by
  refine UMet.by Bunary [(76, (fun _ _ => True), Qw_cast), (77, (fun _ _ => True), Qw_lie), (80, (fun _ _ => True), Qw_need), (78, (fun _ _ => True), Qw_none), (81, (fun _ _ => True), Qw_wide)] rfl (ucc w_cast (ucc w_lie (ucc w_need (ucc w_none (ucc w_wide uc0))))) ?_
  intro A1 σ hP K hB hW
  unfold Pv_unaryA at hP
  split at hP
  next c =>
    have all : ∀ N : Nat, (∀ (x1 : Int32) (Y : RS), ¬ gI Y 66 = 0 → K N 0 [(0, .ref 1000), (1, .int x1)] [] Y) ∧ (∀ (x1 : Int32) (Y : RS), ¬ gI Y 66 = 0 → K N 21 [(0, .ref 1000), (1, .int x1)] [] Y) ∧ (∀ (x1 : Int32) (Y : RS), ¬ gI Y 66 = 0 → K N 25 [(0, .ref 1000), (1, .int x1)] [] Y) ∧ (∀ (x1 : Int32) (s0 : Int32) (Y : RS), ¬ gI Y 66 = 0 → K N 26 [(0, .ref 1000), (1, .int x1)] [.int s0] Y) ∧ (∀ (x1 : Int32) (x2 : Int32) (s0 : Int32) (Y : RS), ¬ gI Y 66 = 0 → K N 36 [(0, .ref 1000), (1, .int x1), (2, .int x2)] [.int s0, .ref 1000] Y) ∧ (∀ (x1 : Int32) (x2 : Int32) (s0 : Int32) (Y : RS), ¬ gI Y 66 = 0 → K N 40 [(0, .ref 1000), (1, .int x1), (2, .int x2)] [.int s0, .ref 1000] Y) ∧ (∀ (x1 : Int32) (x2 : Int32) (s0 : Int32) (s1 : Int32) (Y : RS), ¬ gI Y 66 = 0 → K N 41 [(0, .ref 1000), (1, .int x1), (2, .int x2)] [.int s0, .int s1, .ref 1000] Y) ∧ (∀ (x1 : Int32) (x2 : Int32) (Y : RS), ¬ gI Y 66 = 0 → K N 47 [(0, .ref 1000), (1, .int x1), (2, .int x2)] [] Y) ∧ (∀ (x1 : Int32) (x2 : Int32) (Y : RS), ¬ gI Y 66 = 0 → K N 53 [(0, .ref 1000), (1, .int x1), (2, .int x2)] [] Y) ∧ (∀ (x1 : Int32) (x2 : Int32) (Y : RS), ¬ gI Y 66 = 0 → K N 57 [(0, .ref 1000), (1, .int x1), (2, .int x2)] [] Y) ∧ (∀ (x1 : Int32) (x2 : Int32) (Y : RS), ¬ gI Y 66 = 0 → K N 61 [(0, .ref 1000), (1, .int x1), (2, .int x2)] [] Y) ∧ (∀ (x1 : Int32) (x2 : Int32) (s0 : Int32) (Y : RS), ¬ gI Y 66 = 0 → K N 74 [(0, .ref 1000), (1, .int x1), (2, .int x2)] [.int s0] Y) ∧ (∀ (x1 : Int32) (x2 : Int32) (x3 : Int32) (x4 : Int64) (Y : RS), ¬ gI Y 66 = 0 → K N 90 [(0, .ref 1000), (1, .int x1), (2, .int x2), (3, .int x3), (4, .long x4)] [] Y) ∧ (∀ (x1 : Int32) (x2 : Int32) (x3 : Int32) (x4 : Int64) (Y : RS), ¬ gI Y 66 = 0 → K N 97 [(0, .ref 1000), (1, .int x1), (2, .int x2), (3, .int x3), (4, .long x4)] [] Y) ∧ (∀ (x1 : Int32) (x2 : Int32) (x3 : Int32) (x4 : Int64) (Y : RS), ¬ gI Y 66 = 0 → K N 108 [(0, .ref 1000), (1, .int x1), (2, .int x2), (3, .int x3), (4, .long x4)] [] Y) ∧ (∀ (x1 : Int32) (x2 : Int32) (x3 : Int32) (x4 : Int64) (Y : RS), ¬ gI Y 66 = 0 → K N 114 [(0, .ref 1000), (1, .int x1), (2, .int x2), (3, .int x3), (4, .long x4)] [] Y) ∧ (∀ (x1 : Int32) (x2 : Int32) (x3 : Int32) (x4 : Int64) (Y : RS), ¬ gI Y 66 = 0 → K N 125 [(0, .ref 1000), (1, .int x1), (2, .int x2), (3, .int x3), (4, .long x4)] [] Y) ∧ (∀ (x1 : Int32) (x2 : Int32) (x3 : Int32) (x4 : Int64) (Y : RS), ¬ gI Y 66 = 0 → K N 134 [(0, .ref 1000), (1, .int x1), (2, .int x2), (3, .int x3), (4, .long x4)] [] Y) ∧ (∀ (x1 : Int32) (x2 : Int32) (x3 : Int32) (x4 : Int64) (s0 : Int64) (Y : RS), ¬ gI Y 66 = 0 → K N 136 [(0, .ref 1000), (1, .int x1), (2, .int x2), (3, .int x3), (4, .long x4)] [.long s0] Y) := by
      intro N
      induction N using Nat.strongRecOn with
      | ind N ih =>
        refine ⟨?_, ?_, ?_, ?_, ?_, ?_, ?_, ?_, ?_, ?_, ?_, ?_, ?_, ?_, ?_, ?_, ?_, ?_, ?_⟩
        · intro x1 Y hz
          refine hB _ _ _ _ _ (fun m1 hm1 => ?_)
          dsimp only [ugo, uwp, ust, uct, rfd, Bunary, Bunary_0, Nat.beq, lv_args, rlk, rs1, rs2, rdl, rky, rcd, rno, rsw, Value.category, List.filter, List.take, List.drop, List.reverse, List.reverseAux, List.cons_append, List.nil_append, Option.toList, Int.toNat, Int.reduceToNat, if_pos, if_neg, reduceIte, ↓reduceIte, Nat.reduceAdd, Nat.reduceEqDiff, Nat.reduceBEq, beq_self_eq_true, Bool.not_true, Bool.not_false, Bool.and_true, Bool.and_false, Bool.true_and, Bool.false_and, gI_sI, gI_sL, gI_sA, gI_sM, gL_sI, gL_sL, gL_sA, gL_sM, aI_sI, aI_sL, aI_sA, aI_sM, aL_sI, aL_sL, aL_sA, aL_sM, oi_1, oi_33]; try dsimp only
          intro p2
          refine ⟨fun h3 => ?_, fun h3 => ?_⟩
          · exact hW _ 25 [(0, .ref 1000), (1, .int x1)] _ _ _ (by simp [rdl, rky, Value.category]) ((ih m1 hm1).2.2.1 x1 _ hz)
          · exact hW _ 21 [(0, .ref 1000), (1, .int x1)] _ _ _ (by simp [rdl, rky, Value.category]) ((ih m1 hm1).2.1 x1 _ hz)
        · intro x1 Y hz
          refine hB _ _ _ _ _ (fun m1 hm1 => ?_)
          dsimp only [ugo, uwp, ust, uct, rfd, Bunary, Bunary_21, Nat.beq, lv_args, rlk, rs1, rs2, rdl, rky, rcd, rno, rsw, Value.category, List.filter, List.take, List.drop, List.reverse, List.reverseAux, List.cons_append, List.nil_append, Option.toList, Int.toNat, Int.reduceToNat, if_pos, if_neg, reduceIte, ↓reduceIte, Nat.reduceAdd, Nat.reduceEqDiff, Nat.reduceBEq, beq_self_eq_true, Bool.not_true, Bool.not_false, Bool.and_true, Bool.and_false, Bool.true_and, Bool.false_and, gI_sI, gI_sL, gI_sA, gI_sM, gL_sI, gL_sL, gL_sA, gL_sM, aI_sI, aI_sL, aI_sA, aI_sM, aL_sI, aL_sL, aL_sA, aL_sM, oi_1]; try dsimp only
          exact hW _ 26 [(0, .ref 1000), (1, .int x1)] _ _ _ (by simp [rdl, rky, Value.category]) ((ih m1 hm1).2.2.2.1 x1 1 _ hz)
        · intro x1 Y hz
          refine hB _ _ _ _ _ (fun m1 hm1 => ?_)
          dsimp only [ugo, uwp, ust, uct, rfd, Bunary, Bunary_25, Nat.beq, lv_args, rlk, rs1, rs2, rdl, rky, rcd, rno, rsw, Value.category, List.filter, List.take, List.drop, List.reverse, List.reverseAux, List.cons_append, List.nil_append, Option.toList, Int.toNat, Int.reduceToNat, if_pos, if_neg, reduceIte, ↓reduceIte, Nat.reduceAdd, Nat.reduceEqDiff, Nat.reduceBEq, beq_self_eq_true, Bool.not_true, Bool.not_false, Bool.and_true, Bool.and_false, Bool.true_and, Bool.false_and, gI_sI, gI_sL, gI_sA, gI_sM, gL_sI, gL_sL, gL_sA, gL_sM, aI_sI, aI_sL, aI_sA, aI_sM, aL_sI, aL_sL, aL_sA, aL_sM, oi_0]; try dsimp only
          exact hW _ 26 [(0, .ref 1000), (1, .int x1)] _ _ _ (by simp [rdl, rky, Value.category]) ((ih m1 hm1).2.2.2.1 x1 0 _ hz)
        · intro x1 s0 Y hz
          refine hB _ _ _ _ _ (fun m1 hm1 => ?_)
          dsimp only [ugo, uwp, ust, uct, rfd, Bunary, Bunary_26, Nat.beq, lv_args, rlk, rs1, rs2, rdl, rky, rcd, rno, rsw, Value.category, List.filter, List.take, List.drop, List.reverse, List.reverseAux, List.cons_append, List.nil_append, Option.toList, Int.toNat, Int.reduceToNat, if_pos, if_neg, reduceIte, ↓reduceIte, Nat.reduceAdd, Nat.reduceEqDiff, Nat.reduceBEq, beq_self_eq_true, Bool.not_true, Bool.not_false, Bool.and_true, Bool.and_false, Bool.true_and, Bool.false_and, gI_sI, gI_sL, gI_sA, gI_sM, gL_sI, gL_sL, gL_sA, gL_sM, aI_sI, aI_sL, aI_sA, aI_sM, aL_sI, aL_sL, aL_sA, aL_sM]; try dsimp only
          refine ⟨fun h2 => ?_, fun h2 => ?_⟩
          · exact hW _ 40 [(0, .ref 1000), (1, .int x1), (2, .int s0)] _ _ _ (by simp [rdl, rky, Value.category]) ((ih m1 hm1).2.2.2.2.2.1 x1 s0 (gI Y 69) _ hz)
          · exact hW _ 36 [(0, .ref 1000), (1, .int x1), (2, .int s0)] _ _ _ (by simp [rdl, rky, Value.category]) ((ih m1 hm1).2.2.2.2.1 x1 s0 (gI Y 69) _ hz)
        · intro x1 x2 s0 Y hz
          refine hB _ _ _ _ _ (fun m1 hm1 => ?_)
          dsimp only [ugo, uwp, ust, uct, rfd, Bunary, Bunary_36, Nat.beq, lv_args, rlk, rs1, rs2, rdl, rky, rcd, rno, rsw, Value.category, List.filter, List.take, List.drop, List.reverse, List.reverseAux, List.cons_append, List.nil_append, Option.toList, Int.toNat, Int.reduceToNat, if_pos, if_neg, reduceIte, ↓reduceIte, Nat.reduceAdd, Nat.reduceEqDiff, Nat.reduceBEq, beq_self_eq_true, Bool.not_true, Bool.not_false, Bool.and_true, Bool.and_false, Bool.true_and, Bool.false_and, gI_sI, gI_sL, gI_sA, gI_sM, gL_sI, gL_sL, gL_sA, gL_sM, aI_sI, aI_sL, aI_sA, aI_sM, aL_sI, aL_sL, aL_sA, aL_sM, oi_0]; try dsimp only
          exact hW _ 41 [(0, .ref 1000), (1, .int x1), (2, .int x2)] _ _ _ (by simp [rdl, rky, Value.category]) ((ih m1 hm1).2.2.2.2.2.2.1 x1 x2 0 s0 _ hz)
        · intro x1 x2 s0 Y hz
          refine hB _ _ _ _ _ (fun m1 hm1 => ?_)
          dsimp only [ugo, uwp, ust, uct, rfd, Bunary, Bunary_40, Nat.beq, lv_args, rlk, rs1, rs2, rdl, rky, rcd, rno, rsw, Value.category, List.filter, List.take, List.drop, List.reverse, List.reverseAux, List.cons_append, List.nil_append, Option.toList, Int.toNat, Int.reduceToNat, if_pos, if_neg, reduceIte, ↓reduceIte, Nat.reduceAdd, Nat.reduceEqDiff, Nat.reduceBEq, beq_self_eq_true, Bool.not_true, Bool.not_false, Bool.and_true, Bool.and_false, Bool.true_and, Bool.false_and, gI_sI, gI_sL, gI_sA, gI_sM, gL_sI, gL_sL, gL_sA, gL_sM, aI_sI, aI_sL, aI_sA, aI_sM, aL_sI, aL_sL, aL_sA, aL_sM, oi_1]; try dsimp only
          exact hW _ 41 [(0, .ref 1000), (1, .int x1), (2, .int x2)] _ _ _ (by simp [rdl, rky, Value.category]) ((ih m1 hm1).2.2.2.2.2.2.1 x1 x2 1 s0 _ hz)
        · intro x1 x2 s0 s1 Y hz
          refine hB _ _ _ _ _ (fun m1 hm1 => ?_)
          dsimp only [ugo, uwp, ust, uct, rfd, Bunary, Bunary_41, Nat.beq, lv_args, rlk, rs1, rs2, rdl, rky, rcd, rno, rsw, Value.category, List.filter, List.take, List.drop, List.reverse, List.reverseAux, List.cons_append, List.nil_append, Option.toList, Int.toNat, Int.reduceToNat, if_pos, if_neg, reduceIte, ↓reduceIte, Nat.reduceAdd, Nat.reduceEqDiff, Nat.reduceBEq, beq_self_eq_true, Bool.not_true, Bool.not_false, Bool.and_true, Bool.and_false, Bool.true_and, Bool.false_and, gI_sI, gI_sL, gI_sA, gI_sM, gL_sI, gL_sL, gL_sA, gL_sM, aI_sI, aI_sL, aI_sA, aI_sM, aL_sI, aL_sL, aL_sA, aL_sM]; try dsimp only
          refine ⟨trivial, fun w2 τ2 hq2 => ?_⟩
          obtain ⟨hA2, b2, rfl, hb2⟩ := hq2 trivial
          have hz2 := hA2 hz
          dsimp only [Option.toList, List.cons_append, List.nil_append, Nat.beq, gI_sI, gI_sL, gI_sA, gI_sM, gL_sI, gL_sL, gL_sA, gL_sM, aI_sI, aI_sL, aI_sA, aI_sM, aL_sI, aL_sL, aL_sA, aL_sM]
          refine ⟨fun h3 => ?_, fun h3 => ?_⟩
          · exact hW _ 53 [(0, .ref 1000), (1, .int x1), (2, .int x2)] _ _ _ (by simp [rdl, rky, Value.category]) ((ih m1 hm1).2.2.2.2.2.2.2.2.1 x1 x2 _ hz2)
          · exact hW _ 47 [(0, .ref 1000), (1, .int x1), (2, .int x2)] _ _ _ (by simp [rdl, rky, Value.category]) ((ih m1 hm1).2.2.2.2.2.2.2.1 x1 x2 _ hz2)
        · intro x1 x2 Y hz
          refine hB _ _ _ _ _ (fun m1 hm1 => ?_)
          dsimp only [ugo, uwp, ust, uct, rfd, Bunary, Bunary_47, Nat.beq, lv_args, rlk, rs1, rs2, rdl, rky, rcd, rno, rsw, Value.category, List.filter, List.take, List.drop, List.reverse, List.reverseAux, List.cons_append, List.nil_append, Option.toList, Int.toNat, Int.reduceToNat, if_pos, if_neg, reduceIte, ↓reduceIte, Nat.reduceAdd, Nat.reduceEqDiff, Nat.reduceBEq, beq_self_eq_true, Bool.not_true, Bool.not_false, Bool.and_true, Bool.and_false, Bool.true_and, Bool.false_and, gI_sI, gI_sL, gI_sA, gI_sM, gL_sI, gL_sL, gL_sA, gL_sM, aI_sI, aI_sL, aI_sA, aI_sM, aL_sI, aL_sL, aL_sA, aL_sM]; try dsimp only
          refine ⟨trivial, fun w2 τ2 hq2 => ?_⟩
          obtain ⟨rfl, rfl⟩ := hq2 trivial
          dsimp only [Option.toList, List.cons_append, List.nil_append, Nat.beq, gI_sI, gI_sL, gI_sA, gI_sM, gL_sI, gL_sL, gL_sA, gL_sM, aI_sI, aI_sL, aI_sA, aI_sM, aL_sI, aL_sL, aL_sA, aL_sM]
          unfold Qv_unaryA
          try dsimp only
          exact ⟨rfl, hz⟩
        · intro x1 x2 Y hz
          refine hB _ _ _ _ _ (fun m1 hm1 => ?_)
          dsimp only [ugo, uwp, ust, uct, rfd, Bunary, Bunary_53, Nat.beq, lv_args, rlk, rs1, rs2, rdl, rky, rcd, rno, rsw, Value.category, List.filter, List.take, List.drop, List.reverse, List.reverseAux, List.cons_append, List.nil_append, Option.toList, Int.toNat, Int.reduceToNat, if_pos, if_neg, reduceIte, ↓reduceIte, Nat.reduceAdd, Nat.reduceEqDiff, Nat.reduceBEq, beq_self_eq_true, Bool.not_true, Bool.not_false, Bool.and_true, Bool.and_false, Bool.true_and, Bool.false_and, gI_sI, gI_sL, gI_sA, gI_sM, gL_sI, gL_sL, gL_sA, gL_sM, aI_sI, aI_sL, aI_sA, aI_sM, aL_sI, aL_sL, aL_sA, aL_sM]; try dsimp only
          refine ⟨fun h2 => ?_, fun h2 => ?_⟩
          · exact hW _ 61 [(0, .ref 1000), (1, .int x1), (2, .int x2)] _ _ _ (by simp [rdl, rky, Value.category]) ((ih m1 hm1).2.2.2.2.2.2.2.2.2.2.1 x1 x2 _ hz)
          · exact hW _ 57 [(0, .ref 1000), (1, .int x1), (2, .int x2)] _ _ _ (by simp [rdl, rky, Value.category]) ((ih m1 hm1).2.2.2.2.2.2.2.2.2.1 x1 x2 _ hz)
        · intro x1 x2 Y hz
          refine hB _ _ _ _ _ (fun m1 hm1 => ?_)
          dsimp only [ugo, uwp, ust, uct, rfd, Bunary, Bunary_57, Nat.beq, lv_args, rlk, rs1, rs2, rdl, rky, rcd, rno, rsw, Value.category, List.filter, List.take, List.drop, List.reverse, List.reverseAux, List.cons_append, List.nil_append, Option.toList, Int.toNat, Int.reduceToNat, if_pos, if_neg, reduceIte, ↓reduceIte, Nat.reduceAdd, Nat.reduceEqDiff, Nat.reduceBEq, beq_self_eq_true, Bool.not_true, Bool.not_false, Bool.and_true, Bool.and_false, Bool.true_and, Bool.false_and, gI_sI, gI_sL, gI_sA, gI_sM, gL_sI, gL_sL, gL_sA, gL_sM, aI_sI, aI_sL, aI_sA, aI_sM, aL_sI, aL_sL, aL_sA, aL_sM, oi_0]; try dsimp only
          exact hW _ 74 [(0, .ref 1000), (1, .int x1), (2, .int x2)] _ _ _ (by simp [rdl, rky, Value.category]) ((ih m1 hm1).2.2.2.2.2.2.2.2.2.2.2.1 x1 x2 0 _ hz)
        · intro x1 x2 Y hz
          refine hB _ _ _ _ _ (fun m1 hm1 => ?_)
          dsimp only [ugo, uwp, ust, uct, rfd, Bunary, Bunary_61, Nat.beq, lv_args, rlk, rs1, rs2, rdl, rky, rcd, rno, rsw, Value.category, List.filter, List.take, List.drop, List.reverse, List.reverseAux, List.cons_append, List.nil_append, Option.toList, Int.toNat, Int.reduceToNat, if_pos, if_neg, reduceIte, ↓reduceIte, Nat.reduceAdd, Nat.reduceEqDiff, Nat.reduceBEq, beq_self_eq_true, Bool.not_true, Bool.not_false, Bool.and_true, Bool.and_false, Bool.true_and, Bool.false_and, gI_sI, gI_sL, gI_sA, gI_sM, gL_sI, gL_sL, gL_sA, gL_sM, aI_sI, aI_sL, aI_sA, aI_sM, aL_sI, aL_sL, aL_sA, aL_sM]; try dsimp only
          intro p2
          refine ⟨trivial, fun w3 τ3 hq3 => ?_⟩
          obtain ⟨rfl, r3, rfl, hr3⟩ := hq3 trivial
          try rw [show (((aI Y 70) ((gI Y 69)).toNatClampNeg)).toInt = (((aI Y 70) ((gI Y 69)).toNatClampNeg)).toInt from (rfl : (((aI Y 70) ((gI Y 69)).toNatClampNeg)).toInt = (((aI Y 70) ((gI Y 69)).toNatClampNeg)).toInt)] at hr3
          have hr3 : r3.toInt = pmT ((((aI Y 70) ((gI Y 69)).toNatClampNeg)).toInt) := hr3
          dsimp only [Option.toList, List.cons_append, List.nil_append, Nat.beq, gI_sI, gI_sL, gI_sA, gI_sM, gL_sI, gL_sL, gL_sA, gL_sM, aI_sI, aI_sL, aI_sA, aI_sM, aL_sI, aL_sL, aL_sA, aL_sM]
          exact hW _ 74 [(0, .ref 1000), (1, .int x1), (2, .int x2)] _ _ _ (by simp [rdl, rky, Value.category]) ((ih m1 hm1).2.2.2.2.2.2.2.2.2.2.2.1 x1 x2 r3 _ hz)
        · intro x1 x2 s0 Y hz
          refine hB _ _ _ _ _ (fun m1 hm1 => ?_)
          dsimp only [ugo, uwp, ust, uct, rfd, Bunary, Bunary_74, Nat.beq, lv_args, rlk, rs1, rs2, rdl, rky, rcd, rno, rsw, Value.category, List.filter, List.take, List.drop, List.reverse, List.reverseAux, List.cons_append, List.nil_append, Option.toList, Int.toNat, Int.reduceToNat, if_pos, if_neg, reduceIte, ↓reduceIte, Nat.reduceAdd, Nat.reduceEqDiff, Nat.reduceBEq, beq_self_eq_true, Bool.not_true, Bool.not_false, Bool.and_true, Bool.and_false, Bool.true_and, Bool.false_and, gI_sI, gI_sL, gI_sA, gI_sM, gL_sI, gL_sL, gL_sA, gL_sM, aI_sI, aI_sL, aI_sA, aI_sM, aL_sI, aL_sL, aL_sA, aL_sM]; try dsimp only
          intro p2
          refine ⟨fun h3 => ?_, fun h3 => ?_⟩
          · exact hW _ 97 [(0, .ref 1000), (1, .int x1), (2, .int x2), (3, .int s0), (4, .long ((aL Y 72) ((gI Y 69)).toNatClampNeg))] _ _ _ (by simp [rdl, rky, Value.category]) ((ih m1 hm1).2.2.2.2.2.2.2.2.2.2.2.2.2.1 x1 x2 s0 ((aL Y 72) ((gI Y 69)).toNatClampNeg) _ hz)
          · exact hW _ 90 [(0, .ref 1000), (1, .int x1), (2, .int x2), (3, .int s0), (4, .long ((aL Y 72) ((gI Y 69)).toNatClampNeg))] _ _ _ (by simp [rdl, rky, Value.category]) ((ih m1 hm1).2.2.2.2.2.2.2.2.2.2.2.2.1 x1 x2 s0 ((aL Y 72) ((gI Y 69)).toNatClampNeg) _ hz)
        · intro x1 x2 x3 x4 Y hz
          refine hB _ _ _ _ _ (fun m1 hm1 => ?_)
          dsimp only [ugo, uwp, ust, uct, rfd, Bunary, Bunary_90, Nat.beq, lv_args, rlk, rs1, rs2, rdl, rky, rcd, rno, rsw, Value.category, List.filter, List.take, List.drop, List.reverse, List.reverseAux, List.cons_append, List.nil_append, Option.toList, Int.toNat, Int.reduceToNat, if_pos, if_neg, reduceIte, ↓reduceIte, Nat.reduceAdd, Nat.reduceEqDiff, Nat.reduceBEq, beq_self_eq_true, Bool.not_true, Bool.not_false, Bool.and_true, Bool.and_false, Bool.true_and, Bool.false_and, gI_sI, gI_sL, gI_sA, gI_sM, gL_sI, gL_sL, gL_sA, gL_sM, aI_sI, aI_sL, aI_sA, aI_sM, aL_sI, aL_sL, aL_sA, aL_sM]; try dsimp only
          exact hW _ 136 [(0, .ref 1000), (1, .int x1), (2, .int x2), (3, .int x3), (4, .long x4)] _ _ _ (by simp [rdl, rky, Value.category]) ((ih m1 hm1).2.2.2.2.2.2.2.2.2.2.2.2.2.2.2.2.2.2 x1 x2 x3 x4 ((1 : Int64) - x4) _ hz)
        · intro x1 x2 x3 x4 Y hz
          refine hB _ _ _ _ _ (fun m1 hm1 => ?_)
          dsimp only [ugo, uwp, ust, uct, rfd, Bunary, Bunary_97, Nat.beq, lv_args, rlk, rs1, rs2, rdl, rky, rcd, rno, rsw, Value.category, List.filter, List.take, List.drop, List.reverse, List.reverseAux, List.cons_append, List.nil_append, Option.toList, Int.toNat, Int.reduceToNat, if_pos, if_neg, reduceIte, ↓reduceIte, Nat.reduceAdd, Nat.reduceEqDiff, Nat.reduceBEq, beq_self_eq_true, Bool.not_true, Bool.not_false, Bool.and_true, Bool.and_false, Bool.true_and, Bool.false_and, gI_sI, gI_sL, gI_sA, gI_sM, gL_sI, gL_sL, gL_sA, gL_sM, aI_sI, aI_sL, aI_sA, aI_sM, aL_sI, aL_sL, aL_sA, aL_sM, oi_45]; try dsimp only
          intro p2
          refine ⟨fun h3 => ?_, fun h3 => ?_⟩
          · exact hW _ 114 [(0, .ref 1000), (1, .int x1), (2, .int x2), (3, .int x3), (4, .long x4)] _ _ _ (by simp [rdl, rky, Value.category]) ((ih m1 hm1).2.2.2.2.2.2.2.2.2.2.2.2.2.2.2.1 x1 x2 x3 x4 _ hz)
          · exact hW _ 108 [(0, .ref 1000), (1, .int x1), (2, .int x2), (3, .int x3), (4, .long x4)] _ _ _ (by simp [rdl, rky, Value.category]) ((ih m1 hm1).2.2.2.2.2.2.2.2.2.2.2.2.2.2.1 x1 x2 x3 x4 _ hz)
        · intro x1 x2 x3 x4 Y hz
          refine hB _ _ _ _ _ (fun m1 hm1 => ?_)
          dsimp only [ugo, uwp, ust, uct, rfd, Bunary, Bunary_108, Nat.beq, lv_args, rlk, rs1, rs2, rdl, rky, rcd, rno, rsw, Value.category, List.filter, List.take, List.drop, List.reverse, List.reverseAux, List.cons_append, List.nil_append, Option.toList, Int.toNat, Int.reduceToNat, if_pos, if_neg, reduceIte, ↓reduceIte, Nat.reduceAdd, Nat.reduceEqDiff, Nat.reduceBEq, beq_self_eq_true, Bool.not_true, Bool.not_false, Bool.and_true, Bool.and_false, Bool.true_and, Bool.false_and, gI_sI, gI_sL, gI_sA, gI_sM, gL_sI, gL_sL, gL_sA, gL_sM, aI_sI, aI_sL, aI_sA, aI_sM, aL_sI, aL_sL, aL_sA, aL_sM]; try dsimp only
          exact hW _ 136 [(0, .ref 1000), (1, .int x1), (2, .int x2), (3, .int x3), (4, .long x4)] _ _ _ (by simp [rdl, rky, Value.category]) ((ih m1 hm1).2.2.2.2.2.2.2.2.2.2.2.2.2.2.2.2.2.2 x1 x2 x3 x4 (-x4) _ hz)
        · intro x1 x2 x3 x4 Y hz
          refine hB _ _ _ _ _ (fun m1 hm1 => ?_)
          dsimp only [ugo, uwp, ust, uct, rfd, Bunary, Bunary_114, Nat.beq, lv_args, rlk, rs1, rs2, rdl, rky, rcd, rno, rsw, Value.category, List.filter, List.take, List.drop, List.reverse, List.reverseAux, List.cons_append, List.nil_append, Option.toList, Int.toNat, Int.reduceToNat, if_pos, if_neg, reduceIte, ↓reduceIte, Nat.reduceAdd, Nat.reduceEqDiff, Nat.reduceBEq, beq_self_eq_true, Bool.not_true, Bool.not_false, Bool.and_true, Bool.and_false, Bool.true_and, Bool.false_and, gI_sI, gI_sL, gI_sA, gI_sM, gL_sI, gL_sL, gL_sA, gL_sM, aI_sI, aI_sL, aI_sA, aI_sM, aL_sI, aL_sL, aL_sA, aL_sM, oi_126]; try dsimp only
          intro p2
          refine ⟨fun h3 => ?_, fun h3 => ?_⟩
          · exact hW _ 134 [(0, .ref 1000), (1, .int x1), (2, .int x2), (3, .int x3), (4, .long x4)] _ _ _ (by simp [rdl, rky, Value.category]) ((ih m1 hm1).2.2.2.2.2.2.2.2.2.2.2.2.2.2.2.2.2.1 x1 x2 x3 x4 _ hz)
          · exact hW _ 125 [(0, .ref 1000), (1, .int x1), (2, .int x2), (3, .int x3), (4, .long x4)] _ _ _ (by simp [rdl, rky, Value.category]) ((ih m1 hm1).2.2.2.2.2.2.2.2.2.2.2.2.2.2.2.2.1 x1 x2 x3 x4 _ hz)
        · intro x1 x2 x3 x4 Y hz
          refine hB _ _ _ _ _ (fun m1 hm1 => ?_)
          dsimp only [ugo, uwp, ust, uct, rfd, Bunary, Bunary_125, Nat.beq, lv_args, rlk, rs1, rs2, rdl, rky, rcd, rno, rsw, Value.category, List.filter, List.take, List.drop, List.reverse, List.reverseAux, List.cons_append, List.nil_append, Option.toList, Int.toNat, Int.reduceToNat, if_pos, if_neg, reduceIte, ↓reduceIte, Nat.reduceAdd, Nat.reduceEqDiff, Nat.reduceBEq, beq_self_eq_true, Bool.not_true, Bool.not_false, Bool.and_true, Bool.and_false, Bool.true_and, Bool.false_and, gI_sI, gI_sL, gI_sA, gI_sM, gL_sI, gL_sL, gL_sA, gL_sM, aI_sI, aI_sL, aI_sA, aI_sM, aL_sI, aL_sL, aL_sA, aL_sM]; try dsimp only
          exact hW _ 136 [(0, .ref 1000), (1, .int x1), (2, .int x2), (3, .int x3), (4, .long x4)] _ _ _ (by simp [rdl, rky, Value.category]) ((ih m1 hm1).2.2.2.2.2.2.2.2.2.2.2.2.2.2.2.2.2.2 x1 x2 x3 x4 (x4 ^^^ (Int64.ofInt (-1))) _ hz)
        · intro x1 x2 x3 x4 Y hz
          refine hB _ _ _ _ _ (fun m1 hm1 => ?_)
          dsimp only [ugo, uwp, ust, uct, rfd, Bunary, Bunary_134, Nat.beq, lv_args, rlk, rs1, rs2, rdl, rky, rcd, rno, rsw, Value.category, List.filter, List.take, List.drop, List.reverse, List.reverseAux, List.cons_append, List.nil_append, Option.toList, Int.toNat, Int.reduceToNat, if_pos, if_neg, reduceIte, ↓reduceIte, Nat.reduceAdd, Nat.reduceEqDiff, Nat.reduceBEq, beq_self_eq_true, Bool.not_true, Bool.not_false, Bool.and_true, Bool.and_false, Bool.true_and, Bool.false_and, gI_sI, gI_sL, gI_sA, gI_sM, gL_sI, gL_sL, gL_sA, gL_sM, aI_sI, aI_sL, aI_sA, aI_sM, aL_sI, aL_sL, aL_sA, aL_sM]; try dsimp only
          exact hW _ 136 [(0, .ref 1000), (1, .int x1), (2, .int x2), (3, .int x3), (4, .long x4)] _ _ _ (by simp [rdl, rky, Value.category]) ((ih m1 hm1).2.2.2.2.2.2.2.2.2.2.2.2.2.2.2.2.2.2 x1 x2 x3 x4 x4 _ hz)
        · intro x1 x2 x3 x4 s0 Y hz
          refine hB _ _ _ _ _ (fun m1 hm1 => ?_)
          dsimp only [ugo, uwp, ust, uct, rfd, Bunary, Bunary_136, Nat.beq, lv_args, rlk, rs1, rs2, rdl, rky, rcd, rno, rsw, Value.category, List.filter, List.take, List.drop, List.reverse, List.reverseAux, List.cons_append, List.nil_append, Option.toList, Int.toNat, Int.reduceToNat, if_pos, if_neg, reduceIte, ↓reduceIte, Nat.reduceAdd, Nat.reduceEqDiff, Nat.reduceBEq, beq_self_eq_true, Bool.not_true, Bool.not_false, Bool.and_true, Bool.and_false, Bool.true_and, Bool.false_and, gI_sI, gI_sL, gI_sA, gI_sM, gL_sI, gL_sL, gL_sA, gL_sM, aI_sI, aI_sL, aI_sA, aI_sM, aL_sI, aL_sL, aL_sA, aL_sM]; try dsimp only
          intro p2
          intro p3
          refine ⟨trivial, fun w4 τ4 hq4 => ?_⟩
          obtain ⟨rfl, rfl⟩ := hq4 trivial
          try rw [show (x3).toInt = (x3).toInt from (rfl : (x3).toInt = (x3).toInt)]
          dsimp only [Option.toList, List.cons_append, List.nil_append, Nat.beq, gI_sI, gI_sL, gI_sA, gI_sM, gL_sI, gL_sL, gL_sA, gL_sM, aI_sI, aI_sL, aI_sA, aI_sM, aL_sI, aL_sL, aL_sA, aL_sM]
          refine ⟨trivial, fun w5 τ5 hq5 => ?_⟩
          obtain ⟨rfl, rfl⟩ := hq5 trivial
          dsimp only [Option.toList, List.cons_append, List.nil_append, Nat.beq, gI_sI, gI_sL, gI_sA, gI_sM, gL_sI, gL_sL, gL_sA, gL_sM, aI_sI, aI_sL, aI_sA, aI_sM, aL_sI, aL_sL, aL_sA, aL_sM]
          unfold Qv_unaryA
          try dsimp only
          exact ⟨rfl, hz⟩
    intro n0
    exact (all n0).1 c σ hP
  next => exact hP.elim
theorem w_unaryA : UMet 91 (fun _ _ => True) Qw_unaryA := fun A1 σ _ w τ h hP => v_unaryA A1 σ hP w τ h
def Pv_castsA : UP1 := fun A1 σ => match A1 with
  | [.int c] => ¬ gI σ 66 = 0
  | _ => False
def Qv_castsA : UQ1 := fun A1 σ w τ => match A1 with
  | [.int c] => w = none ∧ ¬ gI τ 66 = 0
  | _ => False
def Qw_castsA : UQ1 := fun A1 σ w τ => Pv_castsA A1 σ → Qv_castsA A1 σ w τ
set_option maxRecDepth 100000 in
set_option maxHeartbeats 4000000 in
theorem v_castsA : UMet 92 (Pv_castsA) (Qv_castsA) := by
  refine UMet.by Bcasts [(76, (fun _ _ => True), Qw_cast), (79, (fun _ _ => True), Qw_isBad), (77, (fun _ _ => True), Qw_lie), (80, (fun _ _ => True), Qw_need), (78, (fun _ _ => True), Qw_none)] rfl (ucc w_cast (ucc w_isBad (ucc w_lie (ucc w_need (ucc w_none uc0))))) ?_
  intro A1 σ hP K hB hW
  unfold Pv_castsA at hP
  split at hP
  next c =>
    have all : ∀ N : Nat, (∀ (x1 : Int32) (Y : RS), ¬ gI Y 66 = 0 → K N 0 [(0, .ref 1000), (1, .int x1)] [] Y) ∧ (∀ (x1 : Int32) (Y : RS), ¬ gI Y 66 = 0 → K N 21 [(0, .ref 1000), (1, .int x1)] [] Y) ∧ (∀ (x1 : Int32) (s0 : Int32) (Y : RS), ¬ gI Y 66 = 0 → K N 35 [(0, .ref 1000), (1, .int x1)] [.int s0, .ref 1000] Y) ∧ (∀ (x1 : Int32) (s0 : Int32) (Y : RS), ¬ gI Y 66 = 0 → K N 39 [(0, .ref 1000), (1, .int x1)] [.int s0, .ref 1000] Y) ∧ (∀ (x1 : Int32) (s0 : Int32) (s1 : Int32) (Y : RS), ¬ gI Y 66 = 0 → K N 40 [(0, .ref 1000), (1, .int x1)] [.int s0, .int s1, .ref 1000] Y) ∧ (∀ (x1 : Int32) (Y : RS), ¬ gI Y 66 = 0 → K N 46 [(0, .ref 1000), (1, .int x1)] [] Y) ∧ (∀ (x1 : Int32) (Y : RS), ¬ gI Y 66 = 0 → K N 52 [(0, .ref 1000), (1, .int x1)] [] Y) := by
      intro N
      induction N using Nat.strongRecOn with
      | ind N ih =>
        refine ⟨?_, ?_, ?_, ?_, ?_, ?_, ?_⟩
        · intro x1 Y hz
          refine hB _ _ _ _ _ (fun m1 hm1 => ?_)
          dsimp only [ugo, uwp, ust, uct, rfd, Bcasts, Bcasts_0, Nat.beq, lv_args, rlk, rs1, rs2, rdl, rky, rcd, rno, rsw, Value.category, List.filter, List.take, List.drop, List.reverse, List.reverseAux, List.cons_append, List.nil_append, Option.toList, Int.toNat, Int.reduceToNat, if_pos, if_neg, reduceIte, ↓reduceIte, Nat.reduceAdd, Nat.reduceEqDiff, Nat.reduceBEq, beq_self_eq_true, Bool.not_true, Bool.not_false, Bool.and_true, Bool.and_false, Bool.true_and, Bool.false_and, gI_sI, gI_sL, gI_sA, gI_sM, gL_sI, gL_sL, gL_sA, gL_sM, aI_sI, aI_sL, aI_sA, aI_sM, aL_sI, aL_sL, aL_sA, aL_sM, oi_1]; try dsimp only
          refine ⟨trivial, fun w2 τ2 hq2 => ?_⟩
          obtain ⟨rfl, b2, rfl, hb2⟩ := hq2 trivial
          dsimp only [Option.toList, List.cons_append, List.nil_append, Nat.beq, gI_sI, gI_sL, gI_sA, gI_sM, gL_sI, gL_sL, gL_sA, gL_sM, aI_sI, aI_sL, aI_sA, aI_sM, aL_sI, aL_sL, aL_sA, aL_sM]
          refine ⟨fun h3 => ?_, fun h3 => ?_⟩
          · exact hW _ 46 [(0, .ref 1000), (1, .int x1)] _ _ _ (by simp [rdl, rky, Value.category]) ((ih m1 hm1).2.2.2.2.2.1 x1 _ hz)
          · exact hW _ 21 [(0, .ref 1000), (1, .int x1)] _ _ _ (by simp [rdl, rky, Value.category]) ((ih m1 hm1).2.1 x1 _ hz)
        · intro x1 Y hz
          refine hB _ _ _ _ _ (fun m1 hm1 => ?_)
          dsimp only [ugo, uwp, ust, uct, rfd, Bcasts, Bcasts_21, Nat.beq, lv_args, rlk, rs1, rs2, rdl, rky, rcd, rno, rsw, Value.category, List.filter, List.take, List.drop, List.reverse, List.reverseAux, List.cons_append, List.nil_append, Option.toList, Int.toNat, Int.reduceToNat, if_pos, if_neg, reduceIte, ↓reduceIte, Nat.reduceAdd, Nat.reduceEqDiff, Nat.reduceBEq, beq_self_eq_true, Bool.not_true, Bool.not_false, Bool.and_true, Bool.and_false, Bool.true_and, Bool.false_and, gI_sI, gI_sL, gI_sA, gI_sM, gL_sI, gL_sL, gL_sA, gL_sM, aI_sI, aI_sL, aI_sA, aI_sM, aL_sI, aL_sL, aL_sA, aL_sM]; try dsimp only
          intro p2
          refine ⟨fun h3 => ?_, fun h3 => ?_⟩
          · exact hW _ 39 [(0, .ref 1000), (1, .int x1)] _ _ _ (by simp [rdl, rky, Value.category]) ((ih m1 hm1).2.2.2.1 x1 (gI Y 69) _ hz)
          · exact hW _ 35 [(0, .ref 1000), (1, .int x1)] _ _ _ (by simp [rdl, rky, Value.category]) ((ih m1 hm1).2.2.1 x1 (gI Y 69) _ hz)
        · intro x1 s0 Y hz
          refine hB _ _ _ _ _ (fun m1 hm1 => ?_)
          dsimp only [ugo, uwp, ust, uct, rfd, Bcasts, Bcasts_35, Nat.beq, lv_args, rlk, rs1, rs2, rdl, rky, rcd, rno, rsw, Value.category, List.filter, List.take, List.drop, List.reverse, List.reverseAux, List.cons_append, List.nil_append, Option.toList, Int.toNat, Int.reduceToNat, if_pos, if_neg, reduceIte, ↓reduceIte, Nat.reduceAdd, Nat.reduceEqDiff, Nat.reduceBEq, beq_self_eq_true, Bool.not_true, Bool.not_false, Bool.and_true, Bool.and_false, Bool.true_and, Bool.false_and, gI_sI, gI_sL, gI_sA, gI_sM, gL_sI, gL_sL, gL_sA, gL_sM, aI_sI, aI_sL, aI_sA, aI_sM, aL_sI, aL_sL, aL_sA, aL_sM, oi_0]; try dsimp only
          exact hW _ 40 [(0, .ref 1000), (1, .int x1)] _ _ _ (by simp [rdl, rky, Value.category]) ((ih m1 hm1).2.2.2.2.1 x1 0 s0 _ hz)
        · intro x1 s0 Y hz
          refine hB _ _ _ _ _ (fun m1 hm1 => ?_)
          dsimp only [ugo, uwp, ust, uct, rfd, Bcasts, Bcasts_39, Nat.beq, lv_args, rlk, rs1, rs2, rdl, rky, rcd, rno, rsw, Value.category, List.filter, List.take, List.drop, List.reverse, List.reverseAux, List.cons_append, List.nil_append, Option.toList, Int.toNat, Int.reduceToNat, if_pos, if_neg, reduceIte, ↓reduceIte, Nat.reduceAdd, Nat.reduceEqDiff, Nat.reduceBEq, beq_self_eq_true, Bool.not_true, Bool.not_false, Bool.and_true, Bool.and_false, Bool.true_and, Bool.false_and, gI_sI, gI_sL, gI_sA, gI_sM, gL_sI, gL_sL, gL_sA, gL_sM, aI_sI, aI_sL, aI_sA, aI_sM, aL_sI, aL_sL, aL_sA, aL_sM, oi_1]; try dsimp only
          exact hW _ 40 [(0, .ref 1000), (1, .int x1)] _ _ _ (by simp [rdl, rky, Value.category]) ((ih m1 hm1).2.2.2.2.1 x1 1 s0 _ hz)
        · intro x1 s0 s1 Y hz
          refine hB _ _ _ _ _ (fun m1 hm1 => ?_)
          dsimp only [ugo, uwp, ust, uct, rfd, Bcasts, Bcasts_40, Nat.beq, lv_args, rlk, rs1, rs2, rdl, rky, rcd, rno, rsw, Value.category, List.filter, List.take, List.drop, List.reverse, List.reverseAux, List.cons_append, List.nil_append, Option.toList, Int.toNat, Int.reduceToNat, if_pos, if_neg, reduceIte, ↓reduceIte, Nat.reduceAdd, Nat.reduceEqDiff, Nat.reduceBEq, beq_self_eq_true, Bool.not_true, Bool.not_false, Bool.and_true, Bool.and_false, Bool.true_and, Bool.false_and, gI_sI, gI_sL, gI_sA, gI_sM, gL_sI, gL_sL, gL_sA, gL_sM, aI_sI, aI_sL, aI_sA, aI_sM, aL_sI, aL_sL, aL_sA, aL_sM]; try dsimp only
          refine ⟨trivial, fun w2 τ2 hq2 => ?_⟩
          obtain ⟨hA2, b2, rfl, hb2⟩ := hq2 trivial
          have hz2 := hA2 hz
          dsimp only [Option.toList, List.cons_append, List.nil_append, Nat.beq, gI_sI, gI_sL, gI_sA, gI_sM, gL_sI, gL_sL, gL_sA, gL_sM, aI_sI, aI_sL, aI_sA, aI_sM, aL_sI, aL_sL, aL_sA, aL_sM]
          refine ⟨fun h3 => ?_, fun h3 => ?_⟩
          · exact hW _ 52 [(0, .ref 1000), (1, .int x1)] _ _ _ (by simp [rdl, rky, Value.category]) ((ih m1 hm1).2.2.2.2.2.2 x1 _ hz2)
          · exact hW _ 46 [(0, .ref 1000), (1, .int x1)] _ _ _ (by simp [rdl, rky, Value.category]) ((ih m1 hm1).2.2.2.2.2.1 x1 _ hz2)
        · intro x1 Y hz
          refine hB _ _ _ _ _ (fun m1 hm1 => ?_)
          dsimp only [ugo, uwp, ust, uct, rfd, Bcasts, Bcasts_46, Nat.beq, lv_args, rlk, rs1, rs2, rdl, rky, rcd, rno, rsw, Value.category, List.filter, List.take, List.drop, List.reverse, List.reverseAux, List.cons_append, List.nil_append, Option.toList, Int.toNat, Int.reduceToNat, if_pos, if_neg, reduceIte, ↓reduceIte, Nat.reduceAdd, Nat.reduceEqDiff, Nat.reduceBEq, beq_self_eq_true, Bool.not_true, Bool.not_false, Bool.and_true, Bool.and_false, Bool.true_and, Bool.false_and, gI_sI, gI_sL, gI_sA, gI_sM, gL_sI, gL_sL, gL_sA, gL_sM, aI_sI, aI_sL, aI_sA, aI_sM, aL_sI, aL_sL, aL_sA, aL_sM]; try dsimp only
          refine ⟨trivial, fun w2 τ2 hq2 => ?_⟩
          obtain ⟨rfl, rfl⟩ := hq2 trivial
          dsimp only [Option.toList, List.cons_append, List.nil_append, Nat.beq, gI_sI, gI_sL, gI_sA, gI_sM, gL_sI, gL_sL, gL_sA, gL_sM, aI_sI, aI_sL, aI_sA, aI_sM, aL_sI, aL_sL, aL_sA, aL_sM]
          unfold Qv_castsA
          try dsimp only
          exact ⟨rfl, hz⟩
        · intro x1 Y hz
          refine hB _ _ _ _ _ (fun m1 hm1 => ?_)
          dsimp only [ugo, uwp, ust, uct, rfd, Bcasts, Bcasts_52, Nat.beq, lv_args, rlk, rs1, rs2, rdl, rky, rcd, rno, rsw, Value.category, List.filter, List.take, List.drop, List.reverse, List.reverseAux, List.cons_append, List.nil_append, Option.toList, Int.toNat, Int.reduceToNat, if_pos, if_neg, reduceIte, ↓reduceIte, Nat.reduceAdd, Nat.reduceEqDiff, Nat.reduceBEq, beq_self_eq_true, Bool.not_true, Bool.not_false, Bool.and_true, Bool.and_false, Bool.true_and, Bool.false_and, gI_sI, gI_sL, gI_sA, gI_sM, gL_sI, gL_sL, gL_sA, gL_sM, aI_sI, aI_sL, aI_sA, aI_sM, aL_sI, aL_sL, aL_sA, aL_sM]; try dsimp only
          intro p2
          intro p3
          intro p4
          intro p5
          refine ⟨trivial, fun w6 τ6 hq6 => ?_⟩
          obtain ⟨rfl, rfl⟩ := hq6 trivial
          try rw [show (((aI Y 20) (x1).toNatClampNeg)).toInt = (((aI Y 20) (x1).toNatClampNeg)).toInt from (rfl : (((aI Y 20) (x1).toNatClampNeg)).toInt = (((aI Y 20) (x1).toNatClampNeg)).toInt)]
          dsimp only [Option.toList, List.cons_append, List.nil_append, Nat.beq, gI_sI, gI_sL, gI_sA, gI_sM, gL_sI, gL_sL, gL_sA, gL_sM, aI_sI, aI_sL, aI_sA, aI_sM, aL_sI, aL_sL, aL_sA, aL_sM]
          refine ⟨trivial, fun w7 τ7 hq7 => ?_⟩
          obtain ⟨rfl, rfl⟩ := hq7 trivial
          dsimp only [Option.toList, List.cons_append, List.nil_append, Nat.beq, gI_sI, gI_sL, gI_sA, gI_sM, gL_sI, gL_sL, gL_sA, gL_sM, aI_sI, aI_sL, aI_sA, aI_sM, aL_sI, aL_sL, aL_sA, aL_sM]
          unfold Qv_castsA
          try dsimp only
          exact ⟨rfl, hz⟩
    intro n0
    exact (all n0).1 c σ hP
  next => exact hP.elim
theorem w_castsA : UMet 92 (fun _ _ => True) Qw_castsA := fun A1 σ _ w τ h hP => v_castsA A1 σ hP w τ h
def Pv_binaryA : UP1 := fun A1 σ => match A1 with
  | [.int c] => ¬ gI σ 66 = 0
  | _ => False
def Qv_binaryA : UQ1 := fun A1 σ w τ => match A1 with
  | [.int c] => w = none ∧ ¬ gI τ 66 = 0
  | _ => False
def Qw_binaryA : UQ1 := fun A1 σ w τ => Pv_binaryA A1 σ → Qv_binaryA A1 σ w τ
set_option maxRecDepth 100000 in
set_option maxHeartbeats 4000000 in
theorem v_binaryA : UMet 95 (Pv_binaryA) (Qv_binaryA) := by
  refine UMet.by Bbinary [(79, (fun _ _ => True), Qw_isBad), (94, (fun _ _ => True), Qw_isBits), (93, (fun _ _ => True), Qw_isShift), (77, (fun _ _ => True), Qw_lie), (80, (fun _ _ => True), Qw_need), (78, (fun _ _ => True), Qw_none), (96, (fun _ _ => True), Qw_pair), (97, (fun _ _ => True), Qw_reckon), (81, (fun _ _ => True), Qw_wide)] rfl (ucc w_isBad (ucc w_isBits (ucc w_isShift (ucc w_lie (ucc w_need (ucc w_none (ucc w_pair (ucc w_reckon (ucc w_wide uc0))))))))) ?_
  intro A1 σ hP K hB hW
  unfold Pv_binaryA at hP
  split at hP
  next c =>
    have all : ∀ N : Nat, (∀ (x1 : Int32) (Y : RS), ¬ gI Y 66 = 0 → K N 0 [(0, .ref 1000), (1, .int x1)] [] Y) ∧ (∀ (x1 : Int32) (x2 : Int32) (x3 : Int32) (x4 : Int32) (Y : RS), ¬ gI Y 66 = 0 → K N 38 [(0, .ref 1000), (1, .int x1), (2, .int x2), (3, .int x3), (4, .int x4)] [] Y) ∧ (∀ (x1 : Int32) (x2 : Int32) (x3 : Int32) (x4 : Int32) (Y : RS), ¬ gI Y 66 = 0 → K N 46 [(0, .ref 1000), (1, .int x1), (2, .int x2), (3, .int x3), (4, .int x4)] [] Y) ∧ (∀ (x1 : Int32) (x2 : Int32) (x3 : Int32) (x4 : Int32) (Y : RS), ¬ gI Y 66 = 0 → K N 50 [(0, .ref 1000), (1, .int x1), (2, .int x2), (3, .int x3), (4, .int x4)] [] Y) ∧ (∀ (x1 : Int32) (x2 : Int32) (x3 : Int32) (x4 : Int32) (s0 : Int32) (Y : RS), ¬ gI Y 66 = 0 → K N 51 [(0, .ref 1000), (1, .int x1), (2, .int x2), (3, .int x3), (4, .int x4)] [.int s0] Y) ∧ (∀ (x1 : Int32) (x2 : Int32) (x3 : Int32) (x4 : Int32) (x5 : Int32) (Y : RS), ¬ gI Y 66 = 0 → K N 58 [(0, .ref 1000), (1, .int x1), (2, .int x2), (3, .int x3), (4, .int x4), (5, .int x5)] [] Y) ∧ (∀ (x1 : Int32) (x2 : Int32) (x3 : Int32) (x4 : Int32) (x5 : Int32) (Y : RS), ¬ gI Y 66 = 0 → K N 67 [(0, .ref 1000), (1, .int x1), (2, .int x2), (3, .int x3), (4, .int x4), (5, .int x5)] [] Y) ∧ (∀ (x1 : Int32) (x2 : Int32) (x3 : Int32) (x4 : Int32) (x5 : Int32) (Y : RS), ¬ gI Y 66 = 0 → K N 71 [(0, .ref 1000), (1, .int x1), (2, .int x2), (3, .int x3), (4, .int x4), (5, .int x5)] [] Y) ∧ (∀ (x1 : Int32) (x2 : Int32) (x3 : Int32) (x4 : Int32) (x5 : Int32) (s0 : Int32) (Y : RS), ¬ gI Y 66 = 0 → K N 72 [(0, .ref 1000), (1, .int x1), (2, .int x2), (3, .int x3), (4, .int x4), (5, .int x5)] [.int s0] Y) ∧ (∀ (x1 : Int32) (x2 : Int32) (x3 : Int32) (x4 : Int32) (x5 : Int32) (x6 : Int32) (Y : RS), ¬ gI Y 66 = 0 → K N 82 [(0, .ref 1000), (1, .int x1), (2, .int x2), (3, .int x3), (4, .int x4), (5, .int x5), (6, .int x6)] [] Y) ∧ (∀ (x1 : Int32) (x2 : Int32) (x3 : Int32) (x4 : Int32) (x5 : Int32) (x6 : Int32) (Y : RS), ¬ gI Y 66 = 0 → K N 90 [(0, .ref 1000), (1, .int x1), (2, .int x2), (3, .int x3), (4, .int x4), (5, .int x5), (6, .int x6)] [] Y) ∧ (∀ (x1 : Int32) (x2 : Int32) (x3 : Int32) (x4 : Int32) (x5 : Int32) (x6 : Int32) (Y : RS), ¬ gI Y 66 = 0 → K N 98 [(0, .ref 1000), (1, .int x1), (2, .int x2), (3, .int x3), (4, .int x4), (5, .int x5), (6, .int x6)] [] Y) ∧ (∀ (x1 : Int32) (x2 : Int32) (x3 : Int32) (x4 : Int32) (x5 : Int32) (x6 : Int32) (Y : RS), ¬ gI Y 66 = 0 → K N 106 [(0, .ref 1000), (1, .int x1), (2, .int x2), (3, .int x3), (4, .int x4), (5, .int x5), (6, .int x6)] [] Y) ∧ (∀ (x1 : Int32) (x2 : Int32) (x3 : Int32) (x4 : Int32) (x5 : Int32) (x6 : Int32) (Y : RS), ¬ gI Y 66 = 0 → K N 114 [(0, .ref 1000), (1, .int x1), (2, .int x2), (3, .int x3), (4, .int x4), (5, .int x5), (6, .int x6)] [] Y) ∧ (∀ (x1 : Int32) (x2 : Int32) (x3 : Int32) (x4 : Int32) (x5 : Int32) (x6 : Int32) (Y : RS), ¬ gI Y 66 = 0 → K N 122 [(0, .ref 1000), (1, .int x1), (2, .int x2), (3, .int x3), (4, .int x4), (5, .int x5), (6, .int x6)] [] Y) ∧ (∀ (x1 : Int32) (x2 : Int32) (x3 : Int32) (x4 : Int32) (x5 : Int32) (x6 : Int32) (Y : RS), ¬ gI Y 66 = 0 → K N 128 [(0, .ref 1000), (1, .int x1), (2, .int x2), (3, .int x3), (4, .int x4), (5, .int x5), (6, .int x6)] [] Y) ∧ (∀ (x1 : Int32) (x2 : Int32) (x3 : Int32) (x4 : Int32) (x5 : Int32) (x6 : Int32) (Y : RS), ¬ gI Y 66 = 0 → K N 138 [(0, .ref 1000), (1, .int x1), (2, .int x2), (3, .int x3), (4, .int x4), (5, .int x5), (6, .int x6)] [] Y) ∧ (∀ (x1 : Int32) (x2 : Int32) (x3 : Int32) (x4 : Int32) (x5 : Int32) (x6 : Int32) (Y : RS), ¬ gI Y 66 = 0 → K N 143 [(0, .ref 1000), (1, .int x1), (2, .int x2), (3, .int x3), (4, .int x4), (5, .int x5), (6, .int x6)] [] Y) ∧ (∀ (x1 : Int32) (x2 : Int32) (x3 : Int32) (x4 : Int32) (x5 : Int32) (x6 : Int32) (Y : RS), ¬ gI Y 66 = 0 → K N 150 [(0, .ref 1000), (1, .int x1), (2, .int x2), (3, .int x3), (4, .int x4), (5, .int x5), (6, .int x6)] [] Y) ∧ (∀ (x1 : Int32) (x2 : Int32) (x3 : Int32) (x4 : Int32) (x5 : Int32) (x6 : Int32) (Y : RS), ¬ gI Y 66 = 0 → K N 156 [(0, .ref 1000), (1, .int x1), (2, .int x2), (3, .int x3), (4, .int x4), (5, .int x5), (6, .int x6)] [] Y) ∧ (∀ (x1 : Int32) (x2 : Int32) (x3 : Int32) (x4 : Int32) (x5 : Int32) (x6 : Int32) (Y : RS), ¬ gI Y 66 = 0 → K N 161 [(0, .ref 1000), (1, .int x1), (2, .int x2), (3, .int x3), (4, .int x4), (5, .int x5), (6, .int x6)] [] Y) ∧ (∀ (x1 : Int32) (x2 : Int32) (x3 : Int32) (x4 : Int32) (x5 : Int32) (x6 : Int32) (s0 : Int32) (Y : RS), ¬ gI Y 66 = 0 → K N 172 [(0, .ref 1000), (1, .int x1), (2, .int x2), (3, .int x3), (4, .int x4), (5, .int x5), (6, .int x6)] [.int s0, .ref 1000] Y) ∧ (∀ (x1 : Int32) (x2 : Int32) (x3 : Int32) (x4 : Int32) (x5 : Int32) (x6 : Int32) (s0 : Int32) (Y : RS), ¬ gI Y 66 = 0 → K N 176 [(0, .ref 1000), (1, .int x1), (2, .int x2), (3, .int x3), (4, .int x4), (5, .int x5), (6, .int x6)] [.int s0, .ref 1000] Y) ∧ (∀ (x1 : Int32) (x2 : Int32) (x3 : Int32) (x4 : Int32) (x5 : Int32) (x6 : Int32) (s0 : Int32) (s1 : Int32) (Y : RS), ¬ gI Y 66 = 0 → K N 177 [(0, .ref 1000), (1, .int x1), (2, .int x2), (3, .int x3), (4, .int x4), (5, .int x5), (6, .int x6)] [.int s0, .int s1, .ref 1000] Y) ∧ (∀ (x1 : Int32) (x2 : Int32) (x3 : Int32) (x4 : Int32) (x5 : Int32) (x6 : Int32) (Y : RS), ¬ gI Y 66 = 0 → K N 183 [(0, .ref 1000), (1, .int x1), (2, .int x2), (3, .int x3), (4, .int x4), (5, .int x5), (6, .int x6)] [] Y) ∧ (∀ (x1 : Int32) (x2 : Int32) (x3 : Int32) (x4 : Int32) (x5 : Int32) (x6 : Int32) (Y : RS), ¬ gI Y 66 = 0 → K N 186 [(0, .ref 1000), (1, .int x1), (2, .int x2), (3, .int x3), (4, .int x4), (5, .int x5), (6, .int x6)] [] Y) ∧ (∀ (x1 : Int32) (x2 : Int32) (x3 : Int32) (x4 : Int32) (x5 : Int32) (x6 : Int32) (Y : RS), ¬ gI Y 66 = 0 → K N 195 [(0, .ref 1000), (1, .int x1), (2, .int x2), (3, .int x3), (4, .int x4), (5, .int x5), (6, .int x6)] [] Y) ∧ (∀ (x1 : Int32) (x2 : Int32) (x3 : Int32) (x4 : Int32) (x5 : Int32) (x6 : Int32) (Y : RS), ¬ gI Y 66 = 0 → K N 201 [(0, .ref 1000), (1, .int x1), (2, .int x2), (3, .int x3), (4, .int x4), (5, .int x5), (6, .int x6)] [] Y) ∧ (∀ (x1 : Int32) (x2 : Int32) (x3 : Int32) (x4 : Int32) (x5 : Int32) (x6 : Int32) (Y : RS), ¬ gI Y 66 = 0 → K N 210 [(0, .ref 1000), (1, .int x1), (2, .int x2), (3, .int x3), (4, .int x4), (5, .int x5), (6, .int x6)] [] Y) ∧ (∀ (x1 : Int32) (x2 : Int32) (x3 : Int32) (x4 : Int32) (x5 : Int32) (x6 : Int32) (Y : RS), ¬ gI Y 66 = 0 → K N 214 [(0, .ref 1000), (1, .int x1), (2, .int x2), (3, .int x3), (4, .int x4), (5, .int x5), (6, .int x6)] [] Y) ∧ (∀ (x1 : Int32) (x2 : Int32) (x3 : Int32) (x4 : Int32) (x5 : Int32) (x6 : Int32) (Y : RS), ¬ gI Y 66 = 0 → K N 223 [(0, .ref 1000), (1, .int x1), (2, .int x2), (3, .int x3), (4, .int x4), (5, .int x5), (6, .int x6)] [] Y) ∧ (∀ (x1 : Int32) (x2 : Int32) (x3 : Int32) (x4 : Int32) (x5 : Int32) (x6 : Int32) (Y : RS), ¬ gI Y 66 = 0 → K N 236 [(0, .ref 1000), (1, .int x1), (2, .int x2), (3, .int x3), (4, .int x4), (5, .int x5), (6, .int x6)] [] Y) ∧ (∀ (x1 : Int32) (x2 : Int32) (x3 : Int32) (x4 : Int32) (x5 : Int32) (x6 : Int32) (Y : RS), ¬ gI Y 66 = 0 → K N 246 [(0, .ref 1000), (1, .int x1), (2, .int x2), (3, .int x3), (4, .int x4), (5, .int x5), (6, .int x6)] [] Y) ∧ (∀ (x1 : Int32) (x2 : Int32) (x3 : Int32) (x4 : Int32) (x5 : Int32) (x6 : Int32) (Y : RS), ¬ gI Y 66 = 0 → K N 256 [(0, .ref 1000), (1, .int x1), (2, .int x2), (3, .int x3), (4, .int x4), (5, .int x5), (6, .int x6)] [] Y) ∧ (∀ (x1 : Int32) (x2 : Int32) (x3 : Int32) (x4 : Int32) (x5 : Int32) (x6 : Int32) (Y : RS), ¬ gI Y 66 = 0 → K N 260 [(0, .ref 1000), (1, .int x1), (2, .int x2), (3, .int x3), (4, .int x4), (5, .int x5), (6, .int x6)] [] Y) ∧ (∀ (x1 : Int32) (x2 : Int32) (x3 : Int32) (x4 : Int32) (x5 : Int32) (x6 : Int32) (s0 : Int32) (Y : RS), ¬ gI Y 66 = 0 → K N 261 [(0, .ref 1000), (1, .int x1), (2, .int x2), (3, .int x3), (4, .int x4), (5, .int x5), (6, .int x6)] [.int s0] Y) ∧ (∀ (x1 : Int32) (x2 : Int32) (x3 : Int32) (x4 : Int32) (x5 : Int32) (x6 : Int32) (x7 : Int32) (Y : RS), ¬ gI Y 66 = 0 → K N 268 [(0, .ref 1000), (1, .int x1), (2, .int x2), (3, .int x3), (4, .int x4), (5, .int x5), (6, .int x6), (7, .int x7)] [] Y) ∧ (∀ (x1 : Int32) (x2 : Int32) (x3 : Int32) (x4 : Int32) (x5 : Int32) (x6 : Int32) (x7 : Int32) (Y : RS), ¬ gI Y 66 = 0 → K N 275 [(0, .ref 1000), (1, .int x1), (2, .int x2), (3, .int x3), (4, .int x4), (5, .int x5), (6, .int x6), (7, .int x7)] [] Y) ∧ (∀ (x1 : Int32) (x2 : Int32) (x3 : Int32) (x4 : Int32) (x5 : Int32) (x6 : Int32) (x7 : Int32) (Y : RS), ¬ gI Y 66 = 0 → K N 282 [(0, .ref 1000), (1, .int x1), (2, .int x2), (3, .int x3), (4, .int x4), (5, .int x5), (6, .int x6), (7, .int x7)] [] Y) ∧ (∀ (x1 : Int32) (x2 : Int32) (x3 : Int32) (x4 : Int32) (x5 : Int32) (x6 : Int32) (x7 : Int32) (Y : RS), ¬ gI Y 66 = 0 → K N 290 [(0, .ref 1000), (1, .int x1), (2, .int x2), (3, .int x3), (4, .int x4), (5, .int x5), (6, .int x6), (7, .int x7)] [] Y) ∧ (∀ (x1 : Int32) (x2 : Int32) (x3 : Int32) (x4 : Int32) (x5 : Int32) (x6 : Int32) (x7 : Int32) (Y : RS), ¬ gI Y 66 = 0 → K N 298 [(0, .ref 1000), (1, .int x1), (2, .int x2), (3, .int x3), (4, .int x4), (5, .int x5), (6, .int x6), (7, .int x7)] [] Y) ∧ (∀ (x1 : Int32) (x2 : Int32) (x3 : Int32) (x4 : Int32) (x5 : Int32) (x6 : Int32) (x7 : Int32) (Y : RS), ¬ gI Y 66 = 0 → K N 302 [(0, .ref 1000), (1, .int x1), (2, .int x2), (3, .int x3), (4, .int x4), (5, .int x5), (6, .int x6), (7, .int x7)] [] Y) ∧ (∀ (x1 : Int32) (x2 : Int32) (x3 : Int32) (x4 : Int32) (x5 : Int32) (x6 : Int32) (x7 : Int32) (s0 : Int32) (Y : RS), ¬ gI Y 66 = 0 → K N 303 [(0, .ref 1000), (1, .int x1), (2, .int x2), (3, .int x3), (4, .int x4), (5, .int x5), (6, .int x6), (7, .int x7)] [.int s0] Y) ∧ (∀ (x1 : Int32) (x2 : Int32) (x3 : Int32) (x4 : Int32) (x5 : Int32) (x6 : Int32) (x7 : Int32) (x8 : Int32) (Y : RS), ¬ gI Y 66 = 0 → K N 322 [(0, .ref 1000), (1, .int x1), (2, .int x2), (3, .int x3), (4, .int x4), (5, .int x5), (6, .int x6), (7, .int x7), (8, .int x8)] [] Y) ∧ (∀ (x1 : Int32) (x2 : Int32) (x3 : Int32) (x4 : Int32) (x5 : Int32) (x6 : Int32) (x7 : Int32) (x8 : Int32) (Y : RS), ¬ gI Y 66 = 0 → K N 331 [(0, .ref 1000), (1, .int x1), (2, .int x2), (3, .int x3), (4, .int x4), (5, .int x5), (6, .int x6), (7, .int x7), (8, .int x8)] [] Y) ∧ (∀ (x1 : Int32) (x2 : Int32) (x3 : Int32) (x4 : Int32) (x5 : Int32) (x6 : Int32) (x7 : Int32) (x8 : Int32) (Y : RS), ¬ gI Y 66 = 0 → K N 338 [(0, .ref 1000), (1, .int x1), (2, .int x2), (3, .int x3), (4, .int x4), (5, .int x5), (6, .int x6), (7, .int x7), (8, .int x8)] [] Y) ∧ (∀ (x1 : Int32) (x2 : Int32) (x3 : Int32) (x4 : Int32) (x5 : Int32) (x6 : Int32) (x7 : Int32) (x8 : Int32) (Y : RS), ¬ gI Y 66 = 0 → K N 345 [(0, .ref 1000), (1, .int x1), (2, .int x2), (3, .int x3), (4, .int x4), (5, .int x5), (6, .int x6), (7, .int x7), (8, .int x8)] [] Y) ∧ (∀ (x1 : Int32) (x2 : Int32) (x3 : Int32) (x4 : Int32) (x5 : Int32) (x6 : Int32) (x7 : Int32) (x8 : Int32) (Y : RS), ¬ gI Y 66 = 0 → K N 356 [(0, .ref 1000), (1, .int x1), (2, .int x2), (3, .int x3), (4, .int x4), (5, .int x5), (6, .int x6), (7, .int x7), (8, .int x8)] [] Y) ∧ (∀ (x1 : Int32) (x2 : Int32) (x3 : Int32) (x4 : Int32) (x5 : Int32) (x6 : Int32) (x7 : Int32) (x8 : Int32) (Y : RS), ¬ gI Y 66 = 0 → K N 360 [(0, .ref 1000), (1, .int x1), (2, .int x2), (3, .int x3), (4, .int x4), (5, .int x5), (6, .int x6), (7, .int x7), (8, .int x8)] [] Y) ∧ (∀ (x1 : Int32) (x2 : Int32) (x3 : Int32) (x4 : Int32) (x5 : Int32) (x6 : Int32) (x7 : Int32) (x8 : Int32) (s0 : Int32) (Y : RS), ¬ gI Y 66 = 0 → K N 361 [(0, .ref 1000), (1, .int x1), (2, .int x2), (3, .int x3), (4, .int x4), (5, .int x5), (6, .int x6), (7, .int x7), (8, .int x8)] [.int s0] Y) ∧ (∀ (x1 : Int32) (x2 : Int32) (x3 : Int32) (x4 : Int32) (x5 : Int32) (x6 : Int32) (x7 : Int32) (x8 : Int32) (x9 : Int32) (s0 : Int32) (Y : RS), ¬ gI Y 66 = 0 → K N 370 [(0, .ref 1000), (1, .int x1), (2, .int x2), (3, .int x3), (4, .int x4), (5, .int x5), (6, .int x6), (7, .int x7), (8, .int x8), (9, .int x9)] [.int s0, .ref 1000] Y) ∧ (∀ (x1 : Int32) (x2 : Int32) (x3 : Int32) (x4 : Int32) (x5 : Int32) (x6 : Int32) (x7 : Int32) (x8 : Int32) (x9 : Int32) (s0 : Int32) (Y : RS), ¬ gI Y 66 = 0 → K N 374 [(0, .ref 1000), (1, .int x1), (2, .int x2), (3, .int x3), (4, .int x4), (5, .int x5), (6, .int x6), (7, .int x7), (8, .int x8), (9, .int x9)] [.int s0, .ref 1000] Y) ∧ (∀ (x1 : Int32) (x2 : Int32) (x3 : Int32) (x4 : Int32) (x5 : Int32) (x6 : Int32) (x7 : Int32) (x8 : Int32) (x9 : Int32) (s0 : Int32) (s1 : Int32) (Y : RS), ¬ gI Y 66 = 0 → K N 376 [(0, .ref 1000), (1, .int x1), (2, .int x2), (3, .int x3), (4, .int x4), (5, .int x5), (6, .int x6), (7, .int x7), (8, .int x8), (9, .int x9)] [.int s0, .int s1, .ref 1000] Y) ∧ (∀ (x1 : Int32) (x2 : Int32) (x3 : Int32) (x4 : Int32) (x5 : Int32) (x6 : Int32) (x7 : Int32) (x8 : Int32) (x9 : Int32) (s0 : Int32) (s1 : Int32) (s2 : Int32) (Y : RS), ¬ gI Y 66 = 0 → K N 383 [(0, .ref 1000), (1, .int x1), (2, .int x2), (3, .int x3), (4, .int x4), (5, .int x5), (6, .int x6), (7, .int x7), (8, .int x8), (9, .int x9)] [.int s0, .int s1, .int s2, .ref 1000] Y) ∧ (∀ (x1 : Int32) (x2 : Int32) (x3 : Int32) (x4 : Int32) (x5 : Int32) (x6 : Int32) (x7 : Int32) (x8 : Int32) (x9 : Int32) (s0 : Int32) (s1 : Int32) (s2 : Int32) (Y : RS), ¬ gI Y 66 = 0 → K N 406 [(0, .ref 1000), (1, .int x1), (2, .int x2), (3, .int x3), (4, .int x4), (5, .int x5), (6, .int x6), (7, .int x7), (8, .int x8), (9, .int x9)] [.int s0, .int s1, .int s2, .ref 1000] Y) ∧ (∀ (x1 : Int32) (x2 : Int32) (x3 : Int32) (x4 : Int32) (x5 : Int32) (x6 : Int32) (x7 : Int32) (x8 : Int32) (x9 : Int32) (s0 : Int64) (s1 : Int32) (s2 : Int32) (s3 : Int32) (Y : RS), ¬ gI Y 66 = 0 → K N 407 [(0, .ref 1000), (1, .int x1), (2, .int x2), (3, .int x3), (4, .int x4), (5, .int x5), (6, .int x6), (7, .int x7), (8, .int x8), (9, .int x9)] [.long s0, .int s1, .int s2, .int s3, .ref 1000] Y) := by
      intro N
      induction N using Nat.strongRecOn with
      | ind N ih =>
        refine ⟨?_, ?_, ?_, ?_, ?_, ?_, ?_, ?_, ?_, ?_, ?_, ?_, ?_, ?_, ?_, ?_, ?_, ?_, ?_, ?_, ?_, ?_, ?_, ?_, ?_, ?_, ?_, ?_, ?_, ?_, ?_, ?_, ?_, ?_, ?_, ?_, ?_, ?_, ?_, ?_, ?_, ?_, ?_, ?_, ?_, ?_, ?_, ?_, ?_, ?_, ?_, ?_, ?_, ?_, ?_, ?_⟩
        · intro x1 Y hz
          refine hB _ _ _ _ _ (fun m1 hm1 => ?_)
          dsimp only [ugo, uwp, ust, uct, rfd, Bbinary, Bbinary_0, Nat.beq, lv_args, rlk, rs1, rs2, rdl, rky, rcd, rno, rsw, Value.category, List.filter, List.take, List.drop, List.reverse, List.reverseAux, List.cons_append, List.nil_append, Option.toList, Int.toNat, Int.reduceToNat, if_pos, if_neg, reduceIte, ↓reduceIte, Nat.reduceAdd, Nat.reduceEqDiff, Nat.reduceBEq, beq_self_eq_true, Bool.not_true, Bool.not_false, Bool.and_true, Bool.and_false, Bool.true_and, Bool.false_and, gI_sI, gI_sL, gI_sA, gI_sM, gL_sI, gL_sL, gL_sA, gL_sM, aI_sI, aI_sL, aI_sA, aI_sM, aL_sI, aL_sL, aL_sA, aL_sM, oi_1, oi_2, oi_300]; try dsimp only
          intro p2
          refine ⟨fun h3 => ?_, fun h3 => ?_⟩
          · exact hW _ 46 [(0, .ref 1000), (1, .int x1), (2, .int ((gI Y 69) - 2)), (3, .int (((gI Y 69) - 2) + 1)), (4, .int ((aI Y 20) (x1).toNatClampNeg))] _ _ _ (by simp [rdl, rky, Value.category]) ((ih m1 hm1).2.2.1 x1 ((gI Y 69) - 2) (((gI Y 69) - 2) + 1) ((aI Y 20) (x1).toNatClampNeg) _ hz)
          · exact hW _ 38 [(0, .ref 1000), (1, .int x1), (2, .int ((gI Y 69) - 2)), (3, .int (((gI Y 69) - 2) + 1)), (4, .int ((aI Y 20) (x1).toNatClampNeg))] _ _ _ (by simp [rdl, rky, Value.category]) ((ih m1 hm1).2.1 x1 ((gI Y 69) - 2) (((gI Y 69) - 2) + 1) ((aI Y 20) (x1).toNatClampNeg) _ hz)
        · intro x1 x2 x3 x4 Y hz
          refine hB _ _ _ _ _ (fun m1 hm1 => ?_)
          dsimp only [ugo, uwp, ust, uct, rfd, Bbinary, Bbinary_38, Nat.beq, lv_args, rlk, rs1, rs2, rdl, rky, rcd, rno, rsw, Value.category, List.filter, List.take, List.drop, List.reverse, List.reverseAux, List.cons_append, List.nil_append, Option.toList, Int.toNat, Int.reduceToNat, if_pos, if_neg, reduceIte, ↓reduceIte, Nat.reduceAdd, Nat.reduceEqDiff, Nat.reduceBEq, beq_self_eq_true, Bool.not_true, Bool.not_false, Bool.and_true, Bool.and_false, Bool.true_and, Bool.false_and, gI_sI, gI_sL, gI_sA, gI_sM, gL_sI, gL_sL, gL_sA, gL_sM, aI_sI, aI_sL, aI_sA, aI_sM, aL_sI, aL_sL, aL_sA, aL_sM, oi_301]; try dsimp only
          refine ⟨fun h2 => ?_, fun h2 => ?_⟩
          · exact hW _ 50 [(0, .ref 1000), (1, .int x1), (2, .int x2), (3, .int x3), (4, .int x4)] _ _ _ (by simp [rdl, rky, Value.category]) ((ih m1 hm1).2.2.2.1 x1 x2 x3 x4 _ hz)
          · exact hW _ 46 [(0, .ref 1000), (1, .int x1), (2, .int x2), (3, .int x3), (4, .int x4)] _ _ _ (by simp [rdl, rky, Value.category]) ((ih m1 hm1).2.2.1 x1 x2 x3 x4 _ hz)
        · intro x1 x2 x3 x4 Y hz
          refine hB _ _ _ _ _ (fun m1 hm1 => ?_)
          dsimp only [ugo, uwp, ust, uct, rfd, Bbinary, Bbinary_46, Nat.beq, lv_args, rlk, rs1, rs2, rdl, rky, rcd, rno, rsw, Value.category, List.filter, List.take, List.drop, List.reverse, List.reverseAux, List.cons_append, List.nil_append, Option.toList, Int.toNat, Int.reduceToNat, if_pos, if_neg, reduceIte, ↓reduceIte, Nat.reduceAdd, Nat.reduceEqDiff, Nat.reduceBEq, beq_self_eq_true, Bool.not_true, Bool.not_false, Bool.and_true, Bool.and_false, Bool.true_and, Bool.false_and, gI_sI, gI_sL, gI_sA, gI_sM, gL_sI, gL_sL, gL_sA, gL_sM, aI_sI, aI_sL, aI_sA, aI_sM, aL_sI, aL_sL, aL_sA, aL_sM, oi_1]; try dsimp only
          exact hW _ 51 [(0, .ref 1000), (1, .int x1), (2, .int x2), (3, .int x3), (4, .int x4)] _ _ _ (by simp [rdl, rky, Value.category]) ((ih m1 hm1).2.2.2.2.1 x1 x2 x3 x4 1 _ hz)
        · intro x1 x2 x3 x4 Y hz
          refine hB _ _ _ _ _ (fun m1 hm1 => ?_)
          dsimp only [ugo, uwp, ust, uct, rfd, Bbinary, Bbinary_50, Nat.beq, lv_args, rlk, rs1, rs2, rdl, rky, rcd, rno, rsw, Value.category, List.filter, List.take, List.drop, List.reverse, List.reverseAux, List.cons_append, List.nil_append, Option.toList, Int.toNat, Int.reduceToNat, if_pos, if_neg, reduceIte, ↓reduceIte, Nat.reduceAdd, Nat.reduceEqDiff, Nat.reduceBEq, beq_self_eq_true, Bool.not_true, Bool.not_false, Bool.and_true, Bool.and_false, Bool.true_and, Bool.false_and, gI_sI, gI_sL, gI_sA, gI_sM, gL_sI, gL_sL, gL_sA, gL_sM, aI_sI, aI_sL, aI_sA, aI_sM, aL_sI, aL_sL, aL_sA, aL_sM, oi_0]; try dsimp only
          exact hW _ 51 [(0, .ref 1000), (1, .int x1), (2, .int x2), (3, .int x3), (4, .int x4)] _ _ _ (by simp [rdl, rky, Value.category]) ((ih m1 hm1).2.2.2.2.1 x1 x2 x3 x4 0 _ hz)
        · intro x1 x2 x3 x4 s0 Y hz
          refine hB _ _ _ _ _ (fun m1 hm1 => ?_)
          dsimp only [ugo, uwp, ust, uct, rfd, Bbinary, Bbinary_51, Nat.beq, lv_args, rlk, rs1, rs2, rdl, rky, rcd, rno, rsw, Value.category, List.filter, List.take, List.drop, List.reverse, List.reverseAux, List.cons_append, List.nil_append, Option.toList, Int.toNat, Int.reduceToNat, if_pos, if_neg, reduceIte, ↓reduceIte, Nat.reduceAdd, Nat.reduceEqDiff, Nat.reduceBEq, beq_self_eq_true, Bool.not_true, Bool.not_false, Bool.and_true, Bool.and_false, Bool.true_and, Bool.false_and, gI_sI, gI_sL, gI_sA, gI_sM, gL_sI, gL_sL, gL_sA, gL_sM, aI_sI, aI_sL, aI_sA, aI_sM, aL_sI, aL_sL, aL_sA, aL_sM]; try dsimp only
          refine ⟨fun h2 => ?_, fun h2 => ?_⟩
          · exact hW _ 67 [(0, .ref 1000), (1, .int x1), (2, .int x2), (3, .int x3), (4, .int x4), (5, .int s0)] _ _ _ (by simp [rdl, rky, Value.category]) ((ih m1 hm1).2.2.2.2.2.2.1 x1 x2 x3 x4 s0 _ hz)
          · exact hW _ 58 [(0, .ref 1000), (1, .int x1), (2, .int x2), (3, .int x3), (4, .int x4), (5, .int s0)] _ _ _ (by simp [rdl, rky, Value.category]) ((ih m1 hm1).2.2.2.2.2.1 x1 x2 x3 x4 s0 _ hz)
        · intro x1 x2 x3 x4 x5 Y hz
          refine hB _ _ _ _ _ (fun m1 hm1 => ?_)
          dsimp only [ugo, uwp, ust, uct, rfd, Bbinary, Bbinary_58, Nat.beq, lv_args, rlk, rs1, rs2, rdl, rky, rcd, rno, rsw, Value.category, List.filter, List.take, List.drop, List.reverse, List.reverseAux, List.cons_append, List.nil_append, Option.toList, Int.toNat, Int.reduceToNat, if_pos, if_neg, reduceIte, ↓reduceIte, Nat.reduceAdd, Nat.reduceEqDiff, Nat.reduceBEq, beq_self_eq_true, Bool.not_true, Bool.not_false, Bool.and_true, Bool.and_false, Bool.true_and, Bool.false_and, gI_sI, gI_sL, gI_sA, gI_sM, gL_sI, gL_sL, gL_sA, gL_sM, aI_sI, aI_sL, aI_sA, aI_sM, aL_sI, aL_sL, aL_sA, aL_sM]; try dsimp only
          refine ⟨trivial, fun w2 τ2 hq2 => ?_⟩
          obtain ⟨rfl, b2, rfl, hb2⟩ := hq2 trivial
          try rw [show (x4).toInt = (x4).toInt from (rfl : (x4).toInt = (x4).toInt)] at hb2
          have hb2 : ¬ b2 = 0 ↔ (((x4).toInt) = 38 ∨ ((x4).toInt) = 124 ∨ ((x4).toInt) = 94) := hb2
          dsimp only [Option.toList, List.cons_append, List.nil_append, Nat.beq, gI_sI, gI_sL, gI_sA, gI_sM, gL_sI, gL_sL, gL_sA, gL_sM, aI_sI, aI_sL, aI_sA, aI_sM, aL_sI, aL_sL, aL_sA, aL_sM]
          refine ⟨fun h3 => ?_, fun h3 => ?_⟩
          · have c3 : ¬ ((((x4).toInt) = 38 ∨ ((x4).toInt) = 124 ∨ ((x4).toInt) = 94)) := fun q => (hb2).mpr q h3
            exact hW _ 71 [(0, .ref 1000), (1, .int x1), (2, .int x2), (3, .int x3), (4, .int x4), (5, .int x5)] _ _ _ (by simp [rdl, rky, Value.category]) ((ih m1 hm1).2.2.2.2.2.2.2.1 x1 x2 x3 x4 x5 _ hz)
          · have c3 : (((x4).toInt) = 38 ∨ ((x4).toInt) = 124 ∨ ((x4).toInt) = 94) := (hb2).mp h3
            exact hW _ 67 [(0, .ref 1000), (1, .int x1), (2, .int x2), (3, .int x3), (4, .int x4), (5, .int x5)] _ _ _ (by simp [rdl, rky, Value.category]) ((ih m1 hm1).2.2.2.2.2.2.1 x1 x2 x3 x4 x5 _ hz)
        · intro x1 x2 x3 x4 x5 Y hz
          refine hB _ _ _ _ _ (fun m1 hm1 => ?_)
          dsimp only [ugo, uwp, ust, uct, rfd, Bbinary, Bbinary_67, Nat.beq, lv_args, rlk, rs1, rs2, rdl, rky, rcd, rno, rsw, Value.category, List.filter, List.take, List.drop, List.reverse, List.reverseAux, List.cons_append, List.nil_append, Option.toList, Int.toNat, Int.reduceToNat, if_pos, if_neg, reduceIte, ↓reduceIte, Nat.reduceAdd, Nat.reduceEqDiff, Nat.reduceBEq, beq_self_eq_true, Bool.not_true, Bool.not_false, Bool.and_true, Bool.and_false, Bool.true_and, Bool.false_and, gI_sI, gI_sL, gI_sA, gI_sM, gL_sI, gL_sL, gL_sA, gL_sM, aI_sI, aI_sL, aI_sA, aI_sM, aL_sI, aL_sL, aL_sA, aL_sM, oi_1]; try dsimp only
          exact hW _ 72 [(0, .ref 1000), (1, .int x1), (2, .int x2), (3, .int x3), (4, .int x4), (5, .int x5)] _ _ _ (by simp [rdl, rky, Value.category]) ((ih m1 hm1).2.2.2.2.2.2.2.2.1 x1 x2 x3 x4 x5 1 _ hz)
        · intro x1 x2 x3 x4 x5 Y hz
          refine hB _ _ _ _ _ (fun m1 hm1 => ?_)
          dsimp only [ugo, uwp, ust, uct, rfd, Bbinary, Bbinary_71, Nat.beq, lv_args, rlk, rs1, rs2, rdl, rky, rcd, rno, rsw, Value.category, List.filter, List.take, List.drop, List.reverse, List.reverseAux, List.cons_append, List.nil_append, Option.toList, Int.toNat, Int.reduceToNat, if_pos, if_neg, reduceIte, ↓reduceIte, Nat.reduceAdd, Nat.reduceEqDiff, Nat.reduceBEq, beq_self_eq_true, Bool.not_true, Bool.not_false, Bool.and_true, Bool.and_false, Bool.true_and, Bool.false_and, gI_sI, gI_sL, gI_sA, gI_sM, gL_sI, gL_sL, gL_sA, gL_sM, aI_sI, aI_sL, aI_sA, aI_sM, aL_sI, aL_sL, aL_sA, aL_sM, oi_0]; try dsimp only
          exact hW _ 72 [(0, .ref 1000), (1, .int x1), (2, .int x2), (3, .int x3), (4, .int x4), (5, .int x5)] _ _ _ (by simp [rdl, rky, Value.category]) ((ih m1 hm1).2.2.2.2.2.2.2.2.1 x1 x2 x3 x4 x5 0 _ hz)
        · intro x1 x2 x3 x4 x5 s0 Y hz
          refine hB _ _ _ _ _ (fun m1 hm1 => ?_)
          dsimp only [ugo, uwp, ust, uct, rfd, Bbinary, Bbinary_72, Nat.beq, lv_args, rlk, rs1, rs2, rdl, rky, rcd, rno, rsw, Value.category, List.filter, List.take, List.drop, List.reverse, List.reverseAux, List.cons_append, List.nil_append, Option.toList, Int.toNat, Int.reduceToNat, if_pos, if_neg, reduceIte, ↓reduceIte, Nat.reduceAdd, Nat.reduceEqDiff, Nat.reduceBEq, beq_self_eq_true, Bool.not_true, Bool.not_false, Bool.and_true, Bool.and_false, Bool.true_and, Bool.false_and, gI_sI, gI_sL, gI_sA, gI_sM, gL_sI, gL_sL, gL_sA, gL_sM, aI_sI, aI_sL, aI_sA, aI_sM, aL_sI, aL_sL, aL_sA, aL_sM]; try dsimp only
          refine ⟨trivial, fun w2 τ2 hq2 => ?_⟩
          obtain ⟨rfl, b2, rfl, hb2⟩ := hq2 trivial
          dsimp only [Option.toList, List.cons_append, List.nil_append, Nat.beq, gI_sI, gI_sL, gI_sA, gI_sM, gL_sI, gL_sL, gL_sA, gL_sM, aI_sI, aI_sL, aI_sA, aI_sM, aL_sI, aL_sL, aL_sA, aL_sM]
          refine ⟨fun h3 => ?_, fun h3 => ?_⟩
          · exact hW _ 90 [(0, .ref 1000), (1, .int x1), (2, .int x2), (3, .int x3), (4, .int x4), (5, .int x5), (6, .int s0)] _ _ _ (by simp [rdl, rky, Value.category]) ((ih m1 hm1).2.2.2.2.2.2.2.2.2.2.1 x1 x2 x3 x4 x5 s0 _ hz)
          · exact hW _ 82 [(0, .ref 1000), (1, .int x1), (2, .int x2), (3, .int x3), (4, .int x4), (5, .int x5), (6, .int s0)] _ _ _ (by simp [rdl, rky, Value.category]) ((ih m1 hm1).2.2.2.2.2.2.2.2.2.1 x1 x2 x3 x4 x5 s0 _ hz)
        · intro x1 x2 x3 x4 x5 x6 Y hz
          refine hB _ _ _ _ _ (fun m1 hm1 => ?_)
          dsimp only [ugo, uwp, ust, uct, rfd, Bbinary, Bbinary_82, Nat.beq, lv_args, rlk, rs1, rs2, rdl, rky, rcd, rno, rsw, Value.category, List.filter, List.take, List.drop, List.reverse, List.reverseAux, List.cons_append, List.nil_append, Option.toList, Int.toNat, Int.reduceToNat, if_pos, if_neg, reduceIte, ↓reduceIte, Nat.reduceAdd, Nat.reduceEqDiff, Nat.reduceBEq, beq_self_eq_true, Bool.not_true, Bool.not_false, Bool.and_true, Bool.and_false, Bool.true_and, Bool.false_and, gI_sI, gI_sL, gI_sA, gI_sM, gL_sI, gL_sL, gL_sA, gL_sM, aI_sI, aI_sL, aI_sA, aI_sM, aL_sI, aL_sL, aL_sA, aL_sM]; try dsimp only
          refine ⟨trivial, fun w2 τ2 hq2 => ?_⟩
          obtain ⟨rfl, b2, rfl, hb2⟩ := hq2 trivial
          dsimp only [Option.toList, List.cons_append, List.nil_append, Nat.beq, gI_sI, gI_sL, gI_sA, gI_sM, gL_sI, gL_sL, gL_sA, gL_sM, aI_sI, aI_sL, aI_sA, aI_sM, aL_sI, aL_sL, aL_sA, aL_sM]
          refine ⟨fun h3 => ?_, fun h3 => ?_⟩
          · exact hW _ 128 [(0, .ref 1000), (1, .int x1), (2, .int x2), (3, .int x3), (4, .int x4), (5, .int x5), (6, .int x6)] _ _ _ (by simp [rdl, rky, Value.category]) ((ih m1 hm1).2.2.2.2.2.2.2.2.2.2.2.2.2.2.2.1 x1 x2 x3 x4 x5 x6 _ hz)
          · exact hW _ 90 [(0, .ref 1000), (1, .int x1), (2, .int x2), (3, .int x3), (4, .int x4), (5, .int x5), (6, .int x6)] _ _ _ (by simp [rdl, rky, Value.category]) ((ih m1 hm1).2.2.2.2.2.2.2.2.2.2.1 x1 x2 x3 x4 x5 x6 _ hz)
        · intro x1 x2 x3 x4 x5 x6 Y hz
          refine hB _ _ _ _ _ (fun m1 hm1 => ?_)
          dsimp only [ugo, uwp, ust, uct, rfd, Bbinary, Bbinary_90, Nat.beq, lv_args, rlk, rs1, rs2, rdl, rky, rcd, rno, rsw, Value.category, List.filter, List.take, List.drop, List.reverse, List.reverseAux, List.cons_append, List.nil_append, Option.toList, Int.toNat, Int.reduceToNat, if_pos, if_neg, reduceIte, ↓reduceIte, Nat.reduceAdd, Nat.reduceEqDiff, Nat.reduceBEq, beq_self_eq_true, Bool.not_true, Bool.not_false, Bool.and_true, Bool.and_false, Bool.true_and, Bool.false_and, gI_sI, gI_sL, gI_sA, gI_sM, gL_sI, gL_sL, gL_sA, gL_sM, aI_sI, aI_sL, aI_sA, aI_sM, aL_sI, aL_sL, aL_sA, aL_sM]; try dsimp only
          refine ⟨trivial, fun w2 τ2 hq2 => ?_⟩
          obtain ⟨rfl, b2, rfl, hb2⟩ := hq2 trivial
          dsimp only [Option.toList, List.cons_append, List.nil_append, Nat.beq, gI_sI, gI_sL, gI_sA, gI_sM, gL_sI, gL_sL, gL_sA, gL_sM, aI_sI, aI_sL, aI_sA, aI_sM, aL_sI, aL_sL, aL_sA, aL_sM]
          refine ⟨fun h3 => ?_, fun h3 => ?_⟩
          · exact hW _ 106 [(0, .ref 1000), (1, .int x1), (2, .int x2), (3, .int x3), (4, .int x4), (5, .int x5), (6, .int x6)] _ _ _ (by simp [rdl, rky, Value.category]) ((ih m1 hm1).2.2.2.2.2.2.2.2.2.2.2.2.1 x1 x2 x3 x4 x5 x6 _ hz)
          · exact hW _ 98 [(0, .ref 1000), (1, .int x1), (2, .int x2), (3, .int x3), (4, .int x4), (5, .int x5), (6, .int x6)] _ _ _ (by simp [rdl, rky, Value.category]) ((ih m1 hm1).2.2.2.2.2.2.2.2.2.2.2.1 x1 x2 x3 x4 x5 x6 _ hz)
        · intro x1 x2 x3 x4 x5 x6 Y hz
          refine hB _ _ _ _ _ (fun m1 hm1 => ?_)
          dsimp only [ugo, uwp, ust, uct, rfd, Bbinary, Bbinary_98, Nat.beq, lv_args, rlk, rs1, rs2, rdl, rky, rcd, rno, rsw, Value.category, List.filter, List.take, List.drop, List.reverse, List.reverseAux, List.cons_append, List.nil_append, Option.toList, Int.toNat, Int.reduceToNat, if_pos, if_neg, reduceIte, ↓reduceIte, Nat.reduceAdd, Nat.reduceEqDiff, Nat.reduceBEq, beq_self_eq_true, Bool.not_true, Bool.not_false, Bool.and_true, Bool.and_false, Bool.true_and, Bool.false_and, gI_sI, gI_sL, gI_sA, gI_sM, gL_sI, gL_sL, gL_sA, gL_sM, aI_sI, aI_sL, aI_sA, aI_sM, aL_sI, aL_sL, aL_sA, aL_sM]; try dsimp only
          refine ⟨trivial, fun w2 τ2 hq2 => ?_⟩
          obtain ⟨hA2, b2, rfl, hb2⟩ := hq2 trivial
          have hz2 := hA2 hz
          dsimp only [Option.toList, List.cons_append, List.nil_append, Nat.beq, gI_sI, gI_sL, gI_sA, gI_sM, gL_sI, gL_sL, gL_sA, gL_sM, aI_sI, aI_sL, aI_sA, aI_sM, aL_sI, aL_sL, aL_sA, aL_sM]
          exact hW _ 106 [(0, .ref 1000), (1, .int x1), (2, .int x2), (3, .int x3), (4, .int x4), (5, .int x5), (6, .int x6)] _ _ _ (by simp [rdl, rky, Value.category]) ((ih m1 hm1).2.2.2.2.2.2.2.2.2.2.2.2.1 x1 x2 x3 x4 x5 x6 _ hz2)
        · intro x1 x2 x3 x4 x5 x6 Y hz
          refine hB _ _ _ _ _ (fun m1 hm1 => ?_)
          dsimp only [ugo, uwp, ust, uct, rfd, Bbinary, Bbinary_106, Nat.beq, lv_args, rlk, rs1, rs2, rdl, rky, rcd, rno, rsw, Value.category, List.filter, List.take, List.drop, List.reverse, List.reverseAux, List.cons_append, List.nil_append, Option.toList, Int.toNat, Int.reduceToNat, if_pos, if_neg, reduceIte, ↓reduceIte, Nat.reduceAdd, Nat.reduceEqDiff, Nat.reduceBEq, beq_self_eq_true, Bool.not_true, Bool.not_false, Bool.and_true, Bool.and_false, Bool.true_and, Bool.false_and, gI_sI, gI_sL, gI_sA, gI_sM, gL_sI, gL_sL, gL_sA, gL_sM, aI_sI, aI_sL, aI_sA, aI_sM, aL_sI, aL_sL, aL_sA, aL_sM]; try dsimp only
          refine ⟨trivial, fun w2 τ2 hq2 => ?_⟩
          obtain ⟨rfl, b2, rfl, hb2⟩ := hq2 trivial
          dsimp only [Option.toList, List.cons_append, List.nil_append, Nat.beq, gI_sI, gI_sL, gI_sA, gI_sM, gL_sI, gL_sL, gL_sA, gL_sM, aI_sI, aI_sL, aI_sA, aI_sM, aL_sI, aL_sL, aL_sA, aL_sM]
          refine ⟨fun h3 => ?_, fun h3 => ?_⟩
          · exact hW _ 122 [(0, .ref 1000), (1, .int x1), (2, .int x2), (3, .int x3), (4, .int x4), (5, .int x5), (6, .int x6)] _ _ _ (by simp [rdl, rky, Value.category]) ((ih m1 hm1).2.2.2.2.2.2.2.2.2.2.2.2.2.2.1 x1 x2 x3 x4 x5 x6 _ hz)
          · exact hW _ 114 [(0, .ref 1000), (1, .int x1), (2, .int x2), (3, .int x3), (4, .int x4), (5, .int x5), (6, .int x6)] _ _ _ (by simp [rdl, rky, Value.category]) ((ih m1 hm1).2.2.2.2.2.2.2.2.2.2.2.2.2.1 x1 x2 x3 x4 x5 x6 _ hz)
        · intro x1 x2 x3 x4 x5 x6 Y hz
          refine hB _ _ _ _ _ (fun m1 hm1 => ?_)
          dsimp only [ugo, uwp, ust, uct, rfd, Bbinary, Bbinary_114, Nat.beq, lv_args, rlk, rs1, rs2, rdl, rky, rcd, rno, rsw, Value.category, List.filter, List.take, List.drop, List.reverse, List.reverseAux, List.cons_append, List.nil_append, Option.toList, Int.toNat, Int.reduceToNat, if_pos, if_neg, reduceIte, ↓reduceIte, Nat.reduceAdd, Nat.reduceEqDiff, Nat.reduceBEq, beq_self_eq_true, Bool.not_true, Bool.not_false, Bool.and_true, Bool.and_false, Bool.true_and, Bool.false_and, gI_sI, gI_sL, gI_sA, gI_sM, gL_sI, gL_sL, gL_sA, gL_sM, aI_sI, aI_sL, aI_sA, aI_sM, aL_sI, aL_sL, aL_sA, aL_sM]; try dsimp only
          refine ⟨trivial, fun w2 τ2 hq2 => ?_⟩
          obtain ⟨hA2, b2, rfl, hb2⟩ := hq2 trivial
          have hz2 := hA2 hz
          dsimp only [Option.toList, List.cons_append, List.nil_append, Nat.beq, gI_sI, gI_sL, gI_sA, gI_sM, gL_sI, gL_sL, gL_sA, gL_sM, aI_sI, aI_sL, aI_sA, aI_sM, aL_sI, aL_sL, aL_sA, aL_sM]
          exact hW _ 122 [(0, .ref 1000), (1, .int x1), (2, .int x2), (3, .int x3), (4, .int x4), (5, .int x5), (6, .int x6)] _ _ _ (by simp [rdl, rky, Value.category]) ((ih m1 hm1).2.2.2.2.2.2.2.2.2.2.2.2.2.2.1 x1 x2 x3 x4 x5 x6 _ hz2)
        · intro x1 x2 x3 x4 x5 x6 Y hz
          refine hB _ _ _ _ _ (fun m1 hm1 => ?_)
          dsimp only [ugo, uwp, ust, uct, rfd, Bbinary, Bbinary_122, Nat.beq, lv_args, rlk, rs1, rs2, rdl, rky, rcd, rno, rsw, Value.category, List.filter, List.take, List.drop, List.reverse, List.reverseAux, List.cons_append, List.nil_append, Option.toList, Int.toNat, Int.reduceToNat, if_pos, if_neg, reduceIte, ↓reduceIte, Nat.reduceAdd, Nat.reduceEqDiff, Nat.reduceBEq, beq_self_eq_true, Bool.not_true, Bool.not_false, Bool.and_true, Bool.and_false, Bool.true_and, Bool.false_and, gI_sI, gI_sL, gI_sA, gI_sM, gL_sI, gL_sL, gL_sA, gL_sM, aI_sI, aI_sL, aI_sA, aI_sM, aL_sI, aL_sL, aL_sA, aL_sM]; try dsimp only
          refine ⟨trivial, fun w2 τ2 hq2 => ?_⟩
          obtain ⟨rfl, rfl⟩ := hq2 trivial
          dsimp only [Option.toList, List.cons_append, List.nil_append, Nat.beq, gI_sI, gI_sL, gI_sA, gI_sM, gL_sI, gL_sL, gL_sA, gL_sM, aI_sI, aI_sL, aI_sA, aI_sM, aL_sI, aL_sL, aL_sA, aL_sM]
          unfold Qv_binaryA
          try dsimp only
          exact ⟨rfl, hz⟩
        · intro x1 x2 x3 x4 x5 x6 Y hz
          refine hB _ _ _ _ _ (fun m1 hm1 => ?_)
          dsimp only [ugo, uwp, ust, uct, rfd, Bbinary, Bbinary_128, Nat.beq, lv_args, rlk, rs1, rs2, rdl, rky, rcd, rno, rsw, Value.category, List.filter, List.take, List.drop, List.reverse, List.reverseAux, List.cons_append, List.nil_append, Option.toList, Int.toNat, Int.reduceToNat, if_pos, if_neg, reduceIte, ↓reduceIte, Nat.reduceAdd, Nat.reduceEqDiff, Nat.reduceBEq, beq_self_eq_true, Bool.not_true, Bool.not_false, Bool.and_true, Bool.and_false, Bool.true_and, Bool.false_and, gI_sI, gI_sL, gI_sA, gI_sM, gL_sI, gL_sL, gL_sA, gL_sM, aI_sI, aI_sL, aI_sA, aI_sM, aL_sI, aL_sL, aL_sA, aL_sM]; try dsimp only
          refine ⟨trivial, fun w2 τ2 hq2 => ?_⟩
          obtain ⟨hA2, b2, rfl, hb2⟩ := hq2 trivial
          have hz2 := hA2 hz
          dsimp only [Option.toList, List.cons_append, List.nil_append, Nat.beq, gI_sI, gI_sL, gI_sA, gI_sM, gL_sI, gL_sL, gL_sA, gL_sM, aI_sI, aI_sL, aI_sA, aI_sM, aL_sI, aL_sL, aL_sA, aL_sM]
          refine ⟨fun h3 => ?_, fun h3 => ?_⟩
          · exact hW _ 156 [(0, .ref 1000), (1, .int x1), (2, .int x2), (3, .int x3), (4, .int x4), (5, .int x5), (6, .int x6)] _ _ _ (by simp [rdl, rky, Value.category]) ((ih m1 hm1).2.2.2.2.2.2.2.2.2.2.2.2.2.2.2.2.2.2.2.1 x1 x2 x3 x4 x5 x6 _ hz2)
          · exact hW _ 138 [(0, .ref 1000), (1, .int x1), (2, .int x2), (3, .int x3), (4, .int x4), (5, .int x5), (6, .int x6)] _ _ _ (by simp [rdl, rky, Value.category]) ((ih m1 hm1).2.2.2.2.2.2.2.2.2.2.2.2.2.2.2.2.1 x1 x2 x3 x4 x5 x6 _ hz2)
        · intro x1 x2 x3 x4 x5 x6 Y hz
          refine hB _ _ _ _ _ (fun m1 hm1 => ?_)
          dsimp only [ugo, uwp, ust, uct, rfd, Bbinary, Bbinary_138, Nat.beq, lv_args, rlk, rs1, rs2, rdl, rky, rcd, rno, rsw, Value.category, List.filter, List.take, List.drop, List.reverse, List.reverseAux, List.cons_append, List.nil_append, Option.toList, Int.toNat, Int.reduceToNat, if_pos, if_neg, reduceIte, ↓reduceIte, Nat.reduceAdd, Nat.reduceEqDiff, Nat.reduceBEq, beq_self_eq_true, Bool.not_true, Bool.not_false, Bool.and_true, Bool.and_false, Bool.true_and, Bool.false_and, gI_sI, gI_sL, gI_sA, gI_sM, gL_sI, gL_sL, gL_sA, gL_sM, aI_sI, aI_sL, aI_sA, aI_sM, aL_sI, aL_sL, aL_sA, aL_sM]; try dsimp only
          refine ⟨fun h2 => ?_, fun h2 => ?_⟩
          · exact hW _ 150 [(0, .ref 1000), (1, .int x1), (2, .int x2), (3, .int x3), (4, .int x4), (5, .int x5), (6, .int x6)] _ _ _ (by simp [rdl, rky, Value.category]) ((ih m1 hm1).2.2.2.2.2.2.2.2.2.2.2.2.2.2.2.2.2.2.1 x1 x2 x3 x4 x5 x6 _ hz)
          · exact hW _ 143 [(0, .ref 1000), (1, .int x1), (2, .int x2), (3, .int x3), (4, .int x4), (5, .int x5), (6, .int x6)] _ _ _ (by simp [rdl, rky, Value.category]) ((ih m1 hm1).2.2.2.2.2.2.2.2.2.2.2.2.2.2.2.2.2.1 x1 x2 x3 x4 x5 x6 _ hz)
        · intro x1 x2 x3 x4 x5 x6 Y hz
          refine hB _ _ _ _ _ (fun m1 hm1 => ?_)
          dsimp only [ugo, uwp, ust, uct, rfd, Bbinary, Bbinary_143, Nat.beq, lv_args, rlk, rs1, rs2, rdl, rky, rcd, rno, rsw, Value.category, List.filter, List.take, List.drop, List.reverse, List.reverseAux, List.cons_append, List.nil_append, Option.toList, Int.toNat, Int.reduceToNat, if_pos, if_neg, reduceIte, ↓reduceIte, Nat.reduceAdd, Nat.reduceEqDiff, Nat.reduceBEq, beq_self_eq_true, Bool.not_true, Bool.not_false, Bool.and_true, Bool.and_false, Bool.true_and, Bool.false_and, gI_sI, gI_sL, gI_sA, gI_sM, gL_sI, gL_sL, gL_sA, gL_sM, aI_sI, aI_sL, aI_sA, aI_sM, aL_sI, aL_sL, aL_sA, aL_sM, oi_0]; try dsimp only
          refine ⟨trivial, fun w2 τ2 hq2 => ?_⟩
          obtain ⟨hA2, b2, rfl, hb2⟩ := hq2 trivial
          have hz2 := hA2 hz
          dsimp only [Option.toList, List.cons_append, List.nil_append, Nat.beq, gI_sI, gI_sL, gI_sA, gI_sM, gL_sI, gL_sL, gL_sA, gL_sM, aI_sI, aI_sL, aI_sA, aI_sM, aL_sI, aL_sL, aL_sA, aL_sM]
          exact hW _ 150 [(0, .ref 1000), (1, .int x1), (2, .int x2), (3, .int x3), (4, .int x4), (5, .int x5), (6, .int x6)] _ _ _ (by simp [rdl, rky, Value.category]) ((ih m1 hm1).2.2.2.2.2.2.2.2.2.2.2.2.2.2.2.2.2.2.1 x1 x2 x3 x4 x5 x6 _ hz2)
        · intro x1 x2 x3 x4 x5 x6 Y hz
          refine hB _ _ _ _ _ (fun m1 hm1 => ?_)
          dsimp only [ugo, uwp, ust, uct, rfd, Bbinary, Bbinary_150, Nat.beq, lv_args, rlk, rs1, rs2, rdl, rky, rcd, rno, rsw, Value.category, List.filter, List.take, List.drop, List.reverse, List.reverseAux, List.cons_append, List.nil_append, Option.toList, Int.toNat, Int.reduceToNat, if_pos, if_neg, reduceIte, ↓reduceIte, Nat.reduceAdd, Nat.reduceEqDiff, Nat.reduceBEq, beq_self_eq_true, Bool.not_true, Bool.not_false, Bool.and_true, Bool.and_false, Bool.true_and, Bool.false_and, gI_sI, gI_sL, gI_sA, gI_sM, gL_sI, gL_sL, gL_sA, gL_sM, aI_sI, aI_sL, aI_sA, aI_sM, aL_sI, aL_sL, aL_sA, aL_sM]; try dsimp only
          refine ⟨trivial, fun w2 τ2 hq2 => ?_⟩
          obtain ⟨rfl, rfl⟩ := hq2 trivial
          dsimp only [Option.toList, List.cons_append, List.nil_append, Nat.beq, gI_sI, gI_sL, gI_sA, gI_sM, gL_sI, gL_sL, gL_sA, gL_sM, aI_sI, aI_sL, aI_sA, aI_sM, aL_sI, aL_sL, aL_sA, aL_sM]
          unfold Qv_binaryA
          try dsimp only
          exact ⟨rfl, hz⟩
        · intro x1 x2 x3 x4 x5 x6 Y hz
          refine hB _ _ _ _ _ (fun m1 hm1 => ?_)
          dsimp only [ugo, uwp, ust, uct, rfd, Bbinary, Bbinary_156, Nat.beq, lv_args, rlk, rs1, rs2, rdl, rky, rcd, rno, rsw, Value.category, List.filter, List.take, List.drop, List.reverse, List.reverseAux, List.cons_append, List.nil_append, Option.toList, Int.toNat, Int.reduceToNat, if_pos, if_neg, reduceIte, ↓reduceIte, Nat.reduceAdd, Nat.reduceEqDiff, Nat.reduceBEq, beq_self_eq_true, Bool.not_true, Bool.not_false, Bool.and_true, Bool.and_false, Bool.true_and, Bool.false_and, gI_sI, gI_sL, gI_sA, gI_sM, gL_sI, gL_sL, gL_sA, gL_sM, aI_sI, aI_sL, aI_sA, aI_sM, aL_sI, aL_sL, aL_sA, aL_sM]; try dsimp only
          refine ⟨fun h2 => ?_, fun h2 => ?_⟩
          · exact hW _ 186 [(0, .ref 1000), (1, .int x1), (2, .int x2), (3, .int x3), (4, .int x4), (5, .int x5), (6, .int x6)] _ _ _ (by simp [rdl, rky, Value.category]) ((ih m1 hm1).2.2.2.2.2.2.2.2.2.2.2.2.2.2.2.2.2.2.2.2.2.2.2.2.2.1 x1 x2 x3 x4 x5 x6 _ hz)
          · exact hW _ 161 [(0, .ref 1000), (1, .int x1), (2, .int x2), (3, .int x3), (4, .int x4), (5, .int x5), (6, .int x6)] _ _ _ (by simp [rdl, rky, Value.category]) ((ih m1 hm1).2.2.2.2.2.2.2.2.2.2.2.2.2.2.2.2.2.2.2.2.1 x1 x2 x3 x4 x5 x6 _ hz)
        · intro x1 x2 x3 x4 x5 x6 Y hz
          refine hB _ _ _ _ _ (fun m1 hm1 => ?_)
          dsimp only [ugo, uwp, ust, uct, rfd, Bbinary, Bbinary_161, Nat.beq, lv_args, rlk, rs1, rs2, rdl, rky, rcd, rno, rsw, Value.category, List.filter, List.take, List.drop, List.reverse, List.reverseAux, List.cons_append, List.nil_append, Option.toList, Int.toNat, Int.reduceToNat, if_pos, if_neg, reduceIte, ↓reduceIte, Nat.reduceAdd, Nat.reduceEqDiff, Nat.reduceBEq, beq_self_eq_true, Bool.not_true, Bool.not_false, Bool.and_true, Bool.and_false, Bool.true_and, Bool.false_and, gI_sI, gI_sL, gI_sA, gI_sM, gL_sI, gL_sL, gL_sA, gL_sM, aI_sI, aI_sL, aI_sA, aI_sM, aL_sI, aL_sL, aL_sA, aL_sM]; try dsimp only
          intro p2
          refine ⟨fun h3 => ?_, fun h3 => ?_⟩
          · exact hW _ 176 [(0, .ref 1000), (1, .int x1), (2, .int x2), (3, .int x3), (4, .int x4), (5, .int x5), (6, .int x6)] _ _ _ (by simp [rdl, rky, Value.category]) ((ih m1 hm1).2.2.2.2.2.2.2.2.2.2.2.2.2.2.2.2.2.2.2.2.2.2.1 x1 x2 x3 x4 x5 x6 x3 _ hz)
          · exact hW _ 172 [(0, .ref 1000), (1, .int x1), (2, .int x2), (3, .int x3), (4, .int x4), (5, .int x5), (6, .int x6)] _ _ _ (by simp [rdl, rky, Value.category]) ((ih m1 hm1).2.2.2.2.2.2.2.2.2.2.2.2.2.2.2.2.2.2.2.2.2.1 x1 x2 x3 x4 x5 x6 x3 _ hz)
        · intro x1 x2 x3 x4 x5 x6 s0 Y hz
          refine hB _ _ _ _ _ (fun m1 hm1 => ?_)
          dsimp only [ugo, uwp, ust, uct, rfd, Bbinary, Bbinary_172, Nat.beq, lv_args, rlk, rs1, rs2, rdl, rky, rcd, rno, rsw, Value.category, List.filter, List.take, List.drop, List.reverse, List.reverseAux, List.cons_append, List.nil_append, Option.toList, Int.toNat, Int.reduceToNat, if_pos, if_neg, reduceIte, ↓reduceIte, Nat.reduceAdd, Nat.reduceEqDiff, Nat.reduceBEq, beq_self_eq_true, Bool.not_true, Bool.not_false, Bool.and_true, Bool.and_false, Bool.true_and, Bool.false_and, gI_sI, gI_sL, gI_sA, gI_sM, gL_sI, gL_sL, gL_sA, gL_sM, aI_sI, aI_sL, aI_sA, aI_sM, aL_sI, aL_sL, aL_sA, aL_sM, oi_0]; try dsimp only
          exact hW _ 177 [(0, .ref 1000), (1, .int x1), (2, .int x2), (3, .int x3), (4, .int x4), (5, .int x5), (6, .int x6)] _ _ _ (by simp [rdl, rky, Value.category]) ((ih m1 hm1).2.2.2.2.2.2.2.2.2.2.2.2.2.2.2.2.2.2.2.2.2.2.2.1 x1 x2 x3 x4 x5 x6 0 s0 _ hz)
        · intro x1 x2 x3 x4 x5 x6 s0 Y hz
          refine hB _ _ _ _ _ (fun m1 hm1 => ?_)
          dsimp only [ugo, uwp, ust, uct, rfd, Bbinary, Bbinary_176, Nat.beq, lv_args, rlk, rs1, rs2, rdl, rky, rcd, rno, rsw, Value.category, List.filter, List.take, List.drop, List.reverse, List.reverseAux, List.cons_append, List.nil_append, Option.toList, Int.toNat, Int.reduceToNat, if_pos, if_neg, reduceIte, ↓reduceIte, Nat.reduceAdd, Nat.reduceEqDiff, Nat.reduceBEq, beq_self_eq_true, Bool.not_true, Bool.not_false, Bool.and_true, Bool.and_false, Bool.true_and, Bool.false_and, gI_sI, gI_sL, gI_sA, gI_sM, gL_sI, gL_sL, gL_sA, gL_sM, aI_sI, aI_sL, aI_sA, aI_sM, aL_sI, aL_sL, aL_sA, aL_sM, oi_1]; try dsimp only
          exact hW _ 177 [(0, .ref 1000), (1, .int x1), (2, .int x2), (3, .int x3), (4, .int x4), (5, .int x5), (6, .int x6)] _ _ _ (by simp [rdl, rky, Value.category]) ((ih m1 hm1).2.2.2.2.2.2.2.2.2.2.2.2.2.2.2.2.2.2.2.2.2.2.2.1 x1 x2 x3 x4 x5 x6 1 s0 _ hz)
        · intro x1 x2 x3 x4 x5 x6 s0 s1 Y hz
          refine hB _ _ _ _ _ (fun m1 hm1 => ?_)
          dsimp only [ugo, uwp, ust, uct, rfd, Bbinary, Bbinary_177, Nat.beq, lv_args, rlk, rs1, rs2, rdl, rky, rcd, rno, rsw, Value.category, List.filter, List.take, List.drop, List.reverse, List.reverseAux, List.cons_append, List.nil_append, Option.toList, Int.toNat, Int.reduceToNat, if_pos, if_neg, reduceIte, ↓reduceIte, Nat.reduceAdd, Nat.reduceEqDiff, Nat.reduceBEq, beq_self_eq_true, Bool.not_true, Bool.not_false, Bool.and_true, Bool.and_false, Bool.true_and, Bool.false_and, gI_sI, gI_sL, gI_sA, gI_sM, gL_sI, gL_sL, gL_sA, gL_sM, aI_sI, aI_sL, aI_sA, aI_sM, aL_sI, aL_sL, aL_sA, aL_sM]; try dsimp only
          refine ⟨trivial, fun w2 τ2 hq2 => ?_⟩
          obtain ⟨hA2, b2, rfl, hb2⟩ := hq2 trivial
          have hz2 := hA2 hz
          dsimp only [Option.toList, List.cons_append, List.nil_append, Nat.beq, gI_sI, gI_sL, gI_sA, gI_sM, gL_sI, gL_sL, gL_sA, gL_sM, aI_sI, aI_sL, aI_sA, aI_sM, aL_sI, aL_sL, aL_sA, aL_sM]
          refine ⟨fun h3 => ?_, fun h3 => ?_⟩
          · exact hW _ 201 [(0, .ref 1000), (1, .int x1), (2, .int x2), (3, .int x3), (4, .int x4), (5, .int x5), (6, .int x6)] _ _ _ (by simp [rdl, rky, Value.category]) ((ih m1 hm1).2.2.2.2.2.2.2.2.2.2.2.2.2.2.2.2.2.2.2.2.2.2.2.2.2.2.2.1 x1 x2 x3 x4 x5 x6 _ hz2)
          · exact hW _ 183 [(0, .ref 1000), (1, .int x1), (2, .int x2), (3, .int x3), (4, .int x4), (5, .int x5), (6, .int x6)] _ _ _ (by simp [rdl, rky, Value.category]) ((ih m1 hm1).2.2.2.2.2.2.2.2.2.2.2.2.2.2.2.2.2.2.2.2.2.2.2.2.1 x1 x2 x3 x4 x5 x6 _ hz2)
        · intro x1 x2 x3 x4 x5 x6 Y hz
          refine hB _ _ _ _ _ (fun m1 hm1 => ?_)
          dsimp only [ugo, uwp, ust, uct, rfd, Bbinary, Bbinary_183, Nat.beq, lv_args, rlk, rs1, rs2, rdl, rky, rcd, rno, rsw, Value.category, List.filter, List.take, List.drop, List.reverse, List.reverseAux, List.cons_append, List.nil_append, Option.toList, Int.toNat, Int.reduceToNat, if_pos, if_neg, reduceIte, ↓reduceIte, Nat.reduceAdd, Nat.reduceEqDiff, Nat.reduceBEq, beq_self_eq_true, Bool.not_true, Bool.not_false, Bool.and_true, Bool.and_false, Bool.true_and, Bool.false_and, gI_sI, gI_sL, gI_sA, gI_sM, gL_sI, gL_sL, gL_sA, gL_sM, aI_sI, aI_sL, aI_sA, aI_sM, aL_sI, aL_sL, aL_sA, aL_sM]; try dsimp only
          exact hW _ 195 [(0, .ref 1000), (1, .int x1), (2, .int x2), (3, .int x3), (4, .int x4), (5, .int x5), (6, .int x6)] _ _ _ (by simp [rdl, rky, Value.category]) ((ih m1 hm1).2.2.2.2.2.2.2.2.2.2.2.2.2.2.2.2.2.2.2.2.2.2.2.2.2.2.1 x1 x2 x3 x4 x5 x6 _ hz)
        · intro x1 x2 x3 x4 x5 x6 Y hz
          refine hB _ _ _ _ _ (fun m1 hm1 => ?_)
          dsimp only [ugo, uwp, ust, uct, rfd, Bbinary, Bbinary_186, Nat.beq, lv_args, rlk, rs1, rs2, rdl, rky, rcd, rno, rsw, Value.category, List.filter, List.take, List.drop, List.reverse, List.reverseAux, List.cons_append, List.nil_append, Option.toList, Int.toNat, Int.reduceToNat, if_pos, if_neg, reduceIte, ↓reduceIte, Nat.reduceAdd, Nat.reduceEqDiff, Nat.reduceBEq, beq_self_eq_true, Bool.not_true, Bool.not_false, Bool.and_true, Bool.and_false, Bool.true_and, Bool.false_and, gI_sI, gI_sL, gI_sA, gI_sM, gL_sI, gL_sL, gL_sA, gL_sM, aI_sI, aI_sL, aI_sA, aI_sM, aL_sI, aL_sL, aL_sA, aL_sM, oi_0]; try dsimp only
          refine ⟨trivial, fun w2 τ2 hq2 => ?_⟩
          obtain ⟨hA2, b2, rfl, hb2⟩ := hq2 trivial
          have hz2 := hA2 hz
          dsimp only [Option.toList, List.cons_append, List.nil_append, Nat.beq, gI_sI, gI_sL, gI_sA, gI_sM, gL_sI, gL_sL, gL_sA, gL_sM, aI_sI, aI_sL, aI_sA, aI_sM, aL_sI, aL_sL, aL_sA, aL_sM]
          refine ⟨fun h3 => ?_, fun h3 => ?_⟩
          · exact hW _ 201 [(0, .ref 1000), (1, .int x1), (2, .int x2), (3, .int x3), (4, .int x4), (5, .int x5), (6, .int x6)] _ _ _ (by simp [rdl, rky, Value.category]) ((ih m1 hm1).2.2.2.2.2.2.2.2.2.2.2.2.2.2.2.2.2.2.2.2.2.2.2.2.2.2.2.1 x1 x2 x3 x4 x5 x6 _ hz2)
          · exact hW _ 195 [(0, .ref 1000), (1, .int x1), (2, .int x2), (3, .int x3), (4, .int x4), (5, .int x5), (6, .int x6)] _ _ _ (by simp [rdl, rky, Value.category]) ((ih m1 hm1).2.2.2.2.2.2.2.2.2.2.2.2.2.2.2.2.2.2.2.2.2.2.2.2.2.2.1 x1 x2 x3 x4 x5 x6 _ hz2)
        · intro x1 x2 x3 x4 x5 x6 Y hz
          refine hB _ _ _ _ _ (fun m1 hm1 => ?_)
          dsimp only [ugo, uwp, ust, uct, rfd, Bbinary, Bbinary_195, Nat.beq, lv_args, rlk, rs1, rs2, rdl, rky, rcd, rno, rsw, Value.category, List.filter, List.take, List.drop, List.reverse, List.reverseAux, List.cons_append, List.nil_append, Option.toList, Int.toNat, Int.reduceToNat, if_pos, if_neg, reduceIte, ↓reduceIte, Nat.reduceAdd, Nat.reduceEqDiff, Nat.reduceBEq, beq_self_eq_true, Bool.not_true, Bool.not_false, Bool.and_true, Bool.and_false, Bool.true_and, Bool.false_and, gI_sI, gI_sL, gI_sA, gI_sM, gL_sI, gL_sL, gL_sA, gL_sM, aI_sI, aI_sL, aI_sA, aI_sM, aL_sI, aL_sL, aL_sA, aL_sM]; try dsimp only
          refine ⟨trivial, fun w2 τ2 hq2 => ?_⟩
          obtain ⟨rfl, rfl⟩ := hq2 trivial
          dsimp only [Option.toList, List.cons_append, List.nil_append, Nat.beq, gI_sI, gI_sL, gI_sA, gI_sM, gL_sI, gL_sL, gL_sA, gL_sM, aI_sI, aI_sL, aI_sA, aI_sM, aL_sI, aL_sL, aL_sA, aL_sM]
          unfold Qv_binaryA
          try dsimp only
          exact ⟨rfl, hz⟩
        · intro x1 x2 x3 x4 x5 x6 Y hz
          refine hB _ _ _ _ _ (fun m1 hm1 => ?_)
          dsimp only [ugo, uwp, ust, uct, rfd, Bbinary, Bbinary_201, Nat.beq, lv_args, rlk, rs1, rs2, rdl, rky, rcd, rno, rsw, Value.category, List.filter, List.take, List.drop, List.reverse, List.reverseAux, List.cons_append, List.nil_append, Option.toList, Int.toNat, Int.reduceToNat, if_pos, if_neg, reduceIte, ↓reduceIte, Nat.reduceAdd, Nat.reduceEqDiff, Nat.reduceBEq, beq_self_eq_true, Bool.not_true, Bool.not_false, Bool.and_true, Bool.and_false, Bool.true_and, Bool.false_and, gI_sI, gI_sL, gI_sA, gI_sM, gL_sI, gL_sL, gL_sA, gL_sM, aI_sI, aI_sL, aI_sA, aI_sM, aL_sI, aL_sL, aL_sA, aL_sM]; try dsimp only
          intro p2
          refine ⟨fun h3 => ?_, fun h3 => ?_⟩
          · exact hW _ 214 [(0, .ref 1000), (1, .int x1), (2, .int x2), (3, .int x3), (4, .int x4), (5, .int x5), (6, .int x6)] _ _ _ (by simp [rdl, rky, Value.category]) ((ih m1 hm1).2.2.2.2.2.2.2.2.2.2.2.2.2.2.2.2.2.2.2.2.2.2.2.2.2.2.2.2.2.1 x1 x2 x3 x4 x5 x6 _ hz)
          · exact hW _ 210 [(0, .ref 1000), (1, .int x1), (2, .int x2), (3, .int x3), (4, .int x4), (5, .int x5), (6, .int x6)] _ _ _ (by simp [rdl, rky, Value.category]) ((ih m1 hm1).2.2.2.2.2.2.2.2.2.2.2.2.2.2.2.2.2.2.2.2.2.2.2.2.2.2.2.2.1 x1 x2 x3 x4 x5 x6 _ hz)
        · intro x1 x2 x3 x4 x5 x6 Y hz
          refine hB _ _ _ _ _ (fun m1 hm1 => ?_)
          dsimp only [ugo, uwp, ust, uct, rfd, Bbinary, Bbinary_210, Nat.beq, lv_args, rlk, rs1, rs2, rdl, rky, rcd, rno, rsw, Value.category, List.filter, List.take, List.drop, List.reverse, List.reverseAux, List.cons_append, List.nil_append, Option.toList, Int.toNat, Int.reduceToNat, if_pos, if_neg, reduceIte, ↓reduceIte, Nat.reduceAdd, Nat.reduceEqDiff, Nat.reduceBEq, beq_self_eq_true, Bool.not_true, Bool.not_false, Bool.and_true, Bool.and_false, Bool.true_and, Bool.false_and, gI_sI, gI_sL, gI_sA, gI_sM, gL_sI, gL_sL, gL_sA, gL_sM, aI_sI, aI_sL, aI_sA, aI_sM, aL_sI, aL_sL, aL_sA, aL_sM, oi_0]; try dsimp only
          exact hW _ 261 [(0, .ref 1000), (1, .int x1), (2, .int x2), (3, .int x3), (4, .int x4), (5, .int x5), (6, .int x6)] _ _ _ (by simp [rdl, rky, Value.category]) ((ih m1 hm1).2.2.2.2.2.2.2.2.2.2.2.2.2.2.2.2.2.2.2.2.2.2.2.2.2.2.2.2.2.2.2.2.2.2.2.1 x1 x2 x3 x4 x5 x6 0 _ hz)
        · intro x1 x2 x3 x4 x5 x6 Y hz
          refine hB _ _ _ _ _ (fun m1 hm1 => ?_)
          dsimp only [ugo, uwp, ust, uct, rfd, Bbinary, Bbinary_214, Nat.beq, lv_args, rlk, rs1, rs2, rdl, rky, rcd, rno, rsw, Value.category, List.filter, List.take, List.drop, List.reverse, List.reverseAux, List.cons_append, List.nil_append, Option.toList, Int.toNat, Int.reduceToNat, if_pos, if_neg, reduceIte, ↓reduceIte, Nat.reduceAdd, Nat.reduceEqDiff, Nat.reduceBEq, beq_self_eq_true, Bool.not_true, Bool.not_false, Bool.and_true, Bool.and_false, Bool.true_and, Bool.false_and, gI_sI, gI_sL, gI_sA, gI_sM, gL_sI, gL_sL, gL_sA, gL_sM, aI_sI, aI_sL, aI_sA, aI_sM, aL_sI, aL_sL, aL_sA, aL_sM]; try dsimp only
          refine ⟨trivial, fun w2 τ2 hq2 => ?_⟩
          obtain ⟨rfl, b2, rfl, hb2⟩ := hq2 trivial
          try rw [show (x4).toInt = (x4).toInt from (rfl : (x4).toInt = (x4).toInt)] at hb2
          have hb2 : ¬ b2 = 0 ↔ (((x4).toInt) = 304 ∨ ((x4).toInt) = 305 ∨ ((x4).toInt) = 306) := hb2
          dsimp only [Option.toList, List.cons_append, List.nil_append, Nat.beq, gI_sI, gI_sL, gI_sA, gI_sM, gL_sI, gL_sL, gL_sA, gL_sM, aI_sI, aI_sL, aI_sA, aI_sM, aL_sI, aL_sL, aL_sA, aL_sM]
          refine ⟨fun h3 => ?_, fun h3 => ?_⟩
          · have c3 : ¬ ((((x4).toInt) = 304 ∨ ((x4).toInt) = 305 ∨ ((x4).toInt) = 306)) := fun q => (hb2).mpr q h3
            exact hW _ 236 [(0, .ref 1000), (1, .int x1), (2, .int x2), (3, .int x3), (4, .int x4), (5, .int x5), (6, .int x6)] _ _ _ (by simp [rdl, rky, Value.category]) ((ih m1 hm1).2.2.2.2.2.2.2.2.2.2.2.2.2.2.2.2.2.2.2.2.2.2.2.2.2.2.2.2.2.2.2.1 x1 x2 x3 x4 x5 x6 _ hz)
          · have c3 : (((x4).toInt) = 304 ∨ ((x4).toInt) = 305 ∨ ((x4).toInt) = 306) := (hb2).mp h3
            exact hW _ 223 [(0, .ref 1000), (1, .int x1), (2, .int x2), (3, .int x3), (4, .int x4), (5, .int x5), (6, .int x6)] _ _ _ (by simp [rdl, rky, Value.category]) ((ih m1 hm1).2.2.2.2.2.2.2.2.2.2.2.2.2.2.2.2.2.2.2.2.2.2.2.2.2.2.2.2.2.2.1 x1 x2 x3 x4 x5 x6 _ hz)
        · intro x1 x2 x3 x4 x5 x6 Y hz
          refine hB _ _ _ _ _ (fun m1 hm1 => ?_)
          dsimp only [ugo, uwp, ust, uct, rfd, Bbinary, Bbinary_223, Nat.beq, lv_args, rlk, rs1, rs2, rdl, rky, rcd, rno, rsw, Value.category, List.filter, List.take, List.drop, List.reverse, List.reverseAux, List.cons_append, List.nil_append, Option.toList, Int.toNat, Int.reduceToNat, if_pos, if_neg, reduceIte, ↓reduceIte, Nat.reduceAdd, Nat.reduceEqDiff, Nat.reduceBEq, beq_self_eq_true, Bool.not_true, Bool.not_false, Bool.and_true, Bool.and_false, Bool.true_and, Bool.false_and, gI_sI, gI_sL, gI_sA, gI_sM, gL_sI, gL_sL, gL_sA, gL_sM, aI_sI, aI_sL, aI_sA, aI_sM, aL_sI, aL_sL, aL_sA, aL_sM]; try dsimp only
          intro p2
          refine ⟨trivial, fun w3 τ3 hq3 => ?_⟩
          obtain ⟨rfl, r3, rfl, hr3⟩ := hq3 trivial
          try rw [show (((aI Y 70) (x2).toNatClampNeg)).toInt = (((aI Y 70) (x2).toNatClampNeg)).toInt from (rfl : (((aI Y 70) (x2).toNatClampNeg)).toInt = (((aI Y 70) (x2).toNatClampNeg)).toInt)] at hr3
          have hr3 : r3.toInt = pmT ((((aI Y 70) (x2).toNatClampNeg)).toInt) := hr3
          dsimp only [Option.toList, List.cons_append, List.nil_append, Nat.beq, gI_sI, gI_sL, gI_sA, gI_sM, gL_sI, gL_sL, gL_sA, gL_sM, aI_sI, aI_sL, aI_sA, aI_sM, aL_sI, aL_sL, aL_sA, aL_sM]
          exact hW _ 261 [(0, .ref 1000), (1, .int x1), (2, .int x2), (3, .int x3), (4, .int x4), (5, .int x5), (6, .int x6)] _ _ _ (by simp [rdl, rky, Value.category]) ((ih m1 hm1).2.2.2.2.2.2.2.2.2.2.2.2.2.2.2.2.2.2.2.2.2.2.2.2.2.2.2.2.2.2.2.2.2.2.2.1 x1 x2 x3 x4 x5 x6 r3 _ hz)
        · intro x1 x2 x3 x4 x5 x6 Y hz
          refine hB _ _ _ _ _ (fun m1 hm1 => ?_)
          dsimp only [ugo, uwp, ust, uct, rfd, Bbinary, Bbinary_236, Nat.beq, lv_args, rlk, rs1, rs2, rdl, rky, rcd, rno, rsw, Value.category, List.filter, List.take, List.drop, List.reverse, List.reverseAux, List.cons_append, List.nil_append, Option.toList, Int.toNat, Int.reduceToNat, if_pos, if_neg, reduceIte, ↓reduceIte, Nat.reduceAdd, Nat.reduceEqDiff, Nat.reduceBEq, beq_self_eq_true, Bool.not_true, Bool.not_false, Bool.and_true, Bool.and_false, Bool.true_and, Bool.false_and, gI_sI, gI_sL, gI_sA, gI_sM, gL_sI, gL_sL, gL_sA, gL_sM, aI_sI, aI_sL, aI_sA, aI_sM, aL_sI, aL_sL, aL_sA, aL_sM, oi_4]; try dsimp only
          intro p2
          refine ⟨fun h3 => ?_, fun h3 => ?_⟩
          · exact hW _ 256 [(0, .ref 1000), (1, .int x1), (2, .int x2), (3, .int x3), (4, .int x4), (5, .int x5), (6, .int x6)] _ _ _ (by simp [rdl, rky, Value.category]) ((ih m1 hm1).2.2.2.2.2.2.2.2.2.2.2.2.2.2.2.2.2.2.2.2.2.2.2.2.2.2.2.2.2.2.2.2.2.1 x1 x2 x3 x4 x5 x6 _ hz)
          · exact hW _ 246 [(0, .ref 1000), (1, .int x1), (2, .int x2), (3, .int x3), (4, .int x4), (5, .int x5), (6, .int x6)] _ _ _ (by simp [rdl, rky, Value.category]) ((ih m1 hm1).2.2.2.2.2.2.2.2.2.2.2.2.2.2.2.2.2.2.2.2.2.2.2.2.2.2.2.2.2.2.2.2.1 x1 x2 x3 x4 x5 x6 _ hz)
        · intro x1 x2 x3 x4 x5 x6 Y hz
          refine hB _ _ _ _ _ (fun m1 hm1 => ?_)
          dsimp only [ugo, uwp, ust, uct, rfd, Bbinary, Bbinary_246, Nat.beq, lv_args, rlk, rs1, rs2, rdl, rky, rcd, rno, rsw, Value.category, List.filter, List.take, List.drop, List.reverse, List.reverseAux, List.cons_append, List.nil_append, Option.toList, Int.toNat, Int.reduceToNat, if_pos, if_neg, reduceIte, ↓reduceIte, Nat.reduceAdd, Nat.reduceEqDiff, Nat.reduceBEq, beq_self_eq_true, Bool.not_true, Bool.not_false, Bool.and_true, Bool.and_false, Bool.true_and, Bool.false_and, gI_sI, gI_sL, gI_sA, gI_sM, gL_sI, gL_sL, gL_sA, gL_sM, aI_sI, aI_sL, aI_sA, aI_sM, aL_sI, aL_sL, aL_sA, aL_sM, oi_4]; try dsimp only
          intro p2
          refine ⟨fun h3 => ?_, fun h3 => ?_⟩
          · exact hW _ 260 [(0, .ref 1000), (1, .int x1), (2, .int x2), (3, .int x3), (4, .int x4), (5, .int x5), (6, .int x6)] _ _ _ (by simp [rdl, rky, Value.category]) ((ih m1 hm1).2.2.2.2.2.2.2.2.2.2.2.2.2.2.2.2.2.2.2.2.2.2.2.2.2.2.2.2.2.2.2.2.2.2.1 x1 x2 x3 x4 x5 x6 _ hz)
          · exact hW _ 256 [(0, .ref 1000), (1, .int x1), (2, .int x2), (3, .int x3), (4, .int x4), (5, .int x5), (6, .int x6)] _ _ _ (by simp [rdl, rky, Value.category]) ((ih m1 hm1).2.2.2.2.2.2.2.2.2.2.2.2.2.2.2.2.2.2.2.2.2.2.2.2.2.2.2.2.2.2.2.2.2.1 x1 x2 x3 x4 x5 x6 _ hz)
        · intro x1 x2 x3 x4 x5 x6 Y hz
          refine hB _ _ _ _ _ (fun m1 hm1 => ?_)
          dsimp only [ugo, uwp, ust, uct, rfd, Bbinary, Bbinary_256, Nat.beq, lv_args, rlk, rs1, rs2, rdl, rky, rcd, rno, rsw, Value.category, List.filter, List.take, List.drop, List.reverse, List.reverseAux, List.cons_append, List.nil_append, Option.toList, Int.toNat, Int.reduceToNat, if_pos, if_neg, reduceIte, ↓reduceIte, Nat.reduceAdd, Nat.reduceEqDiff, Nat.reduceBEq, beq_self_eq_true, Bool.not_true, Bool.not_false, Bool.and_true, Bool.and_false, Bool.true_and, Bool.false_and, gI_sI, gI_sL, gI_sA, gI_sM, gL_sI, gL_sL, gL_sA, gL_sM, aI_sI, aI_sL, aI_sA, aI_sM, aL_sI, aL_sL, aL_sA, aL_sM, oi_4]; try dsimp only
          exact hW _ 261 [(0, .ref 1000), (1, .int x1), (2, .int x2), (3, .int x3), (4, .int x4), (5, .int x5), (6, .int x6)] _ _ _ (by simp [rdl, rky, Value.category]) ((ih m1 hm1).2.2.2.2.2.2.2.2.2.2.2.2.2.2.2.2.2.2.2.2.2.2.2.2.2.2.2.2.2.2.2.2.2.2.2.1 x1 x2 x3 x4 x5 x6 4 _ hz)
        · intro x1 x2 x3 x4 x5 x6 Y hz
          refine hB _ _ _ _ _ (fun m1 hm1 => ?_)
          dsimp only [ugo, uwp, ust, uct, rfd, Bbinary, Bbinary_260, Nat.beq, lv_args, rlk, rs1, rs2, rdl, rky, rcd, rno, rsw, Value.category, List.filter, List.take, List.drop, List.reverse, List.reverseAux, List.cons_append, List.nil_append, Option.toList, Int.toNat, Int.reduceToNat, if_pos, if_neg, reduceIte, ↓reduceIte, Nat.reduceAdd, Nat.reduceEqDiff, Nat.reduceBEq, beq_self_eq_true, Bool.not_true, Bool.not_false, Bool.and_true, Bool.and_false, Bool.true_and, Bool.false_and, gI_sI, gI_sL, gI_sA, gI_sM, gL_sI, gL_sL, gL_sA, gL_sM, aI_sI, aI_sL, aI_sA, aI_sM, aL_sI, aL_sL, aL_sA, aL_sM, oi_3]; try dsimp only
          exact hW _ 261 [(0, .ref 1000), (1, .int x1), (2, .int x2), (3, .int x3), (4, .int x4), (5, .int x5), (6, .int x6)] _ _ _ (by simp [rdl, rky, Value.category]) ((ih m1 hm1).2.2.2.2.2.2.2.2.2.2.2.2.2.2.2.2.2.2.2.2.2.2.2.2.2.2.2.2.2.2.2.2.2.2.2.1 x1 x2 x3 x4 x5 x6 3 _ hz)
        · intro x1 x2 x3 x4 x5 x6 s0 Y hz
          refine hB _ _ _ _ _ (fun m1 hm1 => ?_)
          dsimp only [ugo, uwp, ust, uct, rfd, Bbinary, Bbinary_261, Nat.beq, lv_args, rlk, rs1, rs2, rdl, rky, rcd, rno, rsw, Value.category, List.filter, List.take, List.drop, List.reverse, List.reverseAux, List.cons_append, List.nil_append, Option.toList, Int.toNat, Int.reduceToNat, if_pos, if_neg, reduceIte, ↓reduceIte, Nat.reduceAdd, Nat.reduceEqDiff, Nat.reduceBEq, beq_self_eq_true, Bool.not_true, Bool.not_false, Bool.and_true, Bool.and_false, Bool.true_and, Bool.false_and, gI_sI, gI_sL, gI_sA, gI_sM, gL_sI, gL_sL, gL_sA, gL_sM, aI_sI, aI_sL, aI_sA, aI_sM, aL_sI, aL_sL, aL_sA, aL_sM]; try dsimp only
          refine ⟨fun h2 => ?_, fun h2 => ?_⟩
          · exact hW _ 298 [(0, .ref 1000), (1, .int x1), (2, .int x2), (3, .int x3), (4, .int x4), (5, .int x5), (6, .int x6), (7, .int s0)] _ _ _ (by simp [rdl, rky, Value.category]) ((ih m1 hm1).2.2.2.2.2.2.2.2.2.2.2.2.2.2.2.2.2.2.2.2.2.2.2.2.2.2.2.2.2.2.2.2.2.2.2.2.2.2.2.2.1 x1 x2 x3 x4 x5 x6 s0 _ hz)
          · exact hW _ 268 [(0, .ref 1000), (1, .int x1), (2, .int x2), (3, .int x3), (4, .int x4), (5, .int x5), (6, .int x6), (7, .int s0)] _ _ _ (by simp [rdl, rky, Value.category]) ((ih m1 hm1).2.2.2.2.2.2.2.2.2.2.2.2.2.2.2.2.2.2.2.2.2.2.2.2.2.2.2.2.2.2.2.2.2.2.2.2.1 x1 x2 x3 x4 x5 x6 s0 _ hz)
        · intro x1 x2 x3 x4 x5 x6 x7 Y hz
          refine hB _ _ _ _ _ (fun m1 hm1 => ?_)
          dsimp only [ugo, uwp, ust, uct, rfd, Bbinary, Bbinary_268, Nat.beq, lv_args, rlk, rs1, rs2, rdl, rky, rcd, rno, rsw, Value.category, List.filter, List.take, List.drop, List.reverse, List.reverseAux, List.cons_append, List.nil_append, Option.toList, Int.toNat, Int.reduceToNat, if_pos, if_neg, reduceIte, ↓reduceIte, Nat.reduceAdd, Nat.reduceEqDiff, Nat.reduceBEq, beq_self_eq_true, Bool.not_true, Bool.not_false, Bool.and_true, Bool.and_false, Bool.true_and, Bool.false_and, gI_sI, gI_sL, gI_sA, gI_sM, gL_sI, gL_sL, gL_sA, gL_sM, aI_sI, aI_sL, aI_sA, aI_sM, aL_sI, aL_sL, aL_sA, aL_sM, oi_60]; try dsimp only
          refine ⟨fun h2 => ?_, fun h2 => ?_⟩
          · exact hW _ 298 [(0, .ref 1000), (1, .int x1), (2, .int x2), (3, .int x3), (4, .int x4), (5, .int x5), (6, .int x6), (7, .int x7)] _ _ _ (by simp [rdl, rky, Value.category]) ((ih m1 hm1).2.2.2.2.2.2.2.2.2.2.2.2.2.2.2.2.2.2.2.2.2.2.2.2.2.2.2.2.2.2.2.2.2.2.2.2.2.2.2.2.1 x1 x2 x3 x4 x5 x6 x7 _ hz)
          · exact hW _ 275 [(0, .ref 1000), (1, .int x1), (2, .int x2), (3, .int x3), (4, .int x4), (5, .int x5), (6, .int x6), (7, .int x7)] _ _ _ (by simp [rdl, rky, Value.category]) ((ih m1 hm1).2.2.2.2.2.2.2.2.2.2.2.2.2.2.2.2.2.2.2.2.2.2.2.2.2.2.2.2.2.2.2.2.2.2.2.2.2.1 x1 x2 x3 x4 x5 x6 x7 _ hz)
        · intro x1 x2 x3 x4 x5 x6 x7 Y hz
          refine hB _ _ _ _ _ (fun m1 hm1 => ?_)
          dsimp only [ugo, uwp, ust, uct, rfd, Bbinary, Bbinary_275, Nat.beq, lv_args, rlk, rs1, rs2, rdl, rky, rcd, rno, rsw, Value.category, List.filter, List.take, List.drop, List.reverse, List.reverseAux, List.cons_append, List.nil_append, Option.toList, Int.toNat, Int.reduceToNat, if_pos, if_neg, reduceIte, ↓reduceIte, Nat.reduceAdd, Nat.reduceEqDiff, Nat.reduceBEq, beq_self_eq_true, Bool.not_true, Bool.not_false, Bool.and_true, Bool.and_false, Bool.true_and, Bool.false_and, gI_sI, gI_sL, gI_sA, gI_sM, gL_sI, gL_sL, gL_sA, gL_sM, aI_sI, aI_sL, aI_sA, aI_sM, aL_sI, aL_sL, aL_sA, aL_sM, oi_62]; try dsimp only
          refine ⟨fun h2 => ?_, fun h2 => ?_⟩
          · exact hW _ 298 [(0, .ref 1000), (1, .int x1), (2, .int x2), (3, .int x3), (4, .int x4), (5, .int x5), (6, .int x6), (7, .int x7)] _ _ _ (by simp [rdl, rky, Value.category]) ((ih m1 hm1).2.2.2.2.2.2.2.2.2.2.2.2.2.2.2.2.2.2.2.2.2.2.2.2.2.2.2.2.2.2.2.2.2.2.2.2.2.2.2.2.1 x1 x2 x3 x4 x5 x6 x7 _ hz)
          · exact hW _ 282 [(0, .ref 1000), (1, .int x1), (2, .int x2), (3, .int x3), (4, .int x4), (5, .int x5), (6, .int x6), (7, .int x7)] _ _ _ (by simp [rdl, rky, Value.category]) ((ih m1 hm1).2.2.2.2.2.2.2.2.2.2.2.2.2.2.2.2.2.2.2.2.2.2.2.2.2.2.2.2.2.2.2.2.2.2.2.2.2.2.1 x1 x2 x3 x4 x5 x6 x7 _ hz)
        · intro x1 x2 x3 x4 x5 x6 x7 Y hz
          refine hB _ _ _ _ _ (fun m1 hm1 => ?_)
          dsimp only [ugo, uwp, ust, uct, rfd, Bbinary, Bbinary_282, Nat.beq, lv_args, rlk, rs1, rs2, rdl, rky, rcd, rno, rsw, Value.category, List.filter, List.take, List.drop, List.reverse, List.reverseAux, List.cons_append, List.nil_append, Option.toList, Int.toNat, Int.reduceToNat, if_pos, if_neg, reduceIte, ↓reduceIte, Nat.reduceAdd, Nat.reduceEqDiff, Nat.reduceBEq, beq_self_eq_true, Bool.not_true, Bool.not_false, Bool.and_true, Bool.and_false, Bool.true_and, Bool.false_and, gI_sI, gI_sL, gI_sA, gI_sM, gL_sI, gL_sL, gL_sA, gL_sM, aI_sI, aI_sL, aI_sA, aI_sM, aL_sI, aL_sL, aL_sA, aL_sM, oi_302]; try dsimp only
          refine ⟨fun h2 => ?_, fun h2 => ?_⟩
          · exact hW _ 298 [(0, .ref 1000), (1, .int x1), (2, .int x2), (3, .int x3), (4, .int x4), (5, .int x5), (6, .int x6), (7, .int x7)] _ _ _ (by simp [rdl, rky, Value.category]) ((ih m1 hm1).2.2.2.2.2.2.2.2.2.2.2.2.2.2.2.2.2.2.2.2.2.2.2.2.2.2.2.2.2.2.2.2.2.2.2.2.2.2.2.2.1 x1 x2 x3 x4 x5 x6 x7 _ hz)
          · exact hW _ 290 [(0, .ref 1000), (1, .int x1), (2, .int x2), (3, .int x3), (4, .int x4), (5, .int x5), (6, .int x6), (7, .int x7)] _ _ _ (by simp [rdl, rky, Value.category]) ((ih m1 hm1).2.2.2.2.2.2.2.2.2.2.2.2.2.2.2.2.2.2.2.2.2.2.2.2.2.2.2.2.2.2.2.2.2.2.2.2.2.2.2.1 x1 x2 x3 x4 x5 x6 x7 _ hz)
        · intro x1 x2 x3 x4 x5 x6 x7 Y hz
          refine hB _ _ _ _ _ (fun m1 hm1 => ?_)
          dsimp only [ugo, uwp, ust, uct, rfd, Bbinary, Bbinary_290, Nat.beq, lv_args, rlk, rs1, rs2, rdl, rky, rcd, rno, rsw, Value.category, List.filter, List.take, List.drop, List.reverse, List.reverseAux, List.cons_append, List.nil_append, Option.toList, Int.toNat, Int.reduceToNat, if_pos, if_neg, reduceIte, ↓reduceIte, Nat.reduceAdd, Nat.reduceEqDiff, Nat.reduceBEq, beq_self_eq_true, Bool.not_true, Bool.not_false, Bool.and_true, Bool.and_false, Bool.true_and, Bool.false_and, gI_sI, gI_sL, gI_sA, gI_sM, gL_sI, gL_sL, gL_sA, gL_sM, aI_sI, aI_sL, aI_sA, aI_sM, aL_sI, aL_sL, aL_sA, aL_sM, oi_303]; try dsimp only
          refine ⟨fun h2 => ?_, fun h2 => ?_⟩
          · exact hW _ 302 [(0, .ref 1000), (1, .int x1), (2, .int x2), (3, .int x3), (4, .int x4), (5, .int x5), (6, .int x6), (7, .int x7)] _ _ _ (by simp [rdl, rky, Value.category]) ((ih m1 hm1).2.2.2.2.2.2.2.2.2.2.2.2.2.2.2.2.2.2.2.2.2.2.2.2.2.2.2.2.2.2.2.2.2.2.2.2.2.2.2.2.2.1 x1 x2 x3 x4 x5 x6 x7 _ hz)
          · exact hW _ 298 [(0, .ref 1000), (1, .int x1), (2, .int x2), (3, .int x3), (4, .int x4), (5, .int x5), (6, .int x6), (7, .int x7)] _ _ _ (by simp [rdl, rky, Value.category]) ((ih m1 hm1).2.2.2.2.2.2.2.2.2.2.2.2.2.2.2.2.2.2.2.2.2.2.2.2.2.2.2.2.2.2.2.2.2.2.2.2.2.2.2.2.1 x1 x2 x3 x4 x5 x6 x7 _ hz)
        · intro x1 x2 x3 x4 x5 x6 x7 Y hz
          refine hB _ _ _ _ _ (fun m1 hm1 => ?_)
          dsimp only [ugo, uwp, ust, uct, rfd, Bbinary, Bbinary_298, Nat.beq, lv_args, rlk, rs1, rs2, rdl, rky, rcd, rno, rsw, Value.category, List.filter, List.take, List.drop, List.reverse, List.reverseAux, List.cons_append, List.nil_append, Option.toList, Int.toNat, Int.reduceToNat, if_pos, if_neg, reduceIte, ↓reduceIte, Nat.reduceAdd, Nat.reduceEqDiff, Nat.reduceBEq, beq_self_eq_true, Bool.not_true, Bool.not_false, Bool.and_true, Bool.and_false, Bool.true_and, Bool.false_and, gI_sI, gI_sL, gI_sA, gI_sM, gL_sI, gL_sL, gL_sA, gL_sM, aI_sI, aI_sL, aI_sA, aI_sM, aL_sI, aL_sL, aL_sA, aL_sM, oi_1]; try dsimp only
          exact hW _ 303 [(0, .ref 1000), (1, .int x1), (2, .int x2), (3, .int x3), (4, .int x4), (5, .int x5), (6, .int x6), (7, .int x7)] _ _ _ (by simp [rdl, rky, Value.category]) ((ih m1 hm1).2.2.2.2.2.2.2.2.2.2.2.2.2.2.2.2.2.2.2.2.2.2.2.2.2.2.2.2.2.2.2.2.2.2.2.2.2.2.2.2.2.2.1 x1 x2 x3 x4 x5 x6 x7 1 _ hz)
        · intro x1 x2 x3 x4 x5 x6 x7 Y hz
          refine hB _ _ _ _ _ (fun m1 hm1 => ?_)
          dsimp only [ugo, uwp, ust, uct, rfd, Bbinary, Bbinary_302, Nat.beq, lv_args, rlk, rs1, rs2, rdl, rky, rcd, rno, rsw, Value.category, List.filter, List.take, List.drop, List.reverse, List.reverseAux, List.cons_append, List.nil_append, Option.toList, Int.toNat, Int.reduceToNat, if_pos, if_neg, reduceIte, ↓reduceIte, Nat.reduceAdd, Nat.reduceEqDiff, Nat.reduceBEq, beq_self_eq_true, Bool.not_true, Bool.not_false, Bool.and_true, Bool.and_false, Bool.true_and, Bool.false_and, gI_sI, gI_sL, gI_sA, gI_sM, gL_sI, gL_sL, gL_sA, gL_sM, aI_sI, aI_sL, aI_sA, aI_sM, aL_sI, aL_sL, aL_sA, aL_sM, oi_0]; try dsimp only
          exact hW _ 303 [(0, .ref 1000), (1, .int x1), (2, .int x2), (3, .int x3), (4, .int x4), (5, .int x5), (6, .int x6), (7, .int x7)] _ _ _ (by simp [rdl, rky, Value.category]) ((ih m1 hm1).2.2.2.2.2.2.2.2.2.2.2.2.2.2.2.2.2.2.2.2.2.2.2.2.2.2.2.2.2.2.2.2.2.2.2.2.2.2.2.2.2.2.1 x1 x2 x3 x4 x5 x6 x7 0 _ hz)
        · intro x1 x2 x3 x4 x5 x6 x7 s0 Y hz
          refine hB _ _ _ _ _ (fun m1 hm1 => ?_)
          dsimp only [ugo, uwp, ust, uct, rfd, Bbinary, Bbinary_303, Nat.beq, lv_args, rlk, rs1, rs2, rdl, rky, rcd, rno, rsw, Value.category, List.filter, List.take, List.drop, List.reverse, List.reverseAux, List.cons_append, List.nil_append, Option.toList, Int.toNat, Int.reduceToNat, if_pos, if_neg, reduceIte, ↓reduceIte, Nat.reduceAdd, Nat.reduceEqDiff, Nat.reduceBEq, beq_self_eq_true, Bool.not_true, Bool.not_false, Bool.and_true, Bool.and_false, Bool.true_and, Bool.false_and, gI_sI, gI_sL, gI_sA, gI_sM, gL_sI, gL_sL, gL_sA, gL_sM, aI_sI, aI_sL, aI_sA, aI_sM, aL_sI, aL_sL, aL_sA, aL_sM]; try dsimp only
          intro p2
          intro p3
          refine ⟨fun h4 => ?_, fun h4 => ?_⟩
          · exact hW _ 360 [(0, .ref 1000), (1, .int x1), (2, .int x2), (3, .int x3), (4, .int x4), (5, .int x5), (6, .int x6), (7, .int x7), (8, .int s0)] _ _ _ (by simp [rdl, rky, Value.category]) ((ih m1 hm1).2.2.2.2.2.2.2.2.2.2.2.2.2.2.2.2.2.2.2.2.2.2.2.2.2.2.2.2.2.2.2.2.2.2.2.2.2.2.2.2.2.2.2.2.2.2.2.2.1 x1 x2 x3 x4 x5 x6 x7 s0 _ hz)
          · exact hW _ 322 [(0, .ref 1000), (1, .int x1), (2, .int x2), (3, .int x3), (4, .int x4), (5, .int x5), (6, .int x6), (7, .int x7), (8, .int s0)] _ _ _ (by simp [rdl, rky, Value.category]) ((ih m1 hm1).2.2.2.2.2.2.2.2.2.2.2.2.2.2.2.2.2.2.2.2.2.2.2.2.2.2.2.2.2.2.2.2.2.2.2.2.2.2.2.2.2.2.2.1 x1 x2 x3 x4 x5 x6 x7 s0 _ hz)
        · intro x1 x2 x3 x4 x5 x6 x7 x8 Y hz
          refine hB _ _ _ _ _ (fun m1 hm1 => ?_)
          dsimp only [ugo, uwp, ust, uct, rfd, Bbinary, Bbinary_322, Nat.beq, lv_args, rlk, rs1, rs2, rdl, rky, rcd, rno, rsw, Value.category, List.filter, List.take, List.drop, List.reverse, List.reverseAux, List.cons_append, List.nil_append, Option.toList, Int.toNat, Int.reduceToNat, if_pos, if_neg, reduceIte, ↓reduceIte, Nat.reduceAdd, Nat.reduceEqDiff, Nat.reduceBEq, beq_self_eq_true, Bool.not_true, Bool.not_false, Bool.and_true, Bool.and_false, Bool.true_and, Bool.false_and, gI_sI, gI_sL, gI_sA, gI_sM, gL_sI, gL_sL, gL_sA, gL_sM, aI_sI, aI_sL, aI_sA, aI_sM, aL_sI, aL_sL, aL_sA, aL_sM]; try dsimp only
          intro p2
          refine ⟨fun h3 => ?_, fun h3 => ?_⟩
          · exact hW _ 360 [(0, .ref 1000), (1, .int x1), (2, .int x2), (3, .int x3), (4, .int x4), (5, .int x5), (6, .int x6), (7, .int x7), (8, .int x8)] _ _ _ (by simp [rdl, rky, Value.category]) ((ih m1 hm1).2.2.2.2.2.2.2.2.2.2.2.2.2.2.2.2.2.2.2.2.2.2.2.2.2.2.2.2.2.2.2.2.2.2.2.2.2.2.2.2.2.2.2.2.2.2.2.2.1 x1 x2 x3 x4 x5 x6 x7 x8 _ hz)
          · exact hW _ 331 [(0, .ref 1000), (1, .int x1), (2, .int x2), (3, .int x3), (4, .int x4), (5, .int x5), (6, .int x6), (7, .int x7), (8, .int x8)] _ _ _ (by simp [rdl, rky, Value.category]) ((ih m1 hm1).2.2.2.2.2.2.2.2.2.2.2.2.2.2.2.2.2.2.2.2.2.2.2.2.2.2.2.2.2.2.2.2.2.2.2.2.2.2.2.2.2.2.2.2.1 x1 x2 x3 x4 x5 x6 x7 x8 _ hz)
        · intro x1 x2 x3 x4 x5 x6 x7 x8 Y hz
          refine hB _ _ _ _ _ (fun m1 hm1 => ?_)
          dsimp only [ugo, uwp, ust, uct, rfd, Bbinary, Bbinary_331, Nat.beq, lv_args, rlk, rs1, rs2, rdl, rky, rcd, rno, rsw, Value.category, List.filter, List.take, List.drop, List.reverse, List.reverseAux, List.cons_append, List.nil_append, Option.toList, Int.toNat, Int.reduceToNat, if_pos, if_neg, reduceIte, ↓reduceIte, Nat.reduceAdd, Nat.reduceEqDiff, Nat.reduceBEq, beq_self_eq_true, Bool.not_true, Bool.not_false, Bool.and_true, Bool.and_false, Bool.true_and, Bool.false_and, gI_sI, gI_sL, gI_sA, gI_sM, gL_sI, gL_sL, gL_sA, gL_sM, aI_sI, aI_sL, aI_sA, aI_sM, aL_sI, aL_sL, aL_sA, aL_sM, oi_47]; try dsimp only
          refine ⟨fun h2 => ?_, fun h2 => ?_⟩
          · exact hW _ 345 [(0, .ref 1000), (1, .int x1), (2, .int x2), (3, .int x3), (4, .int x4), (5, .int x5), (6, .int x6), (7, .int x7), (8, .int x8)] _ _ _ (by simp [rdl, rky, Value.category]) ((ih m1 hm1).2.2.2.2.2.2.2.2.2.2.2.2.2.2.2.2.2.2.2.2.2.2.2.2.2.2.2.2.2.2.2.2.2.2.2.2.2.2.2.2.2.2.2.2.2.2.1 x1 x2 x3 x4 x5 x6 x7 x8 _ hz)
          · exact hW _ 338 [(0, .ref 1000), (1, .int x1), (2, .int x2), (3, .int x3), (4, .int x4), (5, .int x5), (6, .int x6), (7, .int x7), (8, .int x8)] _ _ _ (by simp [rdl, rky, Value.category]) ((ih m1 hm1).2.2.2.2.2.2.2.2.2.2.2.2.2.2.2.2.2.2.2.2.2.2.2.2.2.2.2.2.2.2.2.2.2.2.2.2.2.2.2.2.2.2.2.2.2.1 x1 x2 x3 x4 x5 x6 x7 x8 _ hz)
        · intro x1 x2 x3 x4 x5 x6 x7 x8 Y hz
          refine hB _ _ _ _ _ (fun m1 hm1 => ?_)
          dsimp only [ugo, uwp, ust, uct, rfd, Bbinary, Bbinary_338, Nat.beq, lv_args, rlk, rs1, rs2, rdl, rky, rcd, rno, rsw, Value.category, List.filter, List.take, List.drop, List.reverse, List.reverseAux, List.cons_append, List.nil_append, Option.toList, Int.toNat, Int.reduceToNat, if_pos, if_neg, reduceIte, ↓reduceIte, Nat.reduceAdd, Nat.reduceEqDiff, Nat.reduceBEq, beq_self_eq_true, Bool.not_true, Bool.not_false, Bool.and_true, Bool.and_false, Bool.true_and, Bool.false_and, gI_sI, gI_sL, gI_sA, gI_sM, gL_sI, gL_sL, gL_sA, gL_sM, aI_sI, aI_sL, aI_sA, aI_sM, aL_sI, aL_sL, aL_sA, aL_sM, oi_37]; try dsimp only
          refine ⟨fun h2 => ?_, fun h2 => ?_⟩
          · exact hW _ 356 [(0, .ref 1000), (1, .int x1), (2, .int x2), (3, .int x3), (4, .int x4), (5, .int x5), (6, .int x6), (7, .int x7), (8, .int x8)] _ _ _ (by simp [rdl, rky, Value.category]) ((ih m1 hm1).2.2.2.2.2.2.2.2.2.2.2.2.2.2.2.2.2.2.2.2.2.2.2.2.2.2.2.2.2.2.2.2.2.2.2.2.2.2.2.2.2.2.2.2.2.2.2.1 x1 x2 x3 x4 x5 x6 x7 x8 _ hz)
          · exact hW _ 345 [(0, .ref 1000), (1, .int x1), (2, .int x2), (3, .int x3), (4, .int x4), (5, .int x5), (6, .int x6), (7, .int x7), (8, .int x8)] _ _ _ (by simp [rdl, rky, Value.category]) ((ih m1 hm1).2.2.2.2.2.2.2.2.2.2.2.2.2.2.2.2.2.2.2.2.2.2.2.2.2.2.2.2.2.2.2.2.2.2.2.2.2.2.2.2.2.2.2.2.2.2.1 x1 x2 x3 x4 x5 x6 x7 x8 _ hz)
        · intro x1 x2 x3 x4 x5 x6 x7 x8 Y hz
          refine hB _ _ _ _ _ (fun m1 hm1 => ?_)
          dsimp only [ugo, uwp, ust, uct, rfd, Bbinary, Bbinary_345, Nat.beq, lv_args, rlk, rs1, rs2, rdl, rky, rcd, rno, rsw, Value.category, List.filter, List.take, List.drop, List.reverse, List.reverseAux, List.cons_append, List.nil_append, Option.toList, Int.toNat, Int.reduceToNat, if_pos, if_neg, reduceIte, ↓reduceIte, Nat.reduceAdd, Nat.reduceEqDiff, Nat.reduceBEq, beq_self_eq_true, Bool.not_true, Bool.not_false, Bool.and_true, Bool.and_false, Bool.true_and, Bool.false_and, gI_sI, gI_sL, gI_sA, gI_sM, gL_sI, gL_sL, gL_sA, gL_sM, aI_sI, aI_sL, aI_sA, aI_sM, aL_sI, aL_sL, aL_sA, aL_sM]; try dsimp only
          intro p2
          refine ⟨fun h3 => ?_, fun h3 => ?_⟩
          · have c3 : ((aL Y 72) (x3).toNatClampNeg) = (0 : Int64) := (cL (a := (0 : Int64)) (b := ((aL Y 72) (x3).toNatClampNeg))).1.mp h3
            exact hW _ 360 [(0, .ref 1000), (1, .int x1), (2, .int x2), (3, .int x3), (4, .int x4), (5, .int x5), (6, .int x6), (7, .int x7), (8, .int x8)] _ _ _ (by simp [rdl, rky, Value.category]) ((ih m1 hm1).2.2.2.2.2.2.2.2.2.2.2.2.2.2.2.2.2.2.2.2.2.2.2.2.2.2.2.2.2.2.2.2.2.2.2.2.2.2.2.2.2.2.2.2.2.2.2.2.1 x1 x2 x3 x4 x5 x6 x7 x8 _ hz)
          · have c3 : ¬ ((aL Y 72) (x3).toNatClampNeg) = (0 : Int64) := fun q => h3 ((cL (a := (0 : Int64)) (b := ((aL Y 72) (x3).toNatClampNeg))).1.mpr q)
            exact hW _ 356 [(0, .ref 1000), (1, .int x1), (2, .int x2), (3, .int x3), (4, .int x4), (5, .int x5), (6, .int x6), (7, .int x7), (8, .int x8)] _ _ _ (by simp [rdl, rky, Value.category]) ((ih m1 hm1).2.2.2.2.2.2.2.2.2.2.2.2.2.2.2.2.2.2.2.2.2.2.2.2.2.2.2.2.2.2.2.2.2.2.2.2.2.2.2.2.2.2.2.2.2.2.2.1 x1 x2 x3 x4 x5 x6 x7 x8 _ hz)
        · intro x1 x2 x3 x4 x5 x6 x7 x8 Y hz
          refine hB _ _ _ _ _ (fun m1 hm1 => ?_)
          dsimp only [ugo, uwp, ust, uct, rfd, Bbinary, Bbinary_356, Nat.beq, lv_args, rlk, rs1, rs2, rdl, rky, rcd, rno, rsw, Value.category, List.filter, List.take, List.drop, List.reverse, List.reverseAux, List.cons_append, List.nil_append, Option.toList, Int.toNat, Int.reduceToNat, if_pos, if_neg, reduceIte, ↓reduceIte, Nat.reduceAdd, Nat.reduceEqDiff, Nat.reduceBEq, beq_self_eq_true, Bool.not_true, Bool.not_false, Bool.and_true, Bool.and_false, Bool.true_and, Bool.false_and, gI_sI, gI_sL, gI_sA, gI_sM, gL_sI, gL_sL, gL_sA, gL_sM, aI_sI, aI_sL, aI_sA, aI_sM, aL_sI, aL_sL, aL_sA, aL_sM, oi_1]; try dsimp only
          exact hW _ 361 [(0, .ref 1000), (1, .int x1), (2, .int x2), (3, .int x3), (4, .int x4), (5, .int x5), (6, .int x6), (7, .int x7), (8, .int x8)] _ _ _ (by simp [rdl, rky, Value.category]) ((ih m1 hm1).2.2.2.2.2.2.2.2.2.2.2.2.2.2.2.2.2.2.2.2.2.2.2.2.2.2.2.2.2.2.2.2.2.2.2.2.2.2.2.2.2.2.2.2.2.2.2.2.2.1 x1 x2 x3 x4 x5 x6 x7 x8 1 _ hz)
        · intro x1 x2 x3 x4 x5 x6 x7 x8 Y hz
          refine hB _ _ _ _ _ (fun m1 hm1 => ?_)
          dsimp only [ugo, uwp, ust, uct, rfd, Bbinary, Bbinary_360, Nat.beq, lv_args, rlk, rs1, rs2, rdl, rky, rcd, rno, rsw, Value.category, List.filter, List.take, List.drop, List.reverse, List.reverseAux, List.cons_append, List.nil_append, Option.toList, Int.toNat, Int.reduceToNat, if_pos, if_neg, reduceIte, ↓reduceIte, Nat.reduceAdd, Nat.reduceEqDiff, Nat.reduceBEq, beq_self_eq_true, Bool.not_true, Bool.not_false, Bool.and_true, Bool.and_false, Bool.true_and, Bool.false_and, gI_sI, gI_sL, gI_sA, gI_sM, gL_sI, gL_sL, gL_sA, gL_sM, aI_sI, aI_sL, aI_sA, aI_sM, aL_sI, aL_sL, aL_sA, aL_sM, oi_0]; try dsimp only
          exact hW _ 361 [(0, .ref 1000), (1, .int x1), (2, .int x2), (3, .int x3), (4, .int x4), (5, .int x5), (6, .int x6), (7, .int x7), (8, .int x8)] _ _ _ (by simp [rdl, rky, Value.category]) ((ih m1 hm1).2.2.2.2.2.2.2.2.2.2.2.2.2.2.2.2.2.2.2.2.2.2.2.2.2.2.2.2.2.2.2.2.2.2.2.2.2.2.2.2.2.2.2.2.2.2.2.2.2.1 x1 x2 x3 x4 x5 x6 x7 x8 0 _ hz)
        · intro x1 x2 x3 x4 x5 x6 x7 x8 s0 Y hz
          refine hB _ _ _ _ _ (fun m1 hm1 => ?_)
          dsimp only [ugo, uwp, ust, uct, rfd, Bbinary, Bbinary_361, Nat.beq, lv_args, rlk, rs1, rs2, rdl, rky, rcd, rno, rsw, Value.category, List.filter, List.take, List.drop, List.reverse, List.reverseAux, List.cons_append, List.nil_append, Option.toList, Int.toNat, Int.reduceToNat, if_pos, if_neg, reduceIte, ↓reduceIte, Nat.reduceAdd, Nat.reduceEqDiff, Nat.reduceBEq, beq_self_eq_true, Bool.not_true, Bool.not_false, Bool.and_true, Bool.and_false, Bool.true_and, Bool.false_and, gI_sI, gI_sL, gI_sA, gI_sM, gL_sI, gL_sL, gL_sA, gL_sM, aI_sI, aI_sL, aI_sA, aI_sM, aL_sI, aL_sL, aL_sA, aL_sM]; try dsimp only
          refine ⟨fun h2 => ?_, fun h2 => ?_⟩
          · exact hW _ 374 [(0, .ref 1000), (1, .int x1), (2, .int x2), (3, .int x3), (4, .int x4), (5, .int x5), (6, .int x6), (7, .int x7), (8, .int x8), (9, .int s0)] _ _ _ (by simp [rdl, rky, Value.category]) ((ih m1 hm1).2.2.2.2.2.2.2.2.2.2.2.2.2.2.2.2.2.2.2.2.2.2.2.2.2.2.2.2.2.2.2.2.2.2.2.2.2.2.2.2.2.2.2.2.2.2.2.2.2.2.2.1 x1 x2 x3 x4 x5 x6 x7 x8 s0 x1 _ hz)
          · exact hW _ 370 [(0, .ref 1000), (1, .int x1), (2, .int x2), (3, .int x3), (4, .int x4), (5, .int x5), (6, .int x6), (7, .int x7), (8, .int x8), (9, .int s0)] _ _ _ (by simp [rdl, rky, Value.category]) ((ih m1 hm1).2.2.2.2.2.2.2.2.2.2.2.2.2.2.2.2.2.2.2.2.2.2.2.2.2.2.2.2.2.2.2.2.2.2.2.2.2.2.2.2.2.2.2.2.2.2.2.2.2.2.1 x1 x2 x3 x4 x5 x6 x7 x8 s0 x1 _ hz)
        · intro x1 x2 x3 x4 x5 x6 x7 x8 x9 s0 Y hz
          refine hB _ _ _ _ _ (fun m1 hm1 => ?_)
          dsimp only [ugo, uwp, ust, uct, rfd, Bbinary, Bbinary_370, Nat.beq, lv_args, rlk, rs1, rs2, rdl, rky, rcd, rno, rsw, Value.category, List.filter, List.take, List.drop, List.reverse, List.reverseAux, List.cons_append, List.nil_append, Option.toList, Int.toNat, Int.reduceToNat, if_pos, if_neg, reduceIte, ↓reduceIte, Nat.reduceAdd, Nat.reduceEqDiff, Nat.reduceBEq, beq_self_eq_true, Bool.not_true, Bool.not_false, Bool.and_true, Bool.and_false, Bool.true_and, Bool.false_and, gI_sI, gI_sL, gI_sA, gI_sM, gL_sI, gL_sL, gL_sA, gL_sM, aI_sI, aI_sL, aI_sA, aI_sM, aL_sI, aL_sL, aL_sA, aL_sM, oi_0]; try dsimp only
          exact hW _ 376 [(0, .ref 1000), (1, .int x1), (2, .int x2), (3, .int x3), (4, .int x4), (5, .int x5), (6, .int x6), (7, .int x7), (8, .int x8), (9, .int x9)] _ _ _ (by simp [rdl, rky, Value.category]) ((ih m1 hm1).2.2.2.2.2.2.2.2.2.2.2.2.2.2.2.2.2.2.2.2.2.2.2.2.2.2.2.2.2.2.2.2.2.2.2.2.2.2.2.2.2.2.2.2.2.2.2.2.2.2.2.2.1 x1 x2 x3 x4 x5 x6 x7 x8 x9 0 s0 _ hz)
        · intro x1 x2 x3 x4 x5 x6 x7 x8 x9 s0 Y hz
          refine hB _ _ _ _ _ (fun m1 hm1 => ?_)
          dsimp only [ugo, uwp, ust, uct, rfd, Bbinary, Bbinary_374, Nat.beq, lv_args, rlk, rs1, rs2, rdl, rky, rcd, rno, rsw, Value.category, List.filter, List.take, List.drop, List.reverse, List.reverseAux, List.cons_append, List.nil_append, Option.toList, Int.toNat, Int.reduceToNat, if_pos, if_neg, reduceIte, ↓reduceIte, Nat.reduceAdd, Nat.reduceEqDiff, Nat.reduceBEq, beq_self_eq_true, Bool.not_true, Bool.not_false, Bool.and_true, Bool.and_false, Bool.true_and, Bool.false_and, gI_sI, gI_sL, gI_sA, gI_sM, gL_sI, gL_sL, gL_sA, gL_sM, aI_sI, aI_sL, aI_sA, aI_sM, aL_sI, aL_sL, aL_sA, aL_sM]; try dsimp only
          exact hW _ 376 [(0, .ref 1000), (1, .int x1), (2, .int x2), (3, .int x3), (4, .int x4), (5, .int x5), (6, .int x6), (7, .int x7), (8, .int x8), (9, .int x9)] _ _ _ (by simp [rdl, rky, Value.category]) ((ih m1 hm1).2.2.2.2.2.2.2.2.2.2.2.2.2.2.2.2.2.2.2.2.2.2.2.2.2.2.2.2.2.2.2.2.2.2.2.2.2.2.2.2.2.2.2.2.2.2.2.2.2.2.2.2.1 x1 x2 x3 x4 x5 x6 x7 x8 x9 x7 s0 _ hz)
        · intro x1 x2 x3 x4 x5 x6 x7 x8 x9 s0 s1 Y hz
          refine hB _ _ _ _ _ (fun m1 hm1 => ?_)
          dsimp only [ugo, uwp, ust, uct, rfd, Bbinary, Bbinary_376, Nat.beq, lv_args, rlk, rs1, rs2, rdl, rky, rcd, rno, rsw, Value.category, List.filter, List.take, List.drop, List.reverse, List.reverseAux, List.cons_append, List.nil_append, Option.toList, Int.toNat, Int.reduceToNat, if_pos, if_neg, reduceIte, ↓reduceIte, Nat.reduceAdd, Nat.reduceEqDiff, Nat.reduceBEq, beq_self_eq_true, Bool.not_true, Bool.not_false, Bool.and_true, Bool.and_false, Bool.true_and, Bool.false_and, gI_sI, gI_sL, gI_sA, gI_sM, gL_sI, gL_sL, gL_sA, gL_sM, aI_sI, aI_sL, aI_sA, aI_sM, aL_sI, aL_sL, aL_sA, aL_sM]; try dsimp only
          refine ⟨fun h2 => ?_, fun h2 => ?_⟩
          · exact hW _ 406 [(0, .ref 1000), (1, .int x1), (2, .int x2), (3, .int x3), (4, .int x4), (5, .int x5), (6, .int x6), (7, .int x7), (8, .int x8), (9, .int x9)] _ _ _ (by simp [rdl, rky, Value.category]) ((ih m1 hm1).2.2.2.2.2.2.2.2.2.2.2.2.2.2.2.2.2.2.2.2.2.2.2.2.2.2.2.2.2.2.2.2.2.2.2.2.2.2.2.2.2.2.2.2.2.2.2.2.2.2.2.2.2.2.1 x1 x2 x3 x4 x5 x6 x7 x8 x9 x9 s0 s1 _ hz)
          · exact hW _ 383 [(0, .ref 1000), (1, .int x1), (2, .int x2), (3, .int x3), (4, .int x4), (5, .int x5), (6, .int x6), (7, .int x7), (8, .int x8), (9, .int x9)] _ _ _ (by simp [rdl, rky, Value.category]) ((ih m1 hm1).2.2.2.2.2.2.2.2.2.2.2.2.2.2.2.2.2.2.2.2.2.2.2.2.2.2.2.2.2.2.2.2.2.2.2.2.2.2.2.2.2.2.2.2.2.2.2.2.2.2.2.2.2.1 x1 x2 x3 x4 x5 x6 x7 x8 x9 x9 s0 s1 _ hz)
        · intro x1 x2 x3 x4 x5 x6 x7 x8 x9 s0 s1 s2 Y hz
          refine hB _ _ _ _ _ (fun m1 hm1 => ?_)
          dsimp only [ugo, uwp, ust, uct, rfd, Bbinary, Bbinary_383, Nat.beq, lv_args, rlk, rs1, rs2, rdl, rky, rcd, rno, rsw, Value.category, List.filter, List.take, List.drop, List.reverse, List.reverseAux, List.cons_append, List.nil_append, Option.toList, Int.toNat, Int.reduceToNat, if_pos, if_neg, reduceIte, ↓reduceIte, Nat.reduceAdd, Nat.reduceEqDiff, Nat.reduceBEq, beq_self_eq_true, Bool.not_true, Bool.not_false, Bool.and_true, Bool.and_false, Bool.true_and, Bool.false_and, gI_sI, gI_sL, gI_sA, gI_sM, gL_sI, gL_sL, gL_sA, gL_sM, aI_sI, aI_sL, aI_sA, aI_sM, aL_sI, aL_sL, aL_sA, aL_sM]; try dsimp only
          intro p2
          intro p3
          refine ⟨trivial, fun w4 τ4 hq4 => ?_⟩
          obtain ⟨rfl, r4, rfl, hr4⟩ := hq4 trivial
          dsimp only [Option.toList, List.cons_append, List.nil_append, Nat.beq, gI_sI, gI_sL, gI_sA, gI_sM, gL_sI, gL_sL, gL_sA, gL_sM, aI_sI, aI_sL, aI_sA, aI_sM, aL_sI, aL_sL, aL_sA, aL_sM]
          exact hW _ 407 [(0, .ref 1000), (1, .int x1), (2, .int x2), (3, .int x3), (4, .int x4), (5, .int x5), (6, .int x6), (7, .int x7), (8, .int x8), (9, .int x9)] _ _ _ (by simp [rdl, rky, Value.category]) ((ih m1 hm1).2.2.2.2.2.2.2.2.2.2.2.2.2.2.2.2.2.2.2.2.2.2.2.2.2.2.2.2.2.2.2.2.2.2.2.2.2.2.2.2.2.2.2.2.2.2.2.2.2.2.2.2.2.2.2 x1 x2 x3 x4 x5 x6 x7 x8 x9 r4 s0 s1 s2 _ hz)
        · intro x1 x2 x3 x4 x5 x6 x7 x8 x9 s0 s1 s2 Y hz
          refine hB _ _ _ _ _ (fun m1 hm1 => ?_)
          dsimp only [ugo, uwp, ust, uct, rfd, Bbinary, Bbinary_406, Nat.beq, lv_args, rlk, rs1, rs2, rdl, rky, rcd, rno, rsw, Value.category, List.filter, List.take, List.drop, List.reverse, List.reverseAux, List.cons_append, List.nil_append, Option.toList, Int.toNat, Int.reduceToNat, if_pos, if_neg, reduceIte, ↓reduceIte, Nat.reduceAdd, Nat.reduceEqDiff, Nat.reduceBEq, beq_self_eq_true, Bool.not_true, Bool.not_false, Bool.and_true, Bool.and_false, Bool.true_and, Bool.false_and, gI_sI, gI_sL, gI_sA, gI_sM, gL_sI, gL_sL, gL_sA, gL_sM, aI_sI, aI_sL, aI_sA, aI_sM, aL_sI, aL_sL, aL_sA, aL_sM]; try dsimp only
          exact hW _ 407 [(0, .ref 1000), (1, .int x1), (2, .int x2), (3, .int x3), (4, .int x4), (5, .int x5), (6, .int x6), (7, .int x7), (8, .int x8), (9, .int x9)] _ _ _ (by simp [rdl, rky, Value.category]) ((ih m1 hm1).2.2.2.2.2.2.2.2.2.2.2.2.2.2.2.2.2.2.2.2.2.2.2.2.2.2.2.2.2.2.2.2.2.2.2.2.2.2.2.2.2.2.2.2.2.2.2.2.2.2.2.2.2.2.2 x1 x2 x3 x4 x5 x6 x7 x8 x9 (0 : Int64) s0 s1 s2 _ hz)
        · intro x1 x2 x3 x4 x5 x6 x7 x8 x9 s0 s1 s2 s3 Y hz
          refine hB _ _ _ _ _ (fun m1 hm1 => ?_)
          dsimp only [ugo, uwp, ust, uct, rfd, Bbinary, Bbinary_407, Nat.beq, lv_args, rlk, rs1, rs2, rdl, rky, rcd, rno, rsw, Value.category, List.filter, List.take, List.drop, List.reverse, List.reverseAux, List.cons_append, List.nil_append, Option.toList, Int.toNat, Int.reduceToNat, if_pos, if_neg, reduceIte, ↓reduceIte, Nat.reduceAdd, Nat.reduceEqDiff, Nat.reduceBEq, beq_self_eq_true, Bool.not_true, Bool.not_false, Bool.and_true, Bool.and_false, Bool.true_and, Bool.false_and, gI_sI, gI_sL, gI_sA, gI_sM, gL_sI, gL_sL, gL_sA, gL_sM, aI_sI, aI_sL, aI_sA, aI_sM, aL_sI, aL_sL, aL_sA, aL_sM]; try dsimp only
          refine ⟨trivial, fun w2 τ2 hq2 => ?_⟩
          obtain ⟨rfl, rfl⟩ := hq2 trivial
          dsimp only [Option.toList, List.cons_append, List.nil_append, Nat.beq, gI_sI, gI_sL, gI_sA, gI_sM, gL_sI, gL_sL, gL_sA, gL_sM, aI_sI, aI_sL, aI_sA, aI_sM, aL_sI, aL_sL, aL_sA, aL_sM]
          unfold Qv_binaryA
          try dsimp only
          exact ⟨rfl, hz⟩
    intro n0
    exact (all n0).1 c σ hP
  next => exact hP.elim
theorem w_binaryA : UMet 95 (fun _ _ => True) Qw_binaryA := fun A1 σ _ w τ h hP => v_binaryA A1 σ hP w τ h
def Pv_choiceA : UP1 := fun A1 σ => match A1 with
  | [.int c] => ¬ gI σ 66 = 0
  | _ => False
def Qv_choiceA : UQ1 := fun A1 σ w τ => match A1 with
  | [.int c] => w = none ∧ ¬ gI τ 66 = 0
  | _ => False
def Qw_choiceA : UQ1 := fun A1 σ w τ => Pv_choiceA A1 σ → Qv_choiceA A1 σ w τ
set_option maxRecDepth 100000 in
set_option maxHeartbeats 4000000 in
theorem v_choiceA : UMet 98 (Pv_choiceA) (Qv_choiceA) := by
  refine UMet.by Bchoice [(76, (fun _ _ => True), Qw_cast), (70, (fun _ _ => True), Qw_err), (79, (fun _ _ => True), Qw_isBad), (99, (fun _ _ => True), Qw_isHeld), (77, (fun _ _ => True), Qw_lie), (80, (fun _ _ => True), Qw_need), (78, (fun _ _ => True), Qw_none)] rfl (ucc w_cast (ucc w_err (ucc w_isBad (ucc w_isHeld (ucc w_lie (ucc w_need (ucc w_none uc0))))))) ?_
  intro A1 σ hP K hB hW
  unfold Pv_choiceA at hP
  split at hP
  next c =>
    have all : ∀ N : Nat, (∀ (x1 : Int32) (Y : RS), ¬ gI Y 66 = 0 → K N 0 [(0, .ref 1000), (1, .int x1)] [] Y) ∧ (∀ (x1 : Int32) (x2 : Int32) (x3 : Int32) (x4 : Int32) (x5 : Int32) (Y : RS), ¬ gI Y 66 = 0 → K N 46 [(0, .ref 1000), (1, .int x1), (2, .int x2), (3, .int x3), (4, .int x4), (5, .int x5)] [] Y) ∧ (∀ (x1 : Int32) (x2 : Int32) (x3 : Int32) (x4 : Int32) (x5 : Int32) (Y : RS), ¬ gI Y 66 = 0 → K N 55 [(0, .ref 1000), (1, .int x1), (2, .int x2), (3, .int x3), (4, .int x4), (5, .int x5)] [] Y) ∧ (∀ (x1 : Int32) (x2 : Int32) (x3 : Int32) (x4 : Int32) (x5 : Int32) (Y : RS), ¬ gI Y 66 = 0 → K N 63 [(0, .ref 1000), (1, .int x1), (2, .int x2), (3, .int x3), (4, .int x4), (5, .int x5)] [] Y) ∧ (∀ (x1 : Int32) (x2 : Int32) (x3 : Int32) (x4 : Int32) (x5 : Int32) (Y : RS), ¬ gI Y 66 = 0 → K N 73 [(0, .ref 1000), (1, .int x1), (2, .int x2), (3, .int x3), (4, .int x4), (5, .int x5)] [] Y) ∧ (∀ (x1 : Int32) (x2 : Int32) (x3 : Int32) (x4 : Int32) (x5 : Int32) (Y : RS), ¬ gI Y 66 = 0 → K N 84 [(0, .ref 1000), (1, .int x1), (2, .int x2), (3, .int x3), (4, .int x4), (5, .int x5)] [] Y) ∧ (∀ (x1 : Int32) (x2 : Int32) (x3 : Int32) (x4 : Int32) (x5 : Int32) (Y : RS), ¬ gI Y 66 = 0 → K N 93 [(0, .ref 1000), (1, .int x1), (2, .int x2), (3, .int x3), (4, .int x4), (5, .int x5)] [] Y) ∧ (∀ (x1 : Int32) (x2 : Int32) (x3 : Int32) (x4 : Int32) (x5 : Int32) (Y : RS), ¬ gI Y 66 = 0 → K N 104 [(0, .ref 1000), (1, .int x1), (2, .int x2), (3, .int x3), (4, .int x4), (5, .int x5)] [] Y) ∧ (∀ (x1 : Int32) (x2 : Int32) (x3 : Int32) (x4 : Int32) (x5 : Int32) (Y : RS), ¬ gI Y 66 = 0 → K N 116 [(0, .ref 1000), (1, .int x1), (2, .int x2), (3, .int x3), (4, .int x4), (5, .int x5)] [] Y) ∧ (∀ (x1 : Int32) (x2 : Int32) (x3 : Int32) (x4 : Int32) (x5 : Int32) (Y : RS), ¬ gI Y 66 = 0 → K N 122 [(0, .ref 1000), (1, .int x1), (2, .int x2), (3, .int x3), (4, .int x4), (5, .int x5)] [] Y) ∧ (∀ (x1 : Int32) (x2 : Int32) (x3 : Int32) (x4 : Int32) (x5 : Int32) (Y : RS), ¬ gI Y 66 = 0 → K N 132 [(0, .ref 1000), (1, .int x1), (2, .int x2), (3, .int x3), (4, .int x4), (5, .int x5)] [] Y) ∧ (∀ (x1 : Int32) (x2 : Int32) (x3 : Int32) (x4 : Int32) (x5 : Int32) (Y : RS), ¬ gI Y 66 = 0 → K N 154 [(0, .ref 1000), (1, .int x1), (2, .int x2), (3, .int x3), (4, .int x4), (5, .int x5)] [] Y) ∧ (∀ (x1 : Int32) (x2 : Int32) (x3 : Int32) (x4 : Int32) (x5 : Int32) (Y : RS), ¬ gI Y 66 = 0 → K N 166 [(0, .ref 1000), (1, .int x1), (2, .int x2), (3, .int x3), (4, .int x4), (5, .int x5)] [] Y) ∧ (∀ (x1 : Int32) (x2 : Int32) (x3 : Int32) (x4 : Int32) (x5 : Int32) (Y : RS), ¬ gI Y 66 = 0 → K N 172 [(0, .ref 1000), (1, .int x1), (2, .int x2), (3, .int x3), (4, .int x4), (5, .int x5)] [] Y) ∧ (∀ (x1 : Int32) (x2 : Int32) (x3 : Int32) (x4 : Int32) (x5 : Int32) (s0 : Int32) (Y : RS), ¬ gI Y 66 = 0 → K N 184 [(0, .ref 1000), (1, .int x1), (2, .int x2), (3, .int x3), (4, .int x4), (5, .int x5)] [.int s0, .ref 1000] Y) ∧ (∀ (x1 : Int32) (x2 : Int32) (x3 : Int32) (x4 : Int32) (x5 : Int32) (s0 : Int32) (Y : RS), ¬ gI Y 66 = 0 → K N 188 [(0, .ref 1000), (1, .int x1), (2, .int x2), (3, .int x3), (4, .int x4), (5, .int x5)] [.int s0, .ref 1000] Y) ∧ (∀ (x1 : Int32) (x2 : Int32) (x3 : Int32) (x4 : Int32) (x5 : Int32) (s0 : Int32) (s1 : Int32) (Y : RS), ¬ gI Y 66 = 0 → K N 189 [(0, .ref 1000), (1, .int x1), (2, .int x2), (3, .int x3), (4, .int x4), (5, .int x5)] [.int s0, .int s1, .ref 1000] Y) ∧ (∀ (x1 : Int32) (x2 : Int32) (x3 : Int32) (x4 : Int32) (x5 : Int32) (Y : RS), ¬ gI Y 66 = 0 → K N 195 [(0, .ref 1000), (1, .int x1), (2, .int x2), (3, .int x3), (4, .int x4), (5, .int x5)] [] Y) ∧ (∀ (x1 : Int32) (x2 : Int32) (x3 : Int32) (x4 : Int32) (x5 : Int32) (Y : RS), ¬ gI Y 66 = 0 → K N 200 [(0, .ref 1000), (1, .int x1), (2, .int x2), (3, .int x3), (4, .int x4), (5, .int x5)] [] Y) ∧ (∀ (x1 : Int32) (x2 : Int32) (x3 : Int32) (x4 : Int32) (x5 : Int32) (Y : RS), ¬ gI Y 66 = 0 → K N 206 [(0, .ref 1000), (1, .int x1), (2, .int x2), (3, .int x3), (4, .int x4), (5, .int x5)] [] Y) ∧ (∀ (x1 : Int32) (x2 : Int32) (x3 : Int32) (x4 : Int32) (x5 : Int32) (x6 : Int32) (x7 : Int32) (Y : RS), ¬ gI Y 66 = 0 → K N 230 [(0, .ref 1000), (1, .int x1), (2, .int x2), (3, .int x3), (4, .int x4), (5, .int x5), (6, .int x6), (7, .int x7)] [] Y) ∧ (∀ (x1 : Int32) (x2 : Int32) (x3 : Int32) (x4 : Int32) (x5 : Int32) (x6 : Int32) (x7 : Int32) (Y : RS), ¬ gI Y 66 = 0 → K N 235 [(0, .ref 1000), (1, .int x1), (2, .int x2), (3, .int x3), (4, .int x4), (5, .int x5), (6, .int x6), (7, .int x7)] [] Y) ∧ (∀ (x1 : Int32) (x2 : Int32) (x3 : Int32) (x4 : Int32) (x5 : Int32) (x6 : Int32) (x7 : Int32) (Y : RS), ¬ gI Y 66 = 0 → K N 246 [(0, .ref 1000), (1, .int x1), (2, .int x2), (3, .int x3), (4, .int x4), (5, .int x5), (6, .int x6), (7, .int x7)] [] Y) ∧ (∀ (x1 : Int32) (x2 : Int32) (x3 : Int32) (x4 : Int32) (x5 : Int32) (x6 : Int32) (x7 : Int32) (Y : RS), ¬ gI Y 66 = 0 → K N 251 [(0, .ref 1000), (1, .int x1), (2, .int x2), (3, .int x3), (4, .int x4), (5, .int x5), (6, .int x6), (7, .int x7)] [] Y) ∧ (∀ (x1 : Int32) (x2 : Int32) (x3 : Int32) (x4 : Int32) (x5 : Int32) (x6 : Int32) (x7 : Int32) (Y : RS), ¬ gI Y 66 = 0 → K N 261 [(0, .ref 1000), (1, .int x1), (2, .int x2), (3, .int x3), (4, .int x4), (5, .int x5), (6, .int x6), (7, .int x7)] [] Y) ∧ (∀ (x1 : Int32) (x2 : Int32) (x3 : Int32) (x4 : Int32) (x5 : Int32) (x6 : Int32) (x7 : Int32) (Y : RS), ¬ gI Y 66 = 0 → K N 266 [(0, .ref 1000), (1, .int x1), (2, .int x2), (3, .int x3), (4, .int x4), (5, .int x5), (6, .int x6), (7, .int x7)] [] Y) ∧ (∀ (x1 : Int32) (x2 : Int32) (x3 : Int32) (x4 : Int32) (x5 : Int32) (x6 : Int32) (x7 : Int32) (Y : RS), ¬ gI Y 66 = 0 → K N 272 [(0, .ref 1000), (1, .int x1), (2, .int x2), (3, .int x3), (4, .int x4), (5, .int x5), (6, .int x6), (7, .int x7)] [] Y) ∧ (∀ (x1 : Int32) (x2 : Int32) (x3 : Int32) (x4 : Int32) (x5 : Int32) (x6 : Int32) (x7 : Int32) (Y : RS), ¬ gI Y 66 = 0 → K N 278 [(0, .ref 1000), (1, .int x1), (2, .int x2), (3, .int x3), (4, .int x4), (5, .int x5), (6, .int x6), (7, .int x7)] [] Y) ∧ (∀ (x1 : Int32) (x2 : Int32) (x3 : Int32) (x4 : Int32) (x5 : Int32) (x6 : Int32) (x7 : Int32) (Y : RS), ¬ gI Y 66 = 0 → K N 282 [(0, .ref 1000), (1, .int x1), (2, .int x2), (3, .int x3), (4, .int x4), (5, .int x5), (6, .int x6), (7, .int x7)] [] Y) ∧ (∀ (x1 : Int32) (x2 : Int32) (x3 : Int32) (x4 : Int32) (x5 : Int32) (x6 : Int32) (x7 : Int32) (s0 : Int32) (Y : RS), ¬ gI Y 66 = 0 → K N 283 [(0, .ref 1000), (1, .int x1), (2, .int x2), (3, .int x3), (4, .int x4), (5, .int x5), (6, .int x6), (7, .int x7)] [.int s0] Y) ∧ (∀ (x1 : Int32) (x2 : Int32) (x3 : Int32) (x4 : Int32) (x5 : Int32) (x6 : Int32) (x7 : Int32) (x8 : Int32) (Y : RS), ¬ gI Y 66 = 0 → K N 294 [(0, .ref 1000), (1, .int x1), (2, .int x2), (3, .int x3), (4, .int x4), (5, .int x5), (6, .int x6), (7, .int x7), (8, .int x8)] [] Y) ∧ (∀ (x1 : Int32) (x2 : Int32) (x3 : Int32) (x4 : Int32) (x5 : Int32) (x6 : Int32) (x7 : Int32) (x8 : Int32) (Y : RS), ¬ gI Y 66 = 0 → K N 303 [(0, .ref 1000), (1, .int x1), (2, .int x2), (3, .int x3), (4, .int x4), (5, .int x5), (6, .int x6), (7, .int x7), (8, .int x8)] [] Y) ∧ (∀ (x1 : Int32) (x2 : Int32) (x3 : Int32) (x4 : Int32) (x5 : Int32) (x6 : Int32) (x7 : Int32) (x8 : Int32) (Y : RS), ¬ gI Y 66 = 0 → K N 313 [(0, .ref 1000), (1, .int x1), (2, .int x2), (3, .int x3), (4, .int x4), (5, .int x5), (6, .int x6), (7, .int x7), (8, .int x8)] [] Y) ∧ (∀ (x1 : Int32) (x2 : Int32) (x3 : Int32) (x4 : Int32) (x5 : Int32) (x6 : Int32) (x7 : Int32) (x8 : Int32) (Y : RS), ¬ gI Y 66 = 0 → K N 317 [(0, .ref 1000), (1, .int x1), (2, .int x2), (3, .int x3), (4, .int x4), (5, .int x5), (6, .int x6), (7, .int x7), (8, .int x8)] [] Y) ∧ (∀ (x1 : Int32) (x2 : Int32) (x3 : Int32) (x4 : Int32) (x5 : Int32) (x6 : Int32) (x7 : Int32) (x8 : Int32) (s0 : Int32) (Y : RS), ¬ gI Y 66 = 0 → K N 318 [(0, .ref 1000), (1, .int x1), (2, .int x2), (3, .int x3), (4, .int x4), (5, .int x5), (6, .int x6), (7, .int x7), (8, .int x8)] [.int s0] Y) ∧ (∀ (x1 : Int32) (x2 : Int32) (x3 : Int32) (x4 : Int32) (x5 : Int32) (x6 : Int32) (x7 : Int32) (x8 : Int32) (x9 : Int32) (s0 : Int32) (s2 : Int32) (s3 : Int32) (s4 : Int32) (Y : RS), ¬ gI Y 66 = 0 → K N 348 [(0, .ref 1000), (1, .int x1), (2, .int x2), (3, .int x3), (4, .int x4), (5, .int x5), (6, .int x6), (7, .int x7), (8, .int x8), (9, .int x9)] [.int s0, .ref 1000, .int s2, .int s3, .int s4, .ref 1000] Y) ∧ (∀ (x1 : Int32) (x2 : Int32) (x3 : Int32) (x4 : Int32) (x5 : Int32) (x6 : Int32) (x7 : Int32) (x8 : Int32) (x9 : Int32) (s0 : Int32) (s2 : Int32) (s3 : Int32) (s4 : Int32) (Y : RS), ¬ gI Y 66 = 0 → K N 357 [(0, .ref 1000), (1, .int x1), (2, .int x2), (3, .int x3), (4, .int x4), (5, .int x5), (6, .int x6), (7, .int x7), (8, .int x8), (9, .int x9)] [.int s0, .ref 1000, .int s2, .int s3, .int s4, .ref 1000] Y) ∧ (∀ (x1 : Int32) (x2 : Int32) (x3 : Int32) (x4 : Int32) (x5 : Int32) (x6 : Int32) (x7 : Int32) (x8 : Int32) (x9 : Int32) (s0 : Int64) (s1 : Int32) (s3 : Int32) (s4 : Int32) (s5 : Int32) (Y : RS), ¬ gI Y 66 = 0 → K N 364 [(0, .ref 1000), (1, .int x1), (2, .int x2), (3, .int x3), (4, .int x4), (5, .int x5), (6, .int x6), (7, .int x7), (8, .int x8), (9, .int x9)] [.long s0, .int s1, .ref 1000, .int s3, .int s4, .int s5, .ref 1000] Y) := by
      intro N
      induction N using Nat.strongRecOn with
      | ind N ih =>
        refine ⟨?_, ?_, ?_, ?_, ?_, ?_, ?_, ?_, ?_, ?_, ?_, ?_, ?_, ?_, ?_, ?_, ?_, ?_, ?_, ?_, ?_, ?_, ?_, ?_, ?_, ?_, ?_, ?_, ?_, ?_, ?_, ?_, ?_, ?_, ?_, ?_, ?_, ?_⟩
        · intro x1 Y hz
          refine hB _ _ _ _ _ (fun m1 hm1 => ?_)
          dsimp only [ugo, uwp, ust, uct, rfd, Bchoice, Bchoice_0, Nat.beq, lv_args, rlk, rs1, rs2, rdl, rky, rcd, rno, rsw, Value.category, List.filter, List.take, List.drop, List.reverse, List.reverseAux, List.cons_append, List.nil_append, Option.toList, Int.toNat, Int.reduceToNat, if_pos, if_neg, reduceIte, ↓reduceIte, Nat.reduceAdd, Nat.reduceEqDiff, Nat.reduceBEq, beq_self_eq_true, Bool.not_true, Bool.not_false, Bool.and_true, Bool.and_false, Bool.true_and, Bool.false_and, gI_sI, gI_sL, gI_sA, gI_sM, gL_sI, gL_sL, gL_sA, gL_sM, aI_sI, aI_sL, aI_sA, aI_sM, aL_sI, aL_sL, aL_sA, aL_sM, oi_0, oi_1, oi_2, oi_3]; try dsimp only
          refine ⟨trivial, fun w2 τ2 hq2 => ?_⟩
          obtain ⟨hA2, b2, rfl, hb2⟩ := hq2 trivial
          have hz2 := hA2 hz
          dsimp only [Option.toList, List.cons_append, List.nil_append, Nat.beq, gI_sI, gI_sL, gI_sA, gI_sM, gL_sI, gL_sL, gL_sA, gL_sM, aI_sI, aI_sL, aI_sA, aI_sM, aL_sI, aL_sL, aL_sA, aL_sM]
          refine ⟨trivial, fun w3 τ3 hq3 => ?_⟩
          obtain ⟨rfl, b3, rfl, hb3⟩ := hq3 trivial
          dsimp only [Option.toList, List.cons_append, List.nil_append, Nat.beq, gI_sI, gI_sL, gI_sA, gI_sM, gL_sI, gL_sL, gL_sA, gL_sM, aI_sI, aI_sL, aI_sA, aI_sM, aL_sI, aL_sL, aL_sA, aL_sM]
          refine ⟨fun h4 => ?_, fun h4 => ?_⟩
          · exact hW _ 55 [(0, .ref 1000), (1, .int x1), (2, .int ((gI Y 69) - 3)), (3, .int (((gI Y 69) - 3) + 1)), (4, .int (((gI Y 69) - 3) + 2)), (5, .int b2)] _ _ _ (by simp [rdl, rky, Value.category]) ((ih m1 hm1).2.2.1 x1 ((gI Y 69) - 3) (((gI Y 69) - 3) + 1) (((gI Y 69) - 3) + 2) b2 _ hz2)
          · exact hW _ 46 [(0, .ref 1000), (1, .int x1), (2, .int ((gI Y 69) - 3)), (3, .int (((gI Y 69) - 3) + 1)), (4, .int (((gI Y 69) - 3) + 2)), (5, .int b2)] _ _ _ (by simp [rdl, rky, Value.category]) ((ih m1 hm1).2.1 x1 ((gI Y 69) - 3) (((gI Y 69) - 3) + 1) (((gI Y 69) - 3) + 2) b2 _ hz2)
        · intro x1 x2 x3 x4 x5 Y hz
          refine hB _ _ _ _ _ (fun m1 hm1 => ?_)
          dsimp only [ugo, uwp, ust, uct, rfd, Bchoice, Bchoice_46, Nat.beq, lv_args, rlk, rs1, rs2, rdl, rky, rcd, rno, rsw, Value.category, List.filter, List.take, List.drop, List.reverse, List.reverseAux, List.cons_append, List.nil_append, Option.toList, Int.toNat, Int.reduceToNat, if_pos, if_neg, reduceIte, ↓reduceIte, Nat.reduceAdd, Nat.reduceEqDiff, Nat.reduceBEq, beq_self_eq_true, Bool.not_true, Bool.not_false, Bool.and_true, Bool.and_false, Bool.true_and, Bool.false_and, gI_sI, gI_sL, gI_sA, gI_sM, gL_sI, gL_sL, gL_sA, gL_sM, aI_sI, aI_sL, aI_sA, aI_sM, aL_sI, aL_sL, aL_sA, aL_sM]; try dsimp only
          refine ⟨trivial, fun w2 τ2 hq2 => ?_⟩
          obtain ⟨rfl, b2, rfl, hb2⟩ := hq2 trivial
          dsimp only [Option.toList, List.cons_append, List.nil_append, Nat.beq, gI_sI, gI_sL, gI_sA, gI_sM, gL_sI, gL_sL, gL_sA, gL_sM, aI_sI, aI_sL, aI_sA, aI_sM, aL_sI, aL_sL, aL_sA, aL_sM]
          refine ⟨fun h3 => ?_, fun h3 => ?_⟩
          · exact hW _ 122 [(0, .ref 1000), (1, .int x1), (2, .int x2), (3, .int x3), (4, .int x4), (5, .int x5)] _ _ _ (by simp [rdl, rky, Value.category]) ((ih m1 hm1).2.2.2.2.2.2.2.2.2.1 x1 x2 x3 x4 x5 _ hz)
          · exact hW _ 55 [(0, .ref 1000), (1, .int x1), (2, .int x2), (3, .int x3), (4, .int x4), (5, .int x5)] _ _ _ (by simp [rdl, rky, Value.category]) ((ih m1 hm1).2.2.1 x1 x2 x3 x4 x5 _ hz)
        · intro x1 x2 x3 x4 x5 Y hz
          refine hB _ _ _ _ _ (fun m1 hm1 => ?_)
          dsimp only [ugo, uwp, ust, uct, rfd, Bchoice, Bchoice_55, Nat.beq, lv_args, rlk, rs1, rs2, rdl, rky, rcd, rno, rsw, Value.category, List.filter, List.take, List.drop, List.reverse, List.reverseAux, List.cons_append, List.nil_append, Option.toList, Int.toNat, Int.reduceToNat, if_pos, if_neg, reduceIte, ↓reduceIte, Nat.reduceAdd, Nat.reduceEqDiff, Nat.reduceBEq, beq_self_eq_true, Bool.not_true, Bool.not_false, Bool.and_true, Bool.and_false, Bool.true_and, Bool.false_and, gI_sI, gI_sL, gI_sA, gI_sM, gL_sI, gL_sL, gL_sA, gL_sM, aI_sI, aI_sL, aI_sA, aI_sM, aL_sI, aL_sL, aL_sA, aL_sM]; try dsimp only
          refine ⟨trivial, fun w2 τ2 hq2 => ?_⟩
          obtain ⟨rfl, b2, rfl, hb2⟩ := hq2 trivial
          dsimp only [Option.toList, List.cons_append, List.nil_append, Nat.beq, gI_sI, gI_sL, gI_sA, gI_sM, gL_sI, gL_sL, gL_sA, gL_sM, aI_sI, aI_sL, aI_sA, aI_sM, aL_sI, aL_sL, aL_sA, aL_sM]
          refine ⟨fun h3 => ?_, fun h3 => ?_⟩
          · exact hW _ 84 [(0, .ref 1000), (1, .int x1), (2, .int x2), (3, .int x3), (4, .int x4), (5, .int x5)] _ _ _ (by simp [rdl, rky, Value.category]) ((ih m1 hm1).2.2.2.2.2.1 x1 x2 x3 x4 x5 _ hz)
          · exact hW _ 63 [(0, .ref 1000), (1, .int x1), (2, .int x2), (3, .int x3), (4, .int x4), (5, .int x5)] _ _ _ (by simp [rdl, rky, Value.category]) ((ih m1 hm1).2.2.2.1 x1 x2 x3 x4 x5 _ hz)
        · intro x1 x2 x3 x4 x5 Y hz
          refine hB _ _ _ _ _ (fun m1 hm1 => ?_)
          dsimp only [ugo, uwp, ust, uct, rfd, Bchoice, Bchoice_63, Nat.beq, lv_args, rlk, rs1, rs2, rdl, rky, rcd, rno, rsw, Value.category, List.filter, List.take, List.drop, List.reverse, List.reverseAux, List.cons_append, List.nil_append, Option.toList, Int.toNat, Int.reduceToNat, if_pos, if_neg, reduceIte, ↓reduceIte, Nat.reduceAdd, Nat.reduceEqDiff, Nat.reduceBEq, beq_self_eq_true, Bool.not_true, Bool.not_false, Bool.and_true, Bool.and_false, Bool.true_and, Bool.false_and, gI_sI, gI_sL, gI_sA, gI_sM, gL_sI, gL_sL, gL_sA, gL_sM, aI_sI, aI_sL, aI_sA, aI_sM, aL_sI, aL_sL, aL_sA, aL_sM, oi_5]; try dsimp only
          intro p2
          refine ⟨fun h3 => ?_, fun h3 => ?_⟩
          · exact hW _ 84 [(0, .ref 1000), (1, .int x1), (2, .int x2), (3, .int x3), (4, .int x4), (5, .int x5)] _ _ _ (by simp [rdl, rky, Value.category]) ((ih m1 hm1).2.2.2.2.2.1 x1 x2 x3 x4 x5 _ hz)
          · exact hW _ 73 [(0, .ref 1000), (1, .int x1), (2, .int x2), (3, .int x3), (4, .int x4), (5, .int x5)] _ _ _ (by simp [rdl, rky, Value.category]) ((ih m1 hm1).2.2.2.2.1 x1 x2 x3 x4 x5 _ hz)
        · intro x1 x2 x3 x4 x5 Y hz
          refine hB _ _ _ _ _ (fun m1 hm1 => ?_)
          dsimp only [ugo, uwp, ust, uct, rfd, Bchoice, Bchoice_73, Nat.beq, lv_args, rlk, rs1, rs2, rdl, rky, rcd, rno, rsw, Value.category, List.filter, List.take, List.drop, List.reverse, List.reverseAux, List.cons_append, List.nil_append, Option.toList, Int.toNat, Int.reduceToNat, if_pos, if_neg, reduceIte, ↓reduceIte, Nat.reduceAdd, Nat.reduceEqDiff, Nat.reduceBEq, beq_self_eq_true, Bool.not_true, Bool.not_false, Bool.and_true, Bool.and_false, Bool.true_and, Bool.false_and, gI_sI, gI_sL, gI_sA, gI_sM, gL_sI, gL_sL, gL_sA, gL_sM, aI_sI, aI_sL, aI_sA, aI_sM, aL_sI, aL_sL, aL_sA, aL_sM, oi_5]; try dsimp only
          intro p2
          refine ⟨trivial, fun w3 τ3 hq3 => ?_⟩
          obtain ⟨rfl, hz3⟩ := hq3 (show ¬ (5 : Int32) = 0 by decide)
          dsimp only [Option.toList, List.cons_append, List.nil_append, Nat.beq, gI_sI, gI_sL, gI_sA, gI_sM, gL_sI, gL_sL, gL_sA, gL_sM, aI_sI, aI_sL, aI_sA, aI_sM, aL_sI, aL_sL, aL_sA, aL_sM]
          exact hW _ 84 [(0, .ref 1000), (1, .int x1), (2, .int x2), (3, .int x3), (4, .int x4), (5, .int x5)] _ _ _ (by simp [rdl, rky, Value.category]) ((ih m1 hm1).2.2.2.2.2.1 x1 x2 x3 x4 x5 _ hz3)
        · intro x1 x2 x3 x4 x5 Y hz
          refine hB _ _ _ _ _ (fun m1 hm1 => ?_)
          dsimp only [ugo, uwp, ust, uct, rfd, Bchoice, Bchoice_84, Nat.beq, lv_args, rlk, rs1, rs2, rdl, rky, rcd, rno, rsw, Value.category, List.filter, List.take, List.drop, List.reverse, List.reverseAux, List.cons_append, List.nil_append, Option.toList, Int.toNat, Int.reduceToNat, if_pos, if_neg, reduceIte, ↓reduceIte, Nat.reduceAdd, Nat.reduceEqDiff, Nat.reduceBEq, beq_self_eq_true, Bool.not_true, Bool.not_false, Bool.and_true, Bool.and_false, Bool.true_and, Bool.false_and, gI_sI, gI_sL, gI_sA, gI_sM, gL_sI, gL_sL, gL_sA, gL_sM, aI_sI, aI_sL, aI_sA, aI_sM, aL_sI, aL_sL, aL_sA, aL_sM]; try dsimp only
          refine ⟨trivial, fun w2 τ2 hq2 => ?_⟩
          obtain ⟨rfl, b2, rfl, hb2⟩ := hq2 trivial
          dsimp only [Option.toList, List.cons_append, List.nil_append, Nat.beq, gI_sI, gI_sL, gI_sA, gI_sM, gL_sI, gL_sL, gL_sA, gL_sM, aI_sI, aI_sL, aI_sA, aI_sM, aL_sI, aL_sL, aL_sA, aL_sM]
          refine ⟨fun h3 => ?_, fun h3 => ?_⟩
          · exact hW _ 116 [(0, .ref 1000), (1, .int x1), (2, .int x2), (3, .int x3), (4, .int x4), (5, .int x5)] _ _ _ (by simp [rdl, rky, Value.category]) ((ih m1 hm1).2.2.2.2.2.2.2.2.1 x1 x2 x3 x4 x5 _ hz)
          · exact hW _ 93 [(0, .ref 1000), (1, .int x1), (2, .int x2), (3, .int x3), (4, .int x4), (5, .int x5)] _ _ _ (by simp [rdl, rky, Value.category]) ((ih m1 hm1).2.2.2.2.2.2.1 x1 x2 x3 x4 x5 _ hz)
        · intro x1 x2 x3 x4 x5 Y hz
          refine hB _ _ _ _ _ (fun m1 hm1 => ?_)
          dsimp only [ugo, uwp, ust, uct, rfd, Bchoice, Bchoice_93, Nat.beq, lv_args, rlk, rs1, rs2, rdl, rky, rcd, rno, rsw, Value.category, List.filter, List.take, List.drop, List.reverse, List.reverseAux, List.cons_append, List.nil_append, Option.toList, Int.toNat, Int.reduceToNat, if_pos, if_neg, reduceIte, ↓reduceIte, Nat.reduceAdd, Nat.reduceEqDiff, Nat.reduceBEq, beq_self_eq_true, Bool.not_true, Bool.not_false, Bool.and_true, Bool.and_false, Bool.true_and, Bool.false_and, gI_sI, gI_sL, gI_sA, gI_sM, gL_sI, gL_sL, gL_sA, gL_sM, aI_sI, aI_sL, aI_sA, aI_sM, aL_sI, aL_sL, aL_sA, aL_sM, oi_5]; try dsimp only
          intro p2
          refine ⟨fun h3 => ?_, fun h3 => ?_⟩
          · exact hW _ 116 [(0, .ref 1000), (1, .int x1), (2, .int x2), (3, .int x3), (4, .int x4), (5, .int x5)] _ _ _ (by simp [rdl, rky, Value.category]) ((ih m1 hm1).2.2.2.2.2.2.2.2.1 x1 x2 x3 x4 x5 _ hz)
          · exact hW _ 104 [(0, .ref 1000), (1, .int x1), (2, .int x2), (3, .int x3), (4, .int x4), (5, .int x5)] _ _ _ (by simp [rdl, rky, Value.category]) ((ih m1 hm1).2.2.2.2.2.2.2.1 x1 x2 x3 x4 x5 _ hz)
        · intro x1 x2 x3 x4 x5 Y hz
          refine hB _ _ _ _ _ (fun m1 hm1 => ?_)
          dsimp only [ugo, uwp, ust, uct, rfd, Bchoice, Bchoice_104, Nat.beq, lv_args, rlk, rs1, rs2, rdl, rky, rcd, rno, rsw, Value.category, List.filter, List.take, List.drop, List.reverse, List.reverseAux, List.cons_append, List.nil_append, Option.toList, Int.toNat, Int.reduceToNat, if_pos, if_neg, reduceIte, ↓reduceIte, Nat.reduceAdd, Nat.reduceEqDiff, Nat.reduceBEq, beq_self_eq_true, Bool.not_true, Bool.not_false, Bool.and_true, Bool.and_false, Bool.true_and, Bool.false_and, gI_sI, gI_sL, gI_sA, gI_sM, gL_sI, gL_sL, gL_sA, gL_sM, aI_sI, aI_sL, aI_sA, aI_sM, aL_sI, aL_sL, aL_sA, aL_sM, oi_5]; try dsimp only
          intro p2
          refine ⟨trivial, fun w3 τ3 hq3 => ?_⟩
          obtain ⟨rfl, hz3⟩ := hq3 (show ¬ (5 : Int32) = 0 by decide)
          dsimp only [Option.toList, List.cons_append, List.nil_append, Nat.beq, gI_sI, gI_sL, gI_sA, gI_sM, gL_sI, gL_sL, gL_sA, gL_sM, aI_sI, aI_sL, aI_sA, aI_sM, aL_sI, aL_sL, aL_sA, aL_sM]
          exact hW _ 116 [(0, .ref 1000), (1, .int x1), (2, .int x2), (3, .int x3), (4, .int x4), (5, .int x5)] _ _ _ (by simp [rdl, rky, Value.category]) ((ih m1 hm1).2.2.2.2.2.2.2.2.1 x1 x2 x3 x4 x5 _ hz3)
        · intro x1 x2 x3 x4 x5 Y hz
          refine hB _ _ _ _ _ (fun m1 hm1 => ?_)
          dsimp only [ugo, uwp, ust, uct, rfd, Bchoice, Bchoice_116, Nat.beq, lv_args, rlk, rs1, rs2, rdl, rky, rcd, rno, rsw, Value.category, List.filter, List.take, List.drop, List.reverse, List.reverseAux, List.cons_append, List.nil_append, Option.toList, Int.toNat, Int.reduceToNat, if_pos, if_neg, reduceIte, ↓reduceIte, Nat.reduceAdd, Nat.reduceEqDiff, Nat.reduceBEq, beq_self_eq_true, Bool.not_true, Bool.not_false, Bool.and_true, Bool.and_false, Bool.true_and, Bool.false_and, gI_sI, gI_sL, gI_sA, gI_sM, gL_sI, gL_sL, gL_sA, gL_sM, aI_sI, aI_sL, aI_sA, aI_sM, aL_sI, aL_sL, aL_sA, aL_sM]; try dsimp only
          refine ⟨trivial, fun w2 τ2 hq2 => ?_⟩
          obtain ⟨rfl, rfl⟩ := hq2 trivial
          dsimp only [Option.toList, List.cons_append, List.nil_append, Nat.beq, gI_sI, gI_sL, gI_sA, gI_sM, gL_sI, gL_sL, gL_sA, gL_sM, aI_sI, aI_sL, aI_sA, aI_sM, aL_sI, aL_sL, aL_sA, aL_sM]
          unfold Qv_choiceA
          try dsimp only
          exact ⟨rfl, hz⟩
        · intro x1 x2 x3 x4 x5 Y hz
          refine hB _ _ _ _ _ (fun m1 hm1 => ?_)
          dsimp only [ugo, uwp, ust, uct, rfd, Bchoice, Bchoice_122, Nat.beq, lv_args, rlk, rs1, rs2, rdl, rky, rcd, rno, rsw, Value.category, List.filter, List.take, List.drop, List.reverse, List.reverseAux, List.cons_append, List.nil_append, Option.toList, Int.toNat, Int.reduceToNat, if_pos, if_neg, reduceIte, ↓reduceIte, Nat.reduceAdd, Nat.reduceEqDiff, Nat.reduceBEq, beq_self_eq_true, Bool.not_true, Bool.not_false, Bool.and_true, Bool.and_false, Bool.true_and, Bool.false_and, gI_sI, gI_sL, gI_sA, gI_sM, gL_sI, gL_sL, gL_sA, gL_sM, aI_sI, aI_sL, aI_sA, aI_sM, aL_sI, aL_sL, aL_sA, aL_sM, oi_5]; try dsimp only
          intro p2
          refine ⟨fun h3 => ?_, fun h3 => ?_⟩
          · exact hW _ 172 [(0, .ref 1000), (1, .int x1), (2, .int x2), (3, .int x3), (4, .int x4), (5, .int x5)] _ _ _ (by simp [rdl, rky, Value.category]) ((ih m1 hm1).2.2.2.2.2.2.2.2.2.2.2.2.2.1 x1 x2 x3 x4 x5 _ hz)
          · exact hW _ 132 [(0, .ref 1000), (1, .int x1), (2, .int x2), (3, .int x3), (4, .int x4), (5, .int x5)] _ _ _ (by simp [rdl, rky, Value.category]) ((ih m1 hm1).2.2.2.2.2.2.2.2.2.2.1 x1 x2 x3 x4 x5 _ hz)
        · intro x1 x2 x3 x4 x5 Y hz
          refine hB _ _ _ _ _ (fun m1 hm1 => ?_)
          dsimp only [ugo, uwp, ust, uct, rfd, Bchoice, Bchoice_132, Nat.beq, lv_args, rlk, rs1, rs2, rdl, rky, rcd, rno, rsw, Value.category, List.filter, List.take, List.drop, List.reverse, List.reverseAux, List.cons_append, List.nil_append, Option.toList, Int.toNat, Int.reduceToNat, if_pos, if_neg, reduceIte, ↓reduceIte, Nat.reduceAdd, Nat.reduceEqDiff, Nat.reduceBEq, beq_self_eq_true, Bool.not_true, Bool.not_false, Bool.and_true, Bool.and_false, Bool.true_and, Bool.false_and, gI_sI, gI_sL, gI_sA, gI_sM, gL_sI, gL_sL, gL_sA, gL_sM, aI_sI, aI_sL, aI_sA, aI_sM, aL_sI, aL_sL, aL_sA, aL_sM, oi_5]; try dsimp only
          intro p2
          refine ⟨trivial, fun w3 τ3 hq3 => ?_⟩
          obtain ⟨rfl, hz3⟩ := hq3 (show ¬ (5 : Int32) = 0 by decide)
          dsimp only [Option.toList, List.cons_append, List.nil_append, Nat.beq, gI_sI, gI_sL, gI_sA, gI_sM, gL_sI, gL_sL, gL_sA, gL_sM, aI_sI, aI_sL, aI_sA, aI_sM, aL_sI, aL_sL, aL_sA, aL_sM]
          intro p4
          refine ⟨fun h5 => ?_, fun h5 => ?_⟩
          · exact hW _ 166 [(0, .ref 1000), (1, .int x1), (2, .int x2), (3, .int x3), (4, .int x4), (5, .int x5)] _ _ _ (by simp [rdl, rky, Value.category]) ((ih m1 hm1).2.2.2.2.2.2.2.2.2.2.2.2.1 x1 x2 x3 x4 x5 _ hz3)
          · exact hW _ 154 [(0, .ref 1000), (1, .int x1), (2, .int x2), (3, .int x3), (4, .int x4), (5, .int x5)] _ _ _ (by simp [rdl, rky, Value.category]) ((ih m1 hm1).2.2.2.2.2.2.2.2.2.2.2.1 x1 x2 x3 x4 x5 _ hz3)
        · intro x1 x2 x3 x4 x5 Y hz
          refine hB _ _ _ _ _ (fun m1 hm1 => ?_)
          dsimp only [ugo, uwp, ust, uct, rfd, Bchoice, Bchoice_154, Nat.beq, lv_args, rlk, rs1, rs2, rdl, rky, rcd, rno, rsw, Value.category, List.filter, List.take, List.drop, List.reverse, List.reverseAux, List.cons_append, List.nil_append, Option.toList, Int.toNat, Int.reduceToNat, if_pos, if_neg, reduceIte, ↓reduceIte, Nat.reduceAdd, Nat.reduceEqDiff, Nat.reduceBEq, beq_self_eq_true, Bool.not_true, Bool.not_false, Bool.and_true, Bool.and_false, Bool.true_and, Bool.false_and, gI_sI, gI_sL, gI_sA, gI_sM, gL_sI, gL_sL, gL_sA, gL_sM, aI_sI, aI_sL, aI_sA, aI_sM, aL_sI, aL_sL, aL_sA, aL_sM, oi_5]; try dsimp only
          intro p2
          refine ⟨trivial, fun w3 τ3 hq3 => ?_⟩
          obtain ⟨rfl, hz3⟩ := hq3 (show ¬ (5 : Int32) = 0 by decide)
          dsimp only [Option.toList, List.cons_append, List.nil_append, Nat.beq, gI_sI, gI_sL, gI_sA, gI_sM, gL_sI, gL_sL, gL_sA, gL_sM, aI_sI, aI_sL, aI_sA, aI_sM, aL_sI, aL_sL, aL_sA, aL_sM]
          exact hW _ 166 [(0, .ref 1000), (1, .int x1), (2, .int x2), (3, .int x3), (4, .int x4), (5, .int x5)] _ _ _ (by simp [rdl, rky, Value.category]) ((ih m1 hm1).2.2.2.2.2.2.2.2.2.2.2.2.1 x1 x2 x3 x4 x5 _ hz3)
        · intro x1 x2 x3 x4 x5 Y hz
          refine hB _ _ _ _ _ (fun m1 hm1 => ?_)
          dsimp only [ugo, uwp, ust, uct, rfd, Bchoice, Bchoice_166, Nat.beq, lv_args, rlk, rs1, rs2, rdl, rky, rcd, rno, rsw, Value.category, List.filter, List.take, List.drop, List.reverse, List.reverseAux, List.cons_append, List.nil_append, Option.toList, Int.toNat, Int.reduceToNat, if_pos, if_neg, reduceIte, ↓reduceIte, Nat.reduceAdd, Nat.reduceEqDiff, Nat.reduceBEq, beq_self_eq_true, Bool.not_true, Bool.not_false, Bool.and_true, Bool.and_false, Bool.true_and, Bool.false_and, gI_sI, gI_sL, gI_sA, gI_sM, gL_sI, gL_sL, gL_sA, gL_sM, aI_sI, aI_sL, aI_sA, aI_sM, aL_sI, aL_sL, aL_sA, aL_sM]; try dsimp only
          refine ⟨trivial, fun w2 τ2 hq2 => ?_⟩
          obtain ⟨rfl, rfl⟩ := hq2 trivial
          dsimp only [Option.toList, List.cons_append, List.nil_append, Nat.beq, gI_sI, gI_sL, gI_sA, gI_sM, gL_sI, gL_sL, gL_sA, gL_sM, aI_sI, aI_sL, aI_sA, aI_sM, aL_sI, aL_sL, aL_sA, aL_sM]
          unfold Qv_choiceA
          try dsimp only
          exact ⟨rfl, hz⟩
        · intro x1 x2 x3 x4 x5 Y hz
          refine hB _ _ _ _ _ (fun m1 hm1 => ?_)
          dsimp only [ugo, uwp, ust, uct, rfd, Bchoice, Bchoice_172, Nat.beq, lv_args, rlk, rs1, rs2, rdl, rky, rcd, rno, rsw, Value.category, List.filter, List.take, List.drop, List.reverse, List.reverseAux, List.cons_append, List.nil_append, Option.toList, Int.toNat, Int.reduceToNat, if_pos, if_neg, reduceIte, ↓reduceIte, Nat.reduceAdd, Nat.reduceEqDiff, Nat.reduceBEq, beq_self_eq_true, Bool.not_true, Bool.not_false, Bool.and_true, Bool.and_false, Bool.true_and, Bool.false_and, gI_sI, gI_sL, gI_sA, gI_sM, gL_sI, gL_sL, gL_sA, gL_sM, aI_sI, aI_sL, aI_sA, aI_sM, aL_sI, aL_sL, aL_sA, aL_sM]; try dsimp only
          intro p2
          refine ⟨fun h3 => ?_, fun h3 => ?_⟩
          · exact hW _ 188 [(0, .ref 1000), (1, .int x1), (2, .int x2), (3, .int x3), (4, .int x4), (5, .int x5)] _ _ _ (by simp [rdl, rky, Value.category]) ((ih m1 hm1).2.2.2.2.2.2.2.2.2.2.2.2.2.2.2.1 x1 x2 x3 x4 x5 x4 _ hz)
          · exact hW _ 184 [(0, .ref 1000), (1, .int x1), (2, .int x2), (3, .int x3), (4, .int x4), (5, .int x5)] _ _ _ (by simp [rdl, rky, Value.category]) ((ih m1 hm1).2.2.2.2.2.2.2.2.2.2.2.2.2.2.1 x1 x2 x3 x4 x5 x4 _ hz)
        · intro x1 x2 x3 x4 x5 s0 Y hz
          refine hB _ _ _ _ _ (fun m1 hm1 => ?_)
          dsimp only [ugo, uwp, ust, uct, rfd, Bchoice, Bchoice_184, Nat.beq, lv_args, rlk, rs1, rs2, rdl, rky, rcd, rno, rsw, Value.category, List.filter, List.take, List.drop, List.reverse, List.reverseAux, List.cons_append, List.nil_append, Option.toList, Int.toNat, Int.reduceToNat, if_pos, if_neg, reduceIte, ↓reduceIte, Nat.reduceAdd, Nat.reduceEqDiff, Nat.reduceBEq, beq_self_eq_true, Bool.not_true, Bool.not_false, Bool.and_true, Bool.and_false, Bool.true_and, Bool.false_and, gI_sI, gI_sL, gI_sA, gI_sM, gL_sI, gL_sL, gL_sA, gL_sM, aI_sI, aI_sL, aI_sA, aI_sM, aL_sI, aL_sL, aL_sA, aL_sM, oi_0]; try dsimp only
          exact hW _ 189 [(0, .ref 1000), (1, .int x1), (2, .int x2), (3, .int x3), (4, .int x4), (5, .int x5)] _ _ _ (by simp [rdl, rky, Value.category]) ((ih m1 hm1).2.2.2.2.2.2.2.2.2.2.2.2.2.2.2.2.1 x1 x2 x3 x4 x5 0 s0 _ hz)
        · intro x1 x2 x3 x4 x5 s0 Y hz
          refine hB _ _ _ _ _ (fun m1 hm1 => ?_)
          dsimp only [ugo, uwp, ust, uct, rfd, Bchoice, Bchoice_188, Nat.beq, lv_args, rlk, rs1, rs2, rdl, rky, rcd, rno, rsw, Value.category, List.filter, List.take, List.drop, List.reverse, List.reverseAux, List.cons_append, List.nil_append, Option.toList, Int.toNat, Int.reduceToNat, if_pos, if_neg, reduceIte, ↓reduceIte, Nat.reduceAdd, Nat.reduceEqDiff, Nat.reduceBEq, beq_self_eq_true, Bool.not_true, Bool.not_false, Bool.and_true, Bool.and_false, Bool.true_and, Bool.false_and, gI_sI, gI_sL, gI_sA, gI_sM, gL_sI, gL_sL, gL_sA, gL_sM, aI_sI, aI_sL, aI_sA, aI_sM, aL_sI, aL_sL, aL_sA, aL_sM, oi_1]; try dsimp only
          exact hW _ 189 [(0, .ref 1000), (1, .int x1), (2, .int x2), (3, .int x3), (4, .int x4), (5, .int x5)] _ _ _ (by simp [rdl, rky, Value.category]) ((ih m1 hm1).2.2.2.2.2.2.2.2.2.2.2.2.2.2.2.2.1 x1 x2 x3 x4 x5 1 s0 _ hz)
        · intro x1 x2 x3 x4 x5 s0 s1 Y hz
          refine hB _ _ _ _ _ (fun m1 hm1 => ?_)
          dsimp only [ugo, uwp, ust, uct, rfd, Bchoice, Bchoice_189, Nat.beq, lv_args, rlk, rs1, rs2, rdl, rky, rcd, rno, rsw, Value.category, List.filter, List.take, List.drop, List.reverse, List.reverseAux, List.cons_append, List.nil_append, Option.toList, Int.toNat, Int.reduceToNat, if_pos, if_neg, reduceIte, ↓reduceIte, Nat.reduceAdd, Nat.reduceEqDiff, Nat.reduceBEq, beq_self_eq_true, Bool.not_true, Bool.not_false, Bool.and_true, Bool.and_false, Bool.true_and, Bool.false_and, gI_sI, gI_sL, gI_sA, gI_sM, gL_sI, gL_sL, gL_sA, gL_sM, aI_sI, aI_sL, aI_sA, aI_sM, aL_sI, aL_sL, aL_sA, aL_sM]; try dsimp only
          refine ⟨trivial, fun w2 τ2 hq2 => ?_⟩
          obtain ⟨hA2, b2, rfl, hb2⟩ := hq2 trivial
          have hz2 := hA2 hz
          dsimp only [Option.toList, List.cons_append, List.nil_append, Nat.beq, gI_sI, gI_sL, gI_sA, gI_sM, gL_sI, gL_sL, gL_sA, gL_sM, aI_sI, aI_sL, aI_sA, aI_sM, aL_sI, aL_sL, aL_sA, aL_sM]
          refine ⟨fun h3 => ?_, fun h3 => ?_⟩
          · exact hW _ 200 [(0, .ref 1000), (1, .int x1), (2, .int x2), (3, .int x3), (4, .int x4), (5, .int x5)] _ _ _ (by simp [rdl, rky, Value.category]) ((ih m1 hm1).2.2.2.2.2.2.2.2.2.2.2.2.2.2.2.2.2.2.1 x1 x2 x3 x4 x5 _ hz2)
          · exact hW _ 195 [(0, .ref 1000), (1, .int x1), (2, .int x2), (3, .int x3), (4, .int x4), (5, .int x5)] _ _ _ (by simp [rdl, rky, Value.category]) ((ih m1 hm1).2.2.2.2.2.2.2.2.2.2.2.2.2.2.2.2.2.1 x1 x2 x3 x4 x5 _ hz2)
        · intro x1 x2 x3 x4 x5 Y hz
          refine hB _ _ _ _ _ (fun m1 hm1 => ?_)
          dsimp only [ugo, uwp, ust, uct, rfd, Bchoice, Bchoice_195, Nat.beq, lv_args, rlk, rs1, rs2, rdl, rky, rcd, rno, rsw, Value.category, List.filter, List.take, List.drop, List.reverse, List.reverseAux, List.cons_append, List.nil_append, Option.toList, Int.toNat, Int.reduceToNat, if_pos, if_neg, reduceIte, ↓reduceIte, Nat.reduceAdd, Nat.reduceEqDiff, Nat.reduceBEq, beq_self_eq_true, Bool.not_true, Bool.not_false, Bool.and_true, Bool.and_false, Bool.true_and, Bool.false_and, gI_sI, gI_sL, gI_sA, gI_sM, gL_sI, gL_sL, gL_sA, gL_sM, aI_sI, aI_sL, aI_sA, aI_sM, aL_sI, aL_sL, aL_sA, aL_sM]; try dsimp only
          refine ⟨fun h2 => ?_, fun h2 => ?_⟩
          · exact hW _ 206 [(0, .ref 1000), (1, .int x1), (2, .int x2), (3, .int x3), (4, .int x4), (5, .int x5)] _ _ _ (by simp [rdl, rky, Value.category]) ((ih m1 hm1).2.2.2.2.2.2.2.2.2.2.2.2.2.2.2.2.2.2.2.1 x1 x2 x3 x4 x5 _ hz)
          · exact hW _ 200 [(0, .ref 1000), (1, .int x1), (2, .int x2), (3, .int x3), (4, .int x4), (5, .int x5)] _ _ _ (by simp [rdl, rky, Value.category]) ((ih m1 hm1).2.2.2.2.2.2.2.2.2.2.2.2.2.2.2.2.2.2.1 x1 x2 x3 x4 x5 _ hz)
        · intro x1 x2 x3 x4 x5 Y hz
          refine hB _ _ _ _ _ (fun m1 hm1 => ?_)
          dsimp only [ugo, uwp, ust, uct, rfd, Bchoice, Bchoice_200, Nat.beq, lv_args, rlk, rs1, rs2, rdl, rky, rcd, rno, rsw, Value.category, List.filter, List.take, List.drop, List.reverse, List.reverseAux, List.cons_append, List.nil_append, Option.toList, Int.toNat, Int.reduceToNat, if_pos, if_neg, reduceIte, ↓reduceIte, Nat.reduceAdd, Nat.reduceEqDiff, Nat.reduceBEq, beq_self_eq_true, Bool.not_true, Bool.not_false, Bool.and_true, Bool.and_false, Bool.true_and, Bool.false_and, gI_sI, gI_sL, gI_sA, gI_sM, gL_sI, gL_sL, gL_sA, gL_sM, aI_sI, aI_sL, aI_sA, aI_sM, aL_sI, aL_sL, aL_sA, aL_sM]; try dsimp only
          refine ⟨trivial, fun w2 τ2 hq2 => ?_⟩
          obtain ⟨rfl, rfl⟩ := hq2 trivial
          dsimp only [Option.toList, List.cons_append, List.nil_append, Nat.beq, gI_sI, gI_sL, gI_sA, gI_sM, gL_sI, gL_sL, gL_sA, gL_sM, aI_sI, aI_sL, aI_sA, aI_sM, aL_sI, aL_sL, aL_sA, aL_sM]
          unfold Qv_choiceA
          try dsimp only
          exact ⟨rfl, hz⟩
        · intro x1 x2 x3 x4 x5 Y hz
          refine hB _ _ _ _ _ (fun m1 hm1 => ?_)
          dsimp only [ugo, uwp, ust, uct, rfd, Bchoice, Bchoice_206, Nat.beq, lv_args, rlk, rs1, rs2, rdl, rky, rcd, rno, rsw, Value.category, List.filter, List.take, List.drop, List.reverse, List.reverseAux, List.cons_append, List.nil_append, Option.toList, Int.toNat, Int.reduceToNat, if_pos, if_neg, reduceIte, ↓reduceIte, Nat.reduceAdd, Nat.reduceEqDiff, Nat.reduceBEq, beq_self_eq_true, Bool.not_true, Bool.not_false, Bool.and_true, Bool.and_false, Bool.true_and, Bool.false_and, gI_sI, gI_sL, gI_sA, gI_sM, gL_sI, gL_sL, gL_sA, gL_sM, aI_sI, aI_sL, aI_sA, aI_sM, aL_sI, aL_sL, aL_sA, aL_sM]; try dsimp only
          intro p2
          intro p3
          refine ⟨fun h4 => ?_, fun h4 => ?_⟩
          · exact hW _ 235 [(0, .ref 1000), (1, .int x1), (2, .int x2), (3, .int x3), (4, .int x4), (5, .int x5), (6, .int ((aI Y 70) (x3).toNatClampNeg)), (7, .int ((aI Y 70) (x4).toNatClampNeg))] _ _ _ (by simp [rdl, rky, Value.category]) ((ih m1 hm1).2.2.2.2.2.2.2.2.2.2.2.2.2.2.2.2.2.2.2.2.2.1 x1 x2 x3 x4 x5 ((aI Y 70) (x3).toNatClampNeg) ((aI Y 70) (x4).toNatClampNeg) _ hz)
          · exact hW _ 230 [(0, .ref 1000), (1, .int x1), (2, .int x2), (3, .int x3), (4, .int x4), (5, .int x5), (6, .int ((aI Y 70) (x3).toNatClampNeg)), (7, .int ((aI Y 70) (x4).toNatClampNeg))] _ _ _ (by simp [rdl, rky, Value.category]) ((ih m1 hm1).2.2.2.2.2.2.2.2.2.2.2.2.2.2.2.2.2.2.2.2.1 x1 x2 x3 x4 x5 ((aI Y 70) (x3).toNatClampNeg) ((aI Y 70) (x4).toNatClampNeg) _ hz)
        · intro x1 x2 x3 x4 x5 x6 x7 Y hz
          refine hB _ _ _ _ _ (fun m1 hm1 => ?_)
          dsimp only [ugo, uwp, ust, uct, rfd, Bchoice, Bchoice_230, Nat.beq, lv_args, rlk, rs1, rs2, rdl, rky, rcd, rno, rsw, Value.category, List.filter, List.take, List.drop, List.reverse, List.reverseAux, List.cons_append, List.nil_append, Option.toList, Int.toNat, Int.reduceToNat, if_pos, if_neg, reduceIte, ↓reduceIte, Nat.reduceAdd, Nat.reduceEqDiff, Nat.reduceBEq, beq_self_eq_true, Bool.not_true, Bool.not_false, Bool.and_true, Bool.and_false, Bool.true_and, Bool.false_and, gI_sI, gI_sL, gI_sA, gI_sM, gL_sI, gL_sL, gL_sA, gL_sM, aI_sI, aI_sL, aI_sA, aI_sM, aL_sI, aL_sL, aL_sA, aL_sM]; try dsimp only
          exact hW _ 283 [(0, .ref 1000), (1, .int x1), (2, .int x2), (3, .int x3), (4, .int x4), (5, .int x5), (6, .int x6), (7, .int x7)] _ _ _ (by simp [rdl, rky, Value.category]) ((ih m1 hm1).2.2.2.2.2.2.2.2.2.2.2.2.2.2.2.2.2.2.2.2.2.2.2.2.2.2.2.2.2.1 x1 x2 x3 x4 x5 x6 x7 x6 _ hz)
        · intro x1 x2 x3 x4 x5 x6 x7 Y hz
          refine hB _ _ _ _ _ (fun m1 hm1 => ?_)
          dsimp only [ugo, uwp, ust, uct, rfd, Bchoice, Bchoice_235, Nat.beq, lv_args, rlk, rs1, rs2, rdl, rky, rcd, rno, rsw, Value.category, List.filter, List.take, List.drop, List.reverse, List.reverseAux, List.cons_append, List.nil_append, Option.toList, Int.toNat, Int.reduceToNat, if_pos, if_neg, reduceIte, ↓reduceIte, Nat.reduceAdd, Nat.reduceEqDiff, Nat.reduceBEq, beq_self_eq_true, Bool.not_true, Bool.not_false, Bool.and_true, Bool.and_false, Bool.true_and, Bool.false_and, gI_sI, gI_sL, gI_sA, gI_sM, gL_sI, gL_sL, gL_sA, gL_sM, aI_sI, aI_sL, aI_sA, aI_sM, aL_sI, aL_sL, aL_sA, aL_sM]; try dsimp only
          refine ⟨trivial, fun w2 τ2 hq2 => ?_⟩
          obtain ⟨rfl, b2, rfl, hb2⟩ := hq2 trivial
          dsimp only [Option.toList, List.cons_append, List.nil_append, Nat.beq, gI_sI, gI_sL, gI_sA, gI_sM, gL_sI, gL_sL, gL_sA, gL_sM, aI_sI, aI_sL, aI_sA, aI_sM, aL_sI, aL_sL, aL_sA, aL_sM]
          refine ⟨fun h3 => ?_, fun h3 => ?_⟩
          · exact hW _ 251 [(0, .ref 1000), (1, .int x1), (2, .int x2), (3, .int x3), (4, .int x4), (5, .int x5), (6, .int x6), (7, .int x7)] _ _ _ (by simp [rdl, rky, Value.category]) ((ih m1 hm1).2.2.2.2.2.2.2.2.2.2.2.2.2.2.2.2.2.2.2.2.2.2.2.1 x1 x2 x3 x4 x5 x6 x7 _ hz)
          · exact hW _ 246 [(0, .ref 1000), (1, .int x1), (2, .int x2), (3, .int x3), (4, .int x4), (5, .int x5), (6, .int x6), (7, .int x7)] _ _ _ (by simp [rdl, rky, Value.category]) ((ih m1 hm1).2.2.2.2.2.2.2.2.2.2.2.2.2.2.2.2.2.2.2.2.2.2.1 x1 x2 x3 x4 x5 x6 x7 _ hz)
        · intro x1 x2 x3 x4 x5 x6 x7 Y hz
          refine hB _ _ _ _ _ (fun m1 hm1 => ?_)
          dsimp only [ugo, uwp, ust, uct, rfd, Bchoice, Bchoice_246, Nat.beq, lv_args, rlk, rs1, rs2, rdl, rky, rcd, rno, rsw, Value.category, List.filter, List.take, List.drop, List.reverse, List.reverseAux, List.cons_append, List.nil_append, Option.toList, Int.toNat, Int.reduceToNat, if_pos, if_neg, reduceIte, ↓reduceIte, Nat.reduceAdd, Nat.reduceEqDiff, Nat.reduceBEq, beq_self_eq_true, Bool.not_true, Bool.not_false, Bool.and_true, Bool.and_false, Bool.true_and, Bool.false_and, gI_sI, gI_sL, gI_sA, gI_sM, gL_sI, gL_sL, gL_sA, gL_sM, aI_sI, aI_sL, aI_sA, aI_sM, aL_sI, aL_sL, aL_sA, aL_sM]; try dsimp only
          exact hW _ 283 [(0, .ref 1000), (1, .int x1), (2, .int x2), (3, .int x3), (4, .int x4), (5, .int x5), (6, .int x6), (7, .int x7)] _ _ _ (by simp [rdl, rky, Value.category]) ((ih m1 hm1).2.2.2.2.2.2.2.2.2.2.2.2.2.2.2.2.2.2.2.2.2.2.2.2.2.2.2.2.2.1 x1 x2 x3 x4 x5 x6 x7 x6 _ hz)
        · intro x1 x2 x3 x4 x5 x6 x7 Y hz
          refine hB _ _ _ _ _ (fun m1 hm1 => ?_)
          dsimp only [ugo, uwp, ust, uct, rfd, Bchoice, Bchoice_251, Nat.beq, lv_args, rlk, rs1, rs2, rdl, rky, rcd, rno, rsw, Value.category, List.filter, List.take, List.drop, List.reverse, List.reverseAux, List.cons_append, List.nil_append, Option.toList, Int.toNat, Int.reduceToNat, if_pos, if_neg, reduceIte, ↓reduceIte, Nat.reduceAdd, Nat.reduceEqDiff, Nat.reduceBEq, beq_self_eq_true, Bool.not_true, Bool.not_false, Bool.and_true, Bool.and_false, Bool.true_and, Bool.false_and, gI_sI, gI_sL, gI_sA, gI_sM, gL_sI, gL_sL, gL_sA, gL_sM, aI_sI, aI_sL, aI_sA, aI_sM, aL_sI, aL_sL, aL_sA, aL_sM]; try dsimp only
          refine ⟨trivial, fun w2 τ2 hq2 => ?_⟩
          obtain ⟨rfl, b2, rfl, hb2⟩ := hq2 trivial
          dsimp only [Option.toList, List.cons_append, List.nil_append, Nat.beq, gI_sI, gI_sL, gI_sA, gI_sM, gL_sI, gL_sL, gL_sA, gL_sM, aI_sI, aI_sL, aI_sA, aI_sM, aL_sI, aL_sL, aL_sA, aL_sM]
          refine ⟨fun h3 => ?_, fun h3 => ?_⟩
          · exact hW _ 266 [(0, .ref 1000), (1, .int x1), (2, .int x2), (3, .int x3), (4, .int x4), (5, .int x5), (6, .int x6), (7, .int x7)] _ _ _ (by simp [rdl, rky, Value.category]) ((ih m1 hm1).2.2.2.2.2.2.2.2.2.2.2.2.2.2.2.2.2.2.2.2.2.2.2.2.2.1 x1 x2 x3 x4 x5 x6 x7 _ hz)
          · exact hW _ 261 [(0, .ref 1000), (1, .int x1), (2, .int x2), (3, .int x3), (4, .int x4), (5, .int x5), (6, .int x6), (7, .int x7)] _ _ _ (by simp [rdl, rky, Value.category]) ((ih m1 hm1).2.2.2.2.2.2.2.2.2.2.2.2.2.2.2.2.2.2.2.2.2.2.2.2.1 x1 x2 x3 x4 x5 x6 x7 _ hz)
        · intro x1 x2 x3 x4 x5 x6 x7 Y hz
          refine hB _ _ _ _ _ (fun m1 hm1 => ?_)
          dsimp only [ugo, uwp, ust, uct, rfd, Bchoice, Bchoice_261, Nat.beq, lv_args, rlk, rs1, rs2, rdl, rky, rcd, rno, rsw, Value.category, List.filter, List.take, List.drop, List.reverse, List.reverseAux, List.cons_append, List.nil_append, Option.toList, Int.toNat, Int.reduceToNat, if_pos, if_neg, reduceIte, ↓reduceIte, Nat.reduceAdd, Nat.reduceEqDiff, Nat.reduceBEq, beq_self_eq_true, Bool.not_true, Bool.not_false, Bool.and_true, Bool.and_false, Bool.true_and, Bool.false_and, gI_sI, gI_sL, gI_sA, gI_sM, gL_sI, gL_sL, gL_sA, gL_sM, aI_sI, aI_sL, aI_sA, aI_sM, aL_sI, aL_sL, aL_sA, aL_sM]; try dsimp only
          exact hW _ 283 [(0, .ref 1000), (1, .int x1), (2, .int x2), (3, .int x3), (4, .int x4), (5, .int x5), (6, .int x6), (7, .int x7)] _ _ _ (by simp [rdl, rky, Value.category]) ((ih m1 hm1).2.2.2.2.2.2.2.2.2.2.2.2.2.2.2.2.2.2.2.2.2.2.2.2.2.2.2.2.2.1 x1 x2 x3 x4 x5 x6 x7 x7 _ hz)
        · intro x1 x2 x3 x4 x5 x6 x7 Y hz
          refine hB _ _ _ _ _ (fun m1 hm1 => ?_)
          dsimp only [ugo, uwp, ust, uct, rfd, Bchoice, Bchoice_266, Nat.beq, lv_args, rlk, rs1, rs2, rdl, rky, rcd, rno, rsw, Value.category, List.filter, List.take, List.drop, List.reverse, List.reverseAux, List.cons_append, List.nil_append, Option.toList, Int.toNat, Int.reduceToNat, if_pos, if_neg, reduceIte, ↓reduceIte, Nat.reduceAdd, Nat.reduceEqDiff, Nat.reduceBEq, beq_self_eq_true, Bool.not_true, Bool.not_false, Bool.and_true, Bool.and_false, Bool.true_and, Bool.false_and, gI_sI, gI_sL, gI_sA, gI_sM, gL_sI, gL_sL, gL_sA, gL_sM, aI_sI, aI_sL, aI_sA, aI_sM, aL_sI, aL_sL, aL_sA, aL_sM, oi_4]; try dsimp only
          refine ⟨fun h2 => ?_, fun h2 => ?_⟩
          · exact hW _ 278 [(0, .ref 1000), (1, .int x1), (2, .int x2), (3, .int x3), (4, .int x4), (5, .int x5), (6, .int x6), (7, .int x7)] _ _ _ (by simp [rdl, rky, Value.category]) ((ih m1 hm1).2.2.2.2.2.2.2.2.2.2.2.2.2.2.2.2.2.2.2.2.2.2.2.2.2.2.2.1 x1 x2 x3 x4 x5 x6 x7 _ hz)
          · exact hW _ 272 [(0, .ref 1000), (1, .int x1), (2, .int x2), (3, .int x3), (4, .int x4), (5, .int x5), (6, .int x6), (7, .int x7)] _ _ _ (by simp [rdl, rky, Value.category]) ((ih m1 hm1).2.2.2.2.2.2.2.2.2.2.2.2.2.2.2.2.2.2.2.2.2.2.2.2.2.2.1 x1 x2 x3 x4 x5 x6 x7 _ hz)
        · intro x1 x2 x3 x4 x5 x6 x7 Y hz
          refine hB _ _ _ _ _ (fun m1 hm1 => ?_)
          dsimp only [ugo, uwp, ust, uct, rfd, Bchoice, Bchoice_272, Nat.beq, lv_args, rlk, rs1, rs2, rdl, rky, rcd, rno, rsw, Value.category, List.filter, List.take, List.drop, List.reverse, List.reverseAux, List.cons_append, List.nil_append, Option.toList, Int.toNat, Int.reduceToNat, if_pos, if_neg, reduceIte, ↓reduceIte, Nat.reduceAdd, Nat.reduceEqDiff, Nat.reduceBEq, beq_self_eq_true, Bool.not_true, Bool.not_false, Bool.and_true, Bool.and_false, Bool.true_and, Bool.false_and, gI_sI, gI_sL, gI_sA, gI_sM, gL_sI, gL_sL, gL_sA, gL_sM, aI_sI, aI_sL, aI_sA, aI_sM, aL_sI, aL_sL, aL_sA, aL_sM, oi_4]; try dsimp only
          refine ⟨fun h2 => ?_, fun h2 => ?_⟩
          · exact hW _ 282 [(0, .ref 1000), (1, .int x1), (2, .int x2), (3, .int x3), (4, .int x4), (5, .int x5), (6, .int x6), (7, .int x7)] _ _ _ (by simp [rdl, rky, Value.category]) ((ih m1 hm1).2.2.2.2.2.2.2.2.2.2.2.2.2.2.2.2.2.2.2.2.2.2.2.2.2.2.2.2.1 x1 x2 x3 x4 x5 x6 x7 _ hz)
          · exact hW _ 278 [(0, .ref 1000), (1, .int x1), (2, .int x2), (3, .int x3), (4, .int x4), (5, .int x5), (6, .int x6), (7, .int x7)] _ _ _ (by simp [rdl, rky, Value.category]) ((ih m1 hm1).2.2.2.2.2.2.2.2.2.2.2.2.2.2.2.2.2.2.2.2.2.2.2.2.2.2.2.1 x1 x2 x3 x4 x5 x6 x7 _ hz)
        · intro x1 x2 x3 x4 x5 x6 x7 Y hz
          refine hB _ _ _ _ _ (fun m1 hm1 => ?_)
          dsimp only [ugo, uwp, ust, uct, rfd, Bchoice, Bchoice_278, Nat.beq, lv_args, rlk, rs1, rs2, rdl, rky, rcd, rno, rsw, Value.category, List.filter, List.take, List.drop, List.reverse, List.reverseAux, List.cons_append, List.nil_append, Option.toList, Int.toNat, Int.reduceToNat, if_pos, if_neg, reduceIte, ↓reduceIte, Nat.reduceAdd, Nat.reduceEqDiff, Nat.reduceBEq, beq_self_eq_true, Bool.not_true, Bool.not_false, Bool.and_true, Bool.and_false, Bool.true_and, Bool.false_and, gI_sI, gI_sL, gI_sA, gI_sM, gL_sI, gL_sL, gL_sA, gL_sM, aI_sI, aI_sL, aI_sA, aI_sM, aL_sI, aL_sL, aL_sA, aL_sM, oi_4]; try dsimp only
          exact hW _ 283 [(0, .ref 1000), (1, .int x1), (2, .int x2), (3, .int x3), (4, .int x4), (5, .int x5), (6, .int x6), (7, .int x7)] _ _ _ (by simp [rdl, rky, Value.category]) ((ih m1 hm1).2.2.2.2.2.2.2.2.2.2.2.2.2.2.2.2.2.2.2.2.2.2.2.2.2.2.2.2.2.1 x1 x2 x3 x4 x5 x6 x7 4 _ hz)
        · intro x1 x2 x3 x4 x5 x6 x7 Y hz
          refine hB _ _ _ _ _ (fun m1 hm1 => ?_)
          dsimp only [ugo, uwp, ust, uct, rfd, Bchoice, Bchoice_282, Nat.beq, lv_args, rlk, rs1, rs2, rdl, rky, rcd, rno, rsw, Value.category, List.filter, List.take, List.drop, List.reverse, List.reverseAux, List.cons_append, List.nil_append, Option.toList, Int.toNat, Int.reduceToNat, if_pos, if_neg, reduceIte, ↓reduceIte, Nat.reduceAdd, Nat.reduceEqDiff, Nat.reduceBEq, beq_self_eq_true, Bool.not_true, Bool.not_false, Bool.and_true, Bool.and_false, Bool.true_and, Bool.false_and, gI_sI, gI_sL, gI_sA, gI_sM, gL_sI, gL_sL, gL_sA, gL_sM, aI_sI, aI_sL, aI_sA, aI_sM, aL_sI, aL_sL, aL_sA, aL_sM, oi_3]; try dsimp only
          exact hW _ 283 [(0, .ref 1000), (1, .int x1), (2, .int x2), (3, .int x3), (4, .int x4), (5, .int x5), (6, .int x6), (7, .int x7)] _ _ _ (by simp [rdl, rky, Value.category]) ((ih m1 hm1).2.2.2.2.2.2.2.2.2.2.2.2.2.2.2.2.2.2.2.2.2.2.2.2.2.2.2.2.2.1 x1 x2 x3 x4 x5 x6 x7 3 _ hz)
        · intro x1 x2 x3 x4 x5 x6 x7 s0 Y hz
          refine hB _ _ _ _ _ (fun m1 hm1 => ?_)
          dsimp only [ugo, uwp, ust, uct, rfd, Bchoice, Bchoice_283, Nat.beq, lv_args, rlk, rs1, rs2, rdl, rky, rcd, rno, rsw, Value.category, List.filter, List.take, List.drop, List.reverse, List.reverseAux, List.cons_append, List.nil_append, Option.toList, Int.toNat, Int.reduceToNat, if_pos, if_neg, reduceIte, ↓reduceIte, Nat.reduceAdd, Nat.reduceEqDiff, Nat.reduceBEq, beq_self_eq_true, Bool.not_true, Bool.not_false, Bool.and_true, Bool.and_false, Bool.true_and, Bool.false_and, gI_sI, gI_sL, gI_sA, gI_sM, gL_sI, gL_sL, gL_sA, gL_sM, aI_sI, aI_sL, aI_sA, aI_sM, aL_sI, aL_sL, aL_sA, aL_sM]; try dsimp only
          intro p2
          refine ⟨fun h3 => ?_, fun h3 => ?_⟩
          · exact hW _ 317 [(0, .ref 1000), (1, .int x1), (2, .int x2), (3, .int x3), (4, .int x4), (5, .int x5), (6, .int x6), (7, .int x7), (8, .int s0)] _ _ _ (by simp [rdl, rky, Value.category]) ((ih m1 hm1).2.2.2.2.2.2.2.2.2.2.2.2.2.2.2.2.2.2.2.2.2.2.2.2.2.2.2.2.2.2.2.2.2.1 x1 x2 x3 x4 x5 x6 x7 s0 _ hz)
          · exact hW _ 294 [(0, .ref 1000), (1, .int x1), (2, .int x2), (3, .int x3), (4, .int x4), (5, .int x5), (6, .int x6), (7, .int x7), (8, .int s0)] _ _ _ (by simp [rdl, rky, Value.category]) ((ih m1 hm1).2.2.2.2.2.2.2.2.2.2.2.2.2.2.2.2.2.2.2.2.2.2.2.2.2.2.2.2.2.2.1 x1 x2 x3 x4 x5 x6 x7 s0 _ hz)
        · intro x1 x2 x3 x4 x5 x6 x7 x8 Y hz
          refine hB _ _ _ _ _ (fun m1 hm1 => ?_)
          dsimp only [ugo, uwp, ust, uct, rfd, Bchoice, Bchoice_294, Nat.beq, lv_args, rlk, rs1, rs2, rdl, rky, rcd, rno, rsw, Value.category, List.filter, List.take, List.drop, List.reverse, List.reverseAux, List.cons_append, List.nil_append, Option.toList, Int.toNat, Int.reduceToNat, if_pos, if_neg, reduceIte, ↓reduceIte, Nat.reduceAdd, Nat.reduceEqDiff, Nat.reduceBEq, beq_self_eq_true, Bool.not_true, Bool.not_false, Bool.and_true, Bool.and_false, Bool.true_and, Bool.false_and, gI_sI, gI_sL, gI_sA, gI_sM, gL_sI, gL_sL, gL_sA, gL_sM, aI_sI, aI_sL, aI_sA, aI_sM, aL_sI, aL_sL, aL_sA, aL_sM]; try dsimp only
          intro p2
          refine ⟨fun h3 => ?_, fun h3 => ?_⟩
          · exact hW _ 317 [(0, .ref 1000), (1, .int x1), (2, .int x2), (3, .int x3), (4, .int x4), (5, .int x5), (6, .int x6), (7, .int x7), (8, .int x8)] _ _ _ (by simp [rdl, rky, Value.category]) ((ih m1 hm1).2.2.2.2.2.2.2.2.2.2.2.2.2.2.2.2.2.2.2.2.2.2.2.2.2.2.2.2.2.2.2.2.2.1 x1 x2 x3 x4 x5 x6 x7 x8 _ hz)
          · exact hW _ 303 [(0, .ref 1000), (1, .int x1), (2, .int x2), (3, .int x3), (4, .int x4), (5, .int x5), (6, .int x6), (7, .int x7), (8, .int x8)] _ _ _ (by simp [rdl, rky, Value.category]) ((ih m1 hm1).2.2.2.2.2.2.2.2.2.2.2.2.2.2.2.2.2.2.2.2.2.2.2.2.2.2.2.2.2.2.2.1 x1 x2 x3 x4 x5 x6 x7 x8 _ hz)
        · intro x1 x2 x3 x4 x5 x6 x7 x8 Y hz
          refine hB _ _ _ _ _ (fun m1 hm1 => ?_)
          dsimp only [ugo, uwp, ust, uct, rfd, Bchoice, Bchoice_303, Nat.beq, lv_args, rlk, rs1, rs2, rdl, rky, rcd, rno, rsw, Value.category, List.filter, List.take, List.drop, List.reverse, List.reverseAux, List.cons_append, List.nil_append, Option.toList, Int.toNat, Int.reduceToNat, if_pos, if_neg, reduceIte, ↓reduceIte, Nat.reduceAdd, Nat.reduceEqDiff, Nat.reduceBEq, beq_self_eq_true, Bool.not_true, Bool.not_false, Bool.and_true, Bool.and_false, Bool.true_and, Bool.false_and, gI_sI, gI_sL, gI_sA, gI_sM, gL_sI, gL_sL, gL_sA, gL_sM, aI_sI, aI_sL, aI_sA, aI_sM, aL_sI, aL_sL, aL_sA, aL_sM]; try dsimp only
          intro p2
          refine ⟨fun h3 => ?_, fun h3 => ?_⟩
          · exact hW _ 317 [(0, .ref 1000), (1, .int x1), (2, .int x2), (3, .int x3), (4, .int x4), (5, .int x5), (6, .int x6), (7, .int x7), (8, .int x8)] _ _ _ (by simp [rdl, rky, Value.category]) ((ih m1 hm1).2.2.2.2.2.2.2.2.2.2.2.2.2.2.2.2.2.2.2.2.2.2.2.2.2.2.2.2.2.2.2.2.2.1 x1 x2 x3 x4 x5 x6 x7 x8 _ hz)
          · exact hW _ 313 [(0, .ref 1000), (1, .int x1), (2, .int x2), (3, .int x3), (4, .int x4), (5, .int x5), (6, .int x6), (7, .int x7), (8, .int x8)] _ _ _ (by simp [rdl, rky, Value.category]) ((ih m1 hm1).2.2.2.2.2.2.2.2.2.2.2.2.2.2.2.2.2.2.2.2.2.2.2.2.2.2.2.2.2.2.2.2.1 x1 x2 x3 x4 x5 x6 x7 x8 _ hz)
        · intro x1 x2 x3 x4 x5 x6 x7 x8 Y hz
          refine hB _ _ _ _ _ (fun m1 hm1 => ?_)
          dsimp only [ugo, uwp, ust, uct, rfd, Bchoice, Bchoice_313, Nat.beq, lv_args, rlk, rs1, rs2, rdl, rky, rcd, rno, rsw, Value.category, List.filter, List.take, List.drop, List.reverse, List.reverseAux, List.cons_append, List.nil_append, Option.toList, Int.toNat, Int.reduceToNat, if_pos, if_neg, reduceIte, ↓reduceIte, Nat.reduceAdd, Nat.reduceEqDiff, Nat.reduceBEq, beq_self_eq_true, Bool.not_true, Bool.not_false, Bool.and_true, Bool.and_false, Bool.true_and, Bool.false_and, gI_sI, gI_sL, gI_sA, gI_sM, gL_sI, gL_sL, gL_sA, gL_sM, aI_sI, aI_sL, aI_sA, aI_sM, aL_sI, aL_sL, aL_sA, aL_sM, oi_1]; try dsimp only
          exact hW _ 318 [(0, .ref 1000), (1, .int x1), (2, .int x2), (3, .int x3), (4, .int x4), (5, .int x5), (6, .int x6), (7, .int x7), (8, .int x8)] _ _ _ (by simp [rdl, rky, Value.category]) ((ih m1 hm1).2.2.2.2.2.2.2.2.2.2.2.2.2.2.2.2.2.2.2.2.2.2.2.2.2.2.2.2.2.2.2.2.2.2.1 x1 x2 x3 x4 x5 x6 x7 x8 1 _ hz)
        · intro x1 x2 x3 x4 x5 x6 x7 x8 Y hz
          refine hB _ _ _ _ _ (fun m1 hm1 => ?_)
          dsimp only [ugo, uwp, ust, uct, rfd, Bchoice, Bchoice_317, Nat.beq, lv_args, rlk, rs1, rs2, rdl, rky, rcd, rno, rsw, Value.category, List.filter, List.take, List.drop, List.reverse, List.reverseAux, List.cons_append, List.nil_append, Option.toList, Int.toNat, Int.reduceToNat, if_pos, if_neg, reduceIte, ↓reduceIte, Nat.reduceAdd, Nat.reduceEqDiff, Nat.reduceBEq, beq_self_eq_true, Bool.not_true, Bool.not_false, Bool.and_true, Bool.and_false, Bool.true_and, Bool.false_and, gI_sI, gI_sL, gI_sA, gI_sM, gL_sI, gL_sL, gL_sA, gL_sM, aI_sI, aI_sL, aI_sA, aI_sM, aL_sI, aL_sL, aL_sA, aL_sM, oi_0]; try dsimp only
          exact hW _ 318 [(0, .ref 1000), (1, .int x1), (2, .int x2), (3, .int x3), (4, .int x4), (5, .int x5), (6, .int x6), (7, .int x7), (8, .int x8)] _ _ _ (by simp [rdl, rky, Value.category]) ((ih m1 hm1).2.2.2.2.2.2.2.2.2.2.2.2.2.2.2.2.2.2.2.2.2.2.2.2.2.2.2.2.2.2.2.2.2.2.1 x1 x2 x3 x4 x5 x6 x7 x8 0 _ hz)
        · intro x1 x2 x3 x4 x5 x6 x7 x8 s0 Y hz
          refine hB _ _ _ _ _ (fun m1 hm1 => ?_)
          dsimp only [ugo, uwp, ust, uct, rfd, Bchoice, Bchoice_318, Nat.beq, lv_args, rlk, rs1, rs2, rdl, rky, rcd, rno, rsw, Value.category, List.filter, List.take, List.drop, List.reverse, List.reverseAux, List.cons_append, List.nil_append, Option.toList, Int.toNat, Int.reduceToNat, if_pos, if_neg, reduceIte, ↓reduceIte, Nat.reduceAdd, Nat.reduceEqDiff, Nat.reduceBEq, beq_self_eq_true, Bool.not_true, Bool.not_false, Bool.and_true, Bool.and_false, Bool.true_and, Bool.false_and, gI_sI, gI_sL, gI_sA, gI_sM, gL_sI, gL_sL, gL_sA, gL_sM, aI_sI, aI_sL, aI_sA, aI_sM, aL_sI, aL_sL, aL_sA, aL_sM]; try dsimp only
          intro p2
          intro p3
          refine ⟨fun h4 => ?_, fun h4 => ?_⟩
          · have c4 : ((aL Y 72) (x2).toNatClampNeg) = (0 : Int64) := (cL (a := (0 : Int64)) (b := ((aL Y 72) (x2).toNatClampNeg))).1.mp h4
            exact hW _ 357 [(0, .ref 1000), (1, .int x1), (2, .int x2), (3, .int x3), (4, .int x4), (5, .int x5), (6, .int x6), (7, .int x7), (8, .int x8), (9, .int s0)] _ _ _ (by simp [rdl, rky, Value.category]) ((ih m1 hm1).2.2.2.2.2.2.2.2.2.2.2.2.2.2.2.2.2.2.2.2.2.2.2.2.2.2.2.2.2.2.2.2.2.2.2.2.1 x1 x2 x3 x4 x5 x6 x7 x8 s0 x8 s0 x8 x1 _ hz)
          · have c4 : ¬ ((aL Y 72) (x2).toNatClampNeg) = (0 : Int64) := fun q => h4 ((cL (a := (0 : Int64)) (b := ((aL Y 72) (x2).toNatClampNeg))).1.mpr q)
            exact hW _ 348 [(0, .ref 1000), (1, .int x1), (2, .int x2), (3, .int x3), (4, .int x4), (5, .int x5), (6, .int x6), (7, .int x7), (8, .int x8), (9, .int s0)] _ _ _ (by simp [rdl, rky, Value.category]) ((ih m1 hm1).2.2.2.2.2.2.2.2.2.2.2.2.2.2.2.2.2.2.2.2.2.2.2.2.2.2.2.2.2.2.2.2.2.2.2.1 x1 x2 x3 x4 x5 x6 x7 x8 s0 x8 s0 x8 x1 _ hz)
        · intro x1 x2 x3 x4 x5 x6 x7 x8 x9 s0 s2 s3 s4 Y hz
          refine hB _ _ _ _ _ (fun m1 hm1 => ?_)
          dsimp only [ugo, uwp, ust, uct, rfd, Bchoice, Bchoice_348, Nat.beq, lv_args, rlk, rs1, rs2, rdl, rky, rcd, rno, rsw, Value.category, List.filter, List.take, List.drop, List.reverse, List.reverseAux, List.cons_append, List.nil_append, Option.toList, Int.toNat, Int.reduceToNat, if_pos, if_neg, reduceIte, ↓reduceIte, Nat.reduceAdd, Nat.reduceEqDiff, Nat.reduceBEq, beq_self_eq_true, Bool.not_true, Bool.not_false, Bool.and_true, Bool.and_false, Bool.true_and, Bool.false_and, gI_sI, gI_sL, gI_sA, gI_sM, gL_sI, gL_sL, gL_sA, gL_sM, aI_sI, aI_sL, aI_sA, aI_sM, aL_sI, aL_sL, aL_sA, aL_sM]; try dsimp only
          intro p2
          exact hW _ 364 [(0, .ref 1000), (1, .int x1), (2, .int x2), (3, .int x3), (4, .int x4), (5, .int x5), (6, .int x6), (7, .int x7), (8, .int x8), (9, .int x9)] _ _ _ (by simp [rdl, rky, Value.category]) ((ih m1 hm1).2.2.2.2.2.2.2.2.2.2.2.2.2.2.2.2.2.2.2.2.2.2.2.2.2.2.2.2.2.2.2.2.2.2.2.2.2 x1 x2 x3 x4 x5 x6 x7 x8 x9 ((aL Y 72) (x3).toNatClampNeg) s0 s2 s3 s4 _ hz)
        · intro x1 x2 x3 x4 x5 x6 x7 x8 x9 s0 s2 s3 s4 Y hz
          refine hB _ _ _ _ _ (fun m1 hm1 => ?_)
          dsimp only [ugo, uwp, ust, uct, rfd, Bchoice, Bchoice_357, Nat.beq, lv_args, rlk, rs1, rs2, rdl, rky, rcd, rno, rsw, Value.category, List.filter, List.take, List.drop, List.reverse, List.reverseAux, List.cons_append, List.nil_append, Option.toList, Int.toNat, Int.reduceToNat, if_pos, if_neg, reduceIte, ↓reduceIte, Nat.reduceAdd, Nat.reduceEqDiff, Nat.reduceBEq, beq_self_eq_true, Bool.not_true, Bool.not_false, Bool.and_true, Bool.and_false, Bool.true_and, Bool.false_and, gI_sI, gI_sL, gI_sA, gI_sM, gL_sI, gL_sL, gL_sA, gL_sM, aI_sI, aI_sL, aI_sA, aI_sM, aL_sI, aL_sL, aL_sA, aL_sM]; try dsimp only
          intro p2
          exact hW _ 364 [(0, .ref 1000), (1, .int x1), (2, .int x2), (3, .int x3), (4, .int x4), (5, .int x5), (6, .int x6), (7, .int x7), (8, .int x8), (9, .int x9)] _ _ _ (by simp [rdl, rky, Value.category]) ((ih m1 hm1).2.2.2.2.2.2.2.2.2.2.2.2.2.2.2.2.2.2.2.2.2.2.2.2.2.2.2.2.2.2.2.2.2.2.2.2.2 x1 x2 x3 x4 x5 x6 x7 x8 x9 ((aL Y 72) (x4).toNatClampNeg) s0 s2 s3 s4 _ hz)
        · intro x1 x2 x3 x4 x5 x6 x7 x8 x9 s0 s1 s3 s4 s5 Y hz
          refine hB _ _ _ _ _ (fun m1 hm1 => ?_)
          dsimp only [ugo, uwp, ust, uct, rfd, Bchoice, Bchoice_364, Nat.beq, lv_args, rlk, rs1, rs2, rdl, rky, rcd, rno, rsw, Value.category, List.filter, List.take, List.drop, List.reverse, List.reverseAux, List.cons_append, List.nil_append, Option.toList, Int.toNat, Int.reduceToNat, if_pos, if_neg, reduceIte, ↓reduceIte, Nat.reduceAdd, Nat.reduceEqDiff, Nat.reduceBEq, beq_self_eq_true, Bool.not_true, Bool.not_false, Bool.and_true, Bool.and_false, Bool.true_and, Bool.false_and, gI_sI, gI_sL, gI_sA, gI_sM, gL_sI, gL_sL, gL_sA, gL_sM, aI_sI, aI_sL, aI_sA, aI_sM, aL_sI, aL_sL, aL_sA, aL_sM]; try dsimp only
          refine ⟨trivial, fun w2 τ2 hq2 => ?_⟩
          obtain ⟨rfl, rfl⟩ := hq2 trivial
          try rw [show (s1).toInt = (s1).toInt from (rfl : (s1).toInt = (s1).toInt)]
          dsimp only [Option.toList, List.cons_append, List.nil_append, Nat.beq, gI_sI, gI_sL, gI_sA, gI_sM, gL_sI, gL_sL, gL_sA, gL_sM, aI_sI, aI_sL, aI_sA, aI_sM, aL_sI, aL_sL, aL_sA, aL_sM]
          refine ⟨trivial, fun w3 τ3 hq3 => ?_⟩
          obtain ⟨rfl, rfl⟩ := hq3 trivial
          dsimp only [Option.toList, List.cons_append, List.nil_append, Nat.beq, gI_sI, gI_sL, gI_sA, gI_sM, gL_sI, gL_sL, gL_sA, gL_sM, aI_sI, aI_sL, aI_sA, aI_sM, aL_sI, aL_sL, aL_sA, aL_sM]
          unfold Qv_choiceA
          try dsimp only
          exact ⟨rfl, hz⟩
    intro n0
    exact (all n0).1 c σ hP
  next => exact hP.elim
theorem w_choiceA : UMet 98 (fun _ _ => True) Qw_choiceA := fun A1 σ _ w τ h hP => v_choiceA A1 σ hP w τ h
def Pv_assignA : UP1 := fun A1 σ => match A1 with
  | [.int c, .int t] => ¬ gI σ 66 = 0
  | _ => False
def Qv_assignA : UQ1 := fun A1 σ w τ => match A1 with
  | [.int c, .int t] => w = none ∧ ¬ gI τ 66 = 0
  | _ => False
def Qw_assignA : UQ1 := fun A1 σ w τ => Pv_assignA A1 σ → Qv_assignA A1 σ w τ
set_option maxRecDepth 100000 in
set_option maxHeartbeats 4000000 in
theorem v_assignA : UMet 100 (Pv_assignA) (Qv_assignA) := by
  refine UMet.by Bassign [(70, (fun _ _ => True), Qw_err), (71, (fun _ _ => True), Qw_find), (75, (fun _ _ => True), Qw_fits), (79, (fun _ _ => True), Qw_isBad), (94, (fun _ _ => True), Qw_isBits), (93, (fun _ _ => True), Qw_isShift), (77, (fun _ _ => True), Qw_lie), (80, (fun _ _ => True), Qw_need), (78, (fun _ _ => True), Qw_none), (96, (fun _ _ => True), Qw_pair), (81, (fun _ _ => True), Qw_wide)] rfl (ucc w_err (ucc w_find (ucc w_fits (ucc w_isBad (ucc w_isBits (ucc w_isShift (ucc w_lie (ucc w_need (ucc w_none (ucc w_pair (ucc w_wide uc0))))))))))) ?_
  intro A1 σ hP K hB hW
  unfold Pv_assignA at hP
  split at hP
  next c t =>
    have all : ∀ N : Nat, (∀ (x1 : Int32) (x2 : Int32) (Y : RS), ¬ gI Y 66 = 0 → K N 0 [(0, .ref 1000), (1, .int x1), (2, .int x2)] [] Y) ∧ (∀ (x1 : Int32) (x2 : Int32) (x3 : Int32) (x4 : Int32) (Y : RS), ¬ gI Y 66 = 0 → K N 35 [(0, .ref 1000), (1, .int x1), (2, .int x2), (3, .int x3), (4, .int x4)] [] Y) ∧ (∀ (x1 : Int32) (x2 : Int32) (x3 : Int32) (x4 : Int32) (Y : RS), ¬ gI Y 66 = 0 → K N 51 [(0, .ref 1000), (1, .int x1), (2, .int x2), (3, .int x3), (4, .int x4)] [] Y) ∧ (∀ (x1 : Int32) (x2 : Int32) (x3 : Int32) (x4 : Int32) (Y : RS), ¬ gI Y 66 = 0 → K N 62 [(0, .ref 1000), (1, .int x1), (2, .int x2), (3, .int x3), (4, .int x4)] [] Y) ∧ (∀ (x1 : Int32) (x2 : Int32) (x3 : Int32) (x4 : Int32) (Y : RS), ¬ gI Y 66 = 0 → K N 68 [(0, .ref 1000), (1, .int x1), (2, .int x2), (3, .int x3), (4, .int x4)] [] Y) ∧ (∀ (x1 : Int32) (x2 : Int32) (x3 : Int32) (x4 : Int32) (Y : RS), ¬ gI Y 66 = 0 → K N 86 [(0, .ref 1000), (1, .int x1), (2, .int x2), (3, .int x3), (4, .int x4)] [] Y) ∧ (∀ (x1 : Int32) (x2 : Int32) (x3 : Int32) (x4 : Int32) (Y : RS), ¬ gI Y 66 = 0 → K N 90 [(0, .ref 1000), (1, .int x1), (2, .int x2), (3, .int x3), (4, .int x4)] [] Y) ∧ (∀ (x1 : Int32) (x2 : Int32) (x3 : Int32) (x4 : Int32) (s0 : Int32) (Y : RS), ¬ gI Y 66 = 0 → K N 91 [(0, .ref 1000), (1, .int x1), (2, .int x2), (3, .int x3), (4, .int x4)] [.int s0] Y) ∧ (∀ (x1 : Int32) (x2 : Int32) (x3 : Int32) (x4 : Int32) (x5 : Int32) (Y : RS), ¬ gI Y 66 = 0 → K N 98 [(0, .ref 1000), (1, .int x1), (2, .int x2), (3, .int x3), (4, .int x4), (5, .int x5)] [] Y) ∧ (∀ (x1 : Int32) (x2 : Int32) (x3 : Int32) (x4 : Int32) (x5 : Int32) (Y : RS), ¬ gI Y 66 = 0 → K N 105 [(0, .ref 1000), (1, .int x1), (2, .int x2), (3, .int x3), (4, .int x4), (5, .int x5)] [] Y) ∧ (∀ (x1 : Int32) (x2 : Int32) (x3 : Int32) (x4 : Int32) (x5 : Int32) (x6 : Int32) (x7 : Int32) (Y : RS), ¬ gI Y 66 = 0 → K N 129 [(0, .ref 1000), (1, .int x1), (2, .int x2), (3, .int x3), (4, .int x4), (5, .int x5), (6, .int x6), (7, .int x7)] [] Y) ∧ (∀ (x1 : Int32) (x2 : Int32) (x3 : Int32) (x4 : Int32) (x5 : Int32) (x6 : Int32) (x7 : Int32) (Y : RS), ¬ gI Y 66 = 0 → K N 137 [(0, .ref 1000), (1, .int x1), (2, .int x2), (3, .int x3), (4, .int x4), (5, .int x5), (6, .int x6), (7, .int x7)] [] Y) ∧ (∀ (x1 : Int32) (x2 : Int32) (x3 : Int32) (x4 : Int32) (x5 : Int32) (x6 : Int32) (x7 : Int32) (Y : RS), ¬ gI Y 66 = 0 → K N 147 [(0, .ref 1000), (1, .int x1), (2, .int x2), (3, .int x3), (4, .int x4), (5, .int x5), (6, .int x6), (7, .int x7)] [] Y) ∧ (∀ (x1 : Int32) (x2 : Int32) (x3 : Int32) (x4 : Int32) (x5 : Int32) (x6 : Int32) (x7 : Int32) (Y : RS), ¬ gI Y 66 = 0 → K N 164 [(0, .ref 1000), (1, .int x1), (2, .int x2), (3, .int x3), (4, .int x4), (5, .int x5), (6, .int x6), (7, .int x7)] [] Y) ∧ (∀ (x1 : Int32) (x2 : Int32) (x3 : Int32) (x4 : Int32) (x5 : Int32) (x6 : Int32) (x7 : Int32) (x8 : Int32) (Y : RS), ¬ gI Y 66 = 0 → K N 177 [(0, .ref 1000), (1, .int x1), (2, .int x2), (3, .int x3), (4, .int x4), (5, .int x5), (6, .int x6), (7, .int x7), (8, .int x8)] [] Y) ∧ (∀ (x1 : Int32) (x2 : Int32) (x3 : Int32) (x4 : Int32) (x5 : Int32) (x6 : Int32) (x7 : Int32) (x8 : Int32) (Y : RS), ¬ gI Y 66 = 0 → K N 186 [(0, .ref 1000), (1, .int x1), (2, .int x2), (3, .int x3), (4, .int x4), (5, .int x5), (6, .int x6), (7, .int x7), (8, .int x8)] [] Y) ∧ (∀ (x1 : Int32) (x2 : Int32) (x3 : Int32) (x4 : Int32) (x5 : Int32) (x6 : Int32) (x7 : Int32) (x8 : Int32) (Y : RS), ¬ gI Y 66 = 0 → K N 203 [(0, .ref 1000), (1, .int x1), (2, .int x2), (3, .int x3), (4, .int x4), (5, .int x5), (6, .int x6), (7, .int x7), (8, .int x8)] [] Y) ∧ (∀ (x1 : Int32) (x2 : Int32) (x3 : Int32) (x4 : Int32) (x5 : Int32) (x6 : Int32) (x7 : Int32) (x8 : Int32) (Y : RS), ¬ gI Y 66 = 0 → K N 213 [(0, .ref 1000), (1, .int x1), (2, .int x2), (3, .int x3), (4, .int x4), (5, .int x5), (6, .int x6), (7, .int x7), (8, .int x8)] [] Y) ∧ (∀ (x1 : Int32) (x2 : Int32) (x3 : Int32) (x4 : Int32) (x5 : Int32) (x6 : Int32) (x7 : Int32) (x8 : Int32) (s0 : Int32) (Y : RS), ¬ gI Y 66 = 0 → K N 220 [(0, .ref 1000), (1, .int x1), (2, .int x2), (3, .int x3), (4, .int x4), (5, .int x5), (6, .int x6), (7, .int x7), (8, .int x8)] [.int s0, .ref 1000] Y) ∧ (∀ (x1 : Int32) (x2 : Int32) (x3 : Int32) (x4 : Int32) (x5 : Int32) (x6 : Int32) (x7 : Int32) (x8 : Int32) (s0 : Int32) (Y : RS), ¬ gI Y 66 = 0 → K N 224 [(0, .ref 1000), (1, .int x1), (2, .int x2), (3, .int x3), (4, .int x4), (5, .int x5), (6, .int x6), (7, .int x7), (8, .int x8)] [.int s0, .ref 1000] Y) ∧ (∀ (x1 : Int32) (x2 : Int32) (x3 : Int32) (x4 : Int32) (x5 : Int32) (x6 : Int32) (x7 : Int32) (x8 : Int32) (s0 : Int32) (s1 : Int32) (Y : RS), ¬ gI Y 66 = 0 → K N 225 [(0, .ref 1000), (1, .int x1), (2, .int x2), (3, .int x3), (4, .int x4), (5, .int x5), (6, .int x6), (7, .int x7), (8, .int x8)] [.int s0, .int s1, .ref 1000] Y) ∧ (∀ (x1 : Int32) (x2 : Int32) (x3 : Int32) (x4 : Int32) (x5 : Int32) (x6 : Int32) (x7 : Int32) (x8 : Int32) (Y : RS), ¬ gI Y 66 = 0 → K N 231 [(0, .ref 1000), (1, .int x1), (2, .int x2), (3, .int x3), (4, .int x4), (5, .int x5), (6, .int x6), (7, .int x7), (8, .int x8)] [] Y) ∧ (∀ (x1 : Int32) (x2 : Int32) (x3 : Int32) (x4 : Int32) (x5 : Int32) (x6 : Int32) (x7 : Int32) (x8 : Int32) (Y : RS), ¬ gI Y 66 = 0 → K N 234 [(0, .ref 1000), (1, .int x1), (2, .int x2), (3, .int x3), (4, .int x4), (5, .int x5), (6, .int x6), (7, .int x7), (8, .int x8)] [] Y) ∧ (∀ (x1 : Int32) (x2 : Int32) (x3 : Int32) (x4 : Int32) (x5 : Int32) (x6 : Int32) (x7 : Int32) (x8 : Int32) (s0 : Int32) (Y : RS), ¬ gI Y 66 = 0 → K N 244 [(0, .ref 1000), (1, .int x1), (2, .int x2), (3, .int x3), (4, .int x4), (5, .int x5), (6, .int x6), (7, .int x7), (8, .int x8)] [.int s0, .ref 82] Y) ∧ (∀ (x1 : Int32) (x2 : Int32) (x3 : Int32) (x4 : Int32) (x5 : Int32) (x6 : Int32) (x7 : Int32) (x8 : Int32) (s0 : Int32) (Y : RS), ¬ gI Y 66 = 0 → K N 248 [(0, .ref 1000), (1, .int x1), (2, .int x2), (3, .int x3), (4, .int x4), (5, .int x5), (6, .int x6), (7, .int x7), (8, .int x8)] [.int s0, .ref 82] Y) ∧ (∀ (x1 : Int32) (x2 : Int32) (x3 : Int32) (x4 : Int32) (x5 : Int32) (x6 : Int32) (x7 : Int32) (x8 : Int32) (s0 : Int32) (Y : RS), ¬ gI Y 66 = 0 → K N 257 [(0, .ref 1000), (1, .int x1), (2, .int x2), (3, .int x3), (4, .int x4), (5, .int x5), (6, .int x6), (7, .int x7), (8, .int x8)] [.int s0, .ref 82] Y) ∧ (∀ (x1 : Int32) (x2 : Int32) (x3 : Int32) (x4 : Int32) (x5 : Int32) (x6 : Int32) (x7 : Int32) (x8 : Int32) (s0 : Int32) (Y : RS), ¬ gI Y 66 = 0 → K N 266 [(0, .ref 1000), (1, .int x1), (2, .int x2), (3, .int x3), (4, .int x4), (5, .int x5), (6, .int x6), (7, .int x7), (8, .int x8)] [.int s0, .ref 82] Y) ∧ (∀ (x1 : Int32) (x2 : Int32) (x3 : Int32) (x4 : Int32) (x5 : Int32) (x6 : Int32) (x7 : Int32) (x8 : Int32) (s0 : Int32) (Y : RS), ¬ gI Y 66 = 0 → K N 272 [(0, .ref 1000), (1, .int x1), (2, .int x2), (3, .int x3), (4, .int x4), (5, .int x5), (6, .int x6), (7, .int x7), (8, .int x8)] [.int s0, .ref 82] Y) ∧ (∀ (x1 : Int32) (x2 : Int32) (x3 : Int32) (x4 : Int32) (x5 : Int32) (x6 : Int32) (x7 : Int32) (x8 : Int32) (s0 : Int32) (Y : RS), ¬ gI Y 66 = 0 → K N 282 [(0, .ref 1000), (1, .int x1), (2, .int x2), (3, .int x3), (4, .int x4), (5, .int x5), (6, .int x6), (7, .int x7), (8, .int x8)] [.int s0, .ref 82] Y) ∧ (∀ (x1 : Int32) (x2 : Int32) (x3 : Int32) (x4 : Int32) (x5 : Int32) (x6 : Int32) (x7 : Int32) (x8 : Int32) (s0 : Int32) (Y : RS), ¬ gI Y 66 = 0 → K N 286 [(0, .ref 1000), (1, .int x1), (2, .int x2), (3, .int x3), (4, .int x4), (5, .int x5), (6, .int x6), (7, .int x7), (8, .int x8)] [.int s0, .ref 82] Y) ∧ (∀ (x1 : Int32) (x2 : Int32) (x3 : Int32) (x4 : Int32) (x5 : Int32) (x6 : Int32) (x7 : Int32) (x8 : Int32) (s0 : Int32) (s1 : Int32) (Y : RS), ¬ gI Y 66 = 0 → K N 287 [(0, .ref 1000), (1, .int x1), (2, .int x2), (3, .int x3), (4, .int x4), (5, .int x5), (6, .int x6), (7, .int x7), (8, .int x8)] [.int s0, .int s1, .ref 82] Y) ∧ (∀ (x1 : Int32) (x2 : Int32) (x3 : Int32) (x4 : Int32) (x5 : Int32) (x6 : Int32) (x7 : Int32) (Y : RS), ¬ gI Y 66 = 0 → K N 288 [(0, .ref 1000), (1, .int x1), (2, .int x2), (3, .int x3), (4, .int x4), (5, .int x5), (6, .int x6), (7, .int x7)] [] Y) ∧ (∀ (x1 : Int32) (x2 : Int32) (x3 : Int32) (x4 : Int32) (x5 : Int32) (x6 : Int32) (x7 : Int32) (Y : RS), ¬ gI Y 66 = 0 → K N 293 [(0, .ref 1000), (1, .int x1), (2, .int x2), (3, .int x3), (4, .int x4), (5, .int x5), (6, .int x6), (7, .int x7)] [] Y) ∧ (∀ (x1 : Int32) (x2 : Int32) (x3 : Int32) (x4 : Int32) (x5 : Int32) (x6 : Int32) (x7 : Int32) (Y : RS), ¬ gI Y 66 = 0 → K N 301 [(0, .ref 1000), (1, .int x1), (2, .int x2), (3, .int x3), (4, .int x4), (5, .int x5), (6, .int x6), (7, .int x7)] [] Y) ∧ (∀ (x1 : Int32) (x2 : Int32) (x3 : Int32) (x4 : Int32) (x5 : Int32) (x6 : Int32) (x7 : Int32) (Y : RS), ¬ gI Y 66 = 0 → K N 313 [(0, .ref 1000), (1, .int x1), (2, .int x2), (3, .int x3), (4, .int x4), (5, .int x5), (6, .int x6), (7, .int x7)] [] Y) ∧ (∀ (x1 : Int32) (x2 : Int32) (x3 : Int32) (x4 : Int32) (x5 : Int32) (x6 : Int32) (x7 : Int32) (Y : RS), ¬ gI Y 66 = 0 → K N 318 [(0, .ref 1000), (1, .int x1), (2, .int x2), (3, .int x3), (4, .int x4), (5, .int x5), (6, .int x6), (7, .int x7)] [] Y) := by
      intro N
      induction N using Nat.strongRecOn with
      | ind N ih =>
        refine ⟨?_, ?_, ?_, ?_, ?_, ?_, ?_, ?_, ?_, ?_, ?_, ?_, ?_, ?_, ?_, ?_, ?_, ?_, ?_, ?_, ?_, ?_, ?_, ?_, ?_, ?_, ?_, ?_, ?_, ?_, ?_, ?_, ?_, ?_, ?_, ?_⟩
        · intro x1 x2 Y hz
          refine hB _ _ _ _ _ (fun m1 hm1 => ?_)
          dsimp only [ugo, uwp, ust, uct, rfd, Bassign, Bassign_0, Nat.beq, lv_args, rlk, rs1, rs2, rdl, rky, rcd, rno, rsw, Value.category, List.filter, List.take, List.drop, List.reverse, List.reverseAux, List.cons_append, List.nil_append, Option.toList, Int.toNat, Int.reduceToNat, if_pos, if_neg, reduceIte, ↓reduceIte, Nat.reduceAdd, Nat.reduceEqDiff, Nat.reduceBEq, beq_self_eq_true, Bool.not_true, Bool.not_false, Bool.and_true, Bool.and_false, Bool.true_and, Bool.false_and, gI_sI, gI_sL, gI_sA, gI_sM, gL_sI, gL_sL, gL_sA, gL_sM, aI_sI, aI_sL, aI_sA, aI_sM, aL_sI, aL_sL, aL_sA, aL_sM, oi_1]; try dsimp only
          refine ⟨trivial, fun w2 τ2 hq2 => ?_⟩
          obtain ⟨rfl, r2, rfl, hr2⟩ := hq2 trivial
          dsimp only [Option.toList, List.cons_append, List.nil_append, Nat.beq, gI_sI, gI_sL, gI_sA, gI_sM, gL_sI, gL_sL, gL_sA, gL_sM, aI_sI, aI_sL, aI_sA, aI_sM, aL_sI, aL_sL, aL_sA, aL_sM]
          intro p3
          refine ⟨fun h4 => ?_, fun h4 => ?_⟩
          · exact hW _ 68 [(0, .ref 1000), (1, .int x1), (2, .int x2), (3, .int ((gI Y 69) - 1)), (4, .int r2)] _ _ _ (by simp [rdl, rky, Value.category]) ((ih m1 hm1).2.2.2.2.1 x1 x2 ((gI Y 69) - 1) r2 _ hz)
          · exact hW _ 35 [(0, .ref 1000), (1, .int x1), (2, .int x2), (3, .int ((gI Y 69) - 1)), (4, .int r2)] _ _ _ (by simp [rdl, rky, Value.category]) ((ih m1 hm1).2.1 x1 x2 ((gI Y 69) - 1) r2 _ hz)
        · intro x1 x2 x3 x4 Y hz
          refine hB _ _ _ _ _ (fun m1 hm1 => ?_)
          dsimp only [ugo, uwp, ust, uct, rfd, Bassign, Bassign_35, Nat.beq, lv_args, rlk, rs1, rs2, rdl, rky, rcd, rno, rsw, Value.category, List.filter, List.take, List.drop, List.reverse, List.reverseAux, List.cons_append, List.nil_append, Option.toList, Int.toNat, Int.reduceToNat, if_pos, if_neg, reduceIte, ↓reduceIte, Nat.reduceAdd, Nat.reduceEqDiff, Nat.reduceBEq, beq_self_eq_true, Bool.not_true, Bool.not_false, Bool.and_true, Bool.and_false, Bool.true_and, Bool.false_and, gI_sI, gI_sL, gI_sA, gI_sM, gL_sI, gL_sL, gL_sA, gL_sM, aI_sI, aI_sL, aI_sA, aI_sM, aL_sI, aL_sL, aL_sA, aL_sM, oi_3, oi_5]; try dsimp only
          refine ⟨trivial, fun w2 τ2 hq2 => ?_⟩
          obtain ⟨rfl, hz2⟩ := hq2 (show ¬ (3 : Int32) = 0 by decide)
          dsimp only [Option.toList, List.cons_append, List.nil_append, Nat.beq, gI_sI, gI_sL, gI_sA, gI_sM, gL_sI, gL_sL, gL_sA, gL_sM, aI_sI, aI_sL, aI_sA, aI_sM, aL_sI, aL_sL, aL_sA, aL_sM]
          intro p3
          refine ⟨fun h4 => ?_, fun h4 => ?_⟩
          · exact hW _ 62 [(0, .ref 1000), (1, .int x1), (2, .int x2), (3, .int x3), (4, .int x4)] _ _ _ (by simp [rdl, rky, Value.category]) ((ih m1 hm1).2.2.2.1 x1 x2 x3 x4 _ hz2)
          · exact hW _ 51 [(0, .ref 1000), (1, .int x1), (2, .int x2), (3, .int x3), (4, .int x4)] _ _ _ (by simp [rdl, rky, Value.category]) ((ih m1 hm1).2.2.1 x1 x2 x3 x4 _ hz2)
        · intro x1 x2 x3 x4 Y hz
          refine hB _ _ _ _ _ (fun m1 hm1 => ?_)
          dsimp only [ugo, uwp, ust, uct, rfd, Bassign, Bassign_51, Nat.beq, lv_args, rlk, rs1, rs2, rdl, rky, rcd, rno, rsw, Value.category, List.filter, List.take, List.drop, List.reverse, List.reverseAux, List.cons_append, List.nil_append, Option.toList, Int.toNat, Int.reduceToNat, if_pos, if_neg, reduceIte, ↓reduceIte, Nat.reduceAdd, Nat.reduceEqDiff, Nat.reduceBEq, beq_self_eq_true, Bool.not_true, Bool.not_false, Bool.and_true, Bool.and_false, Bool.true_and, Bool.false_and, gI_sI, gI_sL, gI_sA, gI_sM, gL_sI, gL_sL, gL_sA, gL_sM, aI_sI, aI_sL, aI_sA, aI_sM, aL_sI, aL_sL, aL_sA, aL_sM, oi_5]; try dsimp only
          intro p2
          refine ⟨trivial, fun w3 τ3 hq3 => ?_⟩
          obtain ⟨rfl, hz3⟩ := hq3 (show ¬ (5 : Int32) = 0 by decide)
          dsimp only [Option.toList, List.cons_append, List.nil_append, Nat.beq, gI_sI, gI_sL, gI_sA, gI_sM, gL_sI, gL_sL, gL_sA, gL_sM, aI_sI, aI_sL, aI_sA, aI_sM, aL_sI, aL_sL, aL_sA, aL_sM]
          exact hW _ 62 [(0, .ref 1000), (1, .int x1), (2, .int x2), (3, .int x3), (4, .int x4)] _ _ _ (by simp [rdl, rky, Value.category]) ((ih m1 hm1).2.2.2.1 x1 x2 x3 x4 _ hz3)
        · intro x1 x2 x3 x4 Y hz
          refine hB _ _ _ _ _ (fun m1 hm1 => ?_)
          dsimp only [ugo, uwp, ust, uct, rfd, Bassign, Bassign_62, Nat.beq, lv_args, rlk, rs1, rs2, rdl, rky, rcd, rno, rsw, Value.category, List.filter, List.take, List.drop, List.reverse, List.reverseAux, List.cons_append, List.nil_append, Option.toList, Int.toNat, Int.reduceToNat, if_pos, if_neg, reduceIte, ↓reduceIte, Nat.reduceAdd, Nat.reduceEqDiff, Nat.reduceBEq, beq_self_eq_true, Bool.not_true, Bool.not_false, Bool.and_true, Bool.and_false, Bool.true_and, Bool.false_and, gI_sI, gI_sL, gI_sA, gI_sM, gL_sI, gL_sL, gL_sA, gL_sM, aI_sI, aI_sL, aI_sA, aI_sM, aL_sI, aL_sL, aL_sA, aL_sM]; try dsimp only
          refine ⟨trivial, fun w2 τ2 hq2 => ?_⟩
          obtain ⟨rfl, rfl⟩ := hq2 trivial
          dsimp only [Option.toList, List.cons_append, List.nil_append, Nat.beq, gI_sI, gI_sL, gI_sA, gI_sM, gL_sI, gL_sL, gL_sA, gL_sM, aI_sI, aI_sL, aI_sA, aI_sM, aL_sI, aL_sL, aL_sA, aL_sM]
          unfold Qv_assignA
          try dsimp only
          exact ⟨rfl, hz⟩
        · intro x1 x2 x3 x4 Y hz
          refine hB _ _ _ _ _ (fun m1 hm1 => ?_)
          dsimp only [ugo, uwp, ust, uct, rfd, Bassign, Bassign_68, Nat.beq, lv_args, rlk, rs1, rs2, rdl, rky, rcd, rno, rsw, Value.category, List.filter, List.take, List.drop, List.reverse, List.reverseAux, List.cons_append, List.nil_append, Option.toList, Int.toNat, Int.reduceToNat, if_pos, if_neg, reduceIte, ↓reduceIte, Nat.reduceAdd, Nat.reduceEqDiff, Nat.reduceBEq, beq_self_eq_true, Bool.not_true, Bool.not_false, Bool.and_true, Bool.and_false, Bool.true_and, Bool.false_and, gI_sI, gI_sL, gI_sA, gI_sM, gL_sI, gL_sL, gL_sA, gL_sM, aI_sI, aI_sL, aI_sA, aI_sM, aL_sI, aL_sL, aL_sA, aL_sM]; try dsimp only
          intro p2
          intro p3
          refine ⟨fun h4 => ?_, fun h4 => ?_⟩
          · exact hW _ 90 [(0, .ref 1000), (1, .int x1), (2, .int x2), (3, .int x3), (4, .int x4)] _ _ _ (by simp [rdl, rky, Value.category]) ((ih m1 hm1).2.2.2.2.2.2.1 x1 x2 x3 x4 _ hz)
          · exact hW _ 86 [(0, .ref 1000), (1, .int x1), (2, .int x2), (3, .int x3), (4, .int x4)] _ _ _ (by simp [rdl, rky, Value.category]) ((ih m1 hm1).2.2.2.2.2.1 x1 x2 x3 x4 _ hz)
        · intro x1 x2 x3 x4 Y hz
          refine hB _ _ _ _ _ (fun m1 hm1 => ?_)
          dsimp only [ugo, uwp, ust, uct, rfd, Bassign, Bassign_86, Nat.beq, lv_args, rlk, rs1, rs2, rdl, rky, rcd, rno, rsw, Value.category, List.filter, List.take, List.drop, List.reverse, List.reverseAux, List.cons_append, List.nil_append, Option.toList, Int.toNat, Int.reduceToNat, if_pos, if_neg, reduceIte, ↓reduceIte, Nat.reduceAdd, Nat.reduceEqDiff, Nat.reduceBEq, beq_self_eq_true, Bool.not_true, Bool.not_false, Bool.and_true, Bool.and_false, Bool.true_and, Bool.false_and, gI_sI, gI_sL, gI_sA, gI_sM, gL_sI, gL_sL, gL_sA, gL_sM, aI_sI, aI_sL, aI_sA, aI_sM, aL_sI, aL_sL, aL_sA, aL_sM, oi_1]; try dsimp only
          exact hW _ 91 [(0, .ref 1000), (1, .int x1), (2, .int x2), (3, .int x3), (4, .int x4)] _ _ _ (by simp [rdl, rky, Value.category]) ((ih m1 hm1).2.2.2.2.2.2.2.1 x1 x2 x3 x4 1 _ hz)
        · intro x1 x2 x3 x4 Y hz
          refine hB _ _ _ _ _ (fun m1 hm1 => ?_)
          dsimp only [ugo, uwp, ust, uct, rfd, Bassign, Bassign_90, Nat.beq, lv_args, rlk, rs1, rs2, rdl, rky, rcd, rno, rsw, Value.category, List.filter, List.take, List.drop, List.reverse, List.reverseAux, List.cons_append, List.nil_append, Option.toList, Int.toNat, Int.reduceToNat, if_pos, if_neg, reduceIte, ↓reduceIte, Nat.reduceAdd, Nat.reduceEqDiff, Nat.reduceBEq, beq_self_eq_true, Bool.not_true, Bool.not_false, Bool.and_true, Bool.and_false, Bool.true_and, Bool.false_and, gI_sI, gI_sL, gI_sA, gI_sM, gL_sI, gL_sL, gL_sA, gL_sM, aI_sI, aI_sL, aI_sA, aI_sM, aL_sI, aL_sL, aL_sA, aL_sM, oi_0]; try dsimp only
          exact hW _ 91 [(0, .ref 1000), (1, .int x1), (2, .int x2), (3, .int x3), (4, .int x4)] _ _ _ (by simp [rdl, rky, Value.category]) ((ih m1 hm1).2.2.2.2.2.2.2.1 x1 x2 x3 x4 0 _ hz)
        · intro x1 x2 x3 x4 s0 Y hz
          refine hB _ _ _ _ _ (fun m1 hm1 => ?_)
          dsimp only [ugo, uwp, ust, uct, rfd, Bassign, Bassign_91, Nat.beq, lv_args, rlk, rs1, rs2, rdl, rky, rcd, rno, rsw, Value.category, List.filter, List.take, List.drop, List.reverse, List.reverseAux, List.cons_append, List.nil_append, Option.toList, Int.toNat, Int.reduceToNat, if_pos, if_neg, reduceIte, ↓reduceIte, Nat.reduceAdd, Nat.reduceEqDiff, Nat.reduceBEq, beq_self_eq_true, Bool.not_true, Bool.not_false, Bool.and_true, Bool.and_false, Bool.true_and, Bool.false_and, gI_sI, gI_sL, gI_sA, gI_sM, gL_sI, gL_sL, gL_sA, gL_sM, aI_sI, aI_sL, aI_sA, aI_sM, aL_sI, aL_sL, aL_sA, aL_sM]; try dsimp only
          refine ⟨fun h2 => ?_, fun h2 => ?_⟩
          · exact hW _ 105 [(0, .ref 1000), (1, .int x1), (2, .int x2), (3, .int x3), (4, .int x4), (5, .int s0)] _ _ _ (by simp [rdl, rky, Value.category]) ((ih m1 hm1).2.2.2.2.2.2.2.2.2.1 x1 x2 x3 x4 s0 _ hz)
          · exact hW _ 98 [(0, .ref 1000), (1, .int x1), (2, .int x2), (3, .int x3), (4, .int x4), (5, .int s0)] _ _ _ (by simp [rdl, rky, Value.category]) ((ih m1 hm1).2.2.2.2.2.2.2.2.1 x1 x2 x3 x4 s0 _ hz)
        · intro x1 x2 x3 x4 x5 Y hz
          refine hB _ _ _ _ _ (fun m1 hm1 => ?_)
          dsimp only [ugo, uwp, ust, uct, rfd, Bassign, Bassign_98, Nat.beq, lv_args, rlk, rs1, rs2, rdl, rky, rcd, rno, rsw, Value.category, List.filter, List.take, List.drop, List.reverse, List.reverseAux, List.cons_append, List.nil_append, Option.toList, Int.toNat, Int.reduceToNat, if_pos, if_neg, reduceIte, ↓reduceIte, Nat.reduceAdd, Nat.reduceEqDiff, Nat.reduceBEq, beq_self_eq_true, Bool.not_true, Bool.not_false, Bool.and_true, Bool.and_false, Bool.true_and, Bool.false_and, gI_sI, gI_sL, gI_sA, gI_sM, gL_sI, gL_sL, gL_sA, gL_sM, aI_sI, aI_sL, aI_sA, aI_sM, aL_sI, aL_sL, aL_sA, aL_sM, oi_7]; try dsimp only
          refine ⟨trivial, fun w2 τ2 hq2 => ?_⟩
          obtain ⟨rfl, hz2⟩ := hq2 (show ¬ (7 : Int32) = 0 by decide)
          dsimp only [Option.toList, List.cons_append, List.nil_append, Nat.beq, gI_sI, gI_sL, gI_sA, gI_sM, gL_sI, gL_sL, gL_sA, gL_sM, aI_sI, aI_sL, aI_sA, aI_sM, aL_sI, aL_sL, aL_sA, aL_sM]
          exact hW _ 105 [(0, .ref 1000), (1, .int x1), (2, .int x2), (3, .int x3), (4, .int x4), (5, .int x5)] _ _ _ (by simp [rdl, rky, Value.category]) ((ih m1 hm1).2.2.2.2.2.2.2.2.2.1 x1 x2 x3 x4 x5 _ hz2)
        · intro x1 x2 x3 x4 x5 Y hz
          refine hB _ _ _ _ _ (fun m1 hm1 => ?_)
          dsimp only [ugo, uwp, ust, uct, rfd, Bassign, Bassign_105, Nat.beq, lv_args, rlk, rs1, rs2, rdl, rky, rcd, rno, rsw, Value.category, List.filter, List.take, List.drop, List.reverse, List.reverseAux, List.cons_append, List.nil_append, Option.toList, Int.toNat, Int.reduceToNat, if_pos, if_neg, reduceIte, ↓reduceIte, Nat.reduceAdd, Nat.reduceEqDiff, Nat.reduceBEq, beq_self_eq_true, Bool.not_true, Bool.not_false, Bool.and_true, Bool.and_false, Bool.true_and, Bool.false_and, gI_sI, gI_sL, gI_sA, gI_sM, gL_sI, gL_sL, gL_sA, gL_sM, aI_sI, aI_sL, aI_sA, aI_sM, aL_sI, aL_sL, aL_sA, aL_sM, oi_61]; try dsimp only
          intro p2
          intro p3
          refine ⟨fun h4 => ?_, fun h4 => ?_⟩
          · exact hW _ 164 [(0, .ref 1000), (1, .int x1), (2, .int x2), (3, .int x3), (4, .int x4), (5, .int x5), (6, .int ((aI Y 44) (x4).toNatClampNeg)), (7, .int ((aI Y 20) (x1).toNatClampNeg))] _ _ _ (by simp [rdl, rky, Value.category]) ((ih m1 hm1).2.2.2.2.2.2.2.2.2.2.2.2.2.1 x1 x2 x3 x4 x5 ((aI Y 44) (x4).toNatClampNeg) ((aI Y 20) (x1).toNatClampNeg) _ hz)
          · exact hW _ 129 [(0, .ref 1000), (1, .int x1), (2, .int x2), (3, .int x3), (4, .int x4), (5, .int x5), (6, .int ((aI Y 44) (x4).toNatClampNeg)), (7, .int ((aI Y 20) (x1).toNatClampNeg))] _ _ _ (by simp [rdl, rky, Value.category]) ((ih m1 hm1).2.2.2.2.2.2.2.2.2.2.1 x1 x2 x3 x4 x5 ((aI Y 44) (x4).toNatClampNeg) ((aI Y 20) (x1).toNatClampNeg) _ hz)
        · intro x1 x2 x3 x4 x5 x6 x7 Y hz
          refine hB _ _ _ _ _ (fun m1 hm1 => ?_)
          dsimp only [ugo, uwp, ust, uct, rfd, Bassign, Bassign_129, Nat.beq, lv_args, rlk, rs1, rs2, rdl, rky, rcd, rno, rsw, Value.category, List.filter, List.take, List.drop, List.reverse, List.reverseAux, List.cons_append, List.nil_append, Option.toList, Int.toNat, Int.reduceToNat, if_pos, if_neg, reduceIte, ↓reduceIte, Nat.reduceAdd, Nat.reduceEqDiff, Nat.reduceBEq, beq_self_eq_true, Bool.not_true, Bool.not_false, Bool.and_true, Bool.and_false, Bool.true_and, Bool.false_and, gI_sI, gI_sL, gI_sA, gI_sM, gL_sI, gL_sL, gL_sA, gL_sM, aI_sI, aI_sL, aI_sA, aI_sM, aL_sI, aL_sL, aL_sA, aL_sM]; try dsimp only
          refine ⟨trivial, fun w2 τ2 hq2 => ?_⟩
          obtain ⟨rfl, b2, rfl, hb2⟩ := hq2 trivial
          dsimp only [Option.toList, List.cons_append, List.nil_append, Nat.beq, gI_sI, gI_sL, gI_sA, gI_sM, gL_sI, gL_sL, gL_sA, gL_sM, aI_sI, aI_sL, aI_sA, aI_sM, aL_sI, aL_sL, aL_sA, aL_sM]
          refine ⟨fun h3 => ?_, fun h3 => ?_⟩
          · exact hW _ 288 [(0, .ref 1000), (1, .int x1), (2, .int x2), (3, .int x3), (4, .int x4), (5, .int x5), (6, .int x6), (7, .int x7)] _ _ _ (by simp [rdl, rky, Value.category]) ((ih m1 hm1).2.2.2.2.2.2.2.2.2.2.2.2.2.2.2.2.2.2.2.2.2.2.2.2.2.2.2.2.2.2.2.1 x1 x2 x3 x4 x5 x6 x7 _ hz)
          · exact hW _ 137 [(0, .ref 1000), (1, .int x1), (2, .int x2), (3, .int x3), (4, .int x4), (5, .int x5), (6, .int x6), (7, .int x7)] _ _ _ (by simp [rdl, rky, Value.category]) ((ih m1 hm1).2.2.2.2.2.2.2.2.2.2.2.1 x1 x2 x3 x4 x5 x6 x7 _ hz)
        · intro x1 x2 x3 x4 x5 x6 x7 Y hz
          refine hB _ _ _ _ _ (fun m1 hm1 => ?_)
          dsimp only [ugo, uwp, ust, uct, rfd, Bassign, Bassign_137, Nat.beq, lv_args, rlk, rs1, rs2, rdl, rky, rcd, rno, rsw, Value.category, List.filter, List.take, List.drop, List.reverse, List.reverseAux, List.cons_append, List.nil_append, Option.toList, Int.toNat, Int.reduceToNat, if_pos, if_neg, reduceIte, ↓reduceIte, Nat.reduceAdd, Nat.reduceEqDiff, Nat.reduceBEq, beq_self_eq_true, Bool.not_true, Bool.not_false, Bool.and_true, Bool.and_false, Bool.true_and, Bool.false_and, gI_sI, gI_sL, gI_sA, gI_sM, gL_sI, gL_sL, gL_sA, gL_sM, aI_sI, aI_sL, aI_sA, aI_sM, aL_sI, aL_sL, aL_sA, aL_sM]; try dsimp only
          refine ⟨trivial, fun w2 τ2 hq2 => ?_⟩
          obtain ⟨rfl, b2, rfl, hb2⟩ := hq2 trivial
          dsimp only [Option.toList, List.cons_append, List.nil_append, Nat.beq, gI_sI, gI_sL, gI_sA, gI_sM, gL_sI, gL_sL, gL_sA, gL_sM, aI_sI, aI_sL, aI_sA, aI_sM, aL_sI, aL_sL, aL_sA, aL_sM]
          refine ⟨fun h3 => ?_, fun h3 => ?_⟩
          · exact hW _ 288 [(0, .ref 1000), (1, .int x1), (2, .int x2), (3, .int x3), (4, .int x4), (5, .int x5), (6, .int x6), (7, .int x7)] _ _ _ (by simp [rdl, rky, Value.category]) ((ih m1 hm1).2.2.2.2.2.2.2.2.2.2.2.2.2.2.2.2.2.2.2.2.2.2.2.2.2.2.2.2.2.2.2.1 x1 x2 x3 x4 x5 x6 x7 _ hz)
          · exact hW _ 147 [(0, .ref 1000), (1, .int x1), (2, .int x2), (3, .int x3), (4, .int x4), (5, .int x5), (6, .int x6), (7, .int x7)] _ _ _ (by simp [rdl, rky, Value.category]) ((ih m1 hm1).2.2.2.2.2.2.2.2.2.2.2.2.1 x1 x2 x3 x4 x5 x6 x7 _ hz)
        · intro x1 x2 x3 x4 x5 x6 x7 Y hz
          refine hB _ _ _ _ _ (fun m1 hm1 => ?_)
          dsimp only [ugo, uwp, ust, uct, rfd, Bassign, Bassign_147, Nat.beq, lv_args, rlk, rs1, rs2, rdl, rky, rcd, rno, rsw, Value.category, List.filter, List.take, List.drop, List.reverse, List.reverseAux, List.cons_append, List.nil_append, Option.toList, Int.toNat, Int.reduceToNat, if_pos, if_neg, reduceIte, ↓reduceIte, Nat.reduceAdd, Nat.reduceEqDiff, Nat.reduceBEq, beq_self_eq_true, Bool.not_true, Bool.not_false, Bool.and_true, Bool.and_false, Bool.true_and, Bool.false_and, gI_sI, gI_sL, gI_sA, gI_sM, gL_sI, gL_sL, gL_sA, gL_sM, aI_sI, aI_sL, aI_sA, aI_sM, aL_sI, aL_sL, aL_sA, aL_sM, oi_0, oi_5]; try dsimp only
          intro p2
          refine ⟨trivial, fun w3 τ3 hq3 => ?_⟩
          obtain ⟨rfl, hz3⟩ := hq3 (show ¬ (5 : Int32) = 0 by decide)
          dsimp only [Option.toList, List.cons_append, List.nil_append, Nat.beq, gI_sI, gI_sL, gI_sA, gI_sM, gL_sI, gL_sL, gL_sA, gL_sM, aI_sI, aI_sL, aI_sA, aI_sM, aL_sI, aL_sL, aL_sA, aL_sM]
          exact hW _ 288 [(0, .ref 1000), (1, .int x1), (2, .int x2), (3, .int x3), (4, .int x4), (5, .int 0), (6, .int x6), (7, .int x7)] _ _ _ (by simp [rdl, rky, Value.category]) ((ih m1 hm1).2.2.2.2.2.2.2.2.2.2.2.2.2.2.2.2.2.2.2.2.2.2.2.2.2.2.2.2.2.2.2.1 x1 x2 x3 x4 0 x6 x7 _ hz3)
        · intro x1 x2 x3 x4 x5 x6 x7 Y hz
          refine hB _ _ _ _ _ (fun m1 hm1 => ?_)
          dsimp only [ugo, uwp, ust, uct, rfd, Bassign, Bassign_164, Nat.beq, lv_args, rlk, rs1, rs2, rdl, rky, rcd, rno, rsw, Value.category, List.filter, List.take, List.drop, List.reverse, List.reverseAux, List.cons_append, List.nil_append, Option.toList, Int.toNat, Int.reduceToNat, if_pos, if_neg, reduceIte, ↓reduceIte, Nat.reduceAdd, Nat.reduceEqDiff, Nat.reduceBEq, beq_self_eq_true, Bool.not_true, Bool.not_false, Bool.and_true, Bool.and_false, Bool.true_and, Bool.false_and, gI_sI, gI_sL, gI_sA, gI_sM, gL_sI, gL_sL, gL_sA, gL_sM, aI_sI, aI_sL, aI_sA, aI_sM, aL_sI, aL_sL, aL_sA, aL_sM, oi_400]; try dsimp only
          refine ⟨fun h2 => ?_, fun h2 => ?_⟩
          · exact hW _ 213 [(0, .ref 1000), (1, .int x1), (2, .int x2), (3, .int x3), (4, .int x4), (5, .int x5), (6, .int x6), (7, .int x7), (8, .int (x7 - 400))] _ _ _ (by simp [rdl, rky, Value.category]) ((ih m1 hm1).2.2.2.2.2.2.2.2.2.2.2.2.2.2.2.2.2.1 x1 x2 x3 x4 x5 x6 x7 (x7 - 400) _ hz)
          · exact hW _ 177 [(0, .ref 1000), (1, .int x1), (2, .int x2), (3, .int x3), (4, .int x4), (5, .int x5), (6, .int x6), (7, .int x7), (8, .int (x7 - 400))] _ _ _ (by simp [rdl, rky, Value.category]) ((ih m1 hm1).2.2.2.2.2.2.2.2.2.2.2.2.2.2.1 x1 x2 x3 x4 x5 x6 x7 (x7 - 400) _ hz)
        · intro x1 x2 x3 x4 x5 x6 x7 x8 Y hz
          refine hB _ _ _ _ _ (fun m1 hm1 => ?_)
          dsimp only [ugo, uwp, ust, uct, rfd, Bassign, Bassign_177, Nat.beq, lv_args, rlk, rs1, rs2, rdl, rky, rcd, rno, rsw, Value.category, List.filter, List.take, List.drop, List.reverse, List.reverseAux, List.cons_append, List.nil_append, Option.toList, Int.toNat, Int.reduceToNat, if_pos, if_neg, reduceIte, ↓reduceIte, Nat.reduceAdd, Nat.reduceEqDiff, Nat.reduceBEq, beq_self_eq_true, Bool.not_true, Bool.not_false, Bool.and_true, Bool.and_false, Bool.true_and, Bool.false_and, gI_sI, gI_sL, gI_sA, gI_sM, gL_sI, gL_sL, gL_sA, gL_sM, aI_sI, aI_sL, aI_sA, aI_sM, aL_sI, aL_sL, aL_sA, aL_sM]; try dsimp only
          refine ⟨trivial, fun w2 τ2 hq2 => ?_⟩
          obtain ⟨rfl, b2, rfl, hb2⟩ := hq2 trivial
          try rw [show (x8).toInt = (x8).toInt from (rfl : (x8).toInt = (x8).toInt)] at hb2
          have hb2 : ¬ b2 = 0 ↔ (((x8).toInt) = 38 ∨ ((x8).toInt) = 124 ∨ ((x8).toInt) = 94) := hb2
          dsimp only [Option.toList, List.cons_append, List.nil_append, Nat.beq, gI_sI, gI_sL, gI_sA, gI_sM, gL_sI, gL_sL, gL_sA, gL_sM, aI_sI, aI_sL, aI_sA, aI_sM, aL_sI, aL_sL, aL_sA, aL_sM]
          refine ⟨fun h3 => ?_, fun h3 => ?_⟩
          · have c3 : (((x8).toInt) = 38 ∨ ((x8).toInt) = 124 ∨ ((x8).toInt) = 94) := (hb2).mp h3
            exact hW _ 213 [(0, .ref 1000), (1, .int x1), (2, .int x2), (3, .int x3), (4, .int x4), (5, .int x5), (6, .int x6), (7, .int x7), (8, .int x8)] _ _ _ (by simp [rdl, rky, Value.category]) ((ih m1 hm1).2.2.2.2.2.2.2.2.2.2.2.2.2.2.2.2.2.1 x1 x2 x3 x4 x5 x6 x7 x8 _ hz)
          · have c3 : ¬ ((((x8).toInt) = 38 ∨ ((x8).toInt) = 124 ∨ ((x8).toInt) = 94)) := fun q => (hb2).mpr q h3
            exact hW _ 186 [(0, .ref 1000), (1, .int x1), (2, .int x2), (3, .int x3), (4, .int x4), (5, .int x5), (6, .int x6), (7, .int x7), (8, .int x8)] _ _ _ (by simp [rdl, rky, Value.category]) ((ih m1 hm1).2.2.2.2.2.2.2.2.2.2.2.2.2.2.2.1 x1 x2 x3 x4 x5 x6 x7 x8 _ hz)
        · intro x1 x2 x3 x4 x5 x6 x7 x8 Y hz
          refine hB _ _ _ _ _ (fun m1 hm1 => ?_)
          dsimp only [ugo, uwp, ust, uct, rfd, Bassign, Bassign_186, Nat.beq, lv_args, rlk, rs1, rs2, rdl, rky, rcd, rno, rsw, Value.category, List.filter, List.take, List.drop, List.reverse, List.reverseAux, List.cons_append, List.nil_append, Option.toList, Int.toNat, Int.reduceToNat, if_pos, if_neg, reduceIte, ↓reduceIte, Nat.reduceAdd, Nat.reduceEqDiff, Nat.reduceBEq, beq_self_eq_true, Bool.not_true, Bool.not_false, Bool.and_true, Bool.and_false, Bool.true_and, Bool.false_and, gI_sI, gI_sL, gI_sA, gI_sM, gL_sI, gL_sL, gL_sA, gL_sM, aI_sI, aI_sL, aI_sA, aI_sM, aL_sI, aL_sL, aL_sA, aL_sM, oi_0, oi_5]; try dsimp only
          refine ⟨trivial, fun w2 τ2 hq2 => ?_⟩
          obtain ⟨rfl, hz2⟩ := hq2 (show ¬ (5 : Int32) = 0 by decide)
          dsimp only [Option.toList, List.cons_append, List.nil_append, Nat.beq, gI_sI, gI_sL, gI_sA, gI_sM, gL_sI, gL_sL, gL_sA, gL_sM, aI_sI, aI_sL, aI_sA, aI_sM, aL_sI, aL_sL, aL_sA, aL_sM]
          refine ⟨trivial, fun w3 τ3 hq3 => ?_⟩
          obtain ⟨rfl, b3, rfl, hb3⟩ := hq3 trivial
          dsimp only [Option.toList, List.cons_append, List.nil_append, Nat.beq, gI_sI, gI_sL, gI_sA, gI_sM, gL_sI, gL_sL, gL_sA, gL_sM, aI_sI, aI_sL, aI_sA, aI_sM, aL_sI, aL_sL, aL_sA, aL_sM]
          refine ⟨fun h4 => ?_, fun h4 => ?_⟩
          · exact hW _ 234 [(0, .ref 1000), (1, .int x1), (2, .int x2), (3, .int x3), (4, .int x4), (5, .int 0), (6, .int x6), (7, .int x7), (8, .int x8)] _ _ _ (by simp [rdl, rky, Value.category]) ((ih m1 hm1).2.2.2.2.2.2.2.2.2.2.2.2.2.2.2.2.2.2.2.2.2.2.1 x1 x2 x3 x4 0 x6 x7 x8 _ hz2)
          · exact hW _ 203 [(0, .ref 1000), (1, .int x1), (2, .int x2), (3, .int x3), (4, .int x4), (5, .int 0), (6, .int x6), (7, .int x7), (8, .int x8)] _ _ _ (by simp [rdl, rky, Value.category]) ((ih m1 hm1).2.2.2.2.2.2.2.2.2.2.2.2.2.2.2.2.1 x1 x2 x3 x4 0 x6 x7 x8 _ hz2)
        · intro x1 x2 x3 x4 x5 x6 x7 x8 Y hz
          refine hB _ _ _ _ _ (fun m1 hm1 => ?_)
          dsimp only [ugo, uwp, ust, uct, rfd, Bassign, Bassign_203, Nat.beq, lv_args, rlk, rs1, rs2, rdl, rky, rcd, rno, rsw, Value.category, List.filter, List.take, List.drop, List.reverse, List.reverseAux, List.cons_append, List.nil_append, Option.toList, Int.toNat, Int.reduceToNat, if_pos, if_neg, reduceIte, ↓reduceIte, Nat.reduceAdd, Nat.reduceEqDiff, Nat.reduceBEq, beq_self_eq_true, Bool.not_true, Bool.not_false, Bool.and_true, Bool.and_false, Bool.true_and, Bool.false_and, gI_sI, gI_sL, gI_sA, gI_sM, gL_sI, gL_sL, gL_sA, gL_sM, aI_sI, aI_sL, aI_sA, aI_sM, aL_sI, aL_sL, aL_sA, aL_sM, oi_0]; try dsimp only
          refine ⟨trivial, fun w2 τ2 hq2 => ?_⟩
          obtain ⟨hA2, b2, rfl, hb2⟩ := hq2 trivial
          have hz2 := hA2 hz
          dsimp only [Option.toList, List.cons_append, List.nil_append, Nat.beq, gI_sI, gI_sL, gI_sA, gI_sM, gL_sI, gL_sL, gL_sA, gL_sM, aI_sI, aI_sL, aI_sA, aI_sM, aL_sI, aL_sL, aL_sA, aL_sM]
          exact hW _ 234 [(0, .ref 1000), (1, .int x1), (2, .int x2), (3, .int x3), (4, .int x4), (5, .int x5), (6, .int x6), (7, .int x7), (8, .int x8)] _ _ _ (by simp [rdl, rky, Value.category]) ((ih m1 hm1).2.2.2.2.2.2.2.2.2.2.2.2.2.2.2.2.2.2.2.2.2.2.1 x1 x2 x3 x4 x5 x6 x7 x8 _ hz2)
        · intro x1 x2 x3 x4 x5 x6 x7 x8 Y hz
          refine hB _ _ _ _ _ (fun m1 hm1 => ?_)
          dsimp only [ugo, uwp, ust, uct, rfd, Bassign, Bassign_213, Nat.beq, lv_args, rlk, rs1, rs2, rdl, rky, rcd, rno, rsw, Value.category, List.filter, List.take, List.drop, List.reverse, List.reverseAux, List.cons_append, List.nil_append, Option.toList, Int.toNat, Int.reduceToNat, if_pos, if_neg, reduceIte, ↓reduceIte, Nat.reduceAdd, Nat.reduceEqDiff, Nat.reduceBEq, beq_self_eq_true, Bool.not_true, Bool.not_false, Bool.and_true, Bool.and_false, Bool.true_and, Bool.false_and, gI_sI, gI_sL, gI_sA, gI_sM, gL_sI, gL_sL, gL_sA, gL_sM, aI_sI, aI_sL, aI_sA, aI_sM, aL_sI, aL_sL, aL_sA, aL_sM]; try dsimp only
          refine ⟨fun h2 => ?_, fun h2 => ?_⟩
          · exact hW _ 224 [(0, .ref 1000), (1, .int x1), (2, .int x2), (3, .int x3), (4, .int x4), (5, .int x5), (6, .int x6), (7, .int x7), (8, .int x8)] _ _ _ (by simp [rdl, rky, Value.category]) ((ih m1 hm1).2.2.2.2.2.2.2.2.2.2.2.2.2.2.2.2.2.2.2.1 x1 x2 x3 x4 x5 x6 x7 x8 x3 _ hz)
          · exact hW _ 220 [(0, .ref 1000), (1, .int x1), (2, .int x2), (3, .int x3), (4, .int x4), (5, .int x5), (6, .int x6), (7, .int x7), (8, .int x8)] _ _ _ (by simp [rdl, rky, Value.category]) ((ih m1 hm1).2.2.2.2.2.2.2.2.2.2.2.2.2.2.2.2.2.2.1 x1 x2 x3 x4 x5 x6 x7 x8 x3 _ hz)
        · intro x1 x2 x3 x4 x5 x6 x7 x8 s0 Y hz
          refine hB _ _ _ _ _ (fun m1 hm1 => ?_)
          dsimp only [ugo, uwp, ust, uct, rfd, Bassign, Bassign_220, Nat.beq, lv_args, rlk, rs1, rs2, rdl, rky, rcd, rno, rsw, Value.category, List.filter, List.take, List.drop, List.reverse, List.reverseAux, List.cons_append, List.nil_append, Option.toList, Int.toNat, Int.reduceToNat, if_pos, if_neg, reduceIte, ↓reduceIte, Nat.reduceAdd, Nat.reduceEqDiff, Nat.reduceBEq, beq_self_eq_true, Bool.not_true, Bool.not_false, Bool.and_true, Bool.and_false, Bool.true_and, Bool.false_and, gI_sI, gI_sL, gI_sA, gI_sM, gL_sI, gL_sL, gL_sA, gL_sM, aI_sI, aI_sL, aI_sA, aI_sM, aL_sI, aL_sL, aL_sA, aL_sM, oi_0]; try dsimp only
          exact hW _ 225 [(0, .ref 1000), (1, .int x1), (2, .int x2), (3, .int x3), (4, .int x4), (5, .int x5), (6, .int x6), (7, .int x7), (8, .int x8)] _ _ _ (by simp [rdl, rky, Value.category]) ((ih m1 hm1).2.2.2.2.2.2.2.2.2.2.2.2.2.2.2.2.2.2.2.2.1 x1 x2 x3 x4 x5 x6 x7 x8 0 s0 _ hz)
        · intro x1 x2 x3 x4 x5 x6 x7 x8 s0 Y hz
          refine hB _ _ _ _ _ (fun m1 hm1 => ?_)
          dsimp only [ugo, uwp, ust, uct, rfd, Bassign, Bassign_224, Nat.beq, lv_args, rlk, rs1, rs2, rdl, rky, rcd, rno, rsw, Value.category, List.filter, List.take, List.drop, List.reverse, List.reverseAux, List.cons_append, List.nil_append, Option.toList, Int.toNat, Int.reduceToNat, if_pos, if_neg, reduceIte, ↓reduceIte, Nat.reduceAdd, Nat.reduceEqDiff, Nat.reduceBEq, beq_self_eq_true, Bool.not_true, Bool.not_false, Bool.and_true, Bool.and_false, Bool.true_and, Bool.false_and, gI_sI, gI_sL, gI_sA, gI_sM, gL_sI, gL_sL, gL_sA, gL_sM, aI_sI, aI_sL, aI_sA, aI_sM, aL_sI, aL_sL, aL_sA, aL_sM, oi_1]; try dsimp only
          exact hW _ 225 [(0, .ref 1000), (1, .int x1), (2, .int x2), (3, .int x3), (4, .int x4), (5, .int x5), (6, .int x6), (7, .int x7), (8, .int x8)] _ _ _ (by simp [rdl, rky, Value.category]) ((ih m1 hm1).2.2.2.2.2.2.2.2.2.2.2.2.2.2.2.2.2.2.2.2.1 x1 x2 x3 x4 x5 x6 x7 x8 1 s0 _ hz)
        · intro x1 x2 x3 x4 x5 x6 x7 x8 s0 s1 Y hz
          refine hB _ _ _ _ _ (fun m1 hm1 => ?_)
          dsimp only [ugo, uwp, ust, uct, rfd, Bassign, Bassign_225, Nat.beq, lv_args, rlk, rs1, rs2, rdl, rky, rcd, rno, rsw, Value.category, List.filter, List.take, List.drop, List.reverse, List.reverseAux, List.cons_append, List.nil_append, Option.toList, Int.toNat, Int.reduceToNat, if_pos, if_neg, reduceIte, ↓reduceIte, Nat.reduceAdd, Nat.reduceEqDiff, Nat.reduceBEq, beq_self_eq_true, Bool.not_true, Bool.not_false, Bool.and_true, Bool.and_false, Bool.true_and, Bool.false_and, gI_sI, gI_sL, gI_sA, gI_sM, gL_sI, gL_sL, gL_sA, gL_sM, aI_sI, aI_sL, aI_sA, aI_sM, aL_sI, aL_sL, aL_sA, aL_sM]; try dsimp only
          refine ⟨trivial, fun w2 τ2 hq2 => ?_⟩
          obtain ⟨hA2, b2, rfl, hb2⟩ := hq2 trivial
          have hz2 := hA2 hz
          dsimp only [Option.toList, List.cons_append, List.nil_append, Nat.beq, gI_sI, gI_sL, gI_sA, gI_sM, gL_sI, gL_sL, gL_sA, gL_sM, aI_sI, aI_sL, aI_sA, aI_sM, aL_sI, aL_sL, aL_sA, aL_sM]
          refine ⟨fun h3 => ?_, fun h3 => ?_⟩
          · exact hW _ 234 [(0, .ref 1000), (1, .int x1), (2, .int x2), (3, .int x3), (4, .int x4), (5, .int x5), (6, .int x6), (7, .int x7), (8, .int x8)] _ _ _ (by simp [rdl, rky, Value.category]) ((ih m1 hm1).2.2.2.2.2.2.2.2.2.2.2.2.2.2.2.2.2.2.2.2.2.2.1 x1 x2 x3 x4 x5 x6 x7 x8 _ hz2)
          · exact hW _ 231 [(0, .ref 1000), (1, .int x1), (2, .int x2), (3, .int x3), (4, .int x4), (5, .int x5), (6, .int x6), (7, .int x7), (8, .int x8)] _ _ _ (by simp [rdl, rky, Value.category]) ((ih m1 hm1).2.2.2.2.2.2.2.2.2.2.2.2.2.2.2.2.2.2.2.2.2.1 x1 x2 x3 x4 x5 x6 x7 x8 _ hz2)
        · intro x1 x2 x3 x4 x5 x6 x7 x8 Y hz
          refine hB _ _ _ _ _ (fun m1 hm1 => ?_)
          dsimp only [ugo, uwp, ust, uct, rfd, Bassign, Bassign_231, Nat.beq, lv_args, rlk, rs1, rs2, rdl, rky, rcd, rno, rsw, Value.category, List.filter, List.take, List.drop, List.reverse, List.reverseAux, List.cons_append, List.nil_append, Option.toList, Int.toNat, Int.reduceToNat, if_pos, if_neg, reduceIte, ↓reduceIte, Nat.reduceAdd, Nat.reduceEqDiff, Nat.reduceBEq, beq_self_eq_true, Bool.not_true, Bool.not_false, Bool.and_true, Bool.and_false, Bool.true_and, Bool.false_and, gI_sI, gI_sL, gI_sA, gI_sM, gL_sI, gL_sL, gL_sA, gL_sM, aI_sI, aI_sL, aI_sA, aI_sM, aL_sI, aL_sL, aL_sA, aL_sM, oi_0]; try dsimp only
          exact hW _ 234 [(0, .ref 1000), (1, .int x1), (2, .int x2), (3, .int x3), (4, .int x4), (5, .int 0), (6, .int x6), (7, .int x7), (8, .int x8)] _ _ _ (by simp [rdl, rky, Value.category]) ((ih m1 hm1).2.2.2.2.2.2.2.2.2.2.2.2.2.2.2.2.2.2.2.2.2.2.1 x1 x2 x3 x4 0 x6 x7 x8 _ hz)
        · intro x1 x2 x3 x4 x5 x6 x7 x8 Y hz
          refine hB _ _ _ _ _ (fun m1 hm1 => ?_)
          dsimp only [ugo, uwp, ust, uct, rfd, Bassign, Bassign_234, Nat.beq, lv_args, rlk, rs1, rs2, rdl, rky, rcd, rno, rsw, Value.category, List.filter, List.take, List.drop, List.reverse, List.reverseAux, List.cons_append, List.nil_append, Option.toList, Int.toNat, Int.reduceToNat, if_pos, if_neg, reduceIte, ↓reduceIte, Nat.reduceAdd, Nat.reduceEqDiff, Nat.reduceBEq, beq_self_eq_true, Bool.not_true, Bool.not_false, Bool.and_true, Bool.and_false, Bool.true_and, Bool.false_and, gI_sI, gI_sL, gI_sA, gI_sM, gL_sI, gL_sL, gL_sA, gL_sM, aI_sI, aI_sL, aI_sA, aI_sM, aL_sI, aL_sL, aL_sA, aL_sM]; try dsimp only
          refine ⟨fun h2 => ?_, fun h2 => ?_⟩
          · exact hW _ 248 [(0, .ref 1000), (1, .int x1), (2, .int x2), (3, .int x3), (4, .int x4), (5, .int x5), (6, .int x6), (7, .int x7), (8, .int x8)] _ _ _ (by simp [rdl, rky, Value.category]) ((ih m1 hm1).2.2.2.2.2.2.2.2.2.2.2.2.2.2.2.2.2.2.2.2.2.2.2.2.1 x1 x2 x3 x4 x5 x6 x7 x8 x1 _ hz)
          · exact hW _ 244 [(0, .ref 1000), (1, .int x1), (2, .int x2), (3, .int x3), (4, .int x4), (5, .int x5), (6, .int x6), (7, .int x7), (8, .int x8)] _ _ _ (by simp [rdl, rky, Value.category]) ((ih m1 hm1).2.2.2.2.2.2.2.2.2.2.2.2.2.2.2.2.2.2.2.2.2.2.2.1 x1 x2 x3 x4 x5 x6 x7 x8 x1 _ hz)
        · intro x1 x2 x3 x4 x5 x6 x7 x8 s0 Y hz
          refine hB _ _ _ _ _ (fun m1 hm1 => ?_)
          dsimp only [ugo, uwp, ust, uct, rfd, Bassign, Bassign_244, Nat.beq, lv_args, rlk, rs1, rs2, rdl, rky, rcd, rno, rsw, Value.category, List.filter, List.take, List.drop, List.reverse, List.reverseAux, List.cons_append, List.nil_append, Option.toList, Int.toNat, Int.reduceToNat, if_pos, if_neg, reduceIte, ↓reduceIte, Nat.reduceAdd, Nat.reduceEqDiff, Nat.reduceBEq, beq_self_eq_true, Bool.not_true, Bool.not_false, Bool.and_true, Bool.and_false, Bool.true_and, Bool.false_and, gI_sI, gI_sL, gI_sA, gI_sM, gL_sI, gL_sL, gL_sA, gL_sM, aI_sI, aI_sL, aI_sA, aI_sM, aL_sI, aL_sL, aL_sA, aL_sM, oi_0]; try dsimp only
          exact hW _ 287 [(0, .ref 1000), (1, .int x1), (2, .int x2), (3, .int x3), (4, .int x4), (5, .int x5), (6, .int x6), (7, .int x7), (8, .int x8)] _ _ _ (by simp [rdl, rky, Value.category]) ((ih m1 hm1).2.2.2.2.2.2.2.2.2.2.2.2.2.2.2.2.2.2.2.2.2.2.2.2.2.2.2.2.2.2.1 x1 x2 x3 x4 x5 x6 x7 x8 0 s0 _ hz)
        · intro x1 x2 x3 x4 x5 x6 x7 x8 s0 Y hz
          refine hB _ _ _ _ _ (fun m1 hm1 => ?_)
          dsimp only [ugo, uwp, ust, uct, rfd, Bassign, Bassign_248, Nat.beq, lv_args, rlk, rs1, rs2, rdl, rky, rcd, rno, rsw, Value.category, List.filter, List.take, List.drop, List.reverse, List.reverseAux, List.cons_append, List.nil_append, Option.toList, Int.toNat, Int.reduceToNat, if_pos, if_neg, reduceIte, ↓reduceIte, Nat.reduceAdd, Nat.reduceEqDiff, Nat.reduceBEq, beq_self_eq_true, Bool.not_true, Bool.not_false, Bool.and_true, Bool.and_false, Bool.true_and, Bool.false_and, gI_sI, gI_sL, gI_sA, gI_sM, gL_sI, gL_sL, gL_sA, gL_sM, aI_sI, aI_sL, aI_sA, aI_sM, aL_sI, aL_sL, aL_sA, aL_sM]; try dsimp only
          refine ⟨trivial, fun w2 τ2 hq2 => ?_⟩
          obtain ⟨rfl, b2, rfl, hb2⟩ := hq2 trivial
          try rw [show (x8).toInt = (x8).toInt from (rfl : (x8).toInt = (x8).toInt)] at hb2
          have hb2 : ¬ b2 = 0 ↔ (((x8).toInt) = 304 ∨ ((x8).toInt) = 305 ∨ ((x8).toInt) = 306) := hb2
          dsimp only [Option.toList, List.cons_append, List.nil_append, Nat.beq, gI_sI, gI_sL, gI_sA, gI_sM, gL_sI, gL_sL, gL_sA, gL_sM, aI_sI, aI_sL, aI_sA, aI_sM, aL_sI, aL_sL, aL_sA, aL_sM]
          refine ⟨fun h3 => ?_, fun h3 => ?_⟩
          · have c3 : ¬ ((((x8).toInt) = 304 ∨ ((x8).toInt) = 305 ∨ ((x8).toInt) = 306)) := fun q => (hb2).mpr q h3
            exact hW _ 266 [(0, .ref 1000), (1, .int x1), (2, .int x2), (3, .int x3), (4, .int x4), (5, .int x5), (6, .int x6), (7, .int x7), (8, .int x8)] _ _ _ (by simp [rdl, rky, Value.category]) ((ih m1 hm1).2.2.2.2.2.2.2.2.2.2.2.2.2.2.2.2.2.2.2.2.2.2.2.2.2.2.1 x1 x2 x3 x4 x5 x6 x7 x8 s0 _ hz)
          · have c3 : (((x8).toInt) = 304 ∨ ((x8).toInt) = 305 ∨ ((x8).toInt) = 306) := (hb2).mp h3
            exact hW _ 257 [(0, .ref 1000), (1, .int x1), (2, .int x2), (3, .int x3), (4, .int x4), (5, .int x5), (6, .int x6), (7, .int x7), (8, .int x8)] _ _ _ (by simp [rdl, rky, Value.category]) ((ih m1 hm1).2.2.2.2.2.2.2.2.2.2.2.2.2.2.2.2.2.2.2.2.2.2.2.2.2.1 x1 x2 x3 x4 x5 x6 x7 x8 s0 _ hz)
        · intro x1 x2 x3 x4 x5 x6 x7 x8 s0 Y hz
          refine hB _ _ _ _ _ (fun m1 hm1 => ?_)
          dsimp only [ugo, uwp, ust, uct, rfd, Bassign, Bassign_257, Nat.beq, lv_args, rlk, rs1, rs2, rdl, rky, rcd, rno, rsw, Value.category, List.filter, List.take, List.drop, List.reverse, List.reverseAux, List.cons_append, List.nil_append, Option.toList, Int.toNat, Int.reduceToNat, if_pos, if_neg, reduceIte, ↓reduceIte, Nat.reduceAdd, Nat.reduceEqDiff, Nat.reduceBEq, beq_self_eq_true, Bool.not_true, Bool.not_false, Bool.and_true, Bool.and_false, Bool.true_and, Bool.false_and, gI_sI, gI_sL, gI_sA, gI_sM, gL_sI, gL_sL, gL_sA, gL_sM, aI_sI, aI_sL, aI_sA, aI_sM, aL_sI, aL_sL, aL_sA, aL_sM]; try dsimp only
          refine ⟨trivial, fun w2 τ2 hq2 => ?_⟩
          obtain ⟨rfl, r2, rfl, hr2⟩ := hq2 trivial
          try rw [show (x6).toInt = (x6).toInt from (rfl : (x6).toInt = (x6).toInt)] at hr2
          have hr2 : r2.toInt = pmT ((x6).toInt) := hr2
          dsimp only [Option.toList, List.cons_append, List.nil_append, Nat.beq, gI_sI, gI_sL, gI_sA, gI_sM, gL_sI, gL_sL, gL_sA, gL_sM, aI_sI, aI_sL, aI_sA, aI_sM, aL_sI, aL_sL, aL_sA, aL_sM]
          exact hW _ 287 [(0, .ref 1000), (1, .int x1), (2, .int x2), (3, .int x3), (4, .int x4), (5, .int x5), (6, .int x6), (7, .int x7), (8, .int x8)] _ _ _ (by simp [rdl, rky, Value.category]) ((ih m1 hm1).2.2.2.2.2.2.2.2.2.2.2.2.2.2.2.2.2.2.2.2.2.2.2.2.2.2.2.2.2.2.1 x1 x2 x3 x4 x5 x6 x7 x8 r2 s0 _ hz)
        · intro x1 x2 x3 x4 x5 x6 x7 x8 s0 Y hz
          refine hB _ _ _ _ _ (fun m1 hm1 => ?_)
          dsimp only [ugo, uwp, ust, uct, rfd, Bassign, Bassign_266, Nat.beq, lv_args, rlk, rs1, rs2, rdl, rky, rcd, rno, rsw, Value.category, List.filter, List.take, List.drop, List.reverse, List.reverseAux, List.cons_append, List.nil_append, Option.toList, Int.toNat, Int.reduceToNat, if_pos, if_neg, reduceIte, ↓reduceIte, Nat.reduceAdd, Nat.reduceEqDiff, Nat.reduceBEq, beq_self_eq_true, Bool.not_true, Bool.not_false, Bool.and_true, Bool.and_false, Bool.true_and, Bool.false_and, gI_sI, gI_sL, gI_sA, gI_sM, gL_sI, gL_sL, gL_sA, gL_sM, aI_sI, aI_sL, aI_sA, aI_sM, aL_sI, aL_sL, aL_sA, aL_sM, oi_4]; try dsimp only
          refine ⟨fun h2 => ?_, fun h2 => ?_⟩
          · exact hW _ 282 [(0, .ref 1000), (1, .int x1), (2, .int x2), (3, .int x3), (4, .int x4), (5, .int x5), (6, .int x6), (7, .int x7), (8, .int x8)] _ _ _ (by simp [rdl, rky, Value.category]) ((ih m1 hm1).2.2.2.2.2.2.2.2.2.2.2.2.2.2.2.2.2.2.2.2.2.2.2.2.2.2.2.2.1 x1 x2 x3 x4 x5 x6 x7 x8 s0 _ hz)
          · exact hW _ 272 [(0, .ref 1000), (1, .int x1), (2, .int x2), (3, .int x3), (4, .int x4), (5, .int x5), (6, .int x6), (7, .int x7), (8, .int x8)] _ _ _ (by simp [rdl, rky, Value.category]) ((ih m1 hm1).2.2.2.2.2.2.2.2.2.2.2.2.2.2.2.2.2.2.2.2.2.2.2.2.2.2.2.1 x1 x2 x3 x4 x5 x6 x7 x8 s0 _ hz)
        · intro x1 x2 x3 x4 x5 x6 x7 x8 s0 Y hz
          refine hB _ _ _ _ _ (fun m1 hm1 => ?_)
          dsimp only [ugo, uwp, ust, uct, rfd, Bassign, Bassign_272, Nat.beq, lv_args, rlk, rs1, rs2, rdl, rky, rcd, rno, rsw, Value.category, List.filter, List.take, List.drop, List.reverse, List.reverseAux, List.cons_append, List.nil_append, Option.toList, Int.toNat, Int.reduceToNat, if_pos, if_neg, reduceIte, ↓reduceIte, Nat.reduceAdd, Nat.reduceEqDiff, Nat.reduceBEq, beq_self_eq_true, Bool.not_true, Bool.not_false, Bool.and_true, Bool.and_false, Bool.true_and, Bool.false_and, gI_sI, gI_sL, gI_sA, gI_sM, gL_sI, gL_sL, gL_sA, gL_sM, aI_sI, aI_sL, aI_sA, aI_sM, aL_sI, aL_sL, aL_sA, aL_sM, oi_4]; try dsimp only
          intro p2
          refine ⟨fun h3 => ?_, fun h3 => ?_⟩
          · exact hW _ 286 [(0, .ref 1000), (1, .int x1), (2, .int x2), (3, .int x3), (4, .int x4), (5, .int x5), (6, .int x6), (7, .int x7), (8, .int x8)] _ _ _ (by simp [rdl, rky, Value.category]) ((ih m1 hm1).2.2.2.2.2.2.2.2.2.2.2.2.2.2.2.2.2.2.2.2.2.2.2.2.2.2.2.2.2.1 x1 x2 x3 x4 x5 x6 x7 x8 s0 _ hz)
          · exact hW _ 282 [(0, .ref 1000), (1, .int x1), (2, .int x2), (3, .int x3), (4, .int x4), (5, .int x5), (6, .int x6), (7, .int x7), (8, .int x8)] _ _ _ (by simp [rdl, rky, Value.category]) ((ih m1 hm1).2.2.2.2.2.2.2.2.2.2.2.2.2.2.2.2.2.2.2.2.2.2.2.2.2.2.2.2.1 x1 x2 x3 x4 x5 x6 x7 x8 s0 _ hz)
        · intro x1 x2 x3 x4 x5 x6 x7 x8 s0 Y hz
          refine hB _ _ _ _ _ (fun m1 hm1 => ?_)
          dsimp only [ugo, uwp, ust, uct, rfd, Bassign, Bassign_282, Nat.beq, lv_args, rlk, rs1, rs2, rdl, rky, rcd, rno, rsw, Value.category, List.filter, List.take, List.drop, List.reverse, List.reverseAux, List.cons_append, List.nil_append, Option.toList, Int.toNat, Int.reduceToNat, if_pos, if_neg, reduceIte, ↓reduceIte, Nat.reduceAdd, Nat.reduceEqDiff, Nat.reduceBEq, beq_self_eq_true, Bool.not_true, Bool.not_false, Bool.and_true, Bool.and_false, Bool.true_and, Bool.false_and, gI_sI, gI_sL, gI_sA, gI_sM, gL_sI, gL_sL, gL_sA, gL_sM, aI_sI, aI_sL, aI_sA, aI_sM, aL_sI, aL_sL, aL_sA, aL_sM, oi_4]; try dsimp only
          exact hW _ 287 [(0, .ref 1000), (1, .int x1), (2, .int x2), (3, .int x3), (4, .int x4), (5, .int x5), (6, .int x6), (7, .int x7), (8, .int x8)] _ _ _ (by simp [rdl, rky, Value.category]) ((ih m1 hm1).2.2.2.2.2.2.2.2.2.2.2.2.2.2.2.2.2.2.2.2.2.2.2.2.2.2.2.2.2.2.1 x1 x2 x3 x4 x5 x6 x7 x8 4 s0 _ hz)
        · intro x1 x2 x3 x4 x5 x6 x7 x8 s0 Y hz
          refine hB _ _ _ _ _ (fun m1 hm1 => ?_)
          dsimp only [ugo, uwp, ust, uct, rfd, Bassign, Bassign_286, Nat.beq, lv_args, rlk, rs1, rs2, rdl, rky, rcd, rno, rsw, Value.category, List.filter, List.take, List.drop, List.reverse, List.reverseAux, List.cons_append, List.nil_append, Option.toList, Int.toNat, Int.reduceToNat, if_pos, if_neg, reduceIte, ↓reduceIte, Nat.reduceAdd, Nat.reduceEqDiff, Nat.reduceBEq, beq_self_eq_true, Bool.not_true, Bool.not_false, Bool.and_true, Bool.and_false, Bool.true_and, Bool.false_and, gI_sI, gI_sL, gI_sA, gI_sM, gL_sI, gL_sL, gL_sA, gL_sM, aI_sI, aI_sL, aI_sA, aI_sM, aL_sI, aL_sL, aL_sA, aL_sM, oi_3]; try dsimp only
          exact hW _ 287 [(0, .ref 1000), (1, .int x1), (2, .int x2), (3, .int x3), (4, .int x4), (5, .int x5), (6, .int x6), (7, .int x7), (8, .int x8)] _ _ _ (by simp [rdl, rky, Value.category]) ((ih m1 hm1).2.2.2.2.2.2.2.2.2.2.2.2.2.2.2.2.2.2.2.2.2.2.2.2.2.2.2.2.2.2.1 x1 x2 x3 x4 x5 x6 x7 x8 3 s0 _ hz)
        · intro x1 x2 x3 x4 x5 x6 x7 x8 s0 s1 Y hz
          refine hB _ _ _ _ _ (fun m1 hm1 => ?_)
          dsimp only [ugo, uwp, ust, uct, rfd, Bassign, Bassign_287, Nat.beq, lv_args, rlk, rs1, rs2, rdl, rky, rcd, rno, rsw, Value.category, List.filter, List.take, List.drop, List.reverse, List.reverseAux, List.cons_append, List.nil_append, Option.toList, Int.toNat, Int.reduceToNat, if_pos, if_neg, reduceIte, ↓reduceIte, Nat.reduceAdd, Nat.reduceEqDiff, Nat.reduceBEq, beq_self_eq_true, Bool.not_true, Bool.not_false, Bool.and_true, Bool.and_false, Bool.true_and, Bool.false_and, gI_sI, gI_sL, gI_sA, gI_sM, gL_sI, gL_sL, gL_sA, gL_sM, aI_sI, aI_sL, aI_sA, aI_sM, aL_sI, aL_sL, aL_sA, aL_sM]; try dsimp only
          intro p2
          exact hW _ 288 [(0, .ref 1000), (1, .int x1), (2, .int x2), (3, .int x3), (4, .int x4), (5, .int x5), (6, .int x6), (7, .int x7)] _ _ _ (by simp [rdl, rky, Value.category]) ((ih m1 hm1).2.2.2.2.2.2.2.2.2.2.2.2.2.2.2.2.2.2.2.2.2.2.2.2.2.2.2.2.2.2.2.1 x1 x2 x3 x4 x5 x6 x7 _ hz)
        · intro x1 x2 x3 x4 x5 x6 x7 Y hz
          refine hB _ _ _ _ _ (fun m1 hm1 => ?_)
          dsimp only [ugo, uwp, ust, uct, rfd, Bassign, Bassign_288, Nat.beq, lv_args, rlk, rs1, rs2, rdl, rky, rcd, rno, rsw, Value.category, List.filter, List.take, List.drop, List.reverse, List.reverseAux, List.cons_append, List.nil_append, Option.toList, Int.toNat, Int.reduceToNat, if_pos, if_neg, reduceIte, ↓reduceIte, Nat.reduceAdd, Nat.reduceEqDiff, Nat.reduceBEq, beq_self_eq_true, Bool.not_true, Bool.not_false, Bool.and_true, Bool.and_false, Bool.true_and, Bool.false_and, gI_sI, gI_sL, gI_sA, gI_sM, gL_sI, gL_sL, gL_sA, gL_sM, aI_sI, aI_sL, aI_sA, aI_sM, aL_sI, aL_sL, aL_sA, aL_sM]; try dsimp only
          refine ⟨fun h2 => ?_, fun h2 => ?_⟩
          · exact hW _ 313 [(0, .ref 1000), (1, .int x1), (2, .int x2), (3, .int x3), (4, .int x4), (5, .int x5), (6, .int x6), (7, .int x7)] _ _ _ (by simp [rdl, rky, Value.category]) ((ih m1 hm1).2.2.2.2.2.2.2.2.2.2.2.2.2.2.2.2.2.2.2.2.2.2.2.2.2.2.2.2.2.2.2.2.2.2.1 x1 x2 x3 x4 x5 x6 x7 _ hz)
          · exact hW _ 293 [(0, .ref 1000), (1, .int x1), (2, .int x2), (3, .int x3), (4, .int x4), (5, .int x5), (6, .int x6), (7, .int x7)] _ _ _ (by simp [rdl, rky, Value.category]) ((ih m1 hm1).2.2.2.2.2.2.2.2.2.2.2.2.2.2.2.2.2.2.2.2.2.2.2.2.2.2.2.2.2.2.2.2.1 x1 x2 x3 x4 x5 x6 x7 _ hz)
        · intro x1 x2 x3 x4 x5 x6 x7 Y hz
          refine hB _ _ _ _ _ (fun m1 hm1 => ?_)
          dsimp only [ugo, uwp, ust, uct, rfd, Bassign, Bassign_293, Nat.beq, lv_args, rlk, rs1, rs2, rdl, rky, rcd, rno, rsw, Value.category, List.filter, List.take, List.drop, List.reverse, List.reverseAux, List.cons_append, List.nil_append, Option.toList, Int.toNat, Int.reduceToNat, if_pos, if_neg, reduceIte, ↓reduceIte, Nat.reduceAdd, Nat.reduceEqDiff, Nat.reduceBEq, beq_self_eq_true, Bool.not_true, Bool.not_false, Bool.and_true, Bool.and_false, Bool.true_and, Bool.false_and, gI_sI, gI_sL, gI_sA, gI_sM, gL_sI, gL_sL, gL_sA, gL_sM, aI_sI, aI_sL, aI_sA, aI_sM, aL_sI, aL_sL, aL_sA, aL_sM]; try dsimp only
          refine ⟨trivial, fun w2 τ2 hq2 => ?_⟩
          obtain ⟨rfl, b2, rfl, hb2⟩ := hq2 trivial
          dsimp only [Option.toList, List.cons_append, List.nil_append, Nat.beq, gI_sI, gI_sL, gI_sA, gI_sM, gL_sI, gL_sL, gL_sA, gL_sM, aI_sI, aI_sL, aI_sA, aI_sM, aL_sI, aL_sL, aL_sA, aL_sM]
          refine ⟨fun h3 => ?_, fun h3 => ?_⟩
          · exact hW _ 313 [(0, .ref 1000), (1, .int x1), (2, .int x2), (3, .int x3), (4, .int x4), (5, .int x5), (6, .int x6), (7, .int x7)] _ _ _ (by simp [rdl, rky, Value.category]) ((ih m1 hm1).2.2.2.2.2.2.2.2.2.2.2.2.2.2.2.2.2.2.2.2.2.2.2.2.2.2.2.2.2.2.2.2.2.2.1 x1 x2 x3 x4 x5 x6 x7 _ hz)
          · exact hW _ 301 [(0, .ref 1000), (1, .int x1), (2, .int x2), (3, .int x3), (4, .int x4), (5, .int x5), (6, .int x6), (7, .int x7)] _ _ _ (by simp [rdl, rky, Value.category]) ((ih m1 hm1).2.2.2.2.2.2.2.2.2.2.2.2.2.2.2.2.2.2.2.2.2.2.2.2.2.2.2.2.2.2.2.2.2.1 x1 x2 x3 x4 x5 x6 x7 _ hz)
        · intro x1 x2 x3 x4 x5 x6 x7 Y hz
          refine hB _ _ _ _ _ (fun m1 hm1 => ?_)
          dsimp only [ugo, uwp, ust, uct, rfd, Bassign, Bassign_301, Nat.beq, lv_args, rlk, rs1, rs2, rdl, rky, rcd, rno, rsw, Value.category, List.filter, List.take, List.drop, List.reverse, List.reverseAux, List.cons_append, List.nil_append, Option.toList, Int.toNat, Int.reduceToNat, if_pos, if_neg, reduceIte, ↓reduceIte, Nat.reduceAdd, Nat.reduceEqDiff, Nat.reduceBEq, beq_self_eq_true, Bool.not_true, Bool.not_false, Bool.and_true, Bool.and_false, Bool.true_and, Bool.false_and, gI_sI, gI_sL, gI_sA, gI_sM, gL_sI, gL_sL, gL_sA, gL_sM, aI_sI, aI_sL, aI_sA, aI_sM, aL_sI, aL_sL, aL_sA, aL_sM, oi_0]; try dsimp only
          refine ⟨trivial, fun w2 τ2 hq2 => ?_⟩
          obtain ⟨rfl, rfl⟩ := hq2 trivial
          dsimp only [Option.toList, List.cons_append, List.nil_append, Nat.beq, gI_sI, gI_sL, gI_sA, gI_sM, gL_sI, gL_sL, gL_sA, gL_sM, aI_sI, aI_sL, aI_sA, aI_sM, aL_sI, aL_sL, aL_sA, aL_sM]
          exact hW _ 318 [(0, .ref 1000), (1, .int x1), (2, .int x2), (3, .int x3), (4, .int x4), (5, .int x5), (6, .int x6), (7, .int x7)] _ _ _ (by simp [rdl, rky, Value.category]) ((ih m1 hm1).2.2.2.2.2.2.2.2.2.2.2.2.2.2.2.2.2.2.2.2.2.2.2.2.2.2.2.2.2.2.2.2.2.2.2 x1 x2 x3 x4 x5 x6 x7 _ hz)
        · intro x1 x2 x3 x4 x5 x6 x7 Y hz
          refine hB _ _ _ _ _ (fun m1 hm1 => ?_)
          dsimp only [ugo, uwp, ust, uct, rfd, Bassign, Bassign_313, Nat.beq, lv_args, rlk, rs1, rs2, rdl, rky, rcd, rno, rsw, Value.category, List.filter, List.take, List.drop, List.reverse, List.reverseAux, List.cons_append, List.nil_append, Option.toList, Int.toNat, Int.reduceToNat, if_pos, if_neg, reduceIte, ↓reduceIte, Nat.reduceAdd, Nat.reduceEqDiff, Nat.reduceBEq, beq_self_eq_true, Bool.not_true, Bool.not_false, Bool.and_true, Bool.and_false, Bool.true_and, Bool.false_and, gI_sI, gI_sL, gI_sA, gI_sM, gL_sI, gL_sL, gL_sA, gL_sM, aI_sI, aI_sL, aI_sA, aI_sM, aL_sI, aL_sL, aL_sA, aL_sM]; try dsimp only
          refine ⟨trivial, fun w2 τ2 hq2 => ?_⟩
          obtain ⟨rfl, rfl⟩ := hq2 trivial
          dsimp only [Option.toList, List.cons_append, List.nil_append, Nat.beq, gI_sI, gI_sL, gI_sA, gI_sM, gL_sI, gL_sL, gL_sA, gL_sM, aI_sI, aI_sL, aI_sA, aI_sM, aL_sI, aL_sL, aL_sA, aL_sM]
          exact hW _ 318 [(0, .ref 1000), (1, .int x1), (2, .int x2), (3, .int x3), (4, .int x4), (5, .int x5), (6, .int x6), (7, .int x7)] _ _ _ (by simp [rdl, rky, Value.category]) ((ih m1 hm1).2.2.2.2.2.2.2.2.2.2.2.2.2.2.2.2.2.2.2.2.2.2.2.2.2.2.2.2.2.2.2.2.2.2.2 x1 x2 x3 x4 x5 x6 x7 _ hz)
        · intro x1 x2 x3 x4 x5 x6 x7 Y hz
          refine hB _ _ _ _ _ (fun m1 hm1 => ?_)
          dsimp only [ugo, uwp, ust, uct, rfd, Bassign, Bassign_318, Nat.beq, lv_args, rlk, rs1, rs2, rdl, rky, rcd, rno, rsw, Value.category, List.filter, List.take, List.drop, List.reverse, List.reverseAux, List.cons_append, List.nil_append, Option.toList, Int.toNat, Int.reduceToNat, if_pos, if_neg, reduceIte, ↓reduceIte, Nat.reduceAdd, Nat.reduceEqDiff, Nat.reduceBEq, beq_self_eq_true, Bool.not_true, Bool.not_false, Bool.and_true, Bool.and_false, Bool.true_and, Bool.false_and, gI_sI, gI_sL, gI_sA, gI_sM, gL_sI, gL_sL, gL_sA, gL_sM, aI_sI, aI_sL, aI_sA, aI_sM, aL_sI, aL_sL, aL_sA, aL_sM]; try dsimp only
          unfold Qv_assignA
          try dsimp only
          exact ⟨rfl, hz⟩
    intro n0
    exact (all n0).1 c t σ hP
  next => exact hP.elim
theorem w_assignA : UMet 100 (fun _ _ => True) Qw_assignA := fun A1 σ _ w τ h hP => v_assignA A1 σ hP w τ h
