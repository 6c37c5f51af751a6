/-! the reference judges exps: operators, choices, assignments -/
theorem wr_nz {sg l r : Int} (h : 34 ≤ sg ∧ sg ≤ 38) (hl : ltT sg l) : ¬ wrT sg l r = 0 := by
  unfold wrT
  rw [if_neg (by omega), if_neg (by omega)]
  split <;> decide
theorem cs_01 {sg : Int} {a b : TvT} {su : Int32} (h : ¬ su = 0 ↔ csT sg a b = 1) : ¬ su = 0 ↔ ¬ csT sg a b = 0 := by
  rw [h]
  unfold csT
  split
  · exact ⟨fun _ => by decide, fun _ => rfl⟩
  · exact ⟨fun q => absurd q (by decide), fun q => absurd rfl q⟩
theorem cs_no {sg : Int} {a b : TvT} (h : a.2.1 = 0 ∨ b.2.1 = 0 ∨ ((sg = 37 ∨ sg = 38) ∧ b.2.2.1 = 0)) : ¬ csT sg a b = 1 := by
  unfold csT
  rw [if_neg (fun q => ?_)]
  · decide
  · rcases h with h | h | h
    · exact q.1 h
    · exact q.2.1 h
    · exact q.2.2 h
theorem cv_wk {sg w : Int} {a b : Int64} (h : 22 ≤ sg) : cvT sg w a b = wkT sg w a b := by
  unfold cvT
  rw [if_neg (by omega), if_neg (by omega)]
theorem sg_sh {a sg : Int} (h : (a, sg) ∈ sgT) : (a = 304 ∨ a = 305 ∨ a = 306) ↔ (31 ≤ sg ∧ sg ≤ 33) := by
  have a1 := sg_n h (by decide : ((304 : Int), (31 : Int)) ∈ sgT)
  have a2 := sg_n h (by decide : ((305 : Int), (32 : Int)) ∈ sgT)
  have a3 := sg_n h (by decide : ((306 : Int), (33 : Int)) ∈ sgT)
  omega
theorem sg_bi {a sg : Int} (h : (a, sg) ∈ sgT) : (a = 38 ∨ a = 124 ∨ a = 94) ↔ (22 ≤ sg ∧ sg ≤ 24) := by
  have a1 := sg_n h (by decide : ((38 : Int), (24 : Int)) ∈ sgT)
  have a2 := sg_n h (by decide : ((124 : Int), (22 : Int)) ∈ sgT)
  have a3 := sg_n h (by decide : ((94 : Int), (23 : Int)) ∈ sgT)
  omega
theorem ct_v {b c : TvT} (hb : VaT b) (hc : VaT c) (cb : ¬ b.2.1 = 0) (cc : ¬ c.2.1 = 0) (h : rtT b.1 c.1) (h5 : ¬ b.1 = 5) : caT (ctT b c) b.2.2.1 = b.2.2.1 ∧ caT (ctT b c) c.2.2.1 = c.2.2.1 := by
  have b1 := hb.2 cb
  have c1 := hc.2 cc
  have b0 := hb.1
  have c0 := hc.1
  unfold ctT
  by_cases e : b.1 = c.1
  · rw [if_pos e]
    by_cases z : b.1 = 0
    · rw [z]
      exact ⟨ca_b (b1.2 z), ca_b (c1.2 (by omega))⟩
    · exact ⟨(ca_nr z).trans b1.1, (ca_nr z).trans (by rw [e]; exact c1.1)⟩
  · rw [if_neg e]
    have z : ¬ b.1 = 0 := by omega
    have y : ¬ c.1 = 0 := by omega
    split
    · next q => exact ⟨(ca_nr z).trans b1.1, (ca_nr z).trans (hl_iff.mp q.2.2).2⟩
    · split
      · next q => exact ⟨(ca_nr y).trans (hl_iff.mp q.2.2).2, (ca_nr y).trans c1.1⟩
      · split
        · exact ⟨rfl, rfl⟩
        · next q => exact ⟨(ca_nr (by decide)).trans (nr_3.mpr (nr_rg (by omega) (by omega) b1.1)), (ca_nr (by decide)).trans (nr_3.mpr (nr_rg (by omega) (by omega) c1.1))⟩
def Pv_stepB (C : CxT) (t0 : TvT) (x : XrZ) : UP1 := fun A1 σ => match A1 with
  | [.int c, .int t] => gI σ 66 = 0 ∧ 0 ≤ (gI σ 42).toInt ∧ (∀ r, FdR σ t r → r = x.2.1.2.1 ∨ (r < 0 ∧ x.2.1.2.1 < 0)) ∧ (0 ≤ x.2.1.2.1 → knT C x.2.1.2.1) ∧ (knT C x.2.1.2.1 → (aI σ 44 x.2.1.2.1.toNat).toInt = (vtT C x.2.1.2.1).1 ∧ (¬ aI σ 45 x.2.1.2.1.toNat = 0 ↔ ¬ (vtT C x.2.1.2.1).2 = 0) ∧ 0 ≤ (vtT C x.2.1.2.1).1 ∧ (vtT C x.2.1.2.1).1 ≤ 4) ∧ t0.2.1 = 0
  | _ => False
def Qv_stepB (C : CxT) (t0 : TvT) (x : XrZ) : UQ1 := fun A1 σ w τ => match A1 with
  | [.int c, .int t] => w = none ∧ JgR τ (x6T C t0 x) (fun e τ => ∃ (l : Int32) (ty su : Int32) (v : Int64), l.toInt = x.2.1.2.1 ∧ ShT ty su v e ∧ τ = lieS (sA (sA σ 83 (upd (aI σ 83) c.toNatClampNeg l)) 80 (upd (aI σ 80) t.toNatClampNeg l)) c ty su v)
  | _ => False
def Qw_stepB : UQ1 := fun A1 σ w τ => ∀ (C : CxT) (t0 : TvT) (x : XrZ), Pv_stepB C t0 x A1 σ → Qv_stepB C t0 x A1 σ w τ
set_option maxRecDepth 100000 in
set_option maxHeartbeats 4000000 in
theorem v_stepB (C : CxT) (t0 : TvT) (x : XrZ) : UMet 90 (Pv_stepB C t0 x) (Qv_stepB C t0 x) := by
  refine UMet.by Bstep [(70, (fun _ _ => True), Qw_err), (71, (fun _ _ => True), Qw_find), (77, (fun _ _ => True), Qw_lie), (78, (fun _ _ => True), Qw_none)] rfl (ucc w_err (ucc w_find (ucc w_lie (ucc w_none uc0)))) ?_
  intro A1 σ hP K hB hW
  unfold Pv_stepB at hP
  split at hP
  next c t =>
    obtain ⟨hE, h42, hl, hK, hV, ht0⟩ := hP
    have bad : x6T C t0 x = none → ∀ N : Nat, (∀ (x1 : Int32) (x2 : Int32) (Y : RS), ¬ gI Y 66 = 0 → K N 0 [(0, .ref 1000), (1, .int x1), (2, .int x2)] [] Y) ∧ (∀ (x1 : Int32) (x2 : Int32) (x3 : Int32) (Y : RS), ¬ gI Y 66 = 0 → K N 17 [(0, .ref 1000), (1, .int x1), (2, .int x2), (3, .int x3)] [] Y) ∧ (∀ (x1 : Int32) (x2 : Int32) (x3 : Int32) (Y : RS), ¬ gI Y 66 = 0 → K N 29 [(0, .ref 1000), (1, .int x1), (2, .int x2), (3, .int x3)] [] Y) ∧ (∀ (x1 : Int32) (x2 : Int32) (x3 : Int32) (x4 : Int32) (Y : RS), ¬ gI Y 66 = 0 → K N 48 [(0, .ref 1000), (1, .int x1), (2, .int x2), (3, .int x3), (4, .int x4)] [] Y) ∧ (∀ (x1 : Int32) (x2 : Int32) (x3 : Int32) (x4 : Int32) (Y : RS), ¬ gI Y 66 = 0 → K N 58 [(0, .ref 1000), (1, .int x1), (2, .int x2), (3, .int x3), (4, .int x4)] [] Y) ∧ (∀ (x1 : Int32) (x2 : Int32) (x3 : Int32) (x4 : Int32) (Y : RS), ¬ gI Y 66 = 0 → K N 67 [(0, .ref 1000), (1, .int x1), (2, .int x2), (3, .int x3), (4, .int x4)] [] Y) ∧ (∀ (x1 : Int32) (x2 : Int32) (x3 : Int32) (x4 : Int32) (Y : RS), ¬ gI Y 66 = 0 → K N 81 [(0, .ref 1000), (1, .int x1), (2, .int x2), (3, .int x3), (4, .int x4)] [] Y) ∧ (∀ (x1 : Int32) (x2 : Int32) (x3 : Int32) (x4 : Int32) (Y : RS), ¬ gI Y 66 = 0 → K N 86 [(0, .ref 1000), (1, .int x1), (2, .int x2), (3, .int x3), (4, .int x4)] [] Y) ∧ (∀ (x1 : Int32) (x2 : Int32) (x3 : Int32) (x4 : Int32) (Y : RS), ¬ gI Y 66 = 0 → K N 102 [(0, .ref 1000), (1, .int x1), (2, .int x2), (3, .int x3), (4, .int x4)] [] Y) ∧ (∀ (x1 : Int32) (x2 : Int32) (x3 : Int32) (x4 : Int32) (Y : RS), ¬ gI Y 66 = 0 → K N 107 [(0, .ref 1000), (1, .int x1), (2, .int x2), (3, .int x3), (4, .int x4)] [] Y) := by
      intro hnn
      intro N
      induction N using Nat.strongRecOn with
      | ind N ih =>
        refine ⟨?_, ?_, ?_, ?_, ?_, ?_, ?_, ?_, ?_, ?_⟩
        · intro x1 x2 Y hz
          refine hB _ _ _ _ _ (fun m1 hm1 => ?_)
          dsimp only [ugo, uwp, ust, uct, rfd, Bstep, Bstep_0, Nat.beq, lv_args, rlk, rs1, rs2, rdl, rky, rcd, rno, rsw, Value.category, List.filter, List.take, List.drop, List.reverse, List.reverseAux, List.cons_append, List.nil_append, Option.toList, Int.toNat, Int.reduceToNat, if_pos, if_neg, reduceIte, ↓reduceIte, Nat.reduceAdd, Nat.reduceEqDiff, Nat.reduceBEq, beq_self_eq_true, Bool.not_true, Bool.not_false, Bool.and_true, Bool.and_false, Bool.true_and, Bool.false_and, gI_sI, gI_sL, gI_sA, gI_sM, gL_sI, gL_sL, gL_sA, gL_sM, aI_sI, aI_sL, aI_sA, aI_sM, aL_sI, aL_sL, aL_sA, aL_sM]; try dsimp only
          refine ⟨trivial, fun w2 τ2 hq2 => ?_⟩
          obtain ⟨rfl, r2, rfl, hr2⟩ := hq2 trivial
          dsimp only [Option.toList, List.cons_append, List.nil_append, Nat.beq, gI_sI, gI_sL, gI_sA, gI_sM, gL_sI, gL_sL, gL_sA, gL_sM, aI_sI, aI_sL, aI_sA, aI_sM, aL_sI, aL_sL, aL_sA, aL_sM]
          intro p3
          refine ⟨fun h4 => ?_, fun h4 => ?_⟩
          · exact hW _ 29 [(0, .ref 1000), (1, .int x1), (2, .int x2), (3, .int r2)] _ _ _ (by simp [rdl, rky, Value.category]) ((ih m1 hm1).2.2.1 x1 x2 r2 _ hz)
          · exact hW _ 17 [(0, .ref 1000), (1, .int x1), (2, .int x2), (3, .int r2)] _ _ _ (by simp [rdl, rky, Value.category]) ((ih m1 hm1).2.1 x1 x2 r2 _ hz)
        · intro x1 x2 x3 Y hz
          refine hB _ _ _ _ _ (fun m1 hm1 => ?_)
          dsimp only [ugo, uwp, ust, uct, rfd, Bstep, Bstep_17, Nat.beq, lv_args, rlk, rs1, rs2, rdl, rky, rcd, rno, rsw, Value.category, List.filter, List.take, List.drop, List.reverse, List.reverseAux, List.cons_append, List.nil_append, Option.toList, Int.toNat, Int.reduceToNat, if_pos, if_neg, reduceIte, ↓reduceIte, Nat.reduceAdd, Nat.reduceEqDiff, Nat.reduceBEq, beq_self_eq_true, Bool.not_true, Bool.not_false, Bool.and_true, Bool.and_false, Bool.true_and, Bool.false_and, gI_sI, gI_sL, gI_sA, gI_sM, gL_sI, gL_sL, gL_sA, gL_sM, aI_sI, aI_sL, aI_sA, aI_sM, aL_sI, aL_sL, aL_sA, aL_sM, oi_3]; try dsimp only
          refine ⟨trivial, fun w2 τ2 hq2 => ?_⟩
          obtain ⟨rfl, hz2⟩ := hq2 (show ¬ (3 : Int32) = 0 by decide)
          dsimp only [Option.toList, List.cons_append, List.nil_append, Nat.beq, gI_sI, gI_sL, gI_sA, gI_sM, gL_sI, gL_sL, gL_sA, gL_sM, aI_sI, aI_sL, aI_sA, aI_sM, aL_sI, aL_sL, aL_sA, aL_sM]
          refine ⟨trivial, fun w3 τ3 hq3 => ?_⟩
          obtain ⟨rfl, rfl⟩ := hq3 trivial
          dsimp only [Option.toList, List.cons_append, List.nil_append, Nat.beq, gI_sI, gI_sL, gI_sA, gI_sM, gL_sI, gL_sL, gL_sA, gL_sM, aI_sI, aI_sL, aI_sA, aI_sM, aL_sI, aL_sL, aL_sA, aL_sM]
          unfold Qv_stepB
          try dsimp only
          exact ⟨rfl, Or.inl ⟨hnn, hz2⟩⟩
        · intro x1 x2 x3 Y hz
          refine hB _ _ _ _ _ (fun m1 hm1 => ?_)
          dsimp only [ugo, uwp, ust, uct, rfd, Bstep, Bstep_29, Nat.beq, lv_args, rlk, rs1, rs2, rdl, rky, rcd, rno, rsw, Value.category, List.filter, List.take, List.drop, List.reverse, List.reverseAux, List.cons_append, List.nil_append, Option.toList, Int.toNat, Int.reduceToNat, if_pos, if_neg, reduceIte, ↓reduceIte, Nat.reduceAdd, Nat.reduceEqDiff, Nat.reduceBEq, beq_self_eq_true, Bool.not_true, Bool.not_false, Bool.and_true, Bool.and_false, Bool.true_and, Bool.false_and, gI_sI, gI_sL, gI_sA, gI_sM, gL_sI, gL_sL, gL_sA, gL_sM, aI_sI, aI_sL, aI_sA, aI_sM, aL_sI, aL_sL, aL_sA, aL_sM, oi_1]; try dsimp only
          intro p2
          intro p3
          refine ⟨fun h4 => ?_, fun h4 => ?_⟩
          · exact hW _ 58 [(0, .ref 1000), (1, .int x1), (2, .int x2), (3, .int x3), (4, .int 1)] _ _ _ (by simp [rdl, rky, Value.category]) ((ih m1 hm1).2.2.2.2.1 x1 x2 x3 1 _ hz)
          · exact hW _ 48 [(0, .ref 1000), (1, .int x1), (2, .int x2), (3, .int x3), (4, .int 1)] _ _ _ (by simp [rdl, rky, Value.category]) ((ih m1 hm1).2.2.2.1 x1 x2 x3 1 _ hz)
        · intro x1 x2 x3 x4 Y hz
          refine hB _ _ _ _ _ (fun m1 hm1 => ?_)
          dsimp only [ugo, uwp, ust, uct, rfd, Bstep, Bstep_48, Nat.beq, lv_args, rlk, rs1, rs2, rdl, rky, rcd, rno, rsw, Value.category, List.filter, List.take, List.drop, List.reverse, List.reverseAux, List.cons_append, List.nil_append, Option.toList, Int.toNat, Int.reduceToNat, if_pos, if_neg, reduceIte, ↓reduceIte, Nat.reduceAdd, Nat.reduceEqDiff, Nat.reduceBEq, beq_self_eq_true, Bool.not_true, Bool.not_false, Bool.and_true, Bool.and_false, Bool.true_and, Bool.false_and, gI_sI, gI_sL, gI_sA, gI_sM, gL_sI, gL_sL, gL_sA, gL_sM, aI_sI, aI_sL, aI_sA, aI_sM, aL_sI, aL_sL, aL_sA, aL_sM, oi_0, oi_7]; try dsimp only
          refine ⟨trivial, fun w2 τ2 hq2 => ?_⟩
          obtain ⟨rfl, hz2⟩ := hq2 (show ¬ (7 : Int32) = 0 by decide)
          dsimp only [Option.toList, List.cons_append, List.nil_append, Nat.beq, gI_sI, gI_sL, gI_sA, gI_sM, gL_sI, gL_sL, gL_sA, gL_sM, aI_sI, aI_sL, aI_sA, aI_sM, aL_sI, aL_sL, aL_sA, aL_sM]
          exact hW _ 58 [(0, .ref 1000), (1, .int x1), (2, .int x2), (3, .int x3), (4, .int 0)] _ _ _ (by simp [rdl, rky, Value.category]) ((ih m1 hm1).2.2.2.2.1 x1 x2 x3 0 _ hz2)
        · intro x1 x2 x3 x4 Y hz
          refine hB _ _ _ _ _ (fun m1 hm1 => ?_)
          dsimp only [ugo, uwp, ust, uct, rfd, Bstep, Bstep_58, Nat.beq, lv_args, rlk, rs1, rs2, rdl, rky, rcd, rno, rsw, Value.category, List.filter, List.take, List.drop, List.reverse, List.reverseAux, List.cons_append, List.nil_append, Option.toList, Int.toNat, Int.reduceToNat, if_pos, if_neg, reduceIte, ↓reduceIte, Nat.reduceAdd, Nat.reduceEqDiff, Nat.reduceBEq, beq_self_eq_true, Bool.not_true, Bool.not_false, Bool.and_true, Bool.and_false, Bool.true_and, Bool.false_and, gI_sI, gI_sL, gI_sA, gI_sM, gL_sI, gL_sL, gL_sA, gL_sM, aI_sI, aI_sL, aI_sA, aI_sM, aL_sI, aL_sL, aL_sA, aL_sM]; try dsimp only
          intro p2
          refine ⟨fun h3 => ?_, fun h3 => ?_⟩
          · exact hW _ 81 [(0, .ref 1000), (1, .int x1), (2, .int x2), (3, .int x3), (4, .int x4)] _ _ _ (by simp [rdl, rky, Value.category]) ((ih m1 hm1).2.2.2.2.2.2.1 x1 x2 x3 x4 _ hz)
          · exact hW _ 67 [(0, .ref 1000), (1, .int x1), (2, .int x2), (3, .int x3), (4, .int x4)] _ _ _ (by simp [rdl, rky, Value.category]) ((ih m1 hm1).2.2.2.2.2.1 x1 x2 x3 x4 _ hz)
        · intro x1 x2 x3 x4 Y hz
          refine hB _ _ _ _ _ (fun m1 hm1 => ?_)
          dsimp only [ugo, uwp, ust, uct, rfd, Bstep, Bstep_67, Nat.beq, lv_args, rlk, rs1, rs2, rdl, rky, rcd, rno, rsw, Value.category, List.filter, List.take, List.drop, List.reverse, List.reverseAux, List.cons_append, List.nil_append, Option.toList, Int.toNat, Int.reduceToNat, if_pos, if_neg, reduceIte, ↓reduceIte, Nat.reduceAdd, Nat.reduceEqDiff, Nat.reduceBEq, beq_self_eq_true, Bool.not_true, Bool.not_false, Bool.and_true, Bool.and_false, Bool.true_and, Bool.false_and, gI_sI, gI_sL, gI_sA, gI_sM, gL_sI, gL_sL, gL_sA, gL_sM, aI_sI, aI_sL, aI_sA, aI_sM, aL_sI, aL_sL, aL_sA, aL_sM, oi_0, oi_5]; try dsimp only
          intro p2
          refine ⟨trivial, fun w3 τ3 hq3 => ?_⟩
          obtain ⟨rfl, hz3⟩ := hq3 (show ¬ (5 : Int32) = 0 by decide)
          dsimp only [Option.toList, List.cons_append, List.nil_append, Nat.beq, gI_sI, gI_sL, gI_sA, gI_sM, gL_sI, gL_sL, gL_sA, gL_sM, aI_sI, aI_sL, aI_sA, aI_sM, aL_sI, aL_sL, aL_sA, aL_sM]
          exact hW _ 81 [(0, .ref 1000), (1, .int x1), (2, .int x2), (3, .int x3), (4, .int 0)] _ _ _ (by simp [rdl, rky, Value.category]) ((ih m1 hm1).2.2.2.2.2.2.1 x1 x2 x3 0 _ hz3)
        · intro x1 x2 x3 x4 Y hz
          refine hB _ _ _ _ _ (fun m1 hm1 => ?_)
          dsimp only [ugo, uwp, ust, uct, rfd, Bstep, Bstep_81, Nat.beq, lv_args, rlk, rs1, rs2, rdl, rky, rcd, rno, rsw, Value.category, List.filter, List.take, List.drop, List.reverse, List.reverseAux, List.cons_append, List.nil_append, Option.toList, Int.toNat, Int.reduceToNat, if_pos, if_neg, reduceIte, ↓reduceIte, Nat.reduceAdd, Nat.reduceEqDiff, Nat.reduceBEq, beq_self_eq_true, Bool.not_true, Bool.not_false, Bool.and_true, Bool.and_false, Bool.true_and, Bool.false_and, gI_sI, gI_sL, gI_sA, gI_sM, gL_sI, gL_sL, gL_sA, gL_sM, aI_sI, aI_sL, aI_sA, aI_sM, aL_sI, aL_sL, aL_sA, aL_sM]; try dsimp only
          refine ⟨fun h2 => ?_, fun h2 => ?_⟩
          · exact hW _ 102 [(0, .ref 1000), (1, .int x1), (2, .int x2), (3, .int x3), (4, .int x4)] _ _ _ (by simp [rdl, rky, Value.category]) ((ih m1 hm1).2.2.2.2.2.2.2.2.1 x1 x2 x3 x4 _ hz)
          · exact hW _ 86 [(0, .ref 1000), (1, .int x1), (2, .int x2), (3, .int x3), (4, .int x4)] _ _ _ (by simp [rdl, rky, Value.category]) ((ih m1 hm1).2.2.2.2.2.2.2.1 x1 x2 x3 x4 _ hz)
        · intro x1 x2 x3 x4 Y hz
          refine hB _ _ _ _ _ (fun m1 hm1 => ?_)
          dsimp only [ugo, uwp, ust, uct, rfd, Bstep, Bstep_86, Nat.beq, lv_args, rlk, rs1, rs2, rdl, rky, rcd, rno, rsw, Value.category, List.filter, List.take, List.drop, List.reverse, List.reverseAux, List.cons_append, List.nil_append, Option.toList, Int.toNat, Int.reduceToNat, if_pos, if_neg, reduceIte, ↓reduceIte, Nat.reduceAdd, Nat.reduceEqDiff, Nat.reduceBEq, beq_self_eq_true, Bool.not_true, Bool.not_false, Bool.and_true, Bool.and_false, Bool.true_and, Bool.false_and, gI_sI, gI_sL, gI_sA, gI_sM, gL_sI, gL_sL, gL_sA, gL_sM, aI_sI, aI_sL, aI_sA, aI_sM, aL_sI, aL_sL, aL_sA, aL_sM, oi_0]; try dsimp only
          intro p2
          refine ⟨trivial, fun w3 τ3 hq3 => ?_⟩
          obtain ⟨rfl, rfl⟩ := hq3 trivial
          dsimp only [Option.toList, List.cons_append, List.nil_append, Nat.beq, gI_sI, gI_sL, gI_sA, gI_sM, gL_sI, gL_sL, gL_sA, gL_sM, aI_sI, aI_sL, aI_sA, aI_sM, aL_sI, aL_sL, aL_sA, aL_sM]
          exact hW _ 107 [(0, .ref 1000), (1, .int x1), (2, .int x2), (3, .int x3), (4, .int x4)] _ _ _ (by simp [rdl, rky, Value.category]) ((ih m1 hm1).2.2.2.2.2.2.2.2.2 x1 x2 x3 x4 _ hz)
        · intro x1 x2 x3 x4 Y hz
          refine hB _ _ _ _ _ (fun m1 hm1 => ?_)
          dsimp only [ugo, uwp, ust, uct, rfd, Bstep, Bstep_102, Nat.beq, lv_args, rlk, rs1, rs2, rdl, rky, rcd, rno, rsw, Value.category, List.filter, List.take, List.drop, List.reverse, List.reverseAux, List.cons_append, List.nil_append, Option.toList, Int.toNat, Int.reduceToNat, if_pos, if_neg, reduceIte, ↓reduceIte, Nat.reduceAdd, Nat.reduceEqDiff, Nat.reduceBEq, beq_self_eq_true, Bool.not_true, Bool.not_false, Bool.and_true, Bool.and_false, Bool.true_and, Bool.false_and, gI_sI, gI_sL, gI_sA, gI_sM, gL_sI, gL_sL, gL_sA, gL_sM, aI_sI, aI_sL, aI_sA, aI_sM, aL_sI, aL_sL, aL_sA, aL_sM]; try dsimp only
          refine ⟨trivial, fun w2 τ2 hq2 => ?_⟩
          obtain ⟨rfl, rfl⟩ := hq2 trivial
          dsimp only [Option.toList, List.cons_append, List.nil_append, Nat.beq, gI_sI, gI_sL, gI_sA, gI_sM, gL_sI, gL_sL, gL_sA, gL_sM, aI_sI, aI_sL, aI_sA, aI_sM, aL_sI, aL_sL, aL_sA, aL_sM]
          exact hW _ 107 [(0, .ref 1000), (1, .int x1), (2, .int x2), (3, .int x3), (4, .int x4)] _ _ _ (by simp [rdl, rky, Value.category]) ((ih m1 hm1).2.2.2.2.2.2.2.2.2 x1 x2 x3 x4 _ hz)
        · intro x1 x2 x3 x4 Y hz
          refine hB _ _ _ _ _ (fun m1 hm1 => ?_)
          dsimp only [ugo, uwp, ust, uct, rfd, Bstep, Bstep_107, Nat.beq, lv_args, rlk, rs1, rs2, rdl, rky, rcd, rno, rsw, Value.category, List.filter, List.take, List.drop, List.reverse, List.reverseAux, List.cons_append, List.nil_append, Option.toList, Int.toNat, Int.reduceToNat, if_pos, if_neg, reduceIte, ↓reduceIte, Nat.reduceAdd, Nat.reduceEqDiff, Nat.reduceBEq, beq_self_eq_true, Bool.not_true, Bool.not_false, Bool.and_true, Bool.and_false, Bool.true_and, Bool.false_and, gI_sI, gI_sL, gI_sA, gI_sM, gL_sI, gL_sL, gL_sA, gL_sM, aI_sI, aI_sL, aI_sA, aI_sM, aL_sI, aL_sL, aL_sA, aL_sM]; try dsimp only
          unfold Qv_stepB
          try dsimp only
          exact ⟨rfl, Or.inl ⟨hnn, hz⟩⟩
    intro n0
    refine hB _ _ _ _ _ (fun m1 hm1 => ?_)
    dsimp only [ugo, uwp, ust, uct, rfd, Bstep, Bstep_0, Nat.beq, lv_args, rlk, rs1, rs2, rdl, rky, rcd, rno, rsw, Value.category, List.filter, List.take, List.drop, List.reverse, List.reverseAux, List.cons_append, List.nil_append, Option.toList, Int.toNat, Int.reduceToNat, if_pos, if_neg, reduceIte, ↓reduceIte, Nat.reduceAdd, Nat.reduceEqDiff, Nat.reduceBEq, beq_self_eq_true, Bool.not_true, Bool.not_false, Bool.and_true, Bool.and_false, Bool.true_and, Bool.false_and, gI_sI, gI_sL, gI_sA, gI_sM, gL_sI, gL_sL, gL_sA, gL_sM, aI_sI, aI_sL, aI_sA, aI_sM, aL_sI, aL_sL, aL_sA, aL_sM]; try dsimp only
    refine ⟨trivial, fun w2 τ2 hq2 => ?_⟩
    obtain ⟨rfl, r2, rfl, hr2⟩ := hq2 trivial
    have hfd2 := hl _ (hr2 h42)
    dsimp only [Option.toList, List.cons_append, List.nil_append, Nat.beq, gI_sI, gI_sL, gI_sA, gI_sM, gL_sI, gL_sL, gL_sA, gL_sM, aI_sI, aI_sL, aI_sA, aI_sM, aL_sI, aL_sL, aL_sA, aL_sM]
    intro p3
    refine ⟨fun h4 => ?_, fun h4 => ?_⟩
    · have c4 : 0 ≤ (r2).toInt := (cI (rfl : (r2).toInt = (r2).toInt) (rfl : (0 : Int32).toInt = 0)).2.2.2.2.mp h4
      refine hB _ _ _ _ _ (fun m5 hm5 => ?_)
      dsimp only [ugo, uwp, ust, uct, rfd, Bstep, Bstep_29, Nat.beq, lv_args, rlk, rs1, rs2, rdl, rky, rcd, rno, rsw, Value.category, List.filter, List.take, List.drop, List.reverse, List.reverseAux, List.cons_append, List.nil_append, Option.toList, Int.toNat, Int.reduceToNat, if_pos, if_neg, reduceIte, ↓reduceIte, Nat.reduceAdd, Nat.reduceEqDiff, Nat.reduceBEq, beq_self_eq_true, Bool.not_true, Bool.not_false, Bool.and_true, Bool.and_false, Bool.true_and, Bool.false_and, gI_sI, gI_sL, gI_sA, gI_sM, gL_sI, gL_sL, gL_sA, gL_sM, aI_sI, aI_sL, aI_sA, aI_sM, aL_sI, aL_sL, aL_sA, aL_sM, oi_1]; try dsimp only
      have hre : r2.toInt = x.2.1.2.1 := by omega
      have hkn : knT C x.2.1.2.1 := hK (by omega)
      obtain ⟨v1, v2, v3, v4⟩ := hV hkn
      rw [show x.2.1.2.1.toNat = r2.toNatClampNeg by show _ = r2.toInt.toNat; rw [hre]] at v1 v2
      intro p6
      intro p7
      refine ⟨fun h8 => ?_, fun h8 => ?_⟩
      · have c8 : ¬ ((¬ (vtT C x.2.1.2.1).2 = 0)) := fun q => (v2).mpr q h8
        refine hB _ _ _ _ _ (fun m9 hm9 => ?_)
        dsimp only [ugo, uwp, ust, uct, rfd, Bstep, Bstep_58, Nat.beq, lv_args, rlk, rs1, rs2, rdl, rky, rcd, rno, rsw, Value.category, List.filter, List.take, List.drop, List.reverse, List.reverseAux, List.cons_append, List.nil_append, Option.toList, Int.toNat, Int.reduceToNat, if_pos, if_neg, reduceIte, ↓reduceIte, Nat.reduceAdd, Nat.reduceEqDiff, Nat.reduceBEq, beq_self_eq_true, Bool.not_true, Bool.not_false, Bool.and_true, Bool.and_false, Bool.true_and, Bool.false_and, gI_sI, gI_sL, gI_sA, gI_sM, gL_sI, gL_sL, gL_sA, gL_sM, aI_sI, aI_sL, aI_sA, aI_sM, aL_sI, aL_sL, aL_sA, aL_sM]; try dsimp only
        intro p10
        refine ⟨fun h11 => ?_, fun h11 => ?_⟩
        · have c11 : ¬ (vtT C x.2.1.2.1).1 = 0 := fun q => h11 ((cI v1 (rfl : (0 : Int32).toInt = 0)).1.mpr q)
          refine hB _ _ _ _ _ (fun m12 hm12 => ?_)
          dsimp only [ugo, uwp, ust, uct, rfd, Bstep, Bstep_81, Nat.beq, lv_args, rlk, rs1, rs2, rdl, rky, rcd, rno, rsw, Value.category, List.filter, List.take, List.drop, List.reverse, List.reverseAux, List.cons_append, List.nil_append, Option.toList, Int.toNat, Int.reduceToNat, if_pos, if_neg, reduceIte, ↓reduceIte, Nat.reduceAdd, Nat.reduceEqDiff, Nat.reduceBEq, beq_self_eq_true, Bool.not_true, Bool.not_false, Bool.and_true, Bool.and_false, Bool.true_and, Bool.false_and, gI_sI, gI_sL, gI_sA, gI_sM, gL_sI, gL_sL, gL_sA, gL_sM, aI_sI, aI_sL, aI_sA, aI_sM, aL_sI, aL_sL, aL_sA, aL_sM]; try dsimp only
          refine ⟨fun h13 => absurd h13 (by decide), fun h13 => ?_⟩
          clear h13
          refine hB _ _ _ _ _ (fun m14 hm14 => ?_)
          dsimp only [ugo, uwp, ust, uct, rfd, Bstep, Bstep_86, Nat.beq, lv_args, rlk, rs1, rs2, rdl, rky, rcd, rno, rsw, Value.category, List.filter, List.take, List.drop, List.reverse, List.reverseAux, List.cons_append, List.nil_append, Option.toList, Int.toNat, Int.reduceToNat, if_pos, if_neg, reduceIte, ↓reduceIte, Nat.reduceAdd, Nat.reduceEqDiff, Nat.reduceBEq, beq_self_eq_true, Bool.not_true, Bool.not_false, Bool.and_true, Bool.and_false, Bool.true_and, Bool.false_and, gI_sI, gI_sL, gI_sA, gI_sM, gL_sI, gL_sL, gL_sA, gL_sM, aI_sI, aI_sL, aI_sA, aI_sM, aL_sI, aL_sL, aL_sA, aL_sM, oi_0]; try dsimp only
          intro p15
          refine ⟨trivial, fun w16 τ16 hq16 => ?_⟩
          obtain ⟨rfl, rfl⟩ := hq16 trivial
          dsimp only [Option.toList, List.cons_append, List.nil_append, Nat.beq, gI_sI, gI_sL, gI_sA, gI_sM, gL_sI, gL_sL, gL_sA, gL_sM, aI_sI, aI_sL, aI_sA, aI_sM, aL_sI, aL_sL, aL_sA, aL_sM]
          refine hB _ _ _ _ _ (fun m17 hm17 => ?_)
          dsimp only [ugo, uwp, ust, uct, rfd, Bstep, Bstep_107, Nat.beq, lv_args, rlk, rs1, rs2, rdl, rky, rcd, rno, rsw, Value.category, List.filter, List.take, List.drop, List.reverse, List.reverseAux, List.cons_append, List.nil_append, Option.toList, Int.toNat, Int.reduceToNat, if_pos, if_neg, reduceIte, ↓reduceIte, Nat.reduceAdd, Nat.reduceEqDiff, Nat.reduceBEq, beq_self_eq_true, Bool.not_true, Bool.not_false, Bool.and_true, Bool.and_false, Bool.true_and, Bool.false_and, gI_sI, gI_sL, gI_sA, gI_sM, gL_sI, gL_sL, gL_sA, gL_sM, aI_sI, aI_sL, aI_sA, aI_sM, aL_sI, aL_sL, aL_sA, aL_sM]; try dsimp only
          unfold Qv_stepB
          try dsimp only
          refine ⟨rfl, Or.inr ?_⟩
          exact ⟨_, if_pos (by omega), r2, ((aI σ 44) (r2).toNatClampNeg), 0, 0, hre, ⟨v1, ⟨fun q => absurd rfl q, fun q => absurd ht0 q⟩, fun q => absurd ht0 q⟩, rfl⟩
        · have c11 : (vtT C x.2.1.2.1).1 = 0 := (cI v1 (rfl : (0 : Int32).toInt = 0)).1.mp h11
          refine hB _ _ _ _ _ (fun m18 hm18 => ?_)
          dsimp only [ugo, uwp, ust, uct, rfd, Bstep, Bstep_67, Nat.beq, lv_args, rlk, rs1, rs2, rdl, rky, rcd, rno, rsw, Value.category, List.filter, List.take, List.drop, List.reverse, List.reverseAux, List.cons_append, List.nil_append, Option.toList, Int.toNat, Int.reduceToNat, if_pos, if_neg, reduceIte, ↓reduceIte, Nat.reduceAdd, Nat.reduceEqDiff, Nat.reduceBEq, beq_self_eq_true, Bool.not_true, Bool.not_false, Bool.and_true, Bool.and_false, Bool.true_and, Bool.false_and, gI_sI, gI_sL, gI_sA, gI_sM, gL_sI, gL_sL, gL_sA, gL_sM, aI_sI, aI_sL, aI_sA, aI_sM, aL_sI, aL_sL, aL_sA, aL_sM, oi_0, oi_5]; try dsimp only
          intro p19
          refine ⟨trivial, fun w20 τ20 hq20 => ?_⟩
          obtain ⟨rfl, hz20⟩ := hq20 (show ¬ (5 : Int32) = 0 by decide)
          dsimp only [Option.toList, List.cons_append, List.nil_append, Nat.beq, gI_sI, gI_sL, gI_sA, gI_sM, gL_sI, gL_sL, gL_sA, gL_sM, aI_sI, aI_sL, aI_sA, aI_sM, aL_sI, aL_sL, aL_sA, aL_sM]
          exact hW _ 81 [(0, .ref 1000), (1, .int c), (2, .int t), (3, .int r2), (4, .int 0)] _ _ _ (by simp [rdl, rky, Value.category]) ((bad (by unfold x6T; exact if_neg (by omega)) _).2.2.2.2.2.2.1 c t r2 0 _ hz20)
      · have c8 : (¬ (vtT C x.2.1.2.1).2 = 0) := (v2).mp h8
        refine hB _ _ _ _ _ (fun m21 hm21 => ?_)
        dsimp only [ugo, uwp, ust, uct, rfd, Bstep, Bstep_48, Nat.beq, lv_args, rlk, rs1, rs2, rdl, rky, rcd, rno, rsw, Value.category, List.filter, List.take, List.drop, List.reverse, List.reverseAux, List.cons_append, List.nil_append, Option.toList, Int.toNat, Int.reduceToNat, if_pos, if_neg, reduceIte, ↓reduceIte, Nat.reduceAdd, Nat.reduceEqDiff, Nat.reduceBEq, beq_self_eq_true, Bool.not_true, Bool.not_false, Bool.and_true, Bool.and_false, Bool.true_and, Bool.false_and, gI_sI, gI_sL, gI_sA, gI_sM, gL_sI, gL_sL, gL_sA, gL_sM, aI_sI, aI_sL, aI_sA, aI_sM, aL_sI, aL_sL, aL_sA, aL_sM, oi_0, oi_7]; try dsimp only
        refine ⟨trivial, fun w22 τ22 hq22 => ?_⟩
        obtain ⟨rfl, hz22⟩ := hq22 (show ¬ (7 : Int32) = 0 by decide)
        dsimp only [Option.toList, List.cons_append, List.nil_append, Nat.beq, gI_sI, gI_sL, gI_sA, gI_sM, gL_sI, gL_sL, gL_sA, gL_sM, aI_sI, aI_sL, aI_sA, aI_sM, aL_sI, aL_sL, aL_sA, aL_sM]
        exact hW _ 58 [(0, .ref 1000), (1, .int c), (2, .int t), (3, .int r2), (4, .int 0)] _ _ _ (by simp [rdl, rky, Value.category]) ((bad (by unfold x6T; exact if_neg (by omega)) _).2.2.2.2.1 c t r2 0 _ hz22)
    · have c4 : (r2).toInt < 0 := (cI (rfl : (r2).toInt = (r2).toInt) (rfl : (0 : Int32).toInt = 0)).2.1.mp (by first | exact h4 | exact Int32.not_lt.mp h4 | exact Int32.not_le.mp h4)
      refine hB _ _ _ _ _ (fun m23 hm23 => ?_)
      dsimp only [ugo, uwp, ust, uct, rfd, Bstep, Bstep_17, Nat.beq, lv_args, rlk, rs1, rs2, rdl, rky, rcd, rno, rsw, Value.category, List.filter, List.take, List.drop, List.reverse, List.reverseAux, List.cons_append, List.nil_append, Option.toList, Int.toNat, Int.reduceToNat, if_pos, if_neg, reduceIte, ↓reduceIte, Nat.reduceAdd, Nat.reduceEqDiff, Nat.reduceBEq, beq_self_eq_true, Bool.not_true, Bool.not_false, Bool.and_true, Bool.and_false, Bool.true_and, Bool.false_and, gI_sI, gI_sL, gI_sA, gI_sM, gL_sI, gL_sL, gL_sA, gL_sM, aI_sI, aI_sL, aI_sA, aI_sM, aL_sI, aL_sL, aL_sA, aL_sM, oi_3]; try dsimp only
      refine ⟨trivial, fun w24 τ24 hq24 => ?_⟩
      obtain ⟨rfl, hz24⟩ := hq24 (show ¬ (3 : Int32) = 0 by decide)
      dsimp only [Option.toList, List.cons_append, List.nil_append, Nat.beq, gI_sI, gI_sL, gI_sA, gI_sM, gL_sI, gL_sL, gL_sA, gL_sM, aI_sI, aI_sL, aI_sA, aI_sM, aL_sI, aL_sL, aL_sA, aL_sM]
      refine ⟨trivial, fun w25 τ25 hq25 => ?_⟩
      obtain ⟨rfl, rfl⟩ := hq25 trivial
      dsimp only [Option.toList, List.cons_append, List.nil_append, Nat.beq, gI_sI, gI_sL, gI_sA, gI_sM, gL_sI, gL_sL, gL_sA, gL_sM, aI_sI, aI_sL, aI_sA, aI_sM, aL_sI, aL_sL, aL_sA, aL_sM]
      unfold Qv_stepB
      try dsimp only
      exact ⟨rfl, Or.inl ⟨(by unfold x6T; exact if_neg (by omega)), hz24⟩⟩
  next => exact hP.elim
theorem w_stepB : UMet 90 (fun _ _ => True) Qw_stepB := fun A1 σ _ w τ h C t0 x hP => v_stepB C t0 x A1 σ hP w τ h
def Pv_binaryB (a b t : TvT) (x : XrZ) : UP1 := fun A1 σ => match A1 with
  | [.int c] => gI σ 66 = 0 ∧ TeR σ ((gI σ 69) - 2).toNatClampNeg a ∧ TeR σ (((gI σ 69) - 2) + 1).toNatClampNeg b ∧ ((aI σ 20 c.toNatClampNeg).toInt, x.1.2.1) ∈ sgT ∧ (22 ≤ x.1.2.1 ∧ x.1.2.1 ≤ 38)
  | _ => False
def Qv_binaryB (a b t : TvT) (x : XrZ) : UQ1 := fun A1 σ w τ => match A1 with
  | [.int c] => w = none ∧ JgR τ (x7T a b t x) (fun e τ => ∃ (wk ty su : Int32) (v : Int64), wk.toInt = e.2.2.2 ∧ ShT ty su v e ∧ τ = lieS (sA (sI σ 69 (gI σ 69 - 2)) 82 (upd (aI σ 82) c.toNatClampNeg wk)) c ty su v)
  | _ => False
def Qw_binaryB : UQ1 := fun A1 σ w τ => ∀ (a b t : TvT) (x : XrZ), Pv_binaryB a b t x A1 σ → Qv_binaryB a b t x A1 σ w τ
set_option maxRecDepth 100000 in
set_option maxHeartbeats 4000000 in
theorem v_binaryB (a b t : TvT) (x : XrZ) : UMet 95 (Pv_binaryB a b t x) (Qv_binaryB a b t x) := by
  refine UMet.by Bbinary [(79, (fun _ _ => True), Qw_isBad), (94, (fun _ _ => True), Qw_isBits), (93, (fun _ _ => True), Qw_isShift), (77, (fun _ _ => True), Qw_lie), (80, (fun _ _ => True), Qw_need), (78, (fun _ _ => True), Qw_none), (96, (fun _ _ => True), Qw_pair), (97, (fun _ _ => True), Qw_reckon), (81, (fun _ _ => True), Qw_wide)] rfl (ucc w_isBad (ucc w_isBits (ucc w_isShift (ucc w_lie (ucc w_need (ucc w_none (ucc w_pair (ucc w_reckon (ucc w_wide uc0))))))))) ?_
  intro A1 σ hP K hB hW
  unfold Pv_binaryB at hP
  split at hP
  next c =>
    obtain ⟨hE, ha, hb, hm, hs4⟩ := hP
    have bad : x7T a b t x = none → ∀ N : Nat, (∀ (x1 : Int32) (Y : RS), ¬ gI Y 66 = 0 → K N 0 [(0, .ref 1000), (1, .int x1)] [] Y) ∧ (∀ (x1 : Int32) (x2 : Int32) (x3 : Int32) (x4 : Int32) (Y : RS), ¬ gI Y 66 = 0 → K N 38 [(0, .ref 1000), (1, .int x1), (2, .int x2), (3, .int x3), (4, .int x4)] [] Y) ∧ (∀ (x1 : Int32) (x2 : Int32) (x3 : Int32) (x4 : Int32) (Y : RS), ¬ gI Y 66 = 0 → K N 46 [(0, .ref 1000), (1, .int x1), (2, .int x2), (3, .int x3), (4, .int x4)] [] Y) ∧ (∀ (x1 : Int32) (x2 : Int32) (x3 : Int32) (x4 : Int32) (Y : RS), ¬ gI Y 66 = 0 → K N 50 [(0, .ref 1000), (1, .int x1), (2, .int x2), (3, .int x3), (4, .int x4)] [] Y) ∧ (∀ (x1 : Int32) (x2 : Int32) (x3 : Int32) (x4 : Int32) (s0 : Int32) (Y : RS), ¬ gI Y 66 = 0 → K N 51 [(0, .ref 1000), (1, .int x1), (2, .int x2), (3, .int x3), (4, .int x4)] [.int s0] Y) ∧ (∀ (x1 : Int32) (x2 : Int32) (x3 : Int32) (x4 : Int32) (x5 : Int32) (Y : RS), ¬ gI Y 66 = 0 → K N 58 [(0, .ref 1000), (1, .int x1), (2, .int x2), (3, .int x3), (4, .int x4), (5, .int x5)] [] Y) ∧ (∀ (x1 : Int32) (x2 : Int32) (x3 : Int32) (x4 : Int32) (x5 : Int32) (Y : RS), ¬ gI Y 66 = 0 → K N 67 [(0, .ref 1000), (1, .int x1), (2, .int x2), (3, .int x3), (4, .int x4), (5, .int x5)] [] Y) ∧ (∀ (x1 : Int32) (x2 : Int32) (x3 : Int32) (x4 : Int32) (x5 : Int32) (Y : RS), ¬ gI Y 66 = 0 → K N 71 [(0, .ref 1000), (1, .int x1), (2, .int x2), (3, .int x3), (4, .int x4), (5, .int x5)] [] Y) ∧ (∀ (x1 : Int32) (x2 : Int32) (x3 : Int32) (x4 : Int32) (x5 : Int32) (s0 : Int32) (Y : RS), ¬ gI Y 66 = 0 → K N 72 [(0, .ref 1000), (1, .int x1), (2, .int x2), (3, .int x3), (4, .int x4), (5, .int x5)] [.int s0] Y) ∧ (∀ (x1 : Int32) (x2 : Int32) (x3 : Int32) (x4 : Int32) (x5 : Int32) (x6 : Int32) (Y : RS), ¬ gI Y 66 = 0 → K N 82 [(0, .ref 1000), (1, .int x1), (2, .int x2), (3, .int x3), (4, .int x4), (5, .int x5), (6, .int x6)] [] Y) ∧ (∀ (x1 : Int32) (x2 : Int32) (x3 : Int32) (x4 : Int32) (x5 : Int32) (x6 : Int32) (Y : RS), ¬ gI Y 66 = 0 → K N 90 [(0, .ref 1000), (1, .int x1), (2, .int x2), (3, .int x3), (4, .int x4), (5, .int x5), (6, .int x6)] [] Y) ∧ (∀ (x1 : Int32) (x2 : Int32) (x3 : Int32) (x4 : Int32) (x5 : Int32) (x6 : Int32) (Y : RS), ¬ gI Y 66 = 0 → K N 98 [(0, .ref 1000), (1, .int x1), (2, .int x2), (3, .int x3), (4, .int x4), (5, .int x5), (6, .int x6)] [] Y) ∧ (∀ (x1 : Int32) (x2 : Int32) (x3 : Int32) (x4 : Int32) (x5 : Int32) (x6 : Int32) (Y : RS), ¬ gI Y 66 = 0 → K N 106 [(0, .ref 1000), (1, .int x1), (2, .int x2), (3, .int x3), (4, .int x4), (5, .int x5), (6, .int x6)] [] Y) ∧ (∀ (x1 : Int32) (x2 : Int32) (x3 : Int32) (x4 : Int32) (x5 : Int32) (x6 : Int32) (Y : RS), ¬ gI Y 66 = 0 → K N 114 [(0, .ref 1000), (1, .int x1), (2, .int x2), (3, .int x3), (4, .int x4), (5, .int x5), (6, .int x6)] [] Y) ∧ (∀ (x1 : Int32) (x2 : Int32) (x3 : Int32) (x4 : Int32) (x5 : Int32) (x6 : Int32) (Y : RS), ¬ gI Y 66 = 0 → K N 122 [(0, .ref 1000), (1, .int x1), (2, .int x2), (3, .int x3), (4, .int x4), (5, .int x5), (6, .int x6)] [] Y) ∧ (∀ (x1 : Int32) (x2 : Int32) (x3 : Int32) (x4 : Int32) (x5 : Int32) (x6 : Int32) (Y : RS), ¬ gI Y 66 = 0 → K N 128 [(0, .ref 1000), (1, .int x1), (2, .int x2), (3, .int x3), (4, .int x4), (5, .int x5), (6, .int x6)] [] Y) ∧ (∀ (x1 : Int32) (x2 : Int32) (x3 : Int32) (x4 : Int32) (x5 : Int32) (x6 : Int32) (Y : RS), ¬ gI Y 66 = 0 → K N 138 [(0, .ref 1000), (1, .int x1), (2, .int x2), (3, .int x3), (4, .int x4), (5, .int x5), (6, .int x6)] [] Y) ∧ (∀ (x1 : Int32) (x2 : Int32) (x3 : Int32) (x4 : Int32) (x5 : Int32) (x6 : Int32) (Y : RS), ¬ gI Y 66 = 0 → K N 143 [(0, .ref 1000), (1, .int x1), (2, .int x2), (3, .int x3), (4, .int x4), (5, .int x5), (6, .int x6)] [] Y) ∧ (∀ (x1 : Int32) (x2 : Int32) (x3 : Int32) (x4 : Int32) (x5 : Int32) (x6 : Int32) (Y : RS), ¬ gI Y 66 = 0 → K N 150 [(0, .ref 1000), (1, .int x1), (2, .int x2), (3, .int x3), (4, .int x4), (5, .int x5), (6, .int x6)] [] Y) ∧ (∀ (x1 : Int32) (x2 : Int32) (x3 : Int32) (x4 : Int32) (x5 : Int32) (x6 : Int32) (Y : RS), ¬ gI Y 66 = 0 → K N 156 [(0, .ref 1000), (1, .int x1), (2, .int x2), (3, .int x3), (4, .int x4), (5, .int x5), (6, .int x6)] [] Y) ∧ (∀ (x1 : Int32) (x2 : Int32) (x3 : Int32) (x4 : Int32) (x5 : Int32) (x6 : Int32) (Y : RS), ¬ gI Y 66 = 0 → K N 161 [(0, .ref 1000), (1, .int x1), (2, .int x2), (3, .int x3), (4, .int x4), (5, .int x5), (6, .int x6)] [] Y) ∧ (∀ (x1 : Int32) (x2 : Int32) (x3 : Int32) (x4 : Int32) (x5 : Int32) (x6 : Int32) (s0 : Int32) (Y : RS), ¬ gI Y 66 = 0 → K N 172 [(0, .ref 1000), (1, .int x1), (2, .int x2), (3, .int x3), (4, .int x4), (5, .int x5), (6, .int x6)] [.int s0, .ref 1000] Y) ∧ (∀ (x1 : Int32) (x2 : Int32) (x3 : Int32) (x4 : Int32) (x5 : Int32) (x6 : Int32) (s0 : Int32) (Y : RS), ¬ gI Y 66 = 0 → K N 176 [(0, .ref 1000), (1, .int x1), (2, .int x2), (3, .int x3), (4, .int x4), (5, .int x5), (6, .int x6)] [.int s0, .ref 1000] Y) ∧ (∀ (x1 : Int32) (x2 : Int32) (x3 : Int32) (x4 : Int32) (x5 : Int32) (x6 : Int32) (s0 : Int32) (s1 : Int32) (Y : RS), ¬ gI Y 66 = 0 → K N 177 [(0, .ref 1000), (1, .int x1), (2, .int x2), (3, .int x3), (4, .int x4), (5, .int x5), (6, .int x6)] [.int s0, .int s1, .ref 1000] Y) ∧ (∀ (x1 : Int32) (x2 : Int32) (x3 : Int32) (x4 : Int32) (x5 : Int32) (x6 : Int32) (Y : RS), ¬ gI Y 66 = 0 → K N 183 [(0, .ref 1000), (1, .int x1), (2, .int x2), (3, .int x3), (4, .int x4), (5, .int x5), (6, .int x6)] [] Y) ∧ (∀ (x1 : Int32) (x2 : Int32) (x3 : Int32) (x4 : Int32) (x5 : Int32) (x6 : Int32) (Y : RS), ¬ gI Y 66 = 0 → K N 186 [(0, .ref 1000), (1, .int x1), (2, .int x2), (3, .int x3), (4, .int x4), (5, .int x5), (6, .int x6)] [] Y) ∧ (∀ (x1 : Int32) (x2 : Int32) (x3 : Int32) (x4 : Int32) (x5 : Int32) (x6 : Int32) (Y : RS), ¬ gI Y 66 = 0 → K N 195 [(0, .ref 1000), (1, .int x1), (2, .int x2), (3, .int x3), (4, .int x4), (5, .int x5), (6, .int x6)] [] Y) ∧ (∀ (x1 : Int32) (x2 : Int32) (x3 : Int32) (x4 : Int32) (x5 : Int32) (x6 : Int32) (Y : RS), ¬ gI Y 66 = 0 → K N 201 [(0, .ref 1000), (1, .int x1), (2, .int x2), (3, .int x3), (4, .int x4), (5, .int x5), (6, .int x6)] [] Y) ∧ (∀ (x1 : Int32) (x2 : Int32) (x3 : Int32) (x4 : Int32) (x5 : Int32) (x6 : Int32) (Y : RS), ¬ gI Y 66 = 0 → K N 210 [(0, .ref 1000), (1, .int x1), (2, .int x2), (3, .int x3), (4, .int x4), (5, .int x5), (6, .int x6)] [] Y) ∧ (∀ (x1 : Int32) (x2 : Int32) (x3 : Int32) (x4 : Int32) (x5 : Int32) (x6 : Int32) (Y : RS), ¬ gI Y 66 = 0 → K N 214 [(0, .ref 1000), (1, .int x1), (2, .int x2), (3, .int x3), (4, .int x4), (5, .int x5), (6, .int x6)] [] Y) ∧ (∀ (x1 : Int32) (x2 : Int32) (x3 : Int32) (x4 : Int32) (x5 : Int32) (x6 : Int32) (Y : RS), ¬ gI Y 66 = 0 → K N 223 [(0, .ref 1000), (1, .int x1), (2, .int x2), (3, .int x3), (4, .int x4), (5, .int x5), (6, .int x6)] [] Y) ∧ (∀ (x1 : Int32) (x2 : Int32) (x3 : Int32) (x4 : Int32) (x5 : Int32) (x6 : Int32) (Y : RS), ¬ gI Y 66 = 0 → K N 236 [(0, .ref 1000), (1, .int x1), (2, .int x2), (3, .int x3), (4, .int x4), (5, .int x5), (6, .int x6)] [] Y) ∧ (∀ (x1 : Int32) (x2 : Int32) (x3 : Int32) (x4 : Int32) (x5 : Int32) (x6 : Int32) (Y : RS), ¬ gI Y 66 = 0 → K N 246 [(0, .ref 1000), (1, .int x1), (2, .int x2), (3, .int x3), (4, .int x4), (5, .int x5), (6, .int x6)] [] Y) ∧ (∀ (x1 : Int32) (x2 : Int32) (x3 : Int32) (x4 : Int32) (x5 : Int32) (x6 : Int32) (Y : RS), ¬ gI Y 66 = 0 → K N 256 [(0, .ref 1000), (1, .int x1), (2, .int x2), (3, .int x3), (4, .int x4), (5, .int x5), (6, .int x6)] [] Y) ∧ (∀ (x1 : Int32) (x2 : Int32) (x3 : Int32) (x4 : Int32) (x5 : Int32) (x6 : Int32) (Y : RS), ¬ gI Y 66 = 0 → K N 260 [(0, .ref 1000), (1, .int x1), (2, .int x2), (3, .int x3), (4, .int x4), (5, .int x5), (6, .int x6)] [] Y) ∧ (∀ (x1 : Int32) (x2 : Int32) (x3 : Int32) (x4 : Int32) (x5 : Int32) (x6 : Int32) (s0 : Int32) (Y : RS), ¬ gI Y 66 = 0 → K N 261 [(0, .ref 1000), (1, .int x1), (2, .int x2), (3, .int x3), (4, .int x4), (5, .int x5), (6, .int x6)] [.int s0] Y) ∧ (∀ (x1 : Int32) (x2 : Int32) (x3 : Int32) (x4 : Int32) (x5 : Int32) (x6 : Int32) (x7 : Int32) (Y : RS), ¬ gI Y 66 = 0 → K N 268 [(0, .ref 1000), (1, .int x1), (2, .int x2), (3, .int x3), (4, .int x4), (5, .int x5), (6, .int x6), (7, .int x7)] [] Y) ∧ (∀ (x1 : Int32) (x2 : Int32) (x3 : Int32) (x4 : Int32) (x5 : Int32) (x6 : Int32) (x7 : Int32) (Y : RS), ¬ gI Y 66 = 0 → K N 275 [(0, .ref 1000), (1, .int x1), (2, .int x2), (3, .int x3), (4, .int x4), (5, .int x5), (6, .int x6), (7, .int x7)] [] Y) ∧ (∀ (x1 : Int32) (x2 : Int32) (x3 : Int32) (x4 : Int32) (x5 : Int32) (x6 : Int32) (x7 : Int32) (Y : RS), ¬ gI Y 66 = 0 → K N 282 [(0, .ref 1000), (1, .int x1), (2, .int x2), (3, .int x3), (4, .int x4), (5, .int x5), (6, .int x6), (7, .int x7)] [] Y) ∧ (∀ (x1 : Int32) (x2 : Int32) (x3 : Int32) (x4 : Int32) (x5 : Int32) (x6 : Int32) (x7 : Int32) (Y : RS), ¬ gI Y 66 = 0 → K N 290 [(0, .ref 1000), (1, .int x1), (2, .int x2), (3, .int x3), (4, .int x4), (5, .int x5), (6, .int x6), (7, .int x7)] [] Y) ∧ (∀ (x1 : Int32) (x2 : Int32) (x3 : Int32) (x4 : Int32) (x5 : Int32) (x6 : Int32) (x7 : Int32) (Y : RS), ¬ gI Y 66 = 0 → K N 298 [(0, .ref 1000), (1, .int x1), (2, .int x2), (3, .int x3), (4, .int x4), (5, .int x5), (6, .int x6), (7, .int x7)] [] Y) ∧ (∀ (x1 : Int32) (x2 : Int32) (x3 : Int32) (x4 : Int32) (x5 : Int32) (x6 : Int32) (x7 : Int32) (Y : RS), ¬ gI Y 66 = 0 → K N 302 [(0, .ref 1000), (1, .int x1), (2, .int x2), (3, .int x3), (4, .int x4), (5, .int x5), (6, .int x6), (7, .int x7)] [] Y) ∧ (∀ (x1 : Int32) (x2 : Int32) (x3 : Int32) (x4 : Int32) (x5 : Int32) (x6 : Int32) (x7 : Int32) (s0 : Int32) (Y : RS), ¬ gI Y 66 = 0 → K N 303 [(0, .ref 1000), (1, .int x1), (2, .int x2), (3, .int x3), (4, .int x4), (5, .int x5), (6, .int x6), (7, .int x7)] [.int s0] Y) ∧ (∀ (x1 : Int32) (x2 : Int32) (x3 : Int32) (x4 : Int32) (x5 : Int32) (x6 : Int32) (x7 : Int32) (x8 : Int32) (Y : RS), ¬ gI Y 66 = 0 → K N 322 [(0, .ref 1000), (1, .int x1), (2, .int x2), (3, .int x3), (4, .int x4), (5, .int x5), (6, .int x6), (7, .int x7), (8, .int x8)] [] Y) ∧ (∀ (x1 : Int32) (x2 : Int32) (x3 : Int32) (x4 : Int32) (x5 : Int32) (x6 : Int32) (x7 : Int32) (x8 : Int32) (Y : RS), ¬ gI Y 66 = 0 → K N 331 [(0, .ref 1000), (1, .int x1), (2, .int x2), (3, .int x3), (4, .int x4), (5, .int x5), (6, .int x6), (7, .int x7), (8, .int x8)] [] Y) ∧ (∀ (x1 : Int32) (x2 : Int32) (x3 : Int32) (x4 : Int32) (x5 : Int32) (x6 : Int32) (x7 : Int32) (x8 : Int32) (Y : RS), ¬ gI Y 66 = 0 → K N 338 [(0, .ref 1000), (1, .int x1), (2, .int x2), (3, .int x3), (4, .int x4), (5, .int x5), (6, .int x6), (7, .int x7), (8, .int x8)] [] Y) ∧ (∀ (x1 : Int32) (x2 : Int32) (x3 : Int32) (x4 : Int32) (x5 : Int32) (x6 : Int32) (x7 : Int32) (x8 : Int32) (Y : RS), ¬ gI Y 66 = 0 → K N 345 [(0, .ref 1000), (1, .int x1), (2, .int x2), (3, .int x3), (4, .int x4), (5, .int x5), (6, .int x6), (7, .int x7), (8, .int x8)] [] Y) ∧ (∀ (x1 : Int32) (x2 : Int32) (x3 : Int32) (x4 : Int32) (x5 : Int32) (x6 : Int32) (x7 : Int32) (x8 : Int32) (Y : RS), ¬ gI Y 66 = 0 → K N 356 [(0, .ref 1000), (1, .int x1), (2, .int x2), (3, .int x3), (4, .int x4), (5, .int x5), (6, .int x6), (7, .int x7), (8, .int x8)] [] Y) ∧ (∀ (x1 : Int32) (x2 : Int32) (x3 : Int32) (x4 : Int32) (x5 : Int32) (x6 : Int32) (x7 : Int32) (x8 : Int32) (Y : RS), ¬ gI Y 66 = 0 → K N 360 [(0, .ref 1000), (1, .int x1), (2, .int x2), (3, .int x3), (4, .int x4), (5, .int x5), (6, .int x6), (7, .int x7), (8, .int x8)] [] Y) ∧ (∀ (x1 : Int32) (x2 : Int32) (x3 : Int32) (x4 : Int32) (x5 : Int32) (x6 : Int32) (x7 : Int32) (x8 : Int32) (s0 : Int32) (Y : RS), ¬ gI Y 66 = 0 → K N 361 [(0, .ref 1000), (1, .int x1), (2, .int x2), (3, .int x3), (4, .int x4), (5, .int x5), (6, .int x6), (7, .int x7), (8, .int x8)] [.int s0] Y) ∧ (∀ (x1 : Int32) (x2 : Int32) (x3 : Int32) (x4 : Int32) (x5 : Int32) (x6 : Int32) (x7 : Int32) (x8 : Int32) (x9 : Int32) (s0 : Int32) (Y : RS), ¬ gI Y 66 = 0 → K N 370 [(0, .ref 1000), (1, .int x1), (2, .int x2), (3, .int x3), (4, .int x4), (5, .int x5), (6, .int x6), (7, .int x7), (8, .int x8), (9, .int x9)] [.int s0, .ref 1000] Y) ∧ (∀ (x1 : Int32) (x2 : Int32) (x3 : Int32) (x4 : Int32) (x5 : Int32) (x6 : Int32) (x7 : Int32) (x8 : Int32) (x9 : Int32) (s0 : Int32) (Y : RS), ¬ gI Y 66 = 0 → K N 374 [(0, .ref 1000), (1, .int x1), (2, .int x2), (3, .int x3), (4, .int x4), (5, .int x5), (6, .int x6), (7, .int x7), (8, .int x8), (9, .int x9)] [.int s0, .ref 1000] Y) ∧ (∀ (x1 : Int32) (x2 : Int32) (x3 : Int32) (x4 : Int32) (x5 : Int32) (x6 : Int32) (x7 : Int32) (x8 : Int32) (x9 : Int32) (s0 : Int32) (s1 : Int32) (Y : RS), ¬ gI Y 66 = 0 → K N 376 [(0, .ref 1000), (1, .int x1), (2, .int x2), (3, .int x3), (4, .int x4), (5, .int x5), (6, .int x6), (7, .int x7), (8, .int x8), (9, .int x9)] [.int s0, .int s1, .ref 1000] Y) ∧ (∀ (x1 : Int32) (x2 : Int32) (x3 : Int32) (x4 : Int32) (x5 : Int32) (x6 : Int32) (x7 : Int32) (x8 : Int32) (x9 : Int32) (s0 : Int32) (s1 : Int32) (s2 : Int32) (Y : RS), ¬ gI Y 66 = 0 → K N 383 [(0, .ref 1000), (1, .int x1), (2, .int x2), (3, .int x3), (4, .int x4), (5, .int x5), (6, .int x6), (7, .int x7), (8, .int x8), (9, .int x9)] [.int s0, .int s1, .int s2, .ref 1000] Y) ∧ (∀ (x1 : Int32) (x2 : Int32) (x3 : Int32) (x4 : Int32) (x5 : Int32) (x6 : Int32) (x7 : Int32) (x8 : Int32) (x9 : Int32) (s0 : Int32) (s1 : Int32) (s2 : Int32) (Y : RS), ¬ gI Y 66 = 0 → K N 406 [(0, .ref 1000), (1, .int x1), (2, .int x2), (3, .int x3), (4, .int x4), (5, .int x5), (6, .int x6), (7, .int x7), (8, .int x8), (9, .int x9)] [.int s0, .int s1, .int s2, .ref 1000] Y) ∧ (∀ (x1 : Int32) (x2 : Int32) (x3 : Int32) (x4 : Int32) (x5 : Int32) (x6 : Int32) (x7 : Int32) (x8 : Int32) (x9 : Int32) (s0 : Int64) (s1 : Int32) (s2 : Int32) (s3 : Int32) (Y : RS), ¬ gI Y 66 = 0 → K N 407 [(0, .ref 1000), (1, .int x1), (2, .int x2), (3, .int x3), (4, .int x4), (5, .int x5), (6, .int x6), (7, .int x7), (8, .int x8), (9, .int x9)] [.long s0, .int s1, .int s2, .int s3, .ref 1000] Y) := by
      intro hnn
      intro N
      induction N using Nat.strongRecOn with
      | ind N ih =>
        refine ⟨?_, ?_, ?_, ?_, ?_, ?_, ?_, ?_, ?_, ?_, ?_, ?_, ?_, ?_, ?_, ?_, ?_, ?_, ?_, ?_, ?_, ?_, ?_, ?_, ?_, ?_, ?_, ?_, ?_, ?_, ?_, ?_, ?_, ?_, ?_, ?_, ?_, ?_, ?_, ?_, ?_, ?_, ?_, ?_, ?_, ?_, ?_, ?_, ?_, ?_, ?_, ?_, ?_, ?_, ?_, ?_⟩
        · intro x1 Y hz
          refine hB _ _ _ _ _ (fun m1 hm1 => ?_)
          dsimp only [ugo, uwp, ust, uct, rfd, Bbinary, Bbinary_0, Nat.beq, lv_args, rlk, rs1, rs2, rdl, rky, rcd, rno, rsw, Value.category, List.filter, List.take, List.drop, List.reverse, List.reverseAux, List.cons_append, List.nil_append, Option.toList, Int.toNat, Int.reduceToNat, if_pos, if_neg, reduceIte, ↓reduceIte, Nat.reduceAdd, Nat.reduceEqDiff, Nat.reduceBEq, beq_self_eq_true, Bool.not_true, Bool.not_false, Bool.and_true, Bool.and_false, Bool.true_and, Bool.false_and, gI_sI, gI_sL, gI_sA, gI_sM, gL_sI, gL_sL, gL_sA, gL_sM, aI_sI, aI_sL, aI_sA, aI_sM, aL_sI, aL_sL, aL_sA, aL_sM, oi_1, oi_2, oi_300]; try dsimp only
          intro p2
          refine ⟨fun h3 => ?_, fun h3 => ?_⟩
          · exact hW _ 46 [(0, .ref 1000), (1, .int x1), (2, .int ((gI Y 69) - 2)), (3, .int (((gI Y 69) - 2) + 1)), (4, .int ((aI Y 20) (x1).toNatClampNeg))] _ _ _ (by simp [rdl, rky, Value.category]) ((ih m1 hm1).2.2.1 x1 ((gI Y 69) - 2) (((gI Y 69) - 2) + 1) ((aI Y 20) (x1).toNatClampNeg) _ hz)
          · exact hW _ 38 [(0, .ref 1000), (1, .int x1), (2, .int ((gI Y 69) - 2)), (3, .int (((gI Y 69) - 2) + 1)), (4, .int ((aI Y 20) (x1).toNatClampNeg))] _ _ _ (by simp [rdl, rky, Value.category]) ((ih m1 hm1).2.1 x1 ((gI Y 69) - 2) (((gI Y 69) - 2) + 1) ((aI Y 20) (x1).toNatClampNeg) _ hz)
        · intro x1 x2 x3 x4 Y hz
          refine hB _ _ _ _ _ (fun m1 hm1 => ?_)
          dsimp only [ugo, uwp, ust, uct, rfd, Bbinary, Bbinary_38, Nat.beq, lv_args, rlk, rs1, rs2, rdl, rky, rcd, rno, rsw, Value.category, List.filter, List.take, List.drop, List.reverse, List.reverseAux, List.cons_append, List.nil_append, Option.toList, Int.toNat, Int.reduceToNat, if_pos, if_neg, reduceIte, ↓reduceIte, Nat.reduceAdd, Nat.reduceEqDiff, Nat.reduceBEq, beq_self_eq_true, Bool.not_true, Bool.not_false, Bool.and_true, Bool.and_false, Bool.true_and, Bool.false_and, gI_sI, gI_sL, gI_sA, gI_sM, gL_sI, gL_sL, gL_sA, gL_sM, aI_sI, aI_sL, aI_sA, aI_sM, aL_sI, aL_sL, aL_sA, aL_sM, oi_301]; try dsimp only
          refine ⟨fun h2 => ?_, fun h2 => ?_⟩
          · exact hW _ 50 [(0, .ref 1000), (1, .int x1), (2, .int x2), (3, .int x3), (4, .int x4)] _ _ _ (by simp [rdl, rky, Value.category]) ((ih m1 hm1).2.2.2.1 x1 x2 x3 x4 _ hz)
          · exact hW _ 46 [(0, .ref 1000), (1, .int x1), (2, .int x2), (3, .int x3), (4, .int x4)] _ _ _ (by simp [rdl, rky, Value.category]) ((ih m1 hm1).2.2.1 x1 x2 x3 x4 _ hz)
        · intro x1 x2 x3 x4 Y hz
          refine hB _ _ _ _ _ (fun m1 hm1 => ?_)
          dsimp only [ugo, uwp, ust, uct, rfd, Bbinary, Bbinary_46, Nat.beq, lv_args, rlk, rs1, rs2, rdl, rky, rcd, rno, rsw, Value.category, List.filter, List.take, List.drop, List.reverse, List.reverseAux, List.cons_append, List.nil_append, Option.toList, Int.toNat, Int.reduceToNat, if_pos, if_neg, reduceIte, ↓reduceIte, Nat.reduceAdd, Nat.reduceEqDiff, Nat.reduceBEq, beq_self_eq_true, Bool.not_true, Bool.not_false, Bool.and_true, Bool.and_false, Bool.true_and, Bool.false_and, gI_sI, gI_sL, gI_sA, gI_sM, gL_sI, gL_sL, gL_sA, gL_sM, aI_sI, aI_sL, aI_sA, aI_sM, aL_sI, aL_sL, aL_sA, aL_sM, oi_1]; try dsimp only
          exact hW _ 51 [(0, .ref 1000), (1, .int x1), (2, .int x2), (3, .int x3), (4, .int x4)] _ _ _ (by simp [rdl, rky, Value.category]) ((ih m1 hm1).2.2.2.2.1 x1 x2 x3 x4 1 _ hz)
        · intro x1 x2 x3 x4 Y hz
          refine hB _ _ _ _ _ (fun m1 hm1 => ?_)
          dsimp only [ugo, uwp, ust, uct, rfd, Bbinary, Bbinary_50, Nat.beq, lv_args, rlk, rs1, rs2, rdl, rky, rcd, rno, rsw, Value.category, List.filter, List.take, List.drop, List.reverse, List.reverseAux, List.cons_append, List.nil_append, Option.toList, Int.toNat, Int.reduceToNat, if_pos, if_neg, reduceIte, ↓reduceIte, Nat.reduceAdd, Nat.reduceEqDiff, Nat.reduceBEq, beq_self_eq_true, Bool.not_true, Bool.not_false, Bool.and_true, Bool.and_false, Bool.true_and, Bool.false_and, gI_sI, gI_sL, gI_sA, gI_sM, gL_sI, gL_sL, gL_sA, gL_sM, aI_sI, aI_sL, aI_sA, aI_sM, aL_sI, aL_sL, aL_sA, aL_sM, oi_0]; try dsimp only
          exact hW _ 51 [(0, .ref 1000), (1, .int x1), (2, .int x2), (3, .int x3), (4, .int x4)] _ _ _ (by simp [rdl, rky, Value.category]) ((ih m1 hm1).2.2.2.2.1 x1 x2 x3 x4 0 _ hz)
        · intro x1 x2 x3 x4 s0 Y hz
          refine hB _ _ _ _ _ (fun m1 hm1 => ?_)
          dsimp only [ugo, uwp, ust, uct, rfd, Bbinary, Bbinary_51, Nat.beq, lv_args, rlk, rs1, rs2, rdl, rky, rcd, rno, rsw, Value.category, List.filter, List.take, List.drop, List.reverse, List.reverseAux, List.cons_append, List.nil_append, Option.toList, Int.toNat, Int.reduceToNat, if_pos, if_neg, reduceIte, ↓reduceIte, Nat.reduceAdd, Nat.reduceEqDiff, Nat.reduceBEq, beq_self_eq_true, Bool.not_true, Bool.not_false, Bool.and_true, Bool.and_false, Bool.true_and, Bool.false_and, gI_sI, gI_sL, gI_sA, gI_sM, gL_sI, gL_sL, gL_sA, gL_sM, aI_sI, aI_sL, aI_sA, aI_sM, aL_sI, aL_sL, aL_sA, aL_sM]; try dsimp only
          refine ⟨fun h2 => ?_, fun h2 => ?_⟩
          · exact hW _ 67 [(0, .ref 1000), (1, .int x1), (2, .int x2), (3, .int x3), (4, .int x4), (5, .int s0)] _ _ _ (by simp [rdl, rky, Value.category]) ((ih m1 hm1).2.2.2.2.2.2.1 x1 x2 x3 x4 s0 _ hz)
          · exact hW _ 58 [(0, .ref 1000), (1, .int x1), (2, .int x2), (3, .int x3), (4, .int x4), (5, .int s0)] _ _ _ (by simp [rdl, rky, Value.category]) ((ih m1 hm1).2.2.2.2.2.1 x1 x2 x3 x4 s0 _ hz)
        · intro x1 x2 x3 x4 x5 Y hz
          refine hB _ _ _ _ _ (fun m1 hm1 => ?_)
          dsimp only [ugo, uwp, ust, uct, rfd, Bbinary, Bbinary_58, Nat.beq, lv_args, rlk, rs1, rs2, rdl, rky, rcd, rno, rsw, Value.category, List.filter, List.take, List.drop, List.reverse, List.reverseAux, List.cons_append, List.nil_append, Option.toList, Int.toNat, Int.reduceToNat, if_pos, if_neg, reduceIte, ↓reduceIte, Nat.reduceAdd, Nat.reduceEqDiff, Nat.reduceBEq, beq_self_eq_true, Bool.not_true, Bool.not_false, Bool.and_true, Bool.and_false, Bool.true_and, Bool.false_and, gI_sI, gI_sL, gI_sA, gI_sM, gL_sI, gL_sL, gL_sA, gL_sM, aI_sI, aI_sL, aI_sA, aI_sM, aL_sI, aL_sL, aL_sA, aL_sM]; try dsimp only
          refine ⟨trivial, fun w2 τ2 hq2 => ?_⟩
          obtain ⟨rfl, b2, rfl, hb2⟩ := hq2 trivial
          dsimp only [Option.toList, List.cons_append, List.nil_append, Nat.beq, gI_sI, gI_sL, gI_sA, gI_sM, gL_sI, gL_sL, gL_sA, gL_sM, aI_sI, aI_sL, aI_sA, aI_sM, aL_sI, aL_sL, aL_sA, aL_sM]
          refine ⟨fun h3 => ?_, fun h3 => ?_⟩
          · exact hW _ 71 [(0, .ref 1000), (1, .int x1), (2, .int x2), (3, .int x3), (4, .int x4), (5, .int x5)] _ _ _ (by simp [rdl, rky, Value.category]) ((ih m1 hm1).2.2.2.2.2.2.2.1 x1 x2 x3 x4 x5 _ hz)
          · exact hW _ 67 [(0, .ref 1000), (1, .int x1), (2, .int x2), (3, .int x3), (4, .int x4), (5, .int x5)] _ _ _ (by simp [rdl, rky, Value.category]) ((ih m1 hm1).2.2.2.2.2.2.1 x1 x2 x3 x4 x5 _ hz)
        · intro x1 x2 x3 x4 x5 Y hz
          refine hB _ _ _ _ _ (fun m1 hm1 => ?_)
          dsimp only [ugo, uwp, ust, uct, rfd, Bbinary, Bbinary_67, Nat.beq, lv_args, rlk, rs1, rs2, rdl, rky, rcd, rno, rsw, Value.category, List.filter, List.take, List.drop, List.reverse, List.reverseAux, List.cons_append, List.nil_append, Option.toList, Int.toNat, Int.reduceToNat, if_pos, if_neg, reduceIte, ↓reduceIte, Nat.reduceAdd, Nat.reduceEqDiff, Nat.reduceBEq, beq_self_eq_true, Bool.not_true, Bool.not_false, Bool.and_true, Bool.and_false, Bool.true_and, Bool.false_and, gI_sI, gI_sL, gI_sA, gI_sM, gL_sI, gL_sL, gL_sA, gL_sM, aI_sI, aI_sL, aI_sA, aI_sM, aL_sI, aL_sL, aL_sA, aL_sM, oi_1]; try dsimp only
          exact hW _ 72 [(0, .ref 1000), (1, .int x1), (2, .int x2), (3, .int x3), (4, .int x4), (5, .int x5)] _ _ _ (by simp [rdl, rky, Value.category]) ((ih m1 hm1).2.2.2.2.2.2.2.2.1 x1 x2 x3 x4 x5 1 _ hz)
        · intro x1 x2 x3 x4 x5 Y hz
          refine hB _ _ _ _ _ (fun m1 hm1 => ?_)
          dsimp only [ugo, uwp, ust, uct, rfd, Bbinary, Bbinary_71, Nat.beq, lv_args, rlk, rs1, rs2, rdl, rky, rcd, rno, rsw, Value.category, List.filter, List.take, List.drop, List.reverse, List.reverseAux, List.cons_append, List.nil_append, Option.toList, Int.toNat, Int.reduceToNat, if_pos, if_neg, reduceIte, ↓reduceIte, Nat.reduceAdd, Nat.reduceEqDiff, Nat.reduceBEq, beq_self_eq_true, Bool.not_true, Bool.not_false, Bool.and_true, Bool.and_false, Bool.true_and, Bool.false_and, gI_sI, gI_sL, gI_sA, gI_sM, gL_sI, gL_sL, gL_sA, gL_sM, aI_sI, aI_sL, aI_sA, aI_sM, aL_sI, aL_sL, aL_sA, aL_sM, oi_0]; try dsimp only
          exact hW _ 72 [(0, .ref 1000), (1, .int x1), (2, .int x2), (3, .int x3), (4, .int x4), (5, .int x5)] _ _ _ (by simp [rdl, rky, Value.category]) ((ih m1 hm1).2.2.2.2.2.2.2.2.1 x1 x2 x3 x4 x5 0 _ hz)
        · intro x1 x2 x3 x4 x5 s0 Y hz
          refine hB _ _ _ _ _ (fun m1 hm1 => ?_)
          dsimp only [ugo, uwp, ust, uct, rfd, Bbinary, Bbinary_72, Nat.beq, lv_args, rlk, rs1, rs2, rdl, rky, rcd, rno, rsw, Value.category, List.filter, List.take, List.drop, List.reverse, List.reverseAux, List.cons_append, List.nil_append, Option.toList, Int.toNat, Int.reduceToNat, if_pos, if_neg, reduceIte, ↓reduceIte, Nat.reduceAdd, Nat.reduceEqDiff, Nat.reduceBEq, beq_self_eq_true, Bool.not_true, Bool.not_false, Bool.and_true, Bool.and_false, Bool.true_and, Bool.false_and, gI_sI, gI_sL, gI_sA, gI_sM, gL_sI, gL_sL, gL_sA, gL_sM, aI_sI, aI_sL, aI_sA, aI_sM, aL_sI, aL_sL, aL_sA, aL_sM]; try dsimp only
          refine ⟨trivial, fun w2 τ2 hq2 => ?_⟩
          obtain ⟨rfl, b2, rfl, hb2⟩ := hq2 trivial
          dsimp only [Option.toList, List.cons_append, List.nil_append, Nat.beq, gI_sI, gI_sL, gI_sA, gI_sM, gL_sI, gL_sL, gL_sA, gL_sM, aI_sI, aI_sL, aI_sA, aI_sM, aL_sI, aL_sL, aL_sA, aL_sM]
          refine ⟨fun h3 => ?_, fun h3 => ?_⟩
          · exact hW _ 90 [(0, .ref 1000), (1, .int x1), (2, .int x2), (3, .int x3), (4, .int x4), (5, .int x5), (6, .int s0)] _ _ _ (by simp [rdl, rky, Value.category]) ((ih m1 hm1).2.2.2.2.2.2.2.2.2.2.1 x1 x2 x3 x4 x5 s0 _ hz)
          · exact hW _ 82 [(0, .ref 1000), (1, .int x1), (2, .int x2), (3, .int x3), (4, .int x4), (5, .int x5), (6, .int s0)] _ _ _ (by simp [rdl, rky, Value.category]) ((ih m1 hm1).2.2.2.2.2.2.2.2.2.1 x1 x2 x3 x4 x5 s0 _ hz)
        · intro x1 x2 x3 x4 x5 x6 Y hz
          refine hB _ _ _ _ _ (fun m1 hm1 => ?_)
          dsimp only [ugo, uwp, ust, uct, rfd, Bbinary, Bbinary_82, Nat.beq, lv_args, rlk, rs1, rs2, rdl, rky, rcd, rno, rsw, Value.category, List.filter, List.take, List.drop, List.reverse, List.reverseAux, List.cons_append, List.nil_append, Option.toList, Int.toNat, Int.reduceToNat, if_pos, if_neg, reduceIte, ↓reduceIte, Nat.reduceAdd, Nat.reduceEqDiff, Nat.reduceBEq, beq_self_eq_true, Bool.not_true, Bool.not_false, Bool.and_true, Bool.and_false, Bool.true_and, Bool.false_and, gI_sI, gI_sL, gI_sA, gI_sM, gL_sI, gL_sL, gL_sA, gL_sM, aI_sI, aI_sL, aI_sA, aI_sM, aL_sI, aL_sL, aL_sA, aL_sM]; try dsimp only
          refine ⟨trivial, fun w2 τ2 hq2 => ?_⟩
          obtain ⟨rfl, b2, rfl, hb2⟩ := hq2 trivial
          dsimp only [Option.toList, List.cons_append, List.nil_append, Nat.beq, gI_sI, gI_sL, gI_sA, gI_sM, gL_sI, gL_sL, gL_sA, gL_sM, aI_sI, aI_sL, aI_sA, aI_sM, aL_sI, aL_sL, aL_sA, aL_sM]
          refine ⟨fun h3 => ?_, fun h3 => ?_⟩
          · exact hW _ 128 [(0, .ref 1000), (1, .int x1), (2, .int x2), (3, .int x3), (4, .int x4), (5, .int x5), (6, .int x6)] _ _ _ (by simp [rdl, rky, Value.category]) ((ih m1 hm1).2.2.2.2.2.2.2.2.2.2.2.2.2.2.2.1 x1 x2 x3 x4 x5 x6 _ hz)
          · exact hW _ 90 [(0, .ref 1000), (1, .int x1), (2, .int x2), (3, .int x3), (4, .int x4), (5, .int x5), (6, .int x6)] _ _ _ (by simp [rdl, rky, Value.category]) ((ih m1 hm1).2.2.2.2.2.2.2.2.2.2.1 x1 x2 x3 x4 x5 x6 _ hz)
        · intro x1 x2 x3 x4 x5 x6 Y hz
          refine hB _ _ _ _ _ (fun m1 hm1 => ?_)
          dsimp only [ugo, uwp, ust, uct, rfd, Bbinary, Bbinary_90, Nat.beq, lv_args, rlk, rs1, rs2, rdl, rky, rcd, rno, rsw, Value.category, List.filter, List.take, List.drop, List.reverse, List.reverseAux, List.cons_append, List.nil_append, Option.toList, Int.toNat, Int.reduceToNat, if_pos, if_neg, reduceIte, ↓reduceIte, Nat.reduceAdd, Nat.reduceEqDiff, Nat.reduceBEq, beq_self_eq_true, Bool.not_true, Bool.not_false, Bool.and_true, Bool.and_false, Bool.true_and, Bool.false_and, gI_sI, gI_sL, gI_sA, gI_sM, gL_sI, gL_sL, gL_sA, gL_sM, aI_sI, aI_sL, aI_sA, aI_sM, aL_sI, aL_sL, aL_sA, aL_sM]; try dsimp only
          refine ⟨trivial, fun w2 τ2 hq2 => ?_⟩
          obtain ⟨rfl, b2, rfl, hb2⟩ := hq2 trivial
          dsimp only [Option.toList, List.cons_append, List.nil_append, Nat.beq, gI_sI, gI_sL, gI_sA, gI_sM, gL_sI, gL_sL, gL_sA, gL_sM, aI_sI, aI_sL, aI_sA, aI_sM, aL_sI, aL_sL, aL_sA, aL_sM]
          refine ⟨fun h3 => ?_, fun h3 => ?_⟩
          · exact hW _ 106 [(0, .ref 1000), (1, .int x1), (2, .int x2), (3, .int x3), (4, .int x4), (5, .int x5), (6, .int x6)] _ _ _ (by simp [rdl, rky, Value.category]) ((ih m1 hm1).2.2.2.2.2.2.2.2.2.2.2.2.1 x1 x2 x3 x4 x5 x6 _ hz)
          · exact hW _ 98 [(0, .ref 1000), (1, .int x1), (2, .int x2), (3, .int x3), (4, .int x4), (5, .int x5), (6, .int x6)] _ _ _ (by simp [rdl, rky, Value.category]) ((ih m1 hm1).2.2.2.2.2.2.2.2.2.2.2.1 x1 x2 x3 x4 x5 x6 _ hz)
        · intro x1 x2 x3 x4 x5 x6 Y hz
          refine hB _ _ _ _ _ (fun m1 hm1 => ?_)
          dsimp only [ugo, uwp, ust, uct, rfd, Bbinary, Bbinary_98, Nat.beq, lv_args, rlk, rs1, rs2, rdl, rky, rcd, rno, rsw, Value.category, List.filter, List.take, List.drop, List.reverse, List.reverseAux, List.cons_append, List.nil_append, Option.toList, Int.toNat, Int.reduceToNat, if_pos, if_neg, reduceIte, ↓reduceIte, Nat.reduceAdd, Nat.reduceEqDiff, Nat.reduceBEq, beq_self_eq_true, Bool.not_true, Bool.not_false, Bool.and_true, Bool.and_false, Bool.true_and, Bool.false_and, gI_sI, gI_sL, gI_sA, gI_sM, gL_sI, gL_sL, gL_sA, gL_sM, aI_sI, aI_sL, aI_sA, aI_sM, aL_sI, aL_sL, aL_sA, aL_sM]; try dsimp only
          refine ⟨trivial, fun w2 τ2 hq2 => ?_⟩
          obtain ⟨hA2, b2, rfl, hb2⟩ := hq2 trivial
          have hz2 := hA2 hz
          dsimp only [Option.toList, List.cons_append, List.nil_append, Nat.beq, gI_sI, gI_sL, gI_sA, gI_sM, gL_sI, gL_sL, gL_sA, gL_sM, aI_sI, aI_sL, aI_sA, aI_sM, aL_sI, aL_sL, aL_sA, aL_sM]
          exact hW _ 106 [(0, .ref 1000), (1, .int x1), (2, .int x2), (3, .int x3), (4, .int x4), (5, .int x5), (6, .int x6)] _ _ _ (by simp [rdl, rky, Value.category]) ((ih m1 hm1).2.2.2.2.2.2.2.2.2.2.2.2.1 x1 x2 x3 x4 x5 x6 _ hz2)
        · intro x1 x2 x3 x4 x5 x6 Y hz
          refine hB _ _ _ _ _ (fun m1 hm1 => ?_)
          dsimp only [ugo, uwp, ust, uct, rfd, Bbinary, Bbinary_106, Nat.beq, lv_args, rlk, rs1, rs2, rdl, rky, rcd, rno, rsw, Value.category, List.filter, List.take, List.drop, List.reverse, List.reverseAux, List.cons_append, List.nil_append, Option.toList, Int.toNat, Int.reduceToNat, if_pos, if_neg, reduceIte, ↓reduceIte, Nat.reduceAdd, Nat.reduceEqDiff, Nat.reduceBEq, beq_self_eq_true, Bool.not_true, Bool.not_false, Bool.and_true, Bool.and_false, Bool.true_and, Bool.false_and, gI_sI, gI_sL, gI_sA, gI_sM, gL_sI, gL_sL, gL_sA, gL_sM, aI_sI, aI_sL, aI_sA, aI_sM, aL_sI, aL_sL, aL_sA, aL_sM]; try dsimp only
          refine ⟨trivial, fun w2 τ2 hq2 => ?_⟩
          obtain ⟨rfl, b2, rfl, hb2⟩ := hq2 trivial
          dsimp only [Option.toList, List.cons_append, List.nil_append, Nat.beq, gI_sI, gI_sL, gI_sA, gI_sM, gL_sI, gL_sL, gL_sA, gL_sM, aI_sI, aI_sL, aI_sA, aI_sM, aL_sI, aL_sL, aL_sA, aL_sM]
          refine ⟨fun h3 => ?_, fun h3 => ?_⟩
          · exact hW _ 122 [(0, .ref 1000), (1, .int x1), (2, .int x2), (3, .int x3), (4, .int x4), (5, .int x5), (6, .int x6)] _ _ _ (by simp [rdl, rky, Value.category]) ((ih m1 hm1).2.2.2.2.2.2.2.2.2.2.2.2.2.2.1 x1 x2 x3 x4 x5 x6 _ hz)
          · exact hW _ 114 [(0, .ref 1000), (1, .int x1), (2, .int x2), (3, .int x3), (4, .int x4), (5, .int x5), (6, .int x6)] _ _ _ (by simp [rdl, rky, Value.category]) ((ih m1 hm1).2.2.2.2.2.2.2.2.2.2.2.2.2.1 x1 x2 x3 x4 x5 x6 _ hz)
        · intro x1 x2 x3 x4 x5 x6 Y hz
          refine hB _ _ _ _ _ (fun m1 hm1 => ?_)
          dsimp only [ugo, uwp, ust, uct, rfd, Bbinary, Bbinary_114, Nat.beq, lv_args, rlk, rs1, rs2, rdl, rky, rcd, rno, rsw, Value.category, List.filter, List.take, List.drop, List.reverse, List.reverseAux, List.cons_append, List.nil_append, Option.toList, Int.toNat, Int.reduceToNat, if_pos, if_neg, reduceIte, ↓reduceIte, Nat.reduceAdd, Nat.reduceEqDiff, Nat.reduceBEq, beq_self_eq_true, Bool.not_true, Bool.not_false, Bool.and_true, Bool.and_false, Bool.true_and, Bool.false_and, gI_sI, gI_sL, gI_sA, gI_sM, gL_sI, gL_sL, gL_sA, gL_sM, aI_sI, aI_sL, aI_sA, aI_sM, aL_sI, aL_sL, aL_sA, aL_sM]; try dsimp only
          refine ⟨trivial, fun w2 τ2 hq2 => ?_⟩
          obtain ⟨hA2, b2, rfl, hb2⟩ := hq2 trivial
          have hz2 := hA2 hz
          dsimp only [Option.toList, List.cons_append, List.nil_append, Nat.beq, gI_sI, gI_sL, gI_sA, gI_sM, gL_sI, gL_sL, gL_sA, gL_sM, aI_sI, aI_sL, aI_sA, aI_sM, aL_sI, aL_sL, aL_sA, aL_sM]
          exact hW _ 122 [(0, .ref 1000), (1, .int x1), (2, .int x2), (3, .int x3), (4, .int x4), (5, .int x5), (6, .int x6)] _ _ _ (by simp [rdl, rky, Value.category]) ((ih m1 hm1).2.2.2.2.2.2.2.2.2.2.2.2.2.2.1 x1 x2 x3 x4 x5 x6 _ hz2)
        · intro x1 x2 x3 x4 x5 x6 Y hz
          refine hB _ _ _ _ _ (fun m1 hm1 => ?_)
          dsimp only [ugo, uwp, ust, uct, rfd, Bbinary, Bbinary_122, Nat.beq, lv_args, rlk, rs1, rs2, rdl, rky, rcd, rno, rsw, Value.category, List.filter, List.take, List.drop, List.reverse, List.reverseAux, List.cons_append, List.nil_append, Option.toList, Int.toNat, Int.reduceToNat, if_pos, if_neg, reduceIte, ↓reduceIte, Nat.reduceAdd, Nat.reduceEqDiff, Nat.reduceBEq, beq_self_eq_true, Bool.not_true, Bool.not_false, Bool.and_true, Bool.and_false, Bool.true_and, Bool.false_and, gI_sI, gI_sL, gI_sA, gI_sM, gL_sI, gL_sL, gL_sA, gL_sM, aI_sI, aI_sL, aI_sA, aI_sM, aL_sI, aL_sL, aL_sA, aL_sM]; try dsimp only
          refine ⟨trivial, fun w2 τ2 hq2 => ?_⟩
          obtain ⟨rfl, rfl⟩ := hq2 trivial
          dsimp only [Option.toList, List.cons_append, List.nil_append, Nat.beq, gI_sI, gI_sL, gI_sA, gI_sM, gL_sI, gL_sL, gL_sA, gL_sM, aI_sI, aI_sL, aI_sA, aI_sM, aL_sI, aL_sL, aL_sA, aL_sM]
          unfold Qv_binaryB
          try dsimp only
          exact ⟨rfl, Or.inl ⟨hnn, hz⟩⟩
        · intro x1 x2 x3 x4 x5 x6 Y hz
          refine hB _ _ _ _ _ (fun m1 hm1 => ?_)
          dsimp only [ugo, uwp, ust, uct, rfd, Bbinary, Bbinary_128, Nat.beq, lv_args, rlk, rs1, rs2, rdl, rky, rcd, rno, rsw, Value.category, List.filter, List.take, List.drop, List.reverse, List.reverseAux, List.cons_append, List.nil_append, Option.toList, Int.toNat, Int.reduceToNat, if_pos, if_neg, reduceIte, ↓reduceIte, Nat.reduceAdd, Nat.reduceEqDiff, Nat.reduceBEq, beq_self_eq_true, Bool.not_true, Bool.not_false, Bool.and_true, Bool.and_false, Bool.true_and, Bool.false_and, gI_sI, gI_sL, gI_sA, gI_sM, gL_sI, gL_sL, gL_sA, gL_sM, aI_sI, aI_sL, aI_sA, aI_sM, aL_sI, aL_sL, aL_sA, aL_sM]; try dsimp only
          refine ⟨trivial, fun w2 τ2 hq2 => ?_⟩
          obtain ⟨hA2, b2, rfl, hb2⟩ := hq2 trivial
          have hz2 := hA2 hz
          dsimp only [Option.toList, List.cons_append, List.nil_append, Nat.beq, gI_sI, gI_sL, gI_sA, gI_sM, gL_sI, gL_sL, gL_sA, gL_sM, aI_sI, aI_sL, aI_sA, aI_sM, aL_sI, aL_sL, aL_sA, aL_sM]
          refine ⟨fun h3 => ?_, fun h3 => ?_⟩
          · exact hW _ 156 [(0, .ref 1000), (1, .int x1), (2, .int x2), (3, .int x3), (4, .int x4), (5, .int x5), (6, .int x6)] _ _ _ (by simp [rdl, rky, Value.category]) ((ih m1 hm1).2.2.2.2.2.2.2.2.2.2.2.2.2.2.2.2.2.2.2.1 x1 x2 x3 x4 x5 x6 _ hz2)
          · exact hW _ 138 [(0, .ref 1000), (1, .int x1), (2, .int x2), (3, .int x3), (4, .int x4), (5, .int x5), (6, .int x6)] _ _ _ (by simp [rdl, rky, Value.category]) ((ih m1 hm1).2.2.2.2.2.2.2.2.2.2.2.2.2.2.2.2.1 x1 x2 x3 x4 x5 x6 _ hz2)
        · intro x1 x2 x3 x4 x5 x6 Y hz
          refine hB _ _ _ _ _ (fun m1 hm1 => ?_)
          dsimp only [ugo, uwp, ust, uct, rfd, Bbinary, Bbinary_138, Nat.beq, lv_args, rlk, rs1, rs2, rdl, rky, rcd, rno, rsw, Value.category, List.filter, List.take, List.drop, List.reverse, List.reverseAux, List.cons_append, List.nil_append, Option.toList, Int.toNat, Int.reduceToNat, if_pos, if_neg, reduceIte, ↓reduceIte, Nat.reduceAdd, Nat.reduceEqDiff, Nat.reduceBEq, beq_self_eq_true, Bool.not_true, Bool.not_false, Bool.and_true, Bool.and_false, Bool.true_and, Bool.false_and, gI_sI, gI_sL, gI_sA, gI_sM, gL_sI, gL_sL, gL_sA, gL_sM, aI_sI, aI_sL, aI_sA, aI_sM, aL_sI, aL_sL, aL_sA, aL_sM]; try dsimp only
          refine ⟨fun h2 => ?_, fun h2 => ?_⟩
          · exact hW _ 150 [(0, .ref 1000), (1, .int x1), (2, .int x2), (3, .int x3), (4, .int x4), (5, .int x5), (6, .int x6)] _ _ _ (by simp [rdl, rky, Value.category]) ((ih m1 hm1).2.2.2.2.2.2.2.2.2.2.2.2.2.2.2.2.2.2.1 x1 x2 x3 x4 x5 x6 _ hz)
          · exact hW _ 143 [(0, .ref 1000), (1, .int x1), (2, .int x2), (3, .int x3), (4, .int x4), (5, .int x5), (6, .int x6)] _ _ _ (by simp [rdl, rky, Value.category]) ((ih m1 hm1).2.2.2.2.2.2.2.2.2.2.2.2.2.2.2.2.2.1 x1 x2 x3 x4 x5 x6 _ hz)
        · intro x1 x2 x3 x4 x5 x6 Y hz
          refine hB _ _ _ _ _ (fun m1 hm1 => ?_)
          dsimp only [ugo, uwp, ust, uct, rfd, Bbinary, Bbinary_143, Nat.beq, lv_args, rlk, rs1, rs2, rdl, rky, rcd, rno, rsw, Value.category, List.filter, List.take, List.drop, List.reverse, List.reverseAux, List.cons_append, List.nil_append, Option.toList, Int.toNat, Int.reduceToNat, if_pos, if_neg, reduceIte, ↓reduceIte, Nat.reduceAdd, Nat.reduceEqDiff, Nat.reduceBEq, beq_self_eq_true, Bool.not_true, Bool.not_false, Bool.and_true, Bool.and_false, Bool.true_and, Bool.false_and, gI_sI, gI_sL, gI_sA, gI_sM, gL_sI, gL_sL, gL_sA, gL_sM, aI_sI, aI_sL, aI_sA, aI_sM, aL_sI, aL_sL, aL_sA, aL_sM, oi_0]; try dsimp only
          refine ⟨trivial, fun w2 τ2 hq2 => ?_⟩
          obtain ⟨hA2, b2, rfl, hb2⟩ := hq2 trivial
          have hz2 := hA2 hz
          dsimp only [Option.toList, List.cons_append, List.nil_append, Nat.beq, gI_sI, gI_sL, gI_sA, gI_sM, gL_sI, gL_sL, gL_sA, gL_sM, aI_sI, aI_sL, aI_sA, aI_sM, aL_sI, aL_sL, aL_sA, aL_sM]
          exact hW _ 150 [(0, .ref 1000), (1, .int x1), (2, .int x2), (3, .int x3), (4, .int x4), (5, .int x5), (6, .int x6)] _ _ _ (by simp [rdl, rky, Value.category]) ((ih m1 hm1).2.2.2.2.2.2.2.2.2.2.2.2.2.2.2.2.2.2.1 x1 x2 x3 x4 x5 x6 _ hz2)
        · intro x1 x2 x3 x4 x5 x6 Y hz
          refine hB _ _ _ _ _ (fun m1 hm1 => ?_)
          dsimp only [ugo, uwp, ust, uct, rfd, Bbinary, Bbinary_150, Nat.beq, lv_args, rlk, rs1, rs2, rdl, rky, rcd, rno, rsw, Value.category, List.filter, List.take, List.drop, List.reverse, List.reverseAux, List.cons_append, List.nil_append, Option.toList, Int.toNat, Int.reduceToNat, if_pos, if_neg, reduceIte, ↓reduceIte, Nat.reduceAdd, Nat.reduceEqDiff, Nat.reduceBEq, beq_self_eq_true, Bool.not_true, Bool.not_false, Bool.and_true, Bool.and_false, Bool.true_and, Bool.false_and, gI_sI, gI_sL, gI_sA, gI_sM, gL_sI, gL_sL, gL_sA, gL_sM, aI_sI, aI_sL, aI_sA, aI_sM, aL_sI, aL_sL, aL_sA, aL_sM]; try dsimp only
          refine ⟨trivial, fun w2 τ2 hq2 => ?_⟩
          obtain ⟨rfl, rfl⟩ := hq2 trivial
          dsimp only [Option.toList, List.cons_append, List.nil_append, Nat.beq, gI_sI, gI_sL, gI_sA, gI_sM, gL_sI, gL_sL, gL_sA, gL_sM, aI_sI, aI_sL, aI_sA, aI_sM, aL_sI, aL_sL, aL_sA, aL_sM]
          unfold Qv_binaryB
          try dsimp only
          exact ⟨rfl, Or.inl ⟨hnn, hz⟩⟩
        · intro x1 x2 x3 x4 x5 x6 Y hz
          refine hB _ _ _ _ _ (fun m1 hm1 => ?_)
          dsimp only [ugo, uwp, ust, uct, rfd, Bbinary, Bbinary_156, Nat.beq, lv_args, rlk, rs1, rs2, rdl, rky, rcd, rno, rsw, Value.category, List.filter, List.take, List.drop, List.reverse, List.reverseAux, List.cons_append, List.nil_append, Option.toList, Int.toNat, Int.reduceToNat, if_pos, if_neg, reduceIte, ↓reduceIte, Nat.reduceAdd, Nat.reduceEqDiff, Nat.reduceBEq, beq_self_eq_true, Bool.not_true, Bool.not_false, Bool.and_true, Bool.and_false, Bool.true_and, Bool.false_and, gI_sI, gI_sL, gI_sA, gI_sM, gL_sI, gL_sL, gL_sA, gL_sM, aI_sI, aI_sL, aI_sA, aI_sM, aL_sI, aL_sL, aL_sA, aL_sM]; try dsimp only
          refine ⟨fun h2 => ?_, fun h2 => ?_⟩
          · exact hW _ 186 [(0, .ref 1000), (1, .int x1), (2, .int x2), (3, .int x3), (4, .int x4), (5, .int x5), (6, .int x6)] _ _ _ (by simp [rdl, rky, Value.category]) ((ih m1 hm1).2.2.2.2.2.2.2.2.2.2.2.2.2.2.2.2.2.2.2.2.2.2.2.2.2.1 x1 x2 x3 x4 x5 x6 _ hz)
          · exact hW _ 161 [(0, .ref 1000), (1, .int x1), (2, .int x2), (3, .int x3), (4, .int x4), (5, .int x5), (6, .int x6)] _ _ _ (by simp [rdl, rky, Value.category]) ((ih m1 hm1).2.2.2.2.2.2.2.2.2.2.2.2.2.2.2.2.2.2.2.2.1 x1 x2 x3 x4 x5 x6 _ hz)
        · intro x1 x2 x3 x4 x5 x6 Y hz
          refine hB _ _ _ _ _ (fun m1 hm1 => ?_)
          dsimp only [ugo, uwp, ust, uct, rfd, Bbinary, Bbinary_161, Nat.beq, lv_args, rlk, rs1, rs2, rdl, rky, rcd, rno, rsw, Value.category, List.filter, List.take, List.drop, List.reverse, List.reverseAux, List.cons_append, List.nil_append, Option.toList, Int.toNat, Int.reduceToNat, if_pos, if_neg, reduceIte, ↓reduceIte, Nat.reduceAdd, Nat.reduceEqDiff, Nat.reduceBEq, beq_self_eq_true, Bool.not_true, Bool.not_false, Bool.and_true, Bool.and_false, Bool.true_and, Bool.false_and, gI_sI, gI_sL, gI_sA, gI_sM, gL_sI, gL_sL, gL_sA, gL_sM, aI_sI, aI_sL, aI_sA, aI_sM, aL_sI, aL_sL, aL_sA, aL_sM]; try dsimp only
          intro p2
          refine ⟨fun h3 => ?_, fun h3 => ?_⟩
          · exact hW _ 176 [(0, .ref 1000), (1, .int x1), (2, .int x2), (3, .int x3), (4, .int x4), (5, .int x5), (6, .int x6)] _ _ _ (by simp [rdl, rky, Value.category]) ((ih m1 hm1).2.2.2.2.2.2.2.2.2.2.2.2.2.2.2.2.2.2.2.2.2.2.1 x1 x2 x3 x4 x5 x6 x3 _ hz)
          · exact hW _ 172 [(0, .ref 1000), (1, .int x1), (2, .int x2), (3, .int x3), (4, .int x4), (5, .int x5), (6, .int x6)] _ _ _ (by simp [rdl, rky, Value.category]) ((ih m1 hm1).2.2.2.2.2.2.2.2.2.2.2.2.2.2.2.2.2.2.2.2.2.1 x1 x2 x3 x4 x5 x6 x3 _ hz)
        · intro x1 x2 x3 x4 x5 x6 s0 Y hz
          refine hB _ _ _ _ _ (fun m1 hm1 => ?_)
          dsimp only [ugo, uwp, ust, uct, rfd, Bbinary, Bbinary_172, Nat.beq, lv_args, rlk, rs1, rs2, rdl, rky, rcd, rno, rsw, Value.category, List.filter, List.take, List.drop, List.reverse, List.reverseAux, List.cons_append, List.nil_append, Option.toList, Int.toNat, Int.reduceToNat, if_pos, if_neg, reduceIte, ↓reduceIte, Nat.reduceAdd, Nat.reduceEqDiff, Nat.reduceBEq, beq_self_eq_true, Bool.not_true, Bool.not_false, Bool.and_true, Bool.and_false, Bool.true_and, Bool.false_and, gI_sI, gI_sL, gI_sA, gI_sM, gL_sI, gL_sL, gL_sA, gL_sM, aI_sI, aI_sL, aI_sA, aI_sM, aL_sI, aL_sL, aL_sA, aL_sM, oi_0]; try dsimp only
          exact hW _ 177 [(0, .ref 1000), (1, .int x1), (2, .int x2), (3, .int x3), (4, .int x4), (5, .int x5), (6, .int x6)] _ _ _ (by simp [rdl, rky, Value.category]) ((ih m1 hm1).2.2.2.2.2.2.2.2.2.2.2.2.2.2.2.2.2.2.2.2.2.2.2.1 x1 x2 x3 x4 x5 x6 0 s0 _ hz)
        · intro x1 x2 x3 x4 x5 x6 s0 Y hz
          refine hB _ _ _ _ _ (fun m1 hm1 => ?_)
          dsimp only [ugo, uwp, ust, uct, rfd, Bbinary, Bbinary_176, Nat.beq, lv_args, rlk, rs1, rs2, rdl, rky, rcd, rno, rsw, Value.category, List.filter, List.take, List.drop, List.reverse, List.reverseAux, List.cons_append, List.nil_append, Option.toList, Int.toNat, Int.reduceToNat, if_pos, if_neg, reduceIte, ↓reduceIte, Nat.reduceAdd, Nat.reduceEqDiff, Nat.reduceBEq, beq_self_eq_true, Bool.not_true, Bool.not_false, Bool.and_true, Bool.and_false, Bool.true_and, Bool.false_and, gI_sI, gI_sL, gI_sA, gI_sM, gL_sI, gL_sL, gL_sA, gL_sM, aI_sI, aI_sL, aI_sA, aI_sM, aL_sI, aL_sL, aL_sA, aL_sM, oi_1]; try dsimp only
          exact hW _ 177 [(0, .ref 1000), (1, .int x1), (2, .int x2), (3, .int x3), (4, .int x4), (5, .int x5), (6, .int x6)] _ _ _ (by simp [rdl, rky, Value.category]) ((ih m1 hm1).2.2.2.2.2.2.2.2.2.2.2.2.2.2.2.2.2.2.2.2.2.2.2.1 x1 x2 x3 x4 x5 x6 1 s0 _ hz)
        · intro x1 x2 x3 x4 x5 x6 s0 s1 Y hz
          refine hB _ _ _ _ _ (fun m1 hm1 => ?_)
          dsimp only [ugo, uwp, ust, uct, rfd, Bbinary, Bbinary_177, Nat.beq, lv_args, rlk, rs1, rs2, rdl, rky, rcd, rno, rsw, Value.category, List.filter, List.take, List.drop, List.reverse, List.reverseAux, List.cons_append, List.nil_append, Option.toList, Int.toNat, Int.reduceToNat, if_pos, if_neg, reduceIte, ↓reduceIte, Nat.reduceAdd, Nat.reduceEqDiff, Nat.reduceBEq, beq_self_eq_true, Bool.not_true, Bool.not_false, Bool.and_true, Bool.and_false, Bool.true_and, Bool.false_and, gI_sI, gI_sL, gI_sA, gI_sM, gL_sI, gL_sL, gL_sA, gL_sM, aI_sI, aI_sL, aI_sA, aI_sM, aL_sI, aL_sL, aL_sA, aL_sM]; try dsimp only
          refine ⟨trivial, fun w2 τ2 hq2 => ?_⟩
          obtain ⟨hA2, b2, rfl, hb2⟩ := hq2 trivial
          have hz2 := hA2 hz
          dsimp only [Option.toList, List.cons_append, List.nil_append, Nat.beq, gI_sI, gI_sL, gI_sA, gI_sM, gL_sI, gL_sL, gL_sA, gL_sM, aI_sI, aI_sL, aI_sA, aI_sM, aL_sI, aL_sL, aL_sA, aL_sM]
          refine ⟨fun h3 => ?_, fun h3 => ?_⟩
          · exact hW _ 201 [(0, .ref 1000), (1, .int x1), (2, .int x2), (3, .int x3), (4, .int x4), (5, .int x5), (6, .int x6)] _ _ _ (by simp [rdl, rky, Value.category]) ((ih m1 hm1).2.2.2.2.2.2.2.2.2.2.2.2.2.2.2.2.2.2.2.2.2.2.2.2.2.2.2.1 x1 x2 x3 x4 x5 x6 _ hz2)
          · exact hW _ 183 [(0, .ref 1000), (1, .int x1), (2, .int x2), (3, .int x3), (4, .int x4), (5, .int x5), (6, .int x6)] _ _ _ (by simp [rdl, rky, Value.category]) ((ih m1 hm1).2.2.2.2.2.2.2.2.2.2.2.2.2.2.2.2.2.2.2.2.2.2.2.2.1 x1 x2 x3 x4 x5 x6 _ hz2)
        · intro x1 x2 x3 x4 x5 x6 Y hz
          refine hB _ _ _ _ _ (fun m1 hm1 => ?_)
          dsimp only [ugo, uwp, ust, uct, rfd, Bbinary, Bbinary_183, Nat.beq, lv_args, rlk, rs1, rs2, rdl, rky, rcd, rno, rsw, Value.category, List.filter, List.take, List.drop, List.reverse, List.reverseAux, List.cons_append, List.nil_append, Option.toList, Int.toNat, Int.reduceToNat, if_pos, if_neg, reduceIte, ↓reduceIte, Nat.reduceAdd, Nat.reduceEqDiff, Nat.reduceBEq, beq_self_eq_true, Bool.not_true, Bool.not_false, Bool.and_true, Bool.and_false, Bool.true_and, Bool.false_and, gI_sI, gI_sL, gI_sA, gI_sM, gL_sI, gL_sL, gL_sA, gL_sM, aI_sI, aI_sL, aI_sA, aI_sM, aL_sI, aL_sL, aL_sA, aL_sM]; try dsimp only
          exact hW _ 195 [(0, .ref 1000), (1, .int x1), (2, .int x2), (3, .int x3), (4, .int x4), (5, .int x5), (6, .int x6)] _ _ _ (by simp [rdl, rky, Value.category]) ((ih m1 hm1).2.2.2.2.2.2.2.2.2.2.2.2.2.2.2.2.2.2.2.2.2.2.2.2.2.2.1 x1 x2 x3 x4 x5 x6 _ hz)
        · intro x1 x2 x3 x4 x5 x6 Y hz
          refine hB _ _ _ _ _ (fun m1 hm1 => ?_)
          dsimp only [ugo, uwp, ust, uct, rfd, Bbinary, Bbinary_186, Nat.beq, lv_args, rlk, rs1, rs2, rdl, rky, rcd, rno, rsw, Value.category, List.filter, List.take, List.drop, List.reverse, List.reverseAux, List.cons_append, List.nil_append, Option.toList, Int.toNat, Int.reduceToNat, if_pos, if_neg, reduceIte, ↓reduceIte, Nat.reduceAdd, Nat.reduceEqDiff, Nat.reduceBEq, beq_self_eq_true, Bool.not_true, Bool.not_false, Bool.and_true, Bool.and_false, Bool.true_and, Bool.false_and, gI_sI, gI_sL, gI_sA, gI_sM, gL_sI, gL_sL, gL_sA, gL_sM, aI_sI, aI_sL, aI_sA, aI_sM, aL_sI, aL_sL, aL_sA, aL_sM, oi_0]; try dsimp only
          refine ⟨trivial, fun w2 τ2 hq2 => ?_⟩
          obtain ⟨hA2, b2, rfl, hb2⟩ := hq2 trivial
          have hz2 := hA2 hz
          dsimp only [Option.toList, List.cons_append, List.nil_append, Nat.beq, gI_sI, gI_sL, gI_sA, gI_sM, gL_sI, gL_sL, gL_sA, gL_sM, aI_sI, aI_sL, aI_sA, aI_sM, aL_sI, aL_sL, aL_sA, aL_sM]
          refine ⟨fun h3 => ?_, fun h3 => ?_⟩
          · exact hW _ 201 [(0, .ref 1000), (1, .int x1), (2, .int x2), (3, .int x3), (4, .int x4), (5, .int x5), (6, .int x6)] _ _ _ (by simp [rdl, rky, Value.category]) ((ih m1 hm1).2.2.2.2.2.2.2.2.2.2.2.2.2.2.2.2.2.2.2.2.2.2.2.2.2.2.2.1 x1 x2 x3 x4 x5 x6 _ hz2)
          · exact hW _ 195 [(0, .ref 1000), (1, .int x1), (2, .int x2), (3, .int x3), (4, .int x4), (5, .int x5), (6, .int x6)] _ _ _ (by simp [rdl, rky, Value.category]) ((ih m1 hm1).2.2.2.2.2.2.2.2.2.2.2.2.2.2.2.2.2.2.2.2.2.2.2.2.2.2.1 x1 x2 x3 x4 x5 x6 _ hz2)
        · intro x1 x2 x3 x4 x5 x6 Y hz
          refine hB _ _ _ _ _ (fun m1 hm1 => ?_)
          dsimp only [ugo, uwp, ust, uct, rfd, Bbinary, Bbinary_195, Nat.beq, lv_args, rlk, rs1, rs2, rdl, rky, rcd, rno, rsw, Value.category, List.filter, List.take, List.drop, List.reverse, List.reverseAux, List.cons_append, List.nil_append, Option.toList, Int.toNat, Int.reduceToNat, if_pos, if_neg, reduceIte, ↓reduceIte, Nat.reduceAdd, Nat.reduceEqDiff, Nat.reduceBEq, beq_self_eq_true, Bool.not_true, Bool.not_false, Bool.and_true, Bool.and_false, Bool.true_and, Bool.false_and, gI_sI, gI_sL, gI_sA, gI_sM, gL_sI, gL_sL, gL_sA, gL_sM, aI_sI, aI_sL, aI_sA, aI_sM, aL_sI, aL_sL, aL_sA, aL_sM]; try dsimp only
          refine ⟨trivial, fun w2 τ2 hq2 => ?_⟩
          obtain ⟨rfl, rfl⟩ := hq2 trivial
          dsimp only [Option.toList, List.cons_append, List.nil_append, Nat.beq, gI_sI, gI_sL, gI_sA, gI_sM, gL_sI, gL_sL, gL_sA, gL_sM, aI_sI, aI_sL, aI_sA, aI_sM, aL_sI, aL_sL, aL_sA, aL_sM]
          unfold Qv_binaryB
          try dsimp only
          exact ⟨rfl, Or.inl ⟨hnn, hz⟩⟩
        · intro x1 x2 x3 x4 x5 x6 Y hz
          refine hB _ _ _ _ _ (fun m1 hm1 => ?_)
          dsimp only [ugo, uwp, ust, uct, rfd, Bbinary, Bbinary_201, Nat.beq, lv_args, rlk, rs1, rs2, rdl, rky, rcd, rno, rsw, Value.category, List.filter, List.take, List.drop, List.reverse, List.reverseAux, List.cons_append, List.nil_append, Option.toList, Int.toNat, Int.reduceToNat, if_pos, if_neg, reduceIte, ↓reduceIte, Nat.reduceAdd, Nat.reduceEqDiff, Nat.reduceBEq, beq_self_eq_true, Bool.not_true, Bool.not_false, Bool.and_true, Bool.and_false, Bool.true_and, Bool.false_and, gI_sI, gI_sL, gI_sA, gI_sM, gL_sI, gL_sL, gL_sA, gL_sM, aI_sI, aI_sL, aI_sA, aI_sM, aL_sI, aL_sL, aL_sA, aL_sM]; try dsimp only
          intro p2
          refine ⟨fun h3 => ?_, fun h3 => ?_⟩
          · exact hW _ 214 [(0, .ref 1000), (1, .int x1), (2, .int x2), (3, .int x3), (4, .int x4), (5, .int x5), (6, .int x6)] _ _ _ (by simp [rdl, rky, Value.category]) ((ih m1 hm1).2.2.2.2.2.2.2.2.2.2.2.2.2.2.2.2.2.2.2.2.2.2.2.2.2.2.2.2.2.1 x1 x2 x3 x4 x5 x6 _ hz)
          · exact hW _ 210 [(0, .ref 1000), (1, .int x1), (2, .int x2), (3, .int x3), (4, .int x4), (5, .int x5), (6, .int x6)] _ _ _ (by simp [rdl, rky, Value.category]) ((ih m1 hm1).2.2.2.2.2.2.2.2.2.2.2.2.2.2.2.2.2.2.2.2.2.2.2.2.2.2.2.2.1 x1 x2 x3 x4 x5 x6 _ hz)
        · intro x1 x2 x3 x4 x5 x6 Y hz
          refine hB _ _ _ _ _ (fun m1 hm1 => ?_)
          dsimp only [ugo, uwp, ust, uct, rfd, Bbinary, Bbinary_210, Nat.beq, lv_args, rlk, rs1, rs2, rdl, rky, rcd, rno, rsw, Value.category, List.filter, List.take, List.drop, List.reverse, List.reverseAux, List.cons_append, List.nil_append, Option.toList, Int.toNat, Int.reduceToNat, if_pos, if_neg, reduceIte, ↓reduceIte, Nat.reduceAdd, Nat.reduceEqDiff, Nat.reduceBEq, beq_self_eq_true, Bool.not_true, Bool.not_false, Bool.and_true, Bool.and_false, Bool.true_and, Bool.false_and, gI_sI, gI_sL, gI_sA, gI_sM, gL_sI, gL_sL, gL_sA, gL_sM, aI_sI, aI_sL, aI_sA, aI_sM, aL_sI, aL_sL, aL_sA, aL_sM, oi_0]; try dsimp only
          exact hW _ 261 [(0, .ref 1000), (1, .int x1), (2, .int x2), (3, .int x3), (4, .int x4), (5, .int x5), (6, .int x6)] _ _ _ (by simp [rdl, rky, Value.category]) ((ih m1 hm1).2.2.2.2.2.2.2.2.2.2.2.2.2.2.2.2.2.2.2.2.2.2.2.2.2.2.2.2.2.2.2.2.2.2.2.1 x1 x2 x3 x4 x5 x6 0 _ hz)
        · intro x1 x2 x3 x4 x5 x6 Y hz
          refine hB _ _ _ _ _ (fun m1 hm1 => ?_)
          dsimp only [ugo, uwp, ust, uct, rfd, Bbinary, Bbinary_214, Nat.beq, lv_args, rlk, rs1, rs2, rdl, rky, rcd, rno, rsw, Value.category, List.filter, List.take, List.drop, List.reverse, List.reverseAux, List.cons_append, List.nil_append, Option.toList, Int.toNat, Int.reduceToNat, if_pos, if_neg, reduceIte, ↓reduceIte, Nat.reduceAdd, Nat.reduceEqDiff, Nat.reduceBEq, beq_self_eq_true, Bool.not_true, Bool.not_false, Bool.and_true, Bool.and_false, Bool.true_and, Bool.false_and, gI_sI, gI_sL, gI_sA, gI_sM, gL_sI, gL_sL, gL_sA, gL_sM, aI_sI, aI_sL, aI_sA, aI_sM, aL_sI, aL_sL, aL_sA, aL_sM]; try dsimp only
          refine ⟨trivial, fun w2 τ2 hq2 => ?_⟩
          obtain ⟨rfl, b2, rfl, hb2⟩ := hq2 trivial
          dsimp only [Option.toList, List.cons_append, List.nil_append, Nat.beq, gI_sI, gI_sL, gI_sA, gI_sM, gL_sI, gL_sL, gL_sA, gL_sM, aI_sI, aI_sL, aI_sA, aI_sM, aL_sI, aL_sL, aL_sA, aL_sM]
          refine ⟨fun h3 => ?_, fun h3 => ?_⟩
          · exact hW _ 236 [(0, .ref 1000), (1, .int x1), (2, .int x2), (3, .int x3), (4, .int x4), (5, .int x5), (6, .int x6)] _ _ _ (by simp [rdl, rky, Value.category]) ((ih m1 hm1).2.2.2.2.2.2.2.2.2.2.2.2.2.2.2.2.2.2.2.2.2.2.2.2.2.2.2.2.2.2.2.1 x1 x2 x3 x4 x5 x6 _ hz)
          · exact hW _ 223 [(0, .ref 1000), (1, .int x1), (2, .int x2), (3, .int x3), (4, .int x4), (5, .int x5), (6, .int x6)] _ _ _ (by simp [rdl, rky, Value.category]) ((ih m1 hm1).2.2.2.2.2.2.2.2.2.2.2.2.2.2.2.2.2.2.2.2.2.2.2.2.2.2.2.2.2.2.1 x1 x2 x3 x4 x5 x6 _ hz)
        · intro x1 x2 x3 x4 x5 x6 Y hz
          refine hB _ _ _ _ _ (fun m1 hm1 => ?_)
          dsimp only [ugo, uwp, ust, uct, rfd, Bbinary, Bbinary_223, Nat.beq, lv_args, rlk, rs1, rs2, rdl, rky, rcd, rno, rsw, Value.category, List.filter, List.take, List.drop, List.reverse, List.reverseAux, List.cons_append, List.nil_append, Option.toList, Int.toNat, Int.reduceToNat, if_pos, if_neg, reduceIte, ↓reduceIte, Nat.reduceAdd, Nat.reduceEqDiff, Nat.reduceBEq, beq_self_eq_true, Bool.not_true, Bool.not_false, Bool.and_true, Bool.and_false, Bool.true_and, Bool.false_and, gI_sI, gI_sL, gI_sA, gI_sM, gL_sI, gL_sL, gL_sA, gL_sM, aI_sI, aI_sL, aI_sA, aI_sM, aL_sI, aL_sL, aL_sA, aL_sM]; try dsimp only
          intro p2
          refine ⟨trivial, fun w3 τ3 hq3 => ?_⟩
          obtain ⟨rfl, r3, rfl, hr3⟩ := hq3 trivial
          try rw [show (((aI Y 70) (x2).toNatClampNeg)).toInt = (((aI Y 70) (x2).toNatClampNeg)).toInt from (rfl : (((aI Y 70) (x2).toNatClampNeg)).toInt = (((aI Y 70) (x2).toNatClampNeg)).toInt)] at hr3
          have hr3 : r3.toInt = pmT ((((aI Y 70) (x2).toNatClampNeg)).toInt) := hr3
          dsimp only [Option.toList, List.cons_append, List.nil_append, Nat.beq, gI_sI, gI_sL, gI_sA, gI_sM, gL_sI, gL_sL, gL_sA, gL_sM, aI_sI, aI_sL, aI_sA, aI_sM, aL_sI, aL_sL, aL_sA, aL_sM]
          exact hW _ 261 [(0, .ref 1000), (1, .int x1), (2, .int x2), (3, .int x3), (4, .int x4), (5, .int x5), (6, .int x6)] _ _ _ (by simp [rdl, rky, Value.category]) ((ih m1 hm1).2.2.2.2.2.2.2.2.2.2.2.2.2.2.2.2.2.2.2.2.2.2.2.2.2.2.2.2.2.2.2.2.2.2.2.1 x1 x2 x3 x4 x5 x6 r3 _ hz)
        · intro x1 x2 x3 x4 x5 x6 Y hz
          refine hB _ _ _ _ _ (fun m1 hm1 => ?_)
          dsimp only [ugo, uwp, ust, uct, rfd, Bbinary, Bbinary_236, Nat.beq, lv_args, rlk, rs1, rs2, rdl, rky, rcd, rno, rsw, Value.category, List.filter, List.take, List.drop, List.reverse, List.reverseAux, List.cons_append, List.nil_append, Option.toList, Int.toNat, Int.reduceToNat, if_pos, if_neg, reduceIte, ↓reduceIte, Nat.reduceAdd, Nat.reduceEqDiff, Nat.reduceBEq, beq_self_eq_true, Bool.not_true, Bool.not_false, Bool.and_true, Bool.and_false, Bool.true_and, Bool.false_and, gI_sI, gI_sL, gI_sA, gI_sM, gL_sI, gL_sL, gL_sA, gL_sM, aI_sI, aI_sL, aI_sA, aI_sM, aL_sI, aL_sL, aL_sA, aL_sM, oi_4]; try dsimp only
          intro p2
          refine ⟨fun h3 => ?_, fun h3 => ?_⟩
          · exact hW _ 256 [(0, .ref 1000), (1, .int x1), (2, .int x2), (3, .int x3), (4, .int x4), (5, .int x5), (6, .int x6)] _ _ _ (by simp [rdl, rky, Value.category]) ((ih m1 hm1).2.2.2.2.2.2.2.2.2.2.2.2.2.2.2.2.2.2.2.2.2.2.2.2.2.2.2.2.2.2.2.2.2.1 x1 x2 x3 x4 x5 x6 _ hz)
          · exact hW _ 246 [(0, .ref 1000), (1, .int x1), (2, .int x2), (3, .int x3), (4, .int x4), (5, .int x5), (6, .int x6)] _ _ _ (by simp [rdl, rky, Value.category]) ((ih m1 hm1).2.2.2.2.2.2.2.2.2.2.2.2.2.2.2.2.2.2.2.2.2.2.2.2.2.2.2.2.2.2.2.2.1 x1 x2 x3 x4 x5 x6 _ hz)
        · intro x1 x2 x3 x4 x5 x6 Y hz
          refine hB _ _ _ _ _ (fun m1 hm1 => ?_)
          dsimp only [ugo, uwp, ust, uct, rfd, Bbinary, Bbinary_246, Nat.beq, lv_args, rlk, rs1, rs2, rdl, rky, rcd, rno, rsw, Value.category, List.filter, List.take, List.drop, List.reverse, List.reverseAux, List.cons_append, List.nil_append, Option.toList, Int.toNat, Int.reduceToNat, if_pos, if_neg, reduceIte, ↓reduceIte, Nat.reduceAdd, Nat.reduceEqDiff, Nat.reduceBEq, beq_self_eq_true, Bool.not_true, Bool.not_false, Bool.and_true, Bool.and_false, Bool.true_and, Bool.false_and, gI_sI, gI_sL, gI_sA, gI_sM, gL_sI, gL_sL, gL_sA, gL_sM, aI_sI, aI_sL, aI_sA, aI_sM, aL_sI, aL_sL, aL_sA, aL_sM, oi_4]; try dsimp only
          intro p2
          refine ⟨fun h3 => ?_, fun h3 => ?_⟩
          · exact hW _ 260 [(0, .ref 1000), (1, .int x1), (2, .int x2), (3, .int x3), (4, .int x4), (5, .int x5), (6, .int x6)] _ _ _ (by simp [rdl, rky, Value.category]) ((ih m1 hm1).2.2.2.2.2.2.2.2.2.2.2.2.2.2.2.2.2.2.2.2.2.2.2.2.2.2.2.2.2.2.2.2.2.2.1 x1 x2 x3 x4 x5 x6 _ hz)
          · exact hW _ 256 [(0, .ref 1000), (1, .int x1), (2, .int x2), (3, .int x3), (4, .int x4), (5, .int x5), (6, .int x6)] _ _ _ (by simp [rdl, rky, Value.category]) ((ih m1 hm1).2.2.2.2.2.2.2.2.2.2.2.2.2.2.2.2.2.2.2.2.2.2.2.2.2.2.2.2.2.2.2.2.2.1 x1 x2 x3 x4 x5 x6 _ hz)
        · intro x1 x2 x3 x4 x5 x6 Y hz
          refine hB _ _ _ _ _ (fun m1 hm1 => ?_)
          dsimp only [ugo, uwp, ust, uct, rfd, Bbinary, Bbinary_256, Nat.beq, lv_args, rlk, rs1, rs2, rdl, rky, rcd, rno, rsw, Value.category, List.filter, List.take, List.drop, List.reverse, List.reverseAux, List.cons_append, List.nil_append, Option.toList, Int.toNat, Int.reduceToNat, if_pos, if_neg, reduceIte, ↓reduceIte, Nat.reduceAdd, Nat.reduceEqDiff, Nat.reduceBEq, beq_self_eq_true, Bool.not_true, Bool.not_false, Bool.and_true, Bool.and_false, Bool.true_and, Bool.false_and, gI_sI, gI_sL, gI_sA, gI_sM, gL_sI, gL_sL, gL_sA, gL_sM, aI_sI, aI_sL, aI_sA, aI_sM, aL_sI, aL_sL, aL_sA, aL_sM, oi_4]; try dsimp only
          exact hW _ 261 [(0, .ref 1000), (1, .int x1), (2, .int x2), (3, .int x3), (4, .int x4), (5, .int x5), (6, .int x6)] _ _ _ (by simp [rdl, rky, Value.category]) ((ih m1 hm1).2.2.2.2.2.2.2.2.2.2.2.2.2.2.2.2.2.2.2.2.2.2.2.2.2.2.2.2.2.2.2.2.2.2.2.1 x1 x2 x3 x4 x5 x6 4 _ hz)
        · intro x1 x2 x3 x4 x5 x6 Y hz
          refine hB _ _ _ _ _ (fun m1 hm1 => ?_)
          dsimp only [ugo, uwp, ust, uct, rfd, Bbinary, Bbinary_260, Nat.beq, lv_args, rlk, rs1, rs2, rdl, rky, rcd, rno, rsw, Value.category, List.filter, List.take, List.drop, List.reverse, List.reverseAux, List.cons_append, List.nil_append, Option.toList, Int.toNat, Int.reduceToNat, if_pos, if_neg, reduceIte, ↓reduceIte, Nat.reduceAdd, Nat.reduceEqDiff, Nat.reduceBEq, beq_self_eq_true, Bool.not_true, Bool.not_false, Bool.and_true, Bool.and_false, Bool.true_and, Bool.false_and, gI_sI, gI_sL, gI_sA, gI_sM, gL_sI, gL_sL, gL_sA, gL_sM, aI_sI, aI_sL, aI_sA, aI_sM, aL_sI, aL_sL, aL_sA, aL_sM, oi_3]; try dsimp only
          exact hW _ 261 [(0, .ref 1000), (1, .int x1), (2, .int x2), (3, .int x3), (4, .int x4), (5, .int x5), (6, .int x6)] _ _ _ (by simp [rdl, rky, Value.category]) ((ih m1 hm1).2.2.2.2.2.2.2.2.2.2.2.2.2.2.2.2.2.2.2.2.2.2.2.2.2.2.2.2.2.2.2.2.2.2.2.1 x1 x2 x3 x4 x5 x6 3 _ hz)
        · intro x1 x2 x3 x4 x5 x6 s0 Y hz
          refine hB _ _ _ _ _ (fun m1 hm1 => ?_)
          dsimp only [ugo, uwp, ust, uct, rfd, Bbinary, Bbinary_261, Nat.beq, lv_args, rlk, rs1, rs2, rdl, rky, rcd, rno, rsw, Value.category, List.filter, List.take, List.drop, List.reverse, List.reverseAux, List.cons_append, List.nil_append, Option.toList, Int.toNat, Int.reduceToNat, if_pos, if_neg, reduceIte, ↓reduceIte, Nat.reduceAdd, Nat.reduceEqDiff, Nat.reduceBEq, beq_self_eq_true, Bool.not_true, Bool.not_false, Bool.and_true, Bool.and_false, Bool.true_and, Bool.false_and, gI_sI, gI_sL, gI_sA, gI_sM, gL_sI, gL_sL, gL_sA, gL_sM, aI_sI, aI_sL, aI_sA, aI_sM, aL_sI, aL_sL, aL_sA, aL_sM]; try dsimp only
          refine ⟨fun h2 => ?_, fun h2 => ?_⟩
          · exact hW _ 298 [(0, .ref 1000), (1, .int x1), (2, .int x2), (3, .int x3), (4, .int x4), (5, .int x5), (6, .int x6), (7, .int s0)] _ _ _ (by simp [rdl, rky, Value.category]) ((ih m1 hm1).2.2.2.2.2.2.2.2.2.2.2.2.2.2.2.2.2.2.2.2.2.2.2.2.2.2.2.2.2.2.2.2.2.2.2.2.2.2.2.2.1 x1 x2 x3 x4 x5 x6 s0 _ hz)
          · exact hW _ 268 [(0, .ref 1000), (1, .int x1), (2, .int x2), (3, .int x3), (4, .int x4), (5, .int x5), (6, .int x6), (7, .int s0)] _ _ _ (by simp [rdl, rky, Value.category]) ((ih m1 hm1).2.2.2.2.2.2.2.2.2.2.2.2.2.2.2.2.2.2.2.2.2.2.2.2.2.2.2.2.2.2.2.2.2.2.2.2.1 x1 x2 x3 x4 x5 x6 s0 _ hz)
        · intro x1 x2 x3 x4 x5 x6 x7 Y hz
          refine hB _ _ _ _ _ (fun m1 hm1 => ?_)
          dsimp only [ugo, uwp, ust, uct, rfd, Bbinary, Bbinary_268, Nat.beq, lv_args, rlk, rs1, rs2, rdl, rky, rcd, rno, rsw, Value.category, List.filter, List.take, List.drop, List.reverse, List.reverseAux, List.cons_append, List.nil_append, Option.toList, Int.toNat, Int.reduceToNat, if_pos, if_neg, reduceIte, ↓reduceIte, Nat.reduceAdd, Nat.reduceEqDiff, Nat.reduceBEq, beq_self_eq_true, Bool.not_true, Bool.not_false, Bool.and_true, Bool.and_false, Bool.true_and, Bool.false_and, gI_sI, gI_sL, gI_sA, gI_sM, gL_sI, gL_sL, gL_sA, gL_sM, aI_sI, aI_sL, aI_sA, aI_sM, aL_sI, aL_sL, aL_sA, aL_sM, oi_60]; try dsimp only
          refine ⟨fun h2 => ?_, fun h2 => ?_⟩
          · exact hW _ 298 [(0, .ref 1000), (1, .int x1), (2, .int x2), (3, .int x3), (4, .int x4), (5, .int x5), (6, .int x6), (7, .int x7)] _ _ _ (by simp [rdl, rky, Value.category]) ((ih m1 hm1).2.2.2.2.2.2.2.2.2.2.2.2.2.2.2.2.2.2.2.2.2.2.2.2.2.2.2.2.2.2.2.2.2.2.2.2.2.2.2.2.1 x1 x2 x3 x4 x5 x6 x7 _ hz)
          · exact hW _ 275 [(0, .ref 1000), (1, .int x1), (2, .int x2), (3, .int x3), (4, .int x4), (5, .int x5), (6, .int x6), (7, .int x7)] _ _ _ (by simp [rdl, rky, Value.category]) ((ih m1 hm1).2.2.2.2.2.2.2.2.2.2.2.2.2.2.2.2.2.2.2.2.2.2.2.2.2.2.2.2.2.2.2.2.2.2.2.2.2.1 x1 x2 x3 x4 x5 x6 x7 _ hz)
        · intro x1 x2 x3 x4 x5 x6 x7 Y hz
          refine hB _ _ _ _ _ (fun m1 hm1 => ?_)
          dsimp only [ugo, uwp, ust, uct, rfd, Bbinary, Bbinary_275, Nat.beq, lv_args, rlk, rs1, rs2, rdl, rky, rcd, rno, rsw, Value.category, List.filter, List.take, List.drop, List.reverse, List.reverseAux, List.cons_append, List.nil_append, Option.toList, Int.toNat, Int.reduceToNat, if_pos, if_neg, reduceIte, ↓reduceIte, Nat.reduceAdd, Nat.reduceEqDiff, Nat.reduceBEq, beq_self_eq_true, Bool.not_true, Bool.not_false, Bool.and_true, Bool.and_false, Bool.true_and, Bool.false_and, gI_sI, gI_sL, gI_sA, gI_sM, gL_sI, gL_sL, gL_sA, gL_sM, aI_sI, aI_sL, aI_sA, aI_sM, aL_sI, aL_sL, aL_sA, aL_sM, oi_62]; try dsimp only
          refine ⟨fun h2 => ?_, fun h2 => ?_⟩
          · exact hW _ 298 [(0, .ref 1000), (1, .int x1), (2, .int x2), (3, .int x3), (4, .int x4), (5, .int x5), (6, .int x6), (7, .int x7)] _ _ _ (by simp [rdl, rky, Value.category]) ((ih m1 hm1).2.2.2.2.2.2.2.2.2.2.2.2.2.2.2.2.2.2.2.2.2.2.2.2.2.2.2.2.2.2.2.2.2.2.2.2.2.2.2.2.1 x1 x2 x3 x4 x5 x6 x7 _ hz)
          · exact hW _ 282 [(0, .ref 1000), (1, .int x1), (2, .int x2), (3, .int x3), (4, .int x4), (5, .int x5), (6, .int x6), (7, .int x7)] _ _ _ (by simp [rdl, rky, Value.category]) ((ih m1 hm1).2.2.2.2.2.2.2.2.2.2.2.2.2.2.2.2.2.2.2.2.2.2.2.2.2.2.2.2.2.2.2.2.2.2.2.2.2.2.1 x1 x2 x3 x4 x5 x6 x7 _ hz)
        · intro x1 x2 x3 x4 x5 x6 x7 Y hz
          refine hB _ _ _ _ _ (fun m1 hm1 => ?_)
          dsimp only [ugo, uwp, ust, uct, rfd, Bbinary, Bbinary_282, Nat.beq, lv_args, rlk, rs1, rs2, rdl, rky, rcd, rno, rsw, Value.category, List.filter, List.take, List.drop, List.reverse, List.reverseAux, List.cons_append, List.nil_append, Option.toList, Int.toNat, Int.reduceToNat, if_pos, if_neg, reduceIte, ↓reduceIte, Nat.reduceAdd, Nat.reduceEqDiff, Nat.reduceBEq, beq_self_eq_true, Bool.not_true, Bool.not_false, Bool.and_true, Bool.and_false, Bool.true_and, Bool.false_and, gI_sI, gI_sL, gI_sA, gI_sM, gL_sI, gL_sL, gL_sA, gL_sM, aI_sI, aI_sL, aI_sA, aI_sM, aL_sI, aL_sL, aL_sA, aL_sM, oi_302]; try dsimp only
          refine ⟨fun h2 => ?_, fun h2 => ?_⟩
          · exact hW _ 298 [(0, .ref 1000), (1, .int x1), (2, .int x2), (3, .int x3), (4, .int x4), (5, .int x5), (6, .int x6), (7, .int x7)] _ _ _ (by simp [rdl, rky, Value.category]) ((ih m1 hm1).2.2.2.2.2.2.2.2.2.2.2.2.2.2.2.2.2.2.2.2.2.2.2.2.2.2.2.2.2.2.2.2.2.2.2.2.2.2.2.2.1 x1 x2 x3 x4 x5 x6 x7 _ hz)
          · exact hW _ 290 [(0, .ref 1000), (1, .int x1), (2, .int x2), (3, .int x3), (4, .int x4), (5, .int x5), (6, .int x6), (7, .int x7)] _ _ _ (by simp [rdl, rky, Value.category]) ((ih m1 hm1).2.2.2.2.2.2.2.2.2.2.2.2.2.2.2.2.2.2.2.2.2.2.2.2.2.2.2.2.2.2.2.2.2.2.2.2.2.2.2.1 x1 x2 x3 x4 x5 x6 x7 _ hz)
        · intro x1 x2 x3 x4 x5 x6 x7 Y hz
          refine hB _ _ _ _ _ (fun m1 hm1 => ?_)
          dsimp only [ugo, uwp, ust, uct, rfd, Bbinary, Bbinary_290, Nat.beq, lv_args, rlk, rs1, rs2, rdl, rky, rcd, rno, rsw, Value.category, List.filter, List.take, List.drop, List.reverse, List.reverseAux, List.cons_append, List.nil_append, Option.toList, Int.toNat, Int.reduceToNat, if_pos, if_neg, reduceIte, ↓reduceIte, Nat.reduceAdd, Nat.reduceEqDiff, Nat.reduceBEq, beq_self_eq_true, Bool.not_true, Bool.not_false, Bool.and_true, Bool.and_false, Bool.true_and, Bool.false_and, gI_sI, gI_sL, gI_sA, gI_sM, gL_sI, gL_sL, gL_sA, gL_sM, aI_sI, aI_sL, aI_sA, aI_sM, aL_sI, aL_sL, aL_sA, aL_sM, oi_303]; try dsimp only
          refine ⟨fun h2 => ?_, fun h2 => ?_⟩
          · exact hW _ 302 [(0, .ref 1000), (1, .int x1), (2, .int x2), (3, .int x3), (4, .int x4), (5, .int x5), (6, .int x6), (7, .int x7)] _ _ _ (by simp [rdl, rky, Value.category]) ((ih m1 hm1).2.2.2.2.2.2.2.2.2.2.2.2.2.2.2.2.2.2.2.2.2.2.2.2.2.2.2.2.2.2.2.2.2.2.2.2.2.2.2.2.2.1 x1 x2 x3 x4 x5 x6 x7 _ hz)
          · exact hW _ 298 [(0, .ref 1000), (1, .int x1), (2, .int x2), (3, .int x3), (4, .int x4), (5, .int x5), (6, .int x6), (7, .int x7)] _ _ _ (by simp [rdl, rky, Value.category]) ((ih m1 hm1).2.2.2.2.2.2.2.2.2.2.2.2.2.2.2.2.2.2.2.2.2.2.2.2.2.2.2.2.2.2.2.2.2.2.2.2.2.2.2.2.1 x1 x2 x3 x4 x5 x6 x7 _ hz)
        · intro x1 x2 x3 x4 x5 x6 x7 Y hz
          refine hB _ _ _ _ _ (fun m1 hm1 => ?_)
          dsimp only [ugo, uwp, ust, uct, rfd, Bbinary, Bbinary_298, Nat.beq, lv_args, rlk, rs1, rs2, rdl, rky, rcd, rno, rsw, Value.category, List.filter, List.take, List.drop, List.reverse, List.reverseAux, List.cons_append, List.nil_append, Option.toList, Int.toNat, Int.reduceToNat, if_pos, if_neg, reduceIte, ↓reduceIte, Nat.reduceAdd, Nat.reduceEqDiff, Nat.reduceBEq, beq_self_eq_true, Bool.not_true, Bool.not_false, Bool.and_true, Bool.and_false, Bool.true_and, Bool.false_and, gI_sI, gI_sL, gI_sA, gI_sM, gL_sI, gL_sL, gL_sA, gL_sM, aI_sI, aI_sL, aI_sA, aI_sM, aL_sI, aL_sL, aL_sA, aL_sM, oi_1]; try dsimp only
          exact hW _ 303 [(0, .ref 1000), (1, .int x1), (2, .int x2), (3, .int x3), (4, .int x4), (5, .int x5), (6, .int x6), (7, .int x7)] _ _ _ (by simp [rdl, rky, Value.category]) ((ih m1 hm1).2.2.2.2.2.2.2.2.2.2.2.2.2.2.2.2.2.2.2.2.2.2.2.2.2.2.2.2.2.2.2.2.2.2.2.2.2.2.2.2.2.2.1 x1 x2 x3 x4 x5 x6 x7 1 _ hz)
        · intro x1 x2 x3 x4 x5 x6 x7 Y hz
          refine hB _ _ _ _ _ (fun m1 hm1 => ?_)
          dsimp only [ugo, uwp, ust, uct, rfd, Bbinary, Bbinary_302, Nat.beq, lv_args, rlk, rs1, rs2, rdl, rky, rcd, rno, rsw, Value.category, List.filter, List.take, List.drop, List.reverse, List.reverseAux, List.cons_append, List.nil_append, Option.toList, Int.toNat, Int.reduceToNat, if_pos, if_neg, reduceIte, ↓reduceIte, Nat.reduceAdd, Nat.reduceEqDiff, Nat.reduceBEq, beq_self_eq_true, Bool.not_true, Bool.not_false, Bool.and_true, Bool.and_false, Bool.true_and, Bool.false_and, gI_sI, gI_sL, gI_sA, gI_sM, gL_sI, gL_sL, gL_sA, gL_sM, aI_sI, aI_sL, aI_sA, aI_sM, aL_sI, aL_sL, aL_sA, aL_sM, oi_0]; try dsimp only
          exact hW _ 303 [(0, .ref 1000), (1, .int x1), (2, .int x2), (3, .int x3), (4, .int x4), (5, .int x5), (6, .int x6), (7, .int x7)] _ _ _ (by simp [rdl, rky, Value.category]) ((ih m1 hm1).2.2.2.2.2.2.2.2.2.2.2.2.2.2.2.2.2.2.2.2.2.2.2.2.2.2.2.2.2.2.2.2.2.2.2.2.2.2.2.2.2.2.1 x1 x2 x3 x4 x5 x6 x7 0 _ hz)
        · intro x1 x2 x3 x4 x5 x6 x7 s0 Y hz
          refine hB _ _ _ _ _ (fun m1 hm1 => ?_)
          dsimp only [ugo, uwp, ust, uct, rfd, Bbinary, Bbinary_303, Nat.beq, lv_args, rlk, rs1, rs2, rdl, rky, rcd, rno, rsw, Value.category, List.filter, List.take, List.drop, List.reverse, List.reverseAux, List.cons_append, List.nil_append, Option.toList, Int.toNat, Int.reduceToNat, if_pos, if_neg, reduceIte, ↓reduceIte, Nat.reduceAdd, Nat.reduceEqDiff, Nat.reduceBEq, beq_self_eq_true, Bool.not_true, Bool.not_false, Bool.and_true, Bool.and_false, Bool.true_and, Bool.false_and, gI_sI, gI_sL, gI_sA, gI_sM, gL_sI, gL_sL, gL_sA, gL_sM, aI_sI, aI_sL, aI_sA, aI_sM, aL_sI, aL_sL, aL_sA, aL_sM]; try dsimp only
          intro p2
          intro p3
          refine ⟨fun h4 => ?_, fun h4 => ?_⟩
          · exact hW _ 360 [(0, .ref 1000), (1, .int x1), (2, .int x2), (3, .int x3), (4, .int x4), (5, .int x5), (6, .int x6), (7, .int x7), (8, .int s0)] _ _ _ (by simp [rdl, rky, Value.category]) ((ih m1 hm1).2.2.2.2.2.2.2.2.2.2.2.2.2.2.2.2.2.2.2.2.2.2.2.2.2.2.2.2.2.2.2.2.2.2.2.2.2.2.2.2.2.2.2.2.2.2.2.2.1 x1 x2 x3 x4 x5 x6 x7 s0 _ hz)
          · exact hW _ 322 [(0, .ref 1000), (1, .int x1), (2, .int x2), (3, .int x3), (4, .int x4), (5, .int x5), (6, .int x6), (7, .int x7), (8, .int s0)] _ _ _ (by simp [rdl, rky, Value.category]) ((ih m1 hm1).2.2.2.2.2.2.2.2.2.2.2.2.2.2.2.2.2.2.2.2.2.2.2.2.2.2.2.2.2.2.2.2.2.2.2.2.2.2.2.2.2.2.2.1 x1 x2 x3 x4 x5 x6 x7 s0 _ hz)
        · intro x1 x2 x3 x4 x5 x6 x7 x8 Y hz
          refine hB _ _ _ _ _ (fun m1 hm1 => ?_)
          dsimp only [ugo, uwp, ust, uct, rfd, Bbinary, Bbinary_322, Nat.beq, lv_args, rlk, rs1, rs2, rdl, rky, rcd, rno, rsw, Value.category, List.filter, List.take, List.drop, List.reverse, List.reverseAux, List.cons_append, List.nil_append, Option.toList, Int.toNat, Int.reduceToNat, if_pos, if_neg, reduceIte, ↓reduceIte, Nat.reduceAdd, Nat.reduceEqDiff, Nat.reduceBEq, beq_self_eq_true, Bool.not_true, Bool.not_false, Bool.and_true, Bool.and_false, Bool.true_and, Bool.false_and, gI_sI, gI_sL, gI_sA, gI_sM, gL_sI, gL_sL, gL_sA, gL_sM, aI_sI, aI_sL, aI_sA, aI_sM, aL_sI, aL_sL, aL_sA, aL_sM]; try dsimp only
          intro p2
          refine ⟨fun h3 => ?_, fun h3 => ?_⟩
          · exact hW _ 360 [(0, .ref 1000), (1, .int x1), (2, .int x2), (3, .int x3), (4, .int x4), (5, .int x5), (6, .int x6), (7, .int x7), (8, .int x8)] _ _ _ (by simp [rdl, rky, Value.category]) ((ih m1 hm1).2.2.2.2.2.2.2.2.2.2.2.2.2.2.2.2.2.2.2.2.2.2.2.2.2.2.2.2.2.2.2.2.2.2.2.2.2.2.2.2.2.2.2.2.2.2.2.2.1 x1 x2 x3 x4 x5 x6 x7 x8 _ hz)
          · exact hW _ 331 [(0, .ref 1000), (1, .int x1), (2, .int x2), (3, .int x3), (4, .int x4), (5, .int x5), (6, .int x6), (7, .int x7), (8, .int x8)] _ _ _ (by simp [rdl, rky, Value.category]) ((ih m1 hm1).2.2.2.2.2.2.2.2.2.2.2.2.2.2.2.2.2.2.2.2.2.2.2.2.2.2.2.2.2.2.2.2.2.2.2.2.2.2.2.2.2.2.2.2.1 x1 x2 x3 x4 x5 x6 x7 x8 _ hz)
        · intro x1 x2 x3 x4 x5 x6 x7 x8 Y hz
          refine hB _ _ _ _ _ (fun m1 hm1 => ?_)
          dsimp only [ugo, uwp, ust, uct, rfd, Bbinary, Bbinary_331, Nat.beq, lv_args, rlk, rs1, rs2, rdl, rky, rcd, rno, rsw, Value.category, List.filter, List.take, List.drop, List.reverse, List.reverseAux, List.cons_append, List.nil_append, Option.toList, Int.toNat, Int.reduceToNat, if_pos, if_neg, reduceIte, ↓reduceIte, Nat.reduceAdd, Nat.reduceEqDiff, Nat.reduceBEq, beq_self_eq_true, Bool.not_true, Bool.not_false, Bool.and_true, Bool.and_false, Bool.true_and, Bool.false_and, gI_sI, gI_sL, gI_sA, gI_sM, gL_sI, gL_sL, gL_sA, gL_sM, aI_sI, aI_sL, aI_sA, aI_sM, aL_sI, aL_sL, aL_sA, aL_sM, oi_47]; try dsimp only
          refine ⟨fun h2 => ?_, fun h2 => ?_⟩
          · exact hW _ 345 [(0, .ref 1000), (1, .int x1), (2, .int x2), (3, .int x3), (4, .int x4), (5, .int x5), (6, .int x6), (7, .int x7), (8, .int x8)] _ _ _ (by simp [rdl, rky, Value.category]) ((ih m1 hm1).2.2.2.2.2.2.2.2.2.2.2.2.2.2.2.2.2.2.2.2.2.2.2.2.2.2.2.2.2.2.2.2.2.2.2.2.2.2.2.2.2.2.2.2.2.2.1 x1 x2 x3 x4 x5 x6 x7 x8 _ hz)
          · exact hW _ 338 [(0, .ref 1000), (1, .int x1), (2, .int x2), (3, .int x3), (4, .int x4), (5, .int x5), (6, .int x6), (7, .int x7), (8, .int x8)] _ _ _ (by simp [rdl, rky, Value.category]) ((ih m1 hm1).2.2.2.2.2.2.2.2.2.2.2.2.2.2.2.2.2.2.2.2.2.2.2.2.2.2.2.2.2.2.2.2.2.2.2.2.2.2.2.2.2.2.2.2.2.1 x1 x2 x3 x4 x5 x6 x7 x8 _ hz)
        · intro x1 x2 x3 x4 x5 x6 x7 x8 Y hz
          refine hB _ _ _ _ _ (fun m1 hm1 => ?_)
          dsimp only [ugo, uwp, ust, uct, rfd, Bbinary, Bbinary_338, Nat.beq, lv_args, rlk, rs1, rs2, rdl, rky, rcd, rno, rsw, Value.category, List.filter, List.take, List.drop, List.reverse, List.reverseAux, List.cons_append, List.nil_append, Option.toList, Int.toNat, Int.reduceToNat, if_pos, if_neg, reduceIte, ↓reduceIte, Nat.reduceAdd, Nat.reduceEqDiff, Nat.reduceBEq, beq_self_eq_true, Bool.not_true, Bool.not_false, Bool.and_true, Bool.and_false, Bool.true_and, Bool.false_and, gI_sI, gI_sL, gI_sA, gI_sM, gL_sI, gL_sL, gL_sA, gL_sM, aI_sI, aI_sL, aI_sA, aI_sM, aL_sI, aL_sL, aL_sA, aL_sM, oi_37]; try dsimp only
          refine ⟨fun h2 => ?_, fun h2 => ?_⟩
          · exact hW _ 356 [(0, .ref 1000), (1, .int x1), (2, .int x2), (3, .int x3), (4, .int x4), (5, .int x5), (6, .int x6), (7, .int x7), (8, .int x8)] _ _ _ (by simp [rdl, rky, Value.category]) ((ih m1 hm1).2.2.2.2.2.2.2.2.2.2.2.2.2.2.2.2.2.2.2.2.2.2.2.2.2.2.2.2.2.2.2.2.2.2.2.2.2.2.2.2.2.2.2.2.2.2.2.1 x1 x2 x3 x4 x5 x6 x7 x8 _ hz)
          · exact hW _ 345 [(0, .ref 1000), (1, .int x1), (2, .int x2), (3, .int x3), (4, .int x4), (5, .int x5), (6, .int x6), (7, .int x7), (8, .int x8)] _ _ _ (by simp [rdl, rky, Value.category]) ((ih m1 hm1).2.2.2.2.2.2.2.2.2.2.2.2.2.2.2.2.2.2.2.2.2.2.2.2.2.2.2.2.2.2.2.2.2.2.2.2.2.2.2.2.2.2.2.2.2.2.1 x1 x2 x3 x4 x5 x6 x7 x8 _ hz)
        · intro x1 x2 x3 x4 x5 x6 x7 x8 Y hz
          refine hB _ _ _ _ _ (fun m1 hm1 => ?_)
          dsimp only [ugo, uwp, ust, uct, rfd, Bbinary, Bbinary_345, Nat.beq, lv_args, rlk, rs1, rs2, rdl, rky, rcd, rno, rsw, Value.category, List.filter, List.take, List.drop, List.reverse, List.reverseAux, List.cons_append, List.nil_append, Option.toList, Int.toNat, Int.reduceToNat, if_pos, if_neg, reduceIte, ↓reduceIte, Nat.reduceAdd, Nat.reduceEqDiff, Nat.reduceBEq, beq_self_eq_true, Bool.not_true, Bool.not_false, Bool.and_true, Bool.and_false, Bool.true_and, Bool.false_and, gI_sI, gI_sL, gI_sA, gI_sM, gL_sI, gL_sL, gL_sA, gL_sM, aI_sI, aI_sL, aI_sA, aI_sM, aL_sI, aL_sL, aL_sA, aL_sM]; try dsimp only
          intro p2
          refine ⟨fun h3 => ?_, fun h3 => ?_⟩
          · have c3 : ((aL Y 72) (x3).toNatClampNeg) = (0 : Int64) := (cL (a := (0 : Int64)) (b := ((aL Y 72) (x3).toNatClampNeg))).1.mp h3
            exact hW _ 360 [(0, .ref 1000), (1, .int x1), (2, .int x2), (3, .int x3), (4, .int x4), (5, .int x5), (6, .int x6), (7, .int x7), (8, .int x8)] _ _ _ (by simp [rdl, rky, Value.category]) ((ih m1 hm1).2.2.2.2.2.2.2.2.2.2.2.2.2.2.2.2.2.2.2.2.2.2.2.2.2.2.2.2.2.2.2.2.2.2.2.2.2.2.2.2.2.2.2.2.2.2.2.2.1 x1 x2 x3 x4 x5 x6 x7 x8 _ hz)
          · have c3 : ¬ ((aL Y 72) (x3).toNatClampNeg) = (0 : Int64) := fun q => h3 ((cL (a := (0 : Int64)) (b := ((aL Y 72) (x3).toNatClampNeg))).1.mpr q)
            exact hW _ 356 [(0, .ref 1000), (1, .int x1), (2, .int x2), (3, .int x3), (4, .int x4), (5, .int x5), (6, .int x6), (7, .int x7), (8, .int x8)] _ _ _ (by simp [rdl, rky, Value.category]) ((ih m1 hm1).2.2.2.2.2.2.2.2.2.2.2.2.2.2.2.2.2.2.2.2.2.2.2.2.2.2.2.2.2.2.2.2.2.2.2.2.2.2.2.2.2.2.2.2.2.2.2.1 x1 x2 x3 x4 x5 x6 x7 x8 _ hz)
        · intro x1 x2 x3 x4 x5 x6 x7 x8 Y hz
          refine hB _ _ _ _ _ (fun m1 hm1 => ?_)
          dsimp only [ugo, uwp, ust, uct, rfd, Bbinary, Bbinary_356, Nat.beq, lv_args, rlk, rs1, rs2, rdl, rky, rcd, rno, rsw, Value.category, List.filter, List.take, List.drop, List.reverse, List.reverseAux, List.cons_append, List.nil_append, Option.toList, Int.toNat, Int.reduceToNat, if_pos, if_neg, reduceIte, ↓reduceIte, Nat.reduceAdd, Nat.reduceEqDiff, Nat.reduceBEq, beq_self_eq_true, Bool.not_true, Bool.not_false, Bool.and_true, Bool.and_false, Bool.true_and, Bool.false_and, gI_sI, gI_sL, gI_sA, gI_sM, gL_sI, gL_sL, gL_sA, gL_sM, aI_sI, aI_sL, aI_sA, aI_sM, aL_sI, aL_sL, aL_sA, aL_sM, oi_1]; try dsimp only
          exact hW _ 361 [(0, .ref 1000), (1, .int x1), (2, .int x2), (3, .int x3), (4, .int x4), (5, .int x5), (6, .int x6), (7, .int x7), (8, .int x8)] _ _ _ (by simp [rdl, rky, Value.category]) ((ih m1 hm1).2.2.2.2.2.2.2.2.2.2.2.2.2.2.2.2.2.2.2.2.2.2.2.2.2.2.2.2.2.2.2.2.2.2.2.2.2.2.2.2.2.2.2.2.2.2.2.2.2.1 x1 x2 x3 x4 x5 x6 x7 x8 1 _ hz)
        · intro x1 x2 x3 x4 x5 x6 x7 x8 Y hz
          refine hB _ _ _ _ _ (fun m1 hm1 => ?_)
          dsimp only [ugo, uwp, ust, uct, rfd, Bbinary, Bbinary_360, Nat.beq, lv_args, rlk, rs1, rs2, rdl, rky, rcd, rno, rsw, Value.category, List.filter, List.take, List.drop, List.reverse, List.reverseAux, List.cons_append, List.nil_append, Option.toList, Int.toNat, Int.reduceToNat, if_pos, if_neg, reduceIte, ↓reduceIte, Nat.reduceAdd, Nat.reduceEqDiff, Nat.reduceBEq, beq_self_eq_true, Bool.not_true, Bool.not_false, Bool.and_true, Bool.and_false, Bool.true_and, Bool.false_and, gI_sI, gI_sL, gI_sA, gI_sM, gL_sI, gL_sL, gL_sA, gL_sM, aI_sI, aI_sL, aI_sA, aI_sM, aL_sI, aL_sL, aL_sA, aL_sM, oi_0]; try dsimp only
          exact hW _ 361 [(0, .ref 1000), (1, .int x1), (2, .int x2), (3, .int x3), (4, .int x4), (5, .int x5), (6, .int x6), (7, .int x7), (8, .int x8)] _ _ _ (by simp [rdl, rky, Value.category]) ((ih m1 hm1).2.2.2.2.2.2.2.2.2.2.2.2.2.2.2.2.2.2.2.2.2.2.2.2.2.2.2.2.2.2.2.2.2.2.2.2.2.2.2.2.2.2.2.2.2.2.2.2.2.1 x1 x2 x3 x4 x5 x6 x7 x8 0 _ hz)
        · intro x1 x2 x3 x4 x5 x6 x7 x8 s0 Y hz
          refine hB _ _ _ _ _ (fun m1 hm1 => ?_)
          dsimp only [ugo, uwp, ust, uct, rfd, Bbinary, Bbinary_361, Nat.beq, lv_args, rlk, rs1, rs2, rdl, rky, rcd, rno, rsw, Value.category, List.filter, List.take, List.drop, List.reverse, List.reverseAux, List.cons_append, List.nil_append, Option.toList, Int.toNat, Int.reduceToNat, if_pos, if_neg, reduceIte, ↓reduceIte, Nat.reduceAdd, Nat.reduceEqDiff, Nat.reduceBEq, beq_self_eq_true, Bool.not_true, Bool.not_false, Bool.and_true, Bool.and_false, Bool.true_and, Bool.false_and, gI_sI, gI_sL, gI_sA, gI_sM, gL_sI, gL_sL, gL_sA, gL_sM, aI_sI, aI_sL, aI_sA, aI_sM, aL_sI, aL_sL, aL_sA, aL_sM]; try dsimp only
          refine ⟨fun h2 => ?_, fun h2 => ?_⟩
          · exact hW _ 374 [(0, .ref 1000), (1, .int x1), (2, .int x2), (3, .int x3), (4, .int x4), (5, .int x5), (6, .int x6), (7, .int x7), (8, .int x8), (9, .int s0)] _ _ _ (by simp [rdl, rky, Value.category]) ((ih m1 hm1).2.2.2.2.2.2.2.2.2.2.2.2.2.2.2.2.2.2.2.2.2.2.2.2.2.2.2.2.2.2.2.2.2.2.2.2.2.2.2.2.2.2.2.2.2.2.2.2.2.2.2.1 x1 x2 x3 x4 x5 x6 x7 x8 s0 x1 _ hz)
          · exact hW _ 370 [(0, .ref 1000), (1, .int x1), (2, .int x2), (3, .int x3), (4, .int x4), (5, .int x5), (6, .int x6), (7, .int x7), (8, .int x8), (9, .int s0)] _ _ _ (by simp [rdl, rky, Value.category]) ((ih m1 hm1).2.2.2.2.2.2.2.2.2.2.2.2.2.2.2.2.2.2.2.2.2.2.2.2.2.2.2.2.2.2.2.2.2.2.2.2.2.2.2.2.2.2.2.2.2.2.2.2.2.2.1 x1 x2 x3 x4 x5 x6 x7 x8 s0 x1 _ hz)
        · intro x1 x2 x3 x4 x5 x6 x7 x8 x9 s0 Y hz
          refine hB _ _ _ _ _ (fun m1 hm1 => ?_)
          dsimp only [ugo, uwp, ust, uct, rfd, Bbinary, Bbinary_370, Nat.beq, lv_args, rlk, rs1, rs2, rdl, rky, rcd, rno, rsw, Value.category, List.filter, List.take, List.drop, List.reverse, List.reverseAux, List.cons_append, List.nil_append, Option.toList, Int.toNat, Int.reduceToNat, if_pos, if_neg, reduceIte, ↓reduceIte, Nat.reduceAdd, Nat.reduceEqDiff, Nat.reduceBEq, beq_self_eq_true, Bool.not_true, Bool.not_false, Bool.and_true, Bool.and_false, Bool.true_and, Bool.false_and, gI_sI, gI_sL, gI_sA, gI_sM, gL_sI, gL_sL, gL_sA, gL_sM, aI_sI, aI_sL, aI_sA, aI_sM, aL_sI, aL_sL, aL_sA, aL_sM, oi_0]; try dsimp only
          exact hW _ 376 [(0, .ref 1000), (1, .int x1), (2, .int x2), (3, .int x3), (4, .int x4), (5, .int x5), (6, .int x6), (7, .int x7), (8, .int x8), (9, .int x9)] _ _ _ (by simp [rdl, rky, Value.category]) ((ih m1 hm1).2.2.2.2.2.2.2.2.2.2.2.2.2.2.2.2.2.2.2.2.2.2.2.2.2.2.2.2.2.2.2.2.2.2.2.2.2.2.2.2.2.2.2.2.2.2.2.2.2.2.2.2.1 x1 x2 x3 x4 x5 x6 x7 x8 x9 0 s0 _ hz)
        · intro x1 x2 x3 x4 x5 x6 x7 x8 x9 s0 Y hz
          refine hB _ _ _ _ _ (fun m1 hm1 => ?_)
          dsimp only [ugo, uwp, ust, uct, rfd, Bbinary, Bbinary_374, Nat.beq, lv_args, rlk, rs1, rs2, rdl, rky, rcd, rno, rsw, Value.category, List.filter, List.take, List.drop, List.reverse, List.reverseAux, List.cons_append, List.nil_append, Option.toList, Int.toNat, Int.reduceToNat, if_pos, if_neg, reduceIte, ↓reduceIte, Nat.reduceAdd, Nat.reduceEqDiff, Nat.reduceBEq, beq_self_eq_true, Bool.not_true, Bool.not_false, Bool.and_true, Bool.and_false, Bool.true_and, Bool.false_and, gI_sI, gI_sL, gI_sA, gI_sM, gL_sI, gL_sL, gL_sA, gL_sM, aI_sI, aI_sL, aI_sA, aI_sM, aL_sI, aL_sL, aL_sA, aL_sM]; try dsimp only
          exact hW _ 376 [(0, .ref 1000), (1, .int x1), (2, .int x2), (3, .int x3), (4, .int x4), (5, .int x5), (6, .int x6), (7, .int x7), (8, .int x8), (9, .int x9)] _ _ _ (by simp [rdl, rky, Value.category]) ((ih m1 hm1).2.2.2.2.2.2.2.2.2.2.2.2.2.2.2.2.2.2.2.2.2.2.2.2.2.2.2.2.2.2.2.2.2.2.2.2.2.2.2.2.2.2.2.2.2.2.2.2.2.2.2.2.1 x1 x2 x3 x4 x5 x6 x7 x8 x9 x7 s0 _ hz)
        · intro x1 x2 x3 x4 x5 x6 x7 x8 x9 s0 s1 Y hz
          refine hB _ _ _ _ _ (fun m1 hm1 => ?_)
          dsimp only [ugo, uwp, ust, uct, rfd, Bbinary, Bbinary_376, Nat.beq, lv_args, rlk, rs1, rs2, rdl, rky, rcd, rno, rsw, Value.category, List.filter, List.take, List.drop, List.reverse, List.reverseAux, List.cons_append, List.nil_append, Option.toList, Int.toNat, Int.reduceToNat, if_pos, if_neg, reduceIte, ↓reduceIte, Nat.reduceAdd, Nat.reduceEqDiff, Nat.reduceBEq, beq_self_eq_true, Bool.not_true, Bool.not_false, Bool.and_true, Bool.and_false, Bool.true_and, Bool.false_and, gI_sI, gI_sL, gI_sA, gI_sM, gL_sI, gL_sL, gL_sA, gL_sM, aI_sI, aI_sL, aI_sA, aI_sM, aL_sI, aL_sL, aL_sA, aL_sM]; try dsimp only
          refine ⟨fun h2 => ?_, fun h2 => ?_⟩
          · exact hW _ 406 [(0, .ref 1000), (1, .int x1), (2, .int x2), (3, .int x3), (4, .int x4), (5, .int x5), (6, .int x6), (7, .int x7), (8, .int x8), (9, .int x9)] _ _ _ (by simp [rdl, rky, Value.category]) ((ih m1 hm1).2.2.2.2.2.2.2.2.2.2.2.2.2.2.2.2.2.2.2.2.2.2.2.2.2.2.2.2.2.2.2.2.2.2.2.2.2.2.2.2.2.2.2.2.2.2.2.2.2.2.2.2.2.2.1 x1 x2 x3 x4 x5 x6 x7 x8 x9 x9 s0 s1 _ hz)
          · exact hW _ 383 [(0, .ref 1000), (1, .int x1), (2, .int x2), (3, .int x3), (4, .int x4), (5, .int x5), (6, .int x6), (7, .int x7), (8, .int x8), (9, .int x9)] _ _ _ (by simp [rdl, rky, Value.category]) ((ih m1 hm1).2.2.2.2.2.2.2.2.2.2.2.2.2.2.2.2.2.2.2.2.2.2.2.2.2.2.2.2.2.2.2.2.2.2.2.2.2.2.2.2.2.2.2.2.2.2.2.2.2.2.2.2.2.1 x1 x2 x3 x4 x5 x6 x7 x8 x9 x9 s0 s1 _ hz)
        · intro x1 x2 x3 x4 x5 x6 x7 x8 x9 s0 s1 s2 Y hz
          refine hB _ _ _ _ _ (fun m1 hm1 => ?_)
          dsimp only [ugo, uwp, ust, uct, rfd, Bbinary, Bbinary_383, Nat.beq, lv_args, rlk, rs1, rs2, rdl, rky, rcd, rno, rsw, Value.category, List.filter, List.take, List.drop, List.reverse, List.reverseAux, List.cons_append, List.nil_append, Option.toList, Int.toNat, Int.reduceToNat, if_pos, if_neg, reduceIte, ↓reduceIte, Nat.reduceAdd, Nat.reduceEqDiff, Nat.reduceBEq, beq_self_eq_true, Bool.not_true, Bool.not_false, Bool.and_true, Bool.and_false, Bool.true_and, Bool.false_and, gI_sI, gI_sL, gI_sA, gI_sM, gL_sI, gL_sL, gL_sA, gL_sM, aI_sI, aI_sL, aI_sA, aI_sM, aL_sI, aL_sL, aL_sA, aL_sM]; try dsimp only
          intro p2
          intro p3
          refine ⟨trivial, fun w4 τ4 hq4 => ?_⟩
          obtain ⟨rfl, r4, rfl, hr4⟩ := hq4 trivial
          dsimp only [Option.toList, List.cons_append, List.nil_append, Nat.beq, gI_sI, gI_sL, gI_sA, gI_sM, gL_sI, gL_sL, gL_sA, gL_sM, aI_sI, aI_sL, aI_sA, aI_sM, aL_sI, aL_sL, aL_sA, aL_sM]
          exact hW _ 407 [(0, .ref 1000), (1, .int x1), (2, .int x2), (3, .int x3), (4, .int x4), (5, .int x5), (6, .int x6), (7, .int x7), (8, .int x8), (9, .int x9)] _ _ _ (by simp [rdl, rky, Value.category]) ((ih m1 hm1).2.2.2.2.2.2.2.2.2.2.2.2.2.2.2.2.2.2.2.2.2.2.2.2.2.2.2.2.2.2.2.2.2.2.2.2.2.2.2.2.2.2.2.2.2.2.2.2.2.2.2.2.2.2.2 x1 x2 x3 x4 x5 x6 x7 x8 x9 r4 s0 s1 s2 _ hz)
        · intro x1 x2 x3 x4 x5 x6 x7 x8 x9 s0 s1 s2 Y hz
          refine hB _ _ _ _ _ (fun m1 hm1 => ?_)
          dsimp only [ugo, uwp, ust, uct, rfd, Bbinary, Bbinary_406, Nat.beq, lv_args, rlk, rs1, rs2, rdl, rky, rcd, rno, rsw, Value.category, List.filter, List.take, List.drop, List.reverse, List.reverseAux, List.cons_append, List.nil_append, Option.toList, Int.toNat, Int.reduceToNat, if_pos, if_neg, reduceIte, ↓reduceIte, Nat.reduceAdd, Nat.reduceEqDiff, Nat.reduceBEq, beq_self_eq_true, Bool.not_true, Bool.not_false, Bool.and_true, Bool.and_false, Bool.true_and, Bool.false_and, gI_sI, gI_sL, gI_sA, gI_sM, gL_sI, gL_sL, gL_sA, gL_sM, aI_sI, aI_sL, aI_sA, aI_sM, aL_sI, aL_sL, aL_sA, aL_sM]; try dsimp only
          exact hW _ 407 [(0, .ref 1000), (1, .int x1), (2, .int x2), (3, .int x3), (4, .int x4), (5, .int x5), (6, .int x6), (7, .int x7), (8, .int x8), (9, .int x9)] _ _ _ (by simp [rdl, rky, Value.category]) ((ih m1 hm1).2.2.2.2.2.2.2.2.2.2.2.2.2.2.2.2.2.2.2.2.2.2.2.2.2.2.2.2.2.2.2.2.2.2.2.2.2.2.2.2.2.2.2.2.2.2.2.2.2.2.2.2.2.2.2 x1 x2 x3 x4 x5 x6 x7 x8 x9 (0 : Int64) s0 s1 s2 _ hz)
        · intro x1 x2 x3 x4 x5 x6 x7 x8 x9 s0 s1 s2 s3 Y hz
          refine hB _ _ _ _ _ (fun m1 hm1 => ?_)
          dsimp only [ugo, uwp, ust, uct, rfd, Bbinary, Bbinary_407, Nat.beq, lv_args, rlk, rs1, rs2, rdl, rky, rcd, rno, rsw, Value.category, List.filter, List.take, List.drop, List.reverse, List.reverseAux, List.cons_append, List.nil_append, Option.toList, Int.toNat, Int.reduceToNat, if_pos, if_neg, reduceIte, ↓reduceIte, Nat.reduceAdd, Nat.reduceEqDiff, Nat.reduceBEq, beq_self_eq_true, Bool.not_true, Bool.not_false, Bool.and_true, Bool.and_false, Bool.true_and, Bool.false_and, gI_sI, gI_sL, gI_sA, gI_sM, gL_sI, gL_sL, gL_sA, gL_sM, aI_sI, aI_sL, aI_sA, aI_sM, aL_sI, aL_sL, aL_sA, aL_sM]; try dsimp only
          refine ⟨trivial, fun w2 τ2 hq2 => ?_⟩
          obtain ⟨rfl, rfl⟩ := hq2 trivial
          dsimp only [Option.toList, List.cons_append, List.nil_append, Nat.beq, gI_sI, gI_sL, gI_sA, gI_sM, gL_sI, gL_sL, gL_sA, gL_sM, aI_sI, aI_sL, aI_sA, aI_sM, aL_sI, aL_sL, aL_sA, aL_sM]
          unfold Qv_binaryB
          try dsimp only
          exact ⟨rfl, Or.inl ⟨hnn, hz⟩⟩
    intro n0
    refine hB _ _ _ _ _ (fun m1 hm1 => ?_)
    dsimp only [ugo, uwp, ust, uct, rfd, Bbinary, Bbinary_0, Nat.beq, lv_args, rlk, rs1, rs2, rdl, rky, rcd, rno, rsw, Value.category, List.filter, List.take, List.drop, List.reverse, List.reverseAux, List.cons_append, List.nil_append, Option.toList, Int.toNat, Int.reduceToNat, if_pos, if_neg, reduceIte, ↓reduceIte, Nat.reduceAdd, Nat.reduceEqDiff, Nat.reduceBEq, beq_self_eq_true, Bool.not_true, Bool.not_false, Bool.and_true, Bool.and_false, Bool.true_and, Bool.false_and, gI_sI, gI_sL, gI_sA, gI_sM, gL_sI, gL_sL, gL_sA, gL_sM, aI_sI, aI_sL, aI_sA, aI_sM, aL_sI, aL_sL, aL_sA, aL_sM, oi_1, oi_2, oi_300]; try dsimp only
    intro p2
    have t51 : ∀ (M_ : Nat) (q5 : Int32), (¬ q5 = 0 ↔ (x.1.2.1 = 25 ∨ x.1.2.1 = 26)) → K M_ 51 [(0, .ref 1000), (1, .int c), (2, .int ((gI σ 69) - 2)), (3, .int (((gI σ 69) - 2) + 1)), (4, .int ((aI σ 20) (c).toNatClampNeg))] [.int q5] (sI σ 69 ((gI σ 69) - 2)) := by
      intro M_ q5 hqe5
      refine hB _ _ _ _ _ (fun m3 hm3 => ?_)
      dsimp only [ugo, uwp, ust, uct, rfd, Bbinary, Bbinary_51, Nat.beq, lv_args, rlk, rs1, rs2, rdl, rky, rcd, rno, rsw, Value.category, List.filter, List.take, List.drop, List.reverse, List.reverseAux, List.cons_append, List.nil_append, Option.toList, Int.toNat, Int.reduceToNat, if_pos, if_neg, reduceIte, ↓reduceIte, Nat.reduceAdd, Nat.reduceEqDiff, Nat.reduceBEq, beq_self_eq_true, Bool.not_true, Bool.not_false, Bool.and_true, Bool.and_false, Bool.true_and, Bool.false_and, gI_sI, gI_sL, gI_sA, gI_sM, gL_sI, gL_sL, gL_sA, gL_sM, aI_sI, aI_sL, aI_sA, aI_sM, aL_sI, aL_sL, aL_sA, aL_sM]; try dsimp only
      have t72 : ∀ (M_ : Nat) (q6 : Int32), (¬ q6 = 0 ↔ (22 ≤ x.1.2.1 ∧ x.1.2.1 ≤ 26)) → K M_ 72 [(0, .ref 1000), (1, .int c), (2, .int ((gI σ 69) - 2)), (3, .int (((gI σ 69) - 2) + 1)), (4, .int ((aI σ 20) (c).toNatClampNeg)), (5, .int q5)] [.int q6] (sI σ 69 ((gI σ 69) - 2)) := by
        intro M_ q6 hqe6
        refine hB _ _ _ _ _ (fun m4 hm4 => ?_)
        dsimp only [ugo, uwp, ust, uct, rfd, Bbinary, Bbinary_72, Nat.beq, lv_args, rlk, rs1, rs2, rdl, rky, rcd, rno, rsw, Value.category, List.filter, List.take, List.drop, List.reverse, List.reverseAux, List.cons_append, List.nil_append, Option.toList, Int.toNat, Int.reduceToNat, if_pos, if_neg, reduceIte, ↓reduceIte, Nat.reduceAdd, Nat.reduceEqDiff, Nat.reduceBEq, beq_self_eq_true, Bool.not_true, Bool.not_false, Bool.and_true, Bool.and_false, Bool.true_and, Bool.false_and, gI_sI, gI_sL, gI_sA, gI_sM, gL_sI, gL_sL, gL_sA, gL_sM, aI_sI, aI_sL, aI_sA, aI_sM, aL_sI, aL_sL, aL_sA, aL_sM]; try dsimp only
        refine ⟨trivial, fun w5 τ5 hq5 => ?_⟩
        obtain ⟨rfl, b5, rfl, hb5⟩ := hq5 trivial
        obtain rfl : b5 = 0 := Classical.byContradiction (fun q => absurd (hb5.mp q) (TeR.nb ha))
        dsimp only [Option.toList, List.cons_append, List.nil_append, Nat.beq, gI_sI, gI_sL, gI_sA, gI_sM, gL_sI, gL_sL, gL_sA, gL_sM, aI_sI, aI_sL, aI_sA, aI_sM, aL_sI, aL_sL, aL_sA, aL_sM]
        refine ⟨fun h6 => absurd h6 (by decide), fun h6 => ?_⟩
        clear h6
        refine hB _ _ _ _ _ (fun m7 hm7 => ?_)
        dsimp only [ugo, uwp, ust, uct, rfd, Bbinary, Bbinary_82, Nat.beq, lv_args, rlk, rs1, rs2, rdl, rky, rcd, rno, rsw, Value.category, List.filter, List.take, List.drop, List.reverse, List.reverseAux, List.cons_append, List.nil_append, Option.toList, Int.toNat, Int.reduceToNat, if_pos, if_neg, reduceIte, ↓reduceIte, Nat.reduceAdd, Nat.reduceEqDiff, Nat.reduceBEq, beq_self_eq_true, Bool.not_true, Bool.not_false, Bool.and_true, Bool.and_false, Bool.true_and, Bool.false_and, gI_sI, gI_sL, gI_sA, gI_sM, gL_sI, gL_sL, gL_sA, gL_sM, aI_sI, aI_sL, aI_sA, aI_sM, aL_sI, aL_sL, aL_sA, aL_sM]; try dsimp only
        refine ⟨trivial, fun w8 τ8 hq8 => ?_⟩
        obtain ⟨rfl, b8, rfl, hb8⟩ := hq8 trivial
        obtain rfl : b8 = 0 := Classical.byContradiction (fun q => absurd (hb8.mp q) (TeR.nb hb))
        dsimp only [Option.toList, List.cons_append, List.nil_append, Nat.beq, gI_sI, gI_sL, gI_sA, gI_sM, gL_sI, gL_sL, gL_sA, gL_sM, aI_sI, aI_sL, aI_sA, aI_sM, aL_sI, aL_sL, aL_sA, aL_sM]
        refine ⟨fun h9 => ?_, fun h9 => absurd h9 (by decide)⟩
        clear h9
        refine hB _ _ _ _ _ (fun m10 hm10 => ?_)
        dsimp only [ugo, uwp, ust, uct, rfd, Bbinary, Bbinary_128, Nat.beq, lv_args, rlk, rs1, rs2, rdl, rky, rcd, rno, rsw, Value.category, List.filter, List.take, List.drop, List.reverse, List.reverseAux, List.cons_append, List.nil_append, Option.toList, Int.toNat, Int.reduceToNat, if_pos, if_neg, reduceIte, ↓reduceIte, Nat.reduceAdd, Nat.reduceEqDiff, Nat.reduceBEq, beq_self_eq_true, Bool.not_true, Bool.not_false, Bool.and_true, Bool.and_false, Bool.true_and, Bool.false_and, gI_sI, gI_sL, gI_sA, gI_sM, gL_sI, gL_sL, gL_sA, gL_sM, aI_sI, aI_sL, aI_sA, aI_sM, aL_sI, aL_sL, aL_sA, aL_sM]; try dsimp only
        refine ⟨trivial, fun w11 τ11 hq11 => ?_⟩
        obtain ⟨hA11, b11, rfl, hb11⟩ := hq11 trivial
        rcases hb11 _ ha with ⟨rfl, rfl, hd11⟩ | ⟨rfl, hz11, hd11⟩
        · dsimp only [Option.toList, List.cons_append, List.nil_append, Nat.beq, gI_sI, gI_sL, gI_sA, gI_sM, gL_sI, gL_sL, gL_sA, gL_sM, aI_sI, aI_sL, aI_sA, aI_sM, aL_sI, aL_sL, aL_sA, aL_sM]
          have hd11 : (((22 ≤ x.1.2.1 ∧ x.1.2.1 ≤ 26) ∧ a.1 = 0) ∨ nuT a.1) := hd11.imp (fun z => ⟨(hqe6).mp z.1, z.2⟩) id
          refine ⟨fun h12 => ?_, fun h12 => absurd h12 (by decide)⟩
          clear h12
          refine hB _ _ _ _ _ (fun m13 hm13 => ?_)
          dsimp only [ugo, uwp, ust, uct, rfd, Bbinary, Bbinary_156, Nat.beq, lv_args, rlk, rs1, rs2, rdl, rky, rcd, rno, rsw, Value.category, List.filter, List.take, List.drop, List.reverse, List.reverseAux, List.cons_append, List.nil_append, Option.toList, Int.toNat, Int.reduceToNat, if_pos, if_neg, reduceIte, ↓reduceIte, Nat.reduceAdd, Nat.reduceEqDiff, Nat.reduceBEq, beq_self_eq_true, Bool.not_true, Bool.not_false, Bool.and_true, Bool.and_false, Bool.true_and, Bool.false_and, gI_sI, gI_sL, gI_sA, gI_sM, gL_sI, gL_sL, gL_sA, gL_sM, aI_sI, aI_sL, aI_sA, aI_sM, aL_sI, aL_sL, aL_sA, aL_sM]; try dsimp only
          have t201 : ∀ (M_ : Nat), ltT x.1.2.1 a.1 ∧ rtT a.1 b.1 → K M_ 201 [(0, .ref 1000), (1, .int c), (2, .int ((gI σ 69) - 2)), (3, .int (((gI σ 69) - 2) + 1)), (4, .int ((aI σ 20) (c).toNatClampNeg)), (5, .int q5), (6, .int q6)] [] (sI σ 69 ((gI σ 69) - 2)) := by
            intro M_ hlr
            refine hB _ _ _ _ _ (fun m14 hm14 => ?_)
            dsimp only [ugo, uwp, ust, uct, rfd, Bbinary, Bbinary_201, Nat.beq, lv_args, rlk, rs1, rs2, rdl, rky, rcd, rno, rsw, Value.category, List.filter, List.take, List.drop, List.reverse, List.reverseAux, List.cons_append, List.nil_append, Option.toList, Int.toNat, Int.reduceToNat, if_pos, if_neg, reduceIte, ↓reduceIte, Nat.reduceAdd, Nat.reduceEqDiff, Nat.reduceBEq, beq_self_eq_true, Bool.not_true, Bool.not_false, Bool.and_true, Bool.and_false, Bool.true_and, Bool.false_and, gI_sI, gI_sL, gI_sA, gI_sM, gL_sI, gL_sL, gL_sA, gL_sM, aI_sI, aI_sL, aI_sA, aI_sM, aL_sI, aL_sL, aL_sA, aL_sM]; try dsimp only
            intro p15
            have t261 : ∀ (M_ : Nat) (wk : Int32), wk.toInt = wrT x.1.2.1 a.1 b.1 → K M_ 261 [(0, .ref 1000), (1, .int c), (2, .int ((gI σ 69) - 2)), (3, .int (((gI σ 69) - 2) + 1)), (4, .int ((aI σ 20) (c).toNatClampNeg)), (5, .int q5), (6, .int q6)] [.int wk] (sI σ 69 ((gI σ 69) - 2)) := by
              intro M_ wk hwk
              refine hB _ _ _ _ _ (fun m16 hm16 => ?_)
              dsimp only [ugo, uwp, ust, uct, rfd, Bbinary, Bbinary_261, Nat.beq, lv_args, rlk, rs1, rs2, rdl, rky, rcd, rno, rsw, Value.category, List.filter, List.take, List.drop, List.reverse, List.reverseAux, List.cons_append, List.nil_append, Option.toList, Int.toNat, Int.reduceToNat, if_pos, if_neg, reduceIte, ↓reduceIte, Nat.reduceAdd, Nat.reduceEqDiff, Nat.reduceBEq, beq_self_eq_true, Bool.not_true, Bool.not_false, Bool.and_true, Bool.and_false, Bool.true_and, Bool.false_and, gI_sI, gI_sL, gI_sA, gI_sM, gL_sI, gL_sL, gL_sA, gL_sM, aI_sI, aI_sL, aI_sA, aI_sM, aL_sI, aL_sL, aL_sA, aL_sM]; try dsimp only
              have t303 : ∀ (M_ : Nat) (q8 : Int32), (¬ q8 = 0 ↔ (25 ≤ x.1.2.1 ∧ x.1.2.1 ≤ 30)) → K M_ 303 [(0, .ref 1000), (1, .int c), (2, .int ((gI σ 69) - 2)), (3, .int (((gI σ 69) - 2) + 1)), (4, .int ((aI σ 20) (c).toNatClampNeg)), (5, .int q5), (6, .int q6), (7, .int wk)] [.int q8] (sI σ 69 ((gI σ 69) - 2)) := by
                intro M_ q8 hqe8
                refine hB _ _ _ _ _ (fun m17 hm17 => ?_)
                dsimp only [ugo, uwp, ust, uct, rfd, Bbinary, Bbinary_303, Nat.beq, lv_args, rlk, rs1, rs2, rdl, rky, rcd, rno, rsw, Value.category, List.filter, List.take, List.drop, List.reverse, List.reverseAux, List.cons_append, List.nil_append, Option.toList, Int.toNat, Int.reduceToNat, if_pos, if_neg, reduceIte, ↓reduceIte, Nat.reduceAdd, Nat.reduceEqDiff, Nat.reduceBEq, beq_self_eq_true, Bool.not_true, Bool.not_false, Bool.and_true, Bool.and_false, Bool.true_and, Bool.false_and, gI_sI, gI_sL, gI_sA, gI_sM, gL_sI, gL_sL, gL_sA, gL_sM, aI_sI, aI_sL, aI_sA, aI_sM, aL_sI, aL_sL, aL_sA, aL_sM]; try dsimp only
                intro p18
                intro p19
                have t361 : ∀ (M_ : Nat) (su : Int32), (¬ su = 0 ↔ csT x.1.2.1 a b = 1) → K M_ 361 [(0, .ref 1000), (1, .int c), (2, .int ((gI σ 69) - 2)), (3, .int (((gI σ 69) - 2) + 1)), (4, .int ((aI σ 20) (c).toNatClampNeg)), (5, .int q5), (6, .int q6), (7, .int wk), (8, .int q8)] [.int su] (sA (sI σ 69 ((gI σ 69) - 2)) 82 (upd (aI σ 82) (c).toNatClampNeg wk)) := by
                  intro M_ su hsu
                  refine hB _ _ _ _ _ (fun m20 hm20 => ?_)
                  dsimp only [ugo, uwp, ust, uct, rfd, Bbinary, Bbinary_361, Nat.beq, lv_args, rlk, rs1, rs2, rdl, rky, rcd, rno, rsw, Value.category, List.filter, List.take, List.drop, List.reverse, List.reverseAux, List.cons_append, List.nil_append, Option.toList, Int.toNat, Int.reduceToNat, if_pos, if_neg, reduceIte, ↓reduceIte, Nat.reduceAdd, Nat.reduceEqDiff, Nat.reduceBEq, beq_self_eq_true, Bool.not_true, Bool.not_false, Bool.and_true, Bool.and_false, Bool.true_and, Bool.false_and, gI_sI, gI_sL, gI_sA, gI_sM, gL_sI, gL_sL, gL_sA, gL_sM, aI_sI, aI_sL, aI_sA, aI_sM, aL_sI, aL_sL, aL_sA, aL_sM]; try dsimp only
                  have t376 : ∀ (M_ : Nat) (ty : Int32), ty.toInt = (if 25 ≤ x.1.2.1 ∧ x.1.2.1 ≤ 30 then 0 else wrT x.1.2.1 a.1 b.1) → K M_ 376 [(0, .ref 1000), (1, .int c), (2, .int ((gI σ 69) - 2)), (3, .int (((gI σ 69) - 2) + 1)), (4, .int ((aI σ 20) (c).toNatClampNeg)), (5, .int q5), (6, .int q6), (7, .int wk), (8, .int q8), (9, .int su)] [.int ty, .int c, .ref 1000] (sA (sI σ 69 ((gI σ 69) - 2)) 82 (upd (aI σ 82) (c).toNatClampNeg wk)) := by
                    intro M_ ty hty
                    refine hB _ _ _ _ _ (fun m21 hm21 => ?_)
                    dsimp only [ugo, uwp, ust, uct, rfd, Bbinary, Bbinary_376, Nat.beq, lv_args, rlk, rs1, rs2, rdl, rky, rcd, rno, rsw, Value.category, List.filter, List.take, List.drop, List.reverse, List.reverseAux, List.cons_append, List.nil_append, Option.toList, Int.toNat, Int.reduceToNat, if_pos, if_neg, reduceIte, ↓reduceIte, Nat.reduceAdd, Nat.reduceEqDiff, Nat.reduceBEq, beq_self_eq_true, Bool.not_true, Bool.not_false, Bool.and_true, Bool.and_false, Bool.true_and, Bool.false_and, gI_sI, gI_sL, gI_sA, gI_sM, gL_sI, gL_sL, gL_sA, gL_sM, aI_sI, aI_sL, aI_sA, aI_sM, aL_sI, aL_sL, aL_sA, aL_sM]; try dsimp only
                    have t407 : ∀ (M_ : Nat) (vv : Int64), (¬ su = 0 → vv = wkT x.1.2.1 (wrT x.1.2.1 a.1 b.1) a.2.2.1 b.2.2.1) → K M_ 407 [(0, .ref 1000), (1, .int c), (2, .int ((gI σ 69) - 2)), (3, .int (((gI σ 69) - 2) + 1)), (4, .int ((aI σ 20) (c).toNatClampNeg)), (5, .int q5), (6, .int q6), (7, .int wk), (8, .int q8), (9, .int su)] [.long vv, .int su, .int ty, .int c, .ref 1000] (sA (sI σ 69 ((gI σ 69) - 2)) 82 (upd (aI σ 82) (c).toNatClampNeg wk)) := by
                      intro M_ vv hvv
                      refine hB _ _ _ _ _ (fun m22 hm22 => ?_)
                      dsimp only [ugo, uwp, ust, uct, rfd, Bbinary, Bbinary_407, Nat.beq, lv_args, rlk, rs1, rs2, rdl, rky, rcd, rno, rsw, Value.category, List.filter, List.take, List.drop, List.reverse, List.reverseAux, List.cons_append, List.nil_append, Option.toList, Int.toNat, Int.reduceToNat, if_pos, if_neg, reduceIte, ↓reduceIte, Nat.reduceAdd, Nat.reduceEqDiff, Nat.reduceBEq, beq_self_eq_true, Bool.not_true, Bool.not_false, Bool.and_true, Bool.and_false, Bool.true_and, Bool.false_and, gI_sI, gI_sL, gI_sA, gI_sM, gL_sI, gL_sL, gL_sA, gL_sM, aI_sI, aI_sL, aI_sA, aI_sM, aL_sI, aL_sL, aL_sA, aL_sM]; try dsimp only
                      refine ⟨trivial, fun w23 τ23 hq23 => ?_⟩
                      obtain ⟨rfl, rfl⟩ := hq23 trivial
                      dsimp only [Option.toList, List.cons_append, List.nil_append, Nat.beq, gI_sI, gI_sL, gI_sA, gI_sM, gL_sI, gL_sL, gL_sA, gL_sM, aI_sI, aI_sL, aI_sA, aI_sM, aL_sI, aL_sL, aL_sA, aL_sM]
                      unfold Qv_binaryB
                      try dsimp only
                      refine ⟨rfl, Or.inr ?_⟩
                      refine ⟨_, if_pos hlr, wk, ty, su, vv, hwk, ⟨hty, cs_01 hsu, fun hc => ?_⟩, rfl⟩
                      have h1 : csT x.1.2.1 a b = 1 := hsu.mp ((cs_01 hsu).mpr hc)
                      show vv = if _ then _ else _
                      rw [if_pos h1, cv_wk (by omega)]
                      exact hvv (hsu.mpr h1)
                    refine ⟨fun h24 => ?_, fun h24 => ?_⟩
                    · have c24 : ¬ (csT x.1.2.1 a b = 1) := fun q => (hsu).mpr q h24
                      refine hB _ _ _ _ _ (fun m25 hm25 => ?_)
                      dsimp only [ugo, uwp, ust, uct, rfd, Bbinary, Bbinary_406, Nat.beq, lv_args, rlk, rs1, rs2, rdl, rky, rcd, rno, rsw, Value.category, List.filter, List.take, List.drop, List.reverse, List.reverseAux, List.cons_append, List.nil_append, Option.toList, Int.toNat, Int.reduceToNat, if_pos, if_neg, reduceIte, ↓reduceIte, Nat.reduceAdd, Nat.reduceEqDiff, Nat.reduceBEq, beq_self_eq_true, Bool.not_true, Bool.not_false, Bool.and_true, Bool.and_false, Bool.true_and, Bool.false_and, gI_sI, gI_sL, gI_sA, gI_sM, gL_sI, gL_sL, gL_sA, gL_sM, aI_sI, aI_sL, aI_sA, aI_sM, aL_sI, aL_sL, aL_sA, aL_sM]; try dsimp only
                      exact hW _ 407 [(0, .ref 1000), (1, .int c), (2, .int ((gI σ 69) - 2)), (3, .int (((gI σ 69) - 2) + 1)), (4, .int ((aI σ 20) (c).toNatClampNeg)), (5, .int q5), (6, .int q6), (7, .int wk), (8, .int q8), (9, .int su)] _ _ _ (by simp [rdl, rky, Value.category]) (t407 _ (0 : Int64) (fun q => absurd (by assumption) q))
                    · have c24 : csT x.1.2.1 a b = 1 := (hsu).mp h24
                      refine hB _ _ _ _ _ (fun m26 hm26 => ?_)
                      dsimp only [ugo, uwp, ust, uct, rfd, Bbinary, Bbinary_383, Nat.beq, lv_args, rlk, rs1, rs2, rdl, rky, rcd, rno, rsw, Value.category, List.filter, List.take, List.drop, List.reverse, List.reverseAux, List.cons_append, List.nil_append, Option.toList, Int.toNat, Int.reduceToNat, if_pos, if_neg, reduceIte, ↓reduceIte, Nat.reduceAdd, Nat.reduceEqDiff, Nat.reduceBEq, beq_self_eq_true, Bool.not_true, Bool.not_false, Bool.and_true, Bool.and_false, Bool.true_and, Bool.false_and, gI_sI, gI_sL, gI_sA, gI_sM, gL_sI, gL_sL, gL_sA, gL_sM, aI_sI, aI_sL, aI_sA, aI_sM, aL_sI, aL_sL, aL_sA, aL_sM]; try dsimp only
                      intro p27
                      intro p28
                      refine ⟨trivial, fun w29 τ29 hq29 => ?_⟩
                      obtain ⟨rfl, r29, rfl, hr29⟩ := hq29 trivial
                      have hr29 := hr29 x.1.2.1 hm hs4 (fun q => by rw [hwk]; exact wr_nz q hlr.1)
                      rw [show (wk).toInt = (wrT x.1.2.1 a.1 b.1) from hwk] at hr29
                      dsimp only [Option.toList, List.cons_append, List.nil_append, Nat.beq, gI_sI, gI_sL, gI_sA, gI_sM, gL_sI, gL_sL, gL_sA, gL_sM, aI_sI, aI_sL, aI_sA, aI_sM, aL_sI, aL_sL, aL_sA, aL_sM]
                      exact hW _ 407 [(0, .ref 1000), (1, .int c), (2, .int ((gI σ 69) - 2)), (3, .int (((gI σ 69) - 2) + 1)), (4, .int ((aI σ 20) (c).toNatClampNeg)), (5, .int q5), (6, .int q6), (7, .int wk), (8, .int q8), (9, .int su)] _ _ _ (by simp [rdl, rky, Value.category]) (t407 _ r29 (fun q => by have q1 := (show ¬ csT x.1.2.1 a b = 0 from (cs_01 hsu).mp q); have qa : ¬ a.2.1 = 0 := (by unfold csT at q1; split at q1; (next z => exact z.1); (exact absurd rfl q1)); have qb : ¬ b.2.1 = 0 := (by unfold csT at q1; split at q1; (next z => exact z.2.1); (exact absurd rfl q1)); rw [hr29, ha.2.2.1 qa, hb.2.2.1 qb]))
                  refine ⟨fun h30 => ?_, fun h30 => ?_⟩
                  · have c30 : ¬ ((25 ≤ x.1.2.1 ∧ x.1.2.1 ≤ 30)) := fun q => (hqe8).mpr q h30
                    refine hB _ _ _ _ _ (fun m31 hm31 => ?_)
                    dsimp only [ugo, uwp, ust, uct, rfd, Bbinary, Bbinary_374, Nat.beq, lv_args, rlk, rs1, rs2, rdl, rky, rcd, rno, rsw, Value.category, List.filter, List.take, List.drop, List.reverse, List.reverseAux, List.cons_append, List.nil_append, Option.toList, Int.toNat, Int.reduceToNat, if_pos, if_neg, reduceIte, ↓reduceIte, Nat.reduceAdd, Nat.reduceEqDiff, Nat.reduceBEq, beq_self_eq_true, Bool.not_true, Bool.not_false, Bool.and_true, Bool.and_false, Bool.true_and, Bool.false_and, gI_sI, gI_sL, gI_sA, gI_sM, gL_sI, gL_sL, gL_sA, gL_sM, aI_sI, aI_sL, aI_sA, aI_sM, aL_sI, aL_sL, aL_sA, aL_sM]; try dsimp only
                    exact hW _ 376 [(0, .ref 1000), (1, .int c), (2, .int ((gI σ 69) - 2)), (3, .int (((gI σ 69) - 2) + 1)), (4, .int ((aI σ 20) (c).toNatClampNeg)), (5, .int q5), (6, .int q6), (7, .int wk), (8, .int q8), (9, .int su)] _ _ _ (by simp [rdl, rky, Value.category]) (t376 _ wk (hwk.trans (if_neg (by omega)).symm))
                  · have c30 : (25 ≤ x.1.2.1 ∧ x.1.2.1 ≤ 30) := (hqe8).mp h30
                    refine hB _ _ _ _ _ (fun m32 hm32 => ?_)
                    dsimp only [ugo, uwp, ust, uct, rfd, Bbinary, Bbinary_370, Nat.beq, lv_args, rlk, rs1, rs2, rdl, rky, rcd, rno, rsw, Value.category, List.filter, List.take, List.drop, List.reverse, List.reverseAux, List.cons_append, List.nil_append, Option.toList, Int.toNat, Int.reduceToNat, if_pos, if_neg, reduceIte, ↓reduceIte, Nat.reduceAdd, Nat.reduceEqDiff, Nat.reduceBEq, beq_self_eq_true, Bool.not_true, Bool.not_false, Bool.and_true, Bool.and_false, Bool.true_and, Bool.false_and, gI_sI, gI_sL, gI_sA, gI_sM, gL_sI, gL_sL, gL_sA, gL_sM, aI_sI, aI_sL, aI_sA, aI_sM, aL_sI, aL_sL, aL_sA, aL_sM, oi_0]; try dsimp only
                    exact hW _ 376 [(0, .ref 1000), (1, .int c), (2, .int ((gI σ 69) - 2)), (3, .int (((gI σ 69) - 2) + 1)), (4, .int ((aI σ 20) (c).toNatClampNeg)), (5, .int q5), (6, .int q6), (7, .int wk), (8, .int q8), (9, .int su)] _ _ _ (by simp [rdl, rky, Value.category]) (t376 _ 0 (if_pos (by omega)).symm)
                refine ⟨fun h33 => ?_, fun h33 => ?_⟩
                · have c33 : ¬ ((¬ a.2.1 = 0)) := fun q => ((ha).2.1).mpr q h33
                  refine hB _ _ _ _ _ (fun m34 hm34 => ?_)
                  dsimp only [ugo, uwp, ust, uct, rfd, Bbinary, Bbinary_360, Nat.beq, lv_args, rlk, rs1, rs2, rdl, rky, rcd, rno, rsw, Value.category, List.filter, List.take, List.drop, List.reverse, List.reverseAux, List.cons_append, List.nil_append, Option.toList, Int.toNat, Int.reduceToNat, if_pos, if_neg, reduceIte, ↓reduceIte, Nat.reduceAdd, Nat.reduceEqDiff, Nat.reduceBEq, beq_self_eq_true, Bool.not_true, Bool.not_false, Bool.and_true, Bool.and_false, Bool.true_and, Bool.false_and, gI_sI, gI_sL, gI_sA, gI_sM, gL_sI, gL_sL, gL_sA, gL_sM, aI_sI, aI_sL, aI_sA, aI_sM, aL_sI, aL_sL, aL_sA, aL_sM, oi_0]; try dsimp only
                  exact hW _ 361 [(0, .ref 1000), (1, .int c), (2, .int ((gI σ 69) - 2)), (3, .int (((gI σ 69) - 2) + 1)), (4, .int ((aI σ 20) (c).toNatClampNeg)), (5, .int q5), (6, .int q6), (7, .int wk), (8, .int q8)] _ _ _ (by simp [rdl, rky, Value.category]) (t361 _ 0 (b00 (cs_no (by first | omega | exact Or.inr (Or.inr ⟨by omega, (hb.2.2.1 (by assumption)).symm.trans (by assumption)⟩)))))
                · have c33 : (¬ a.2.1 = 0) := ((ha).2.1).mp h33
                  refine hB _ _ _ _ _ (fun m35 hm35 => ?_)
                  dsimp only [ugo, uwp, ust, uct, rfd, Bbinary, Bbinary_322, Nat.beq, lv_args, rlk, rs1, rs2, rdl, rky, rcd, rno, rsw, Value.category, List.filter, List.take, List.drop, List.reverse, List.reverseAux, List.cons_append, List.nil_append, Option.toList, Int.toNat, Int.reduceToNat, if_pos, if_neg, reduceIte, ↓reduceIte, Nat.reduceAdd, Nat.reduceEqDiff, Nat.reduceBEq, beq_self_eq_true, Bool.not_true, Bool.not_false, Bool.and_true, Bool.and_false, Bool.true_and, Bool.false_and, gI_sI, gI_sL, gI_sA, gI_sM, gL_sI, gL_sL, gL_sA, gL_sM, aI_sI, aI_sL, aI_sA, aI_sM, aL_sI, aL_sL, aL_sA, aL_sM]; try dsimp only
                  intro p36
                  refine ⟨fun h37 => ?_, fun h37 => ?_⟩
                  · have c37 : ¬ ((¬ b.2.1 = 0)) := fun q => ((hb).2.1).mpr q h37
                    refine hB _ _ _ _ _ (fun m38 hm38 => ?_)
                    dsimp only [ugo, uwp, ust, uct, rfd, Bbinary, Bbinary_360, Nat.beq, lv_args, rlk, rs1, rs2, rdl, rky, rcd, rno, rsw, Value.category, List.filter, List.take, List.drop, List.reverse, List.reverseAux, List.cons_append, List.nil_append, Option.toList, Int.toNat, Int.reduceToNat, if_pos, if_neg, reduceIte, ↓reduceIte, Nat.reduceAdd, Nat.reduceEqDiff, Nat.reduceBEq, beq_self_eq_true, Bool.not_true, Bool.not_false, Bool.and_true, Bool.and_false, Bool.true_and, Bool.false_and, gI_sI, gI_sL, gI_sA, gI_sM, gL_sI, gL_sL, gL_sA, gL_sM, aI_sI, aI_sL, aI_sA, aI_sM, aL_sI, aL_sL, aL_sA, aL_sM, oi_0]; try dsimp only
                    exact hW _ 361 [(0, .ref 1000), (1, .int c), (2, .int ((gI σ 69) - 2)), (3, .int (((gI σ 69) - 2) + 1)), (4, .int ((aI σ 20) (c).toNatClampNeg)), (5, .int q5), (6, .int q6), (7, .int wk), (8, .int q8)] _ _ _ (by simp [rdl, rky, Value.category]) (t361 _ 0 (b00 (cs_no (by first | omega | exact Or.inr (Or.inr ⟨by omega, (hb.2.2.1 (by assumption)).symm.trans (by assumption)⟩)))))
                  · have c37 : (¬ b.2.1 = 0) := ((hb).2.1).mp h37
                    refine hB _ _ _ _ _ (fun m39 hm39 => ?_)
                    dsimp only [ugo, uwp, ust, uct, rfd, Bbinary, Bbinary_331, Nat.beq, lv_args, rlk, rs1, rs2, rdl, rky, rcd, rno, rsw, Value.category, List.filter, List.take, List.drop, List.reverse, List.reverseAux, List.cons_append, List.nil_append, Option.toList, Int.toNat, Int.reduceToNat, if_pos, if_neg, reduceIte, ↓reduceIte, Nat.reduceAdd, Nat.reduceEqDiff, Nat.reduceBEq, beq_self_eq_true, Bool.not_true, Bool.not_false, Bool.and_true, Bool.and_false, Bool.true_and, Bool.false_and, gI_sI, gI_sL, gI_sA, gI_sM, gL_sI, gL_sL, gL_sA, gL_sM, aI_sI, aI_sL, aI_sA, aI_sM, aL_sI, aL_sL, aL_sA, aL_sM, oi_47]; try dsimp only
                    refine ⟨fun h40 => ?_, fun h40 => ?_⟩
                    · have c40 : x.1.2.1 = 37 := (sg_n hm (by decide : ((47 : Int), (37 : Int)) ∈ sgT)).mp ((cI (rfl : (aI σ 20 c.toNatClampNeg).toInt = (aI σ 20 c.toNatClampNeg).toInt) (rfl : (47 : Int32).toInt = 47)).1.mp h40)
                      refine hB _ _ _ _ _ (fun m41 hm41 => ?_)
                      dsimp only [ugo, uwp, ust, uct, rfd, Bbinary, Bbinary_345, Nat.beq, lv_args, rlk, rs1, rs2, rdl, rky, rcd, rno, rsw, Value.category, List.filter, List.take, List.drop, List.reverse, List.reverseAux, List.cons_append, List.nil_append, Option.toList, Int.toNat, Int.reduceToNat, if_pos, if_neg, reduceIte, ↓reduceIte, Nat.reduceAdd, Nat.reduceEqDiff, Nat.reduceBEq, beq_self_eq_true, Bool.not_true, Bool.not_false, Bool.and_true, Bool.and_false, Bool.true_and, Bool.false_and, gI_sI, gI_sL, gI_sA, gI_sM, gL_sI, gL_sL, gL_sA, gL_sM, aI_sI, aI_sL, aI_sA, aI_sM, aL_sI, aL_sL, aL_sA, aL_sM]; try dsimp only
                      intro p42
                      refine ⟨fun h43 => ?_, fun h43 => ?_⟩
                      · have c43 : ((aL σ 72) ((((gI σ 69) - 2) + 1)).toNatClampNeg) = (0 : Int64) := (cL (a := (0 : Int64)) (b := ((aL σ 72) ((((gI σ 69) - 2) + 1)).toNatClampNeg))).1.mp h43
                        refine hB _ _ _ _ _ (fun m44 hm44 => ?_)
                        dsimp only [ugo, uwp, ust, uct, rfd, Bbinary, Bbinary_360, Nat.beq, lv_args, rlk, rs1, rs2, rdl, rky, rcd, rno, rsw, Value.category, List.filter, List.take, List.drop, List.reverse, List.reverseAux, List.cons_append, List.nil_append, Option.toList, Int.toNat, Int.reduceToNat, if_pos, if_neg, reduceIte, ↓reduceIte, Nat.reduceAdd, Nat.reduceEqDiff, Nat.reduceBEq, beq_self_eq_true, Bool.not_true, Bool.not_false, Bool.and_true, Bool.and_false, Bool.true_and, Bool.false_and, gI_sI, gI_sL, gI_sA, gI_sM, gL_sI, gL_sL, gL_sA, gL_sM, aI_sI, aI_sL, aI_sA, aI_sM, aL_sI, aL_sL, aL_sA, aL_sM, oi_0]; try dsimp only
                        exact hW _ 361 [(0, .ref 1000), (1, .int c), (2, .int ((gI σ 69) - 2)), (3, .int (((gI σ 69) - 2) + 1)), (4, .int ((aI σ 20) (c).toNatClampNeg)), (5, .int q5), (6, .int q6), (7, .int wk), (8, .int q8)] _ _ _ (by simp [rdl, rky, Value.category]) (t361 _ 0 (b00 (cs_no (by first | omega | exact Or.inr (Or.inr ⟨by omega, (hb.2.2.1 (by assumption)).symm.trans (by assumption)⟩)))))
                      · have c43 : ¬ ((aL σ 72) ((((gI σ 69) - 2) + 1)).toNatClampNeg) = (0 : Int64) := fun q => h43 ((cL (a := (0 : Int64)) (b := ((aL σ 72) ((((gI σ 69) - 2) + 1)).toNatClampNeg))).1.mpr q)
                        refine hB _ _ _ _ _ (fun m45 hm45 => ?_)
                        dsimp only [ugo, uwp, ust, uct, rfd, Bbinary, Bbinary_356, Nat.beq, lv_args, rlk, rs1, rs2, rdl, rky, rcd, rno, rsw, Value.category, List.filter, List.take, List.drop, List.reverse, List.reverseAux, List.cons_append, List.nil_append, Option.toList, Int.toNat, Int.reduceToNat, if_pos, if_neg, reduceIte, ↓reduceIte, Nat.reduceAdd, Nat.reduceEqDiff, Nat.reduceBEq, beq_self_eq_true, Bool.not_true, Bool.not_false, Bool.and_true, Bool.and_false, Bool.true_and, Bool.false_and, gI_sI, gI_sL, gI_sA, gI_sM, gL_sI, gL_sL, gL_sA, gL_sM, aI_sI, aI_sL, aI_sA, aI_sM, aL_sI, aL_sL, aL_sA, aL_sM, oi_1]; try dsimp only
                        exact hW _ 361 [(0, .ref 1000), (1, .int c), (2, .int ((gI σ 69) - 2)), (3, .int (((gI σ 69) - 2) + 1)), (4, .int ((aI σ 20) (c).toNatClampNeg)), (5, .int q5), (6, .int q6), (7, .int wk), (8, .int q8)] _ _ _ (by simp [rdl, rky, Value.category]) (t361 _ 1 (b01 (if_pos ⟨by assumption, by assumption, (fun z => by have z2 := hb.2.2.1 (by assumption); first | omega | exact absurd (z2.trans z.2) (by assumption))⟩)))
                    · have c40 : ¬ x.1.2.1 = 37 := fun q => h40 ((cI (rfl : (aI σ 20 c.toNatClampNeg).toInt = (aI σ 20 c.toNatClampNeg).toInt) (rfl : (47 : Int32).toInt = 47)).1.mpr ((sg_n hm (by decide : ((47 : Int), (37 : Int)) ∈ sgT)).mpr q))
                      refine hB _ _ _ _ _ (fun m46 hm46 => ?_)
                      dsimp only [ugo, uwp, ust, uct, rfd, Bbinary, Bbinary_338, Nat.beq, lv_args, rlk, rs1, rs2, rdl, rky, rcd, rno, rsw, Value.category, List.filter, List.take, List.drop, List.reverse, List.reverseAux, List.cons_append, List.nil_append, Option.toList, Int.toNat, Int.reduceToNat, if_pos, if_neg, reduceIte, ↓reduceIte, Nat.reduceAdd, Nat.reduceEqDiff, Nat.reduceBEq, beq_self_eq_true, Bool.not_true, Bool.not_false, Bool.and_true, Bool.and_false, Bool.true_and, Bool.false_and, gI_sI, gI_sL, gI_sA, gI_sM, gL_sI, gL_sL, gL_sA, gL_sM, aI_sI, aI_sL, aI_sA, aI_sM, aL_sI, aL_sL, aL_sA, aL_sM, oi_37]; try dsimp only
                      refine ⟨fun h47 => ?_, fun h47 => ?_⟩
                      · have c47 : ¬ x.1.2.1 = 38 := fun q => h47 ((cI (rfl : (aI σ 20 c.toNatClampNeg).toInt = (aI σ 20 c.toNatClampNeg).toInt) (rfl : (37 : Int32).toInt = 37)).1.mpr ((sg_n hm (by decide : ((37 : Int), (38 : Int)) ∈ sgT)).mpr q))
                        refine hB _ _ _ _ _ (fun m48 hm48 => ?_)
                        dsimp only [ugo, uwp, ust, uct, rfd, Bbinary, Bbinary_356, Nat.beq, lv_args, rlk, rs1, rs2, rdl, rky, rcd, rno, rsw, Value.category, List.filter, List.take, List.drop, List.reverse, List.reverseAux, List.cons_append, List.nil_append, Option.toList, Int.toNat, Int.reduceToNat, if_pos, if_neg, reduceIte, ↓reduceIte, Nat.reduceAdd, Nat.reduceEqDiff, Nat.reduceBEq, beq_self_eq_true, Bool.not_true, Bool.not_false, Bool.and_true, Bool.and_false, Bool.true_and, Bool.false_and, gI_sI, gI_sL, gI_sA, gI_sM, gL_sI, gL_sL, gL_sA, gL_sM, aI_sI, aI_sL, aI_sA, aI_sM, aL_sI, aL_sL, aL_sA, aL_sM, oi_1]; try dsimp only
                        exact hW _ 361 [(0, .ref 1000), (1, .int c), (2, .int ((gI σ 69) - 2)), (3, .int (((gI σ 69) - 2) + 1)), (4, .int ((aI σ 20) (c).toNatClampNeg)), (5, .int q5), (6, .int q6), (7, .int wk), (8, .int q8)] _ _ _ (by simp [rdl, rky, Value.category]) (t361 _ 1 (b01 (if_pos ⟨by assumption, by assumption, (fun z => by have z2 := hb.2.2.1 (by assumption); first | omega | exact absurd (z2.trans z.2) (by assumption))⟩)))
                      · have c47 : x.1.2.1 = 38 := (sg_n hm (by decide : ((37 : Int), (38 : Int)) ∈ sgT)).mp ((cI (rfl : (aI σ 20 c.toNatClampNeg).toInt = (aI σ 20 c.toNatClampNeg).toInt) (rfl : (37 : Int32).toInt = 37)).1.mp h47)
                        refine hB _ _ _ _ _ (fun m49 hm49 => ?_)
                        dsimp only [ugo, uwp, ust, uct, rfd, Bbinary, Bbinary_345, Nat.beq, lv_args, rlk, rs1, rs2, rdl, rky, rcd, rno, rsw, Value.category, List.filter, List.take, List.drop, List.reverse, List.reverseAux, List.cons_append, List.nil_append, Option.toList, Int.toNat, Int.reduceToNat, if_pos, if_neg, reduceIte, ↓reduceIte, Nat.reduceAdd, Nat.reduceEqDiff, Nat.reduceBEq, beq_self_eq_true, Bool.not_true, Bool.not_false, Bool.and_true, Bool.and_false, Bool.true_and, Bool.false_and, gI_sI, gI_sL, gI_sA, gI_sM, gL_sI, gL_sL, gL_sA, gL_sM, aI_sI, aI_sL, aI_sA, aI_sM, aL_sI, aL_sL, aL_sA, aL_sM]; try dsimp only
                        intro p50
                        refine ⟨fun h51 => ?_, fun h51 => ?_⟩
                        · have c51 : ((aL σ 72) ((((gI σ 69) - 2) + 1)).toNatClampNeg) = (0 : Int64) := (cL (a := (0 : Int64)) (b := ((aL σ 72) ((((gI σ 69) - 2) + 1)).toNatClampNeg))).1.mp h51
                          refine hB _ _ _ _ _ (fun m52 hm52 => ?_)
                          dsimp only [ugo, uwp, ust, uct, rfd, Bbinary, Bbinary_360, Nat.beq, lv_args, rlk, rs1, rs2, rdl, rky, rcd, rno, rsw, Value.category, List.filter, List.take, List.drop, List.reverse, List.reverseAux, List.cons_append, List.nil_append, Option.toList, Int.toNat, Int.reduceToNat, if_pos, if_neg, reduceIte, ↓reduceIte, Nat.reduceAdd, Nat.reduceEqDiff, Nat.reduceBEq, beq_self_eq_true, Bool.not_true, Bool.not_false, Bool.and_true, Bool.and_false, Bool.true_and, Bool.false_and, gI_sI, gI_sL, gI_sA, gI_sM, gL_sI, gL_sL, gL_sA, gL_sM, aI_sI, aI_sL, aI_sA, aI_sM, aL_sI, aL_sL, aL_sA, aL_sM, oi_0]; try dsimp only
                          exact hW _ 361 [(0, .ref 1000), (1, .int c), (2, .int ((gI σ 69) - 2)), (3, .int (((gI σ 69) - 2) + 1)), (4, .int ((aI σ 20) (c).toNatClampNeg)), (5, .int q5), (6, .int q6), (7, .int wk), (8, .int q8)] _ _ _ (by simp [rdl, rky, Value.category]) (t361 _ 0 (b00 (cs_no (by first | omega | exact Or.inr (Or.inr ⟨by omega, (hb.2.2.1 (by assumption)).symm.trans (by assumption)⟩)))))
                        · have c51 : ¬ ((aL σ 72) ((((gI σ 69) - 2) + 1)).toNatClampNeg) = (0 : Int64) := fun q => h51 ((cL (a := (0 : Int64)) (b := ((aL σ 72) ((((gI σ 69) - 2) + 1)).toNatClampNeg))).1.mpr q)
                          refine hB _ _ _ _ _ (fun m53 hm53 => ?_)
                          dsimp only [ugo, uwp, ust, uct, rfd, Bbinary, Bbinary_356, Nat.beq, lv_args, rlk, rs1, rs2, rdl, rky, rcd, rno, rsw, Value.category, List.filter, List.take, List.drop, List.reverse, List.reverseAux, List.cons_append, List.nil_append, Option.toList, Int.toNat, Int.reduceToNat, if_pos, if_neg, reduceIte, ↓reduceIte, Nat.reduceAdd, Nat.reduceEqDiff, Nat.reduceBEq, beq_self_eq_true, Bool.not_true, Bool.not_false, Bool.and_true, Bool.and_false, Bool.true_and, Bool.false_and, gI_sI, gI_sL, gI_sA, gI_sM, gL_sI, gL_sL, gL_sA, gL_sM, aI_sI, aI_sL, aI_sA, aI_sM, aL_sI, aL_sL, aL_sA, aL_sM, oi_1]; try dsimp only
                          exact hW _ 361 [(0, .ref 1000), (1, .int c), (2, .int ((gI σ 69) - 2)), (3, .int (((gI σ 69) - 2) + 1)), (4, .int ((aI σ 20) (c).toNatClampNeg)), (5, .int q5), (6, .int q6), (7, .int wk), (8, .int q8)] _ _ _ (by simp [rdl, rky, Value.category]) (t361 _ 1 (b01 (if_pos ⟨by assumption, by assumption, (fun z => by have z2 := hb.2.2.1 (by assumption); first | omega | exact absurd (z2.trans z.2) (by assumption))⟩)))
              refine ⟨fun h54 => ?_, fun h54 => ?_⟩
              · have c54 : (x.1.2.1 = 25 ∨ x.1.2.1 = 26) := (hqe5).mp h54
                refine hB _ _ _ _ _ (fun m55 hm55 => ?_)
                dsimp only [ugo, uwp, ust, uct, rfd, Bbinary, Bbinary_298, Nat.beq, lv_args, rlk, rs1, rs2, rdl, rky, rcd, rno, rsw, Value.category, List.filter, List.take, List.drop, List.reverse, List.reverseAux, List.cons_append, List.nil_append, Option.toList, Int.toNat, Int.reduceToNat, if_pos, if_neg, reduceIte, ↓reduceIte, Nat.reduceAdd, Nat.reduceEqDiff, Nat.reduceBEq, beq_self_eq_true, Bool.not_true, Bool.not_false, Bool.and_true, Bool.and_false, Bool.true_and, Bool.false_and, gI_sI, gI_sL, gI_sA, gI_sM, gL_sI, gL_sL, gL_sA, gL_sM, aI_sI, aI_sL, aI_sA, aI_sM, aL_sI, aL_sL, aL_sA, aL_sM, oi_1]; try dsimp only
                exact hW _ 303 [(0, .ref 1000), (1, .int c), (2, .int ((gI σ 69) - 2)), (3, .int (((gI σ 69) - 2) + 1)), (4, .int ((aI σ 20) (c).toNatClampNeg)), (5, .int q5), (6, .int q6), (7, .int wk)] _ _ _ (by simp [rdl, rky, Value.category]) (t303 _ 1 (b01 (by omega)))
              · have c54 : ¬ ((x.1.2.1 = 25 ∨ x.1.2.1 = 26)) := fun q => (hqe5).mpr q h54
                refine hB _ _ _ _ _ (fun m56 hm56 => ?_)
                dsimp only [ugo, uwp, ust, uct, rfd, Bbinary, Bbinary_268, Nat.beq, lv_args, rlk, rs1, rs2, rdl, rky, rcd, rno, rsw, Value.category, List.filter, List.take, List.drop, List.reverse, List.reverseAux, List.cons_append, List.nil_append, Option.toList, Int.toNat, Int.reduceToNat, if_pos, if_neg, reduceIte, ↓reduceIte, Nat.reduceAdd, Nat.reduceEqDiff, Nat.reduceBEq, beq_self_eq_true, Bool.not_true, Bool.not_false, Bool.and_true, Bool.and_false, Bool.true_and, Bool.false_and, gI_sI, gI_sL, gI_sA, gI_sM, gL_sI, gL_sL, gL_sA, gL_sM, aI_sI, aI_sL, aI_sA, aI_sM, aL_sI, aL_sL, aL_sA, aL_sM, oi_60]; try dsimp only
                refine ⟨fun h57 => ?_, fun h57 => ?_⟩
                · have c57 : x.1.2.1 = 27 := (sg_n hm (by decide : ((60 : Int), (27 : Int)) ∈ sgT)).mp ((cI (rfl : (aI σ 20 c.toNatClampNeg).toInt = (aI σ 20 c.toNatClampNeg).toInt) (rfl : (60 : Int32).toInt = 60)).1.mp h57)
                  refine hB _ _ _ _ _ (fun m58 hm58 => ?_)
                  dsimp only [ugo, uwp, ust, uct, rfd, Bbinary, Bbinary_298, Nat.beq, lv_args, rlk, rs1, rs2, rdl, rky, rcd, rno, rsw, Value.category, List.filter, List.take, List.drop, List.reverse, List.reverseAux, List.cons_append, List.nil_append, Option.toList, Int.toNat, Int.reduceToNat, if_pos, if_neg, reduceIte, ↓reduceIte, Nat.reduceAdd, Nat.reduceEqDiff, Nat.reduceBEq, beq_self_eq_true, Bool.not_true, Bool.not_false, Bool.and_true, Bool.and_false, Bool.true_and, Bool.false_and, gI_sI, gI_sL, gI_sA, gI_sM, gL_sI, gL_sL, gL_sA, gL_sM, aI_sI, aI_sL, aI_sA, aI_sM, aL_sI, aL_sL, aL_sA, aL_sM, oi_1]; try dsimp only
                  exact hW _ 303 [(0, .ref 1000), (1, .int c), (2, .int ((gI σ 69) - 2)), (3, .int (((gI σ 69) - 2) + 1)), (4, .int ((aI σ 20) (c).toNatClampNeg)), (5, .int q5), (6, .int q6), (7, .int wk)] _ _ _ (by simp [rdl, rky, Value.category]) (t303 _ 1 (b01 (by omega)))
                · have c57 : ¬ x.1.2.1 = 27 := fun q => h57 ((cI (rfl : (aI σ 20 c.toNatClampNeg).toInt = (aI σ 20 c.toNatClampNeg).toInt) (rfl : (60 : Int32).toInt = 60)).1.mpr ((sg_n hm (by decide : ((60 : Int), (27 : Int)) ∈ sgT)).mpr q))
                  refine hB _ _ _ _ _ (fun m59 hm59 => ?_)
                  dsimp only [ugo, uwp, ust, uct, rfd, Bbinary, Bbinary_275, Nat.beq, lv_args, rlk, rs1, rs2, rdl, rky, rcd, rno, rsw, Value.category, List.filter, List.take, List.drop, List.reverse, List.reverseAux, List.cons_append, List.nil_append, Option.toList, Int.toNat, Int.reduceToNat, if_pos, if_neg, reduceIte, ↓reduceIte, Nat.reduceAdd, Nat.reduceEqDiff, Nat.reduceBEq, beq_self_eq_true, Bool.not_true, Bool.not_false, Bool.and_true, Bool.and_false, Bool.true_and, Bool.false_and, gI_sI, gI_sL, gI_sA, gI_sM, gL_sI, gL_sL, gL_sA, gL_sM, aI_sI, aI_sL, aI_sA, aI_sM, aL_sI, aL_sL, aL_sA, aL_sM, oi_62]; try dsimp only
                  refine ⟨fun h60 => ?_, fun h60 => ?_⟩
                  · have c60 : x.1.2.1 = 29 := (sg_n hm (by decide : ((62 : Int), (29 : Int)) ∈ sgT)).mp ((cI (rfl : (aI σ 20 c.toNatClampNeg).toInt = (aI σ 20 c.toNatClampNeg).toInt) (rfl : (62 : Int32).toInt = 62)).1.mp h60)
                    refine hB _ _ _ _ _ (fun m61 hm61 => ?_)
                    dsimp only [ugo, uwp, ust, uct, rfd, Bbinary, Bbinary_298, Nat.beq, lv_args, rlk, rs1, rs2, rdl, rky, rcd, rno, rsw, Value.category, List.filter, List.take, List.drop, List.reverse, List.reverseAux, List.cons_append, List.nil_append, Option.toList, Int.toNat, Int.reduceToNat, if_pos, if_neg, reduceIte, ↓reduceIte, Nat.reduceAdd, Nat.reduceEqDiff, Nat.reduceBEq, beq_self_eq_true, Bool.not_true, Bool.not_false, Bool.and_true, Bool.and_false, Bool.true_and, Bool.false_and, gI_sI, gI_sL, gI_sA, gI_sM, gL_sI, gL_sL, gL_sA, gL_sM, aI_sI, aI_sL, aI_sA, aI_sM, aL_sI, aL_sL, aL_sA, aL_sM, oi_1]; try dsimp only
                    exact hW _ 303 [(0, .ref 1000), (1, .int c), (2, .int ((gI σ 69) - 2)), (3, .int (((gI σ 69) - 2) + 1)), (4, .int ((aI σ 20) (c).toNatClampNeg)), (5, .int q5), (6, .int q6), (7, .int wk)] _ _ _ (by simp [rdl, rky, Value.category]) (t303 _ 1 (b01 (by omega)))
                  · have c60 : ¬ x.1.2.1 = 29 := fun q => h60 ((cI (rfl : (aI σ 20 c.toNatClampNeg).toInt = (aI σ 20 c.toNatClampNeg).toInt) (rfl : (62 : Int32).toInt = 62)).1.mpr ((sg_n hm (by decide : ((62 : Int), (29 : Int)) ∈ sgT)).mpr q))
                    refine hB _ _ _ _ _ (fun m62 hm62 => ?_)
                    dsimp only [ugo, uwp, ust, uct, rfd, Bbinary, Bbinary_282, Nat.beq, lv_args, rlk, rs1, rs2, rdl, rky, rcd, rno, rsw, Value.category, List.filter, List.take, List.drop, List.reverse, List.reverseAux, List.cons_append, List.nil_append, Option.toList, Int.toNat, Int.reduceToNat, if_pos, if_neg, reduceIte, ↓reduceIte, Nat.reduceAdd, Nat.reduceEqDiff, Nat.reduceBEq, beq_self_eq_true, Bool.not_true, Bool.not_false, Bool.and_true, Bool.and_false, Bool.true_and, Bool.false_and, gI_sI, gI_sL, gI_sA, gI_sM, gL_sI, gL_sL, gL_sA, gL_sM, aI_sI, aI_sL, aI_sA, aI_sM, aL_sI, aL_sL, aL_sA, aL_sM, oi_302]; try dsimp only
                    refine ⟨fun h63 => ?_, fun h63 => ?_⟩
                    · have c63 : x.1.2.1 = 28 := (sg_n hm (by decide : ((302 : Int), (28 : Int)) ∈ sgT)).mp ((cI (rfl : (aI σ 20 c.toNatClampNeg).toInt = (aI σ 20 c.toNatClampNeg).toInt) (rfl : (302 : Int32).toInt = 302)).1.mp h63)
                      refine hB _ _ _ _ _ (fun m64 hm64 => ?_)
                      dsimp only [ugo, uwp, ust, uct, rfd, Bbinary, Bbinary_298, Nat.beq, lv_args, rlk, rs1, rs2, rdl, rky, rcd, rno, rsw, Value.category, List.filter, List.take, List.drop, List.reverse, List.reverseAux, List.cons_append, List.nil_append, Option.toList, Int.toNat, Int.reduceToNat, if_pos, if_neg, reduceIte, ↓reduceIte, Nat.reduceAdd, Nat.reduceEqDiff, Nat.reduceBEq, beq_self_eq_true, Bool.not_true, Bool.not_false, Bool.and_true, Bool.and_false, Bool.true_and, Bool.false_and, gI_sI, gI_sL, gI_sA, gI_sM, gL_sI, gL_sL, gL_sA, gL_sM, aI_sI, aI_sL, aI_sA, aI_sM, aL_sI, aL_sL, aL_sA, aL_sM, oi_1]; try dsimp only
                      exact hW _ 303 [(0, .ref 1000), (1, .int c), (2, .int ((gI σ 69) - 2)), (3, .int (((gI σ 69) - 2) + 1)), (4, .int ((aI σ 20) (c).toNatClampNeg)), (5, .int q5), (6, .int q6), (7, .int wk)] _ _ _ (by simp [rdl, rky, Value.category]) (t303 _ 1 (b01 (by omega)))
                    · have c63 : ¬ x.1.2.1 = 28 := fun q => h63 ((cI (rfl : (aI σ 20 c.toNatClampNeg).toInt = (aI σ 20 c.toNatClampNeg).toInt) (rfl : (302 : Int32).toInt = 302)).1.mpr ((sg_n hm (by decide : ((302 : Int), (28 : Int)) ∈ sgT)).mpr q))
                      refine hB _ _ _ _ _ (fun m65 hm65 => ?_)
                      dsimp only [ugo, uwp, ust, uct, rfd, Bbinary, Bbinary_290, Nat.beq, lv_args, rlk, rs1, rs2, rdl, rky, rcd, rno, rsw, Value.category, List.filter, List.take, List.drop, List.reverse, List.reverseAux, List.cons_append, List.nil_append, Option.toList, Int.toNat, Int.reduceToNat, if_pos, if_neg, reduceIte, ↓reduceIte, Nat.reduceAdd, Nat.reduceEqDiff, Nat.reduceBEq, beq_self_eq_true, Bool.not_true, Bool.not_false, Bool.and_true, Bool.and_false, Bool.true_and, Bool.false_and, gI_sI, gI_sL, gI_sA, gI_sM, gL_sI, gL_sL, gL_sA, gL_sM, aI_sI, aI_sL, aI_sA, aI_sM, aL_sI, aL_sL, aL_sA, aL_sM, oi_303]; try dsimp only
                      refine ⟨fun h66 => ?_, fun h66 => ?_⟩
                      · have c66 : ¬ x.1.2.1 = 30 := fun q => h66 ((cI (rfl : (aI σ 20 c.toNatClampNeg).toInt = (aI σ 20 c.toNatClampNeg).toInt) (rfl : (303 : Int32).toInt = 303)).1.mpr ((sg_n hm (by decide : ((303 : Int), (30 : Int)) ∈ sgT)).mpr q))
                        refine hB _ _ _ _ _ (fun m67 hm67 => ?_)
                        dsimp only [ugo, uwp, ust, uct, rfd, Bbinary, Bbinary_302, Nat.beq, lv_args, rlk, rs1, rs2, rdl, rky, rcd, rno, rsw, Value.category, List.filter, List.take, List.drop, List.reverse, List.reverseAux, List.cons_append, List.nil_append, Option.toList, Int.toNat, Int.reduceToNat, if_pos, if_neg, reduceIte, ↓reduceIte, Nat.reduceAdd, Nat.reduceEqDiff, Nat.reduceBEq, beq_self_eq_true, Bool.not_true, Bool.not_false, Bool.and_true, Bool.and_false, Bool.true_and, Bool.false_and, gI_sI, gI_sL, gI_sA, gI_sM, gL_sI, gL_sL, gL_sA, gL_sM, aI_sI, aI_sL, aI_sA, aI_sM, aL_sI, aL_sL, aL_sA, aL_sM, oi_0]; try dsimp only
                        exact hW _ 303 [(0, .ref 1000), (1, .int c), (2, .int ((gI σ 69) - 2)), (3, .int (((gI σ 69) - 2) + 1)), (4, .int ((aI σ 20) (c).toNatClampNeg)), (5, .int q5), (6, .int q6), (7, .int wk)] _ _ _ (by simp [rdl, rky, Value.category]) (t303 _ 0 (b00 (by omega)))
                      · have c66 : x.1.2.1 = 30 := (sg_n hm (by decide : ((303 : Int), (30 : Int)) ∈ sgT)).mp ((cI (rfl : (aI σ 20 c.toNatClampNeg).toInt = (aI σ 20 c.toNatClampNeg).toInt) (rfl : (303 : Int32).toInt = 303)).1.mp h66)
                        refine hB _ _ _ _ _ (fun m68 hm68 => ?_)
                        dsimp only [ugo, uwp, ust, uct, rfd, Bbinary, Bbinary_298, Nat.beq, lv_args, rlk, rs1, rs2, rdl, rky, rcd, rno, rsw, Value.category, List.filter, List.take, List.drop, List.reverse, List.reverseAux, List.cons_append, List.nil_append, Option.toList, Int.toNat, Int.reduceToNat, if_pos, if_neg, reduceIte, ↓reduceIte, Nat.reduceAdd, Nat.reduceEqDiff, Nat.reduceBEq, beq_self_eq_true, Bool.not_true, Bool.not_false, Bool.and_true, Bool.and_false, Bool.true_and, Bool.false_and, gI_sI, gI_sL, gI_sA, gI_sM, gL_sI, gL_sL, gL_sA, gL_sM, aI_sI, aI_sL, aI_sA, aI_sM, aL_sI, aL_sL, aL_sA, aL_sM, oi_1]; try dsimp only
                        exact hW _ 303 [(0, .ref 1000), (1, .int c), (2, .int ((gI σ 69) - 2)), (3, .int (((gI σ 69) - 2) + 1)), (4, .int ((aI σ 20) (c).toNatClampNeg)), (5, .int q5), (6, .int q6), (7, .int wk)] _ _ _ (by simp [rdl, rky, Value.category]) (t303 _ 1 (b01 (by omega)))
            refine ⟨fun h69 => ?_, fun h69 => ?_⟩
            · have c69 : ¬ a.1 = 0 := fun q => h69 ((cI (ha).1 (rfl : (0 : Int32).toInt = 0)).1.mpr q)
              refine hB _ _ _ _ _ (fun m70 hm70 => ?_)
              dsimp only [ugo, uwp, ust, uct, rfd, Bbinary, Bbinary_214, Nat.beq, lv_args, rlk, rs1, rs2, rdl, rky, rcd, rno, rsw, Value.category, List.filter, List.take, List.drop, List.reverse, List.reverseAux, List.cons_append, List.nil_append, Option.toList, Int.toNat, Int.reduceToNat, if_pos, if_neg, reduceIte, ↓reduceIte, Nat.reduceAdd, Nat.reduceEqDiff, Nat.reduceBEq, beq_self_eq_true, Bool.not_true, Bool.not_false, Bool.and_true, Bool.and_false, Bool.true_and, Bool.false_and, gI_sI, gI_sL, gI_sA, gI_sM, gL_sI, gL_sL, gL_sA, gL_sM, aI_sI, aI_sL, aI_sA, aI_sM, aL_sI, aL_sL, aL_sA, aL_sM]; try dsimp only
              refine ⟨trivial, fun w71 τ71 hq71 => ?_⟩
              obtain ⟨rfl, b71, rfl, hb71⟩ := hq71 trivial
              have hb71 : ¬ b71 = 0 ↔ (31 ≤ x.1.2.1 ∧ x.1.2.1 ≤ 33) := hb71.trans (sg_sh hm)
              dsimp only [Option.toList, List.cons_append, List.nil_append, Nat.beq, gI_sI, gI_sL, gI_sA, gI_sM, gL_sI, gL_sL, gL_sA, gL_sM, aI_sI, aI_sL, aI_sA, aI_sM, aL_sI, aL_sL, aL_sA, aL_sM]
              refine ⟨fun h72 => ?_, fun h72 => ?_⟩
              · have c72 : ¬ ((31 ≤ x.1.2.1 ∧ x.1.2.1 ≤ 33)) := fun q => (hb71).mpr q h72
                refine hB _ _ _ _ _ (fun m73 hm73 => ?_)
                dsimp only [ugo, uwp, ust, uct, rfd, Bbinary, Bbinary_236, Nat.beq, lv_args, rlk, rs1, rs2, rdl, rky, rcd, rno, rsw, Value.category, List.filter, List.take, List.drop, List.reverse, List.reverseAux, List.cons_append, List.nil_append, Option.toList, Int.toNat, Int.reduceToNat, if_pos, if_neg, reduceIte, ↓reduceIte, Nat.reduceAdd, Nat.reduceEqDiff, Nat.reduceBEq, beq_self_eq_true, Bool.not_true, Bool.not_false, Bool.and_true, Bool.and_false, Bool.true_and, Bool.false_and, gI_sI, gI_sL, gI_sA, gI_sM, gL_sI, gL_sL, gL_sA, gL_sM, aI_sI, aI_sL, aI_sA, aI_sM, aL_sI, aL_sL, aL_sA, aL_sM, oi_4]; try dsimp only
                intro p74
                refine ⟨fun h75 => ?_, fun h75 => ?_⟩
                · have c75 : a.1 = 4 := (cI (ha).1 (rfl : (4 : Int32).toInt = 4)).1.mp h75
                  refine hB _ _ _ _ _ (fun m76 hm76 => ?_)
                  dsimp only [ugo, uwp, ust, uct, rfd, Bbinary, Bbinary_256, Nat.beq, lv_args, rlk, rs1, rs2, rdl, rky, rcd, rno, rsw, Value.category, List.filter, List.take, List.drop, List.reverse, List.reverseAux, List.cons_append, List.nil_append, Option.toList, Int.toNat, Int.reduceToNat, if_pos, if_neg, reduceIte, ↓reduceIte, Nat.reduceAdd, Nat.reduceEqDiff, Nat.reduceBEq, beq_self_eq_true, Bool.not_true, Bool.not_false, Bool.and_true, Bool.and_false, Bool.true_and, Bool.false_and, gI_sI, gI_sL, gI_sA, gI_sM, gL_sI, gL_sL, gL_sA, gL_sM, aI_sI, aI_sL, aI_sA, aI_sM, aL_sI, aL_sL, aL_sA, aL_sM, oi_4]; try dsimp only
                  exact hW _ 261 [(0, .ref 1000), (1, .int c), (2, .int ((gI σ 69) - 2)), (3, .int (((gI σ 69) - 2) + 1)), (4, .int ((aI σ 20) (c).toNatClampNeg)), (5, .int q5), (6, .int q6)] _ _ _ (by simp [rdl, rky, Value.category]) (t261 _ 4 (by unfold wrT; rw [if_neg (by omega), if_neg (by omega), if_pos (by omega)]; rfl))
                · have c75 : ¬ a.1 = 4 := fun q => h75 ((cI (ha).1 (rfl : (4 : Int32).toInt = 4)).1.mpr q)
                  refine hB _ _ _ _ _ (fun m77 hm77 => ?_)
                  dsimp only [ugo, uwp, ust, uct, rfd, Bbinary, Bbinary_246, Nat.beq, lv_args, rlk, rs1, rs2, rdl, rky, rcd, rno, rsw, Value.category, List.filter, List.take, List.drop, List.reverse, List.reverseAux, List.cons_append, List.nil_append, Option.toList, Int.toNat, Int.reduceToNat, if_pos, if_neg, reduceIte, ↓reduceIte, Nat.reduceAdd, Nat.reduceEqDiff, Nat.reduceBEq, beq_self_eq_true, Bool.not_true, Bool.not_false, Bool.and_true, Bool.and_false, Bool.true_and, Bool.false_and, gI_sI, gI_sL, gI_sA, gI_sM, gL_sI, gL_sL, gL_sA, gL_sM, aI_sI, aI_sL, aI_sA, aI_sM, aL_sI, aL_sL, aL_sA, aL_sM, oi_4]; try dsimp only
                  intro p78
                  refine ⟨fun h79 => ?_, fun h79 => ?_⟩
                  · have c79 : ¬ b.1 = 4 := fun q => h79 ((cI (hb).1 (rfl : (4 : Int32).toInt = 4)).1.mpr q)
                    refine hB _ _ _ _ _ (fun m80 hm80 => ?_)
                    dsimp only [ugo, uwp, ust, uct, rfd, Bbinary, Bbinary_260, Nat.beq, lv_args, rlk, rs1, rs2, rdl, rky, rcd, rno, rsw, Value.category, List.filter, List.take, List.drop, List.reverse, List.reverseAux, List.cons_append, List.nil_append, Option.toList, Int.toNat, Int.reduceToNat, if_pos, if_neg, reduceIte, ↓reduceIte, Nat.reduceAdd, Nat.reduceEqDiff, Nat.reduceBEq, beq_self_eq_true, Bool.not_true, Bool.not_false, Bool.and_true, Bool.and_false, Bool.true_and, Bool.false_and, gI_sI, gI_sL, gI_sA, gI_sM, gL_sI, gL_sL, gL_sA, gL_sM, aI_sI, aI_sL, aI_sA, aI_sM, aL_sI, aL_sL, aL_sA, aL_sM, oi_3]; try dsimp only
                    exact hW _ 261 [(0, .ref 1000), (1, .int c), (2, .int ((gI σ 69) - 2)), (3, .int (((gI σ 69) - 2) + 1)), (4, .int ((aI σ 20) (c).toNatClampNeg)), (5, .int q5), (6, .int q6)] _ _ _ (by simp [rdl, rky, Value.category]) (t261 _ 3 (by unfold wrT; rw [if_neg (by omega), if_neg (by omega), if_neg (by omega)]; rfl))
                  · have c79 : b.1 = 4 := (cI (hb).1 (rfl : (4 : Int32).toInt = 4)).1.mp h79
                    refine hB _ _ _ _ _ (fun m81 hm81 => ?_)
                    dsimp only [ugo, uwp, ust, uct, rfd, Bbinary, Bbinary_256, Nat.beq, lv_args, rlk, rs1, rs2, rdl, rky, rcd, rno, rsw, Value.category, List.filter, List.take, List.drop, List.reverse, List.reverseAux, List.cons_append, List.nil_append, Option.toList, Int.toNat, Int.reduceToNat, if_pos, if_neg, reduceIte, ↓reduceIte, Nat.reduceAdd, Nat.reduceEqDiff, Nat.reduceBEq, beq_self_eq_true, Bool.not_true, Bool.not_false, Bool.and_true, Bool.and_false, Bool.true_and, Bool.false_and, gI_sI, gI_sL, gI_sA, gI_sM, gL_sI, gL_sL, gL_sA, gL_sM, aI_sI, aI_sL, aI_sA, aI_sM, aL_sI, aL_sL, aL_sA, aL_sM, oi_4]; try dsimp only
                    exact hW _ 261 [(0, .ref 1000), (1, .int c), (2, .int ((gI σ 69) - 2)), (3, .int (((gI σ 69) - 2) + 1)), (4, .int ((aI σ 20) (c).toNatClampNeg)), (5, .int q5), (6, .int q6)] _ _ _ (by simp [rdl, rky, Value.category]) (t261 _ 4 (by unfold wrT; rw [if_neg (by omega), if_neg (by omega), if_pos (by omega)]; rfl))
              · have c72 : (31 ≤ x.1.2.1 ∧ x.1.2.1 ≤ 33) := (hb71).mp h72
                refine hB _ _ _ _ _ (fun m82 hm82 => ?_)
                dsimp only [ugo, uwp, ust, uct, rfd, Bbinary, Bbinary_223, Nat.beq, lv_args, rlk, rs1, rs2, rdl, rky, rcd, rno, rsw, Value.category, List.filter, List.take, List.drop, List.reverse, List.reverseAux, List.cons_append, List.nil_append, Option.toList, Int.toNat, Int.reduceToNat, if_pos, if_neg, reduceIte, ↓reduceIte, Nat.reduceAdd, Nat.reduceEqDiff, Nat.reduceBEq, beq_self_eq_true, Bool.not_true, Bool.not_false, Bool.and_true, Bool.and_false, Bool.true_and, Bool.false_and, gI_sI, gI_sL, gI_sA, gI_sM, gL_sI, gL_sL, gL_sA, gL_sM, aI_sI, aI_sL, aI_sA, aI_sM, aL_sI, aL_sL, aL_sA, aL_sM]; try dsimp only
                intro p83
                refine ⟨trivial, fun w84 τ84 hq84 => ?_⟩
                obtain ⟨rfl, r84, rfl, hr84⟩ := hq84 trivial
                try rw [show (((aI σ 70) (((gI σ 69) - 2)).toNatClampNeg)).toInt = a.1 from (ha).1] at hr84
                have hr84 : r84.toInt = pmT (a.1) := hr84
                dsimp only [Option.toList, List.cons_append, List.nil_append, Nat.beq, gI_sI, gI_sL, gI_sA, gI_sM, gL_sI, gL_sL, gL_sA, gL_sM, aI_sI, aI_sL, aI_sA, aI_sM, aL_sI, aL_sL, aL_sA, aL_sM]
                exact hW _ 261 [(0, .ref 1000), (1, .int c), (2, .int ((gI σ 69) - 2)), (3, .int (((gI σ 69) - 2) + 1)), (4, .int ((aI σ 20) (c).toNatClampNeg)), (5, .int q5), (6, .int q6)] _ _ _ (by simp [rdl, rky, Value.category]) (t261 _ r84 (by unfold wrT; rw [if_neg (by omega), if_pos (by omega)]; exact hr84))
            · have c69 : a.1 = 0 := (cI (ha).1 (rfl : (0 : Int32).toInt = 0)).1.mp h69
              refine hB _ _ _ _ _ (fun m85 hm85 => ?_)
              dsimp only [ugo, uwp, ust, uct, rfd, Bbinary, Bbinary_210, Nat.beq, lv_args, rlk, rs1, rs2, rdl, rky, rcd, rno, rsw, Value.category, List.filter, List.take, List.drop, List.reverse, List.reverseAux, List.cons_append, List.nil_append, Option.toList, Int.toNat, Int.reduceToNat, if_pos, if_neg, reduceIte, ↓reduceIte, Nat.reduceAdd, Nat.reduceEqDiff, Nat.reduceBEq, beq_self_eq_true, Bool.not_true, Bool.not_false, Bool.and_true, Bool.and_false, Bool.true_and, Bool.false_and, gI_sI, gI_sL, gI_sA, gI_sM, gL_sI, gL_sL, gL_sA, gL_sM, aI_sI, aI_sL, aI_sA, aI_sM, aL_sI, aL_sL, aL_sA, aL_sM, oi_0]; try dsimp only
              exact hW _ 261 [(0, .ref 1000), (1, .int c), (2, .int ((gI σ 69) - 2)), (3, .int (((gI σ 69) - 2) + 1)), (4, .int ((aI σ 20) (c).toNatClampNeg)), (5, .int q5), (6, .int q6)] _ _ _ (by simp [rdl, rky, Value.category]) (t261 _ 0 (by unfold wrT; rw [if_pos (by omega)]; rfl))
          refine ⟨fun h86 => ?_, fun h86 => ?_⟩
          · have c86 : ¬ ((22 ≤ x.1.2.1 ∧ x.1.2.1 ≤ 26)) := fun q => (hqe6).mpr q h86
            refine hB _ _ _ _ _ (fun m87 hm87 => ?_)
            dsimp only [ugo, uwp, ust, uct, rfd, Bbinary, Bbinary_186, Nat.beq, lv_args, rlk, rs1, rs2, rdl, rky, rcd, rno, rsw, Value.category, List.filter, List.take, List.drop, List.reverse, List.reverseAux, List.cons_append, List.nil_append, Option.toList, Int.toNat, Int.reduceToNat, if_pos, if_neg, reduceIte, ↓reduceIte, Nat.reduceAdd, Nat.reduceEqDiff, Nat.reduceBEq, beq_self_eq_true, Bool.not_true, Bool.not_false, Bool.and_true, Bool.and_false, Bool.true_and, Bool.false_and, gI_sI, gI_sL, gI_sA, gI_sM, gL_sI, gL_sL, gL_sA, gL_sM, aI_sI, aI_sL, aI_sA, aI_sM, aL_sI, aL_sL, aL_sA, aL_sM, oi_0]; try dsimp only
            refine ⟨trivial, fun w88 τ88 hq88 => ?_⟩
            obtain ⟨hA88, b88, rfl, hb88⟩ := hq88 trivial
            rcases hb88 _ hb with ⟨rfl, rfl, hd88⟩ | ⟨rfl, hz88, hd88⟩
            · dsimp only [Option.toList, List.cons_append, List.nil_append, Nat.beq, gI_sI, gI_sL, gI_sA, gI_sM, gL_sI, gL_sL, gL_sA, gL_sM, aI_sI, aI_sL, aI_sA, aI_sM, aL_sI, aL_sL, aL_sA, aL_sM]
              have hd88 : nuT b.1 := (pr_f (rfl)).mp hd88
              refine ⟨fun h89 => ?_, fun h89 => absurd h89 (by decide)⟩
              clear h89
              exact hW _ 201 [(0, .ref 1000), (1, .int c), (2, .int ((gI σ 69) - 2)), (3, .int (((gI σ 69) - 2) + 1)), (4, .int ((aI σ 20) (c).toNatClampNeg)), (5, .int q5), (6, .int q6)] _ _ _ (by simp [rdl, rky, Value.category]) (t201 _ ⟨by omega, by omega⟩)
            · dsimp only [Option.toList, List.cons_append, List.nil_append, Nat.beq, gI_sI, gI_sL, gI_sA, gI_sM, gL_sI, gL_sL, gL_sA, gL_sM, aI_sI, aI_sL, aI_sA, aI_sM, aL_sI, aL_sL, aL_sA, aL_sM]
              have hd88 : ¬ (nuT b.1) := fun q => hd88 ((pr_f (rfl)).mpr q)
              refine ⟨fun h90 => absurd h90 (by decide), fun h90 => ?_⟩
              clear h90
              exact hW _ 195 [(0, .ref 1000), (1, .int c), (2, .int ((gI σ 69) - 2)), (3, .int (((gI σ 69) - 2) + 1)), (4, .int ((aI σ 20) (c).toNatClampNeg)), (5, .int q5), (6, .int q6)] _ _ _ (by simp [rdl, rky, Value.category]) ((bad (by unfold x7T; exact if_neg (by omega)) _).2.2.2.2.2.2.2.2.2.2.2.2.2.2.2.2.2.2.2.2.2.2.2.2.2.2.1 c ((gI σ 69) - 2) (((gI σ 69) - 2) + 1) ((aI σ 20) (c).toNatClampNeg) q5 q6 _ hz88)
          · have c86 : (22 ≤ x.1.2.1 ∧ x.1.2.1 ≤ 26) := (hqe6).mp h86
            refine hB _ _ _ _ _ (fun m91 hm91 => ?_)
            dsimp only [ugo, uwp, ust, uct, rfd, Bbinary, Bbinary_161, Nat.beq, lv_args, rlk, rs1, rs2, rdl, rky, rcd, rno, rsw, Value.category, List.filter, List.take, List.drop, List.reverse, List.reverseAux, List.cons_append, List.nil_append, Option.toList, Int.toNat, Int.reduceToNat, if_pos, if_neg, reduceIte, ↓reduceIte, Nat.reduceAdd, Nat.reduceEqDiff, Nat.reduceBEq, beq_self_eq_true, Bool.not_true, Bool.not_false, Bool.and_true, Bool.and_false, Bool.true_and, Bool.false_and, gI_sI, gI_sL, gI_sA, gI_sM, gL_sI, gL_sL, gL_sA, gL_sM, aI_sI, aI_sL, aI_sA, aI_sM, aL_sI, aL_sL, aL_sA, aL_sM]; try dsimp only
            intro p92
            refine ⟨fun h93 => ?_, fun h93 => ?_⟩
            · have c93 : ¬ a.1 = 0 := fun q => h93 ((cI (ha).1 (rfl : (0 : Int32).toInt = 0)).1.mpr q)
              refine hB _ _ _ _ _ (fun m94 hm94 => ?_)
              dsimp only [ugo, uwp, ust, uct, rfd, Bbinary, Bbinary_176, Nat.beq, lv_args, rlk, rs1, rs2, rdl, rky, rcd, rno, rsw, Value.category, List.filter, List.take, List.drop, List.reverse, List.reverseAux, List.cons_append, List.nil_append, Option.toList, Int.toNat, Int.reduceToNat, if_pos, if_neg, reduceIte, ↓reduceIte, Nat.reduceAdd, Nat.reduceEqDiff, Nat.reduceBEq, beq_self_eq_true, Bool.not_true, Bool.not_false, Bool.and_true, Bool.and_false, Bool.true_and, Bool.false_and, gI_sI, gI_sL, gI_sA, gI_sM, gL_sI, gL_sL, gL_sA, gL_sM, aI_sI, aI_sL, aI_sA, aI_sM, aL_sI, aL_sL, aL_sA, aL_sM, oi_1]; try dsimp only
              refine hB _ _ _ _ _ (fun m95 hm95 => ?_)
              dsimp only [ugo, uwp, ust, uct, rfd, Bbinary, Bbinary_177, Nat.beq, lv_args, rlk, rs1, rs2, rdl, rky, rcd, rno, rsw, Value.category, List.filter, List.take, List.drop, List.reverse, List.reverseAux, List.cons_append, List.nil_append, Option.toList, Int.toNat, Int.reduceToNat, if_pos, if_neg, reduceIte, ↓reduceIte, Nat.reduceAdd, Nat.reduceEqDiff, Nat.reduceBEq, beq_self_eq_true, Bool.not_true, Bool.not_false, Bool.and_true, Bool.and_false, Bool.true_and, Bool.false_and, gI_sI, gI_sL, gI_sA, gI_sM, gL_sI, gL_sL, gL_sA, gL_sM, aI_sI, aI_sL, aI_sA, aI_sM, aL_sI, aL_sL, aL_sA, aL_sM]; try dsimp only
              refine ⟨trivial, fun w96 τ96 hq96 => ?_⟩
              obtain ⟨hA96, b96, rfl, hb96⟩ := hq96 trivial
              rcases hb96 _ hb with ⟨rfl, rfl, hd96⟩ | ⟨rfl, hz96, hd96⟩
              · dsimp only [Option.toList, List.cons_append, List.nil_append, Nat.beq, gI_sI, gI_sL, gI_sA, gI_sM, gL_sI, gL_sL, gL_sA, gL_sM, aI_sI, aI_sL, aI_sA, aI_sM, aL_sI, aL_sL, aL_sA, aL_sM]
                have hd96 : nuT b.1 := (nd_f (by decide)).mp hd96
                refine ⟨fun h97 => ?_, fun h97 => absurd h97 (by decide)⟩
                clear h97
                exact hW _ 201 [(0, .ref 1000), (1, .int c), (2, .int ((gI σ 69) - 2)), (3, .int (((gI σ 69) - 2) + 1)), (4, .int ((aI σ 20) (c).toNatClampNeg)), (5, .int q5), (6, .int q6)] _ _ _ (by simp [rdl, rky, Value.category]) (t201 _ ⟨by omega, by omega⟩)
              · dsimp only [Option.toList, List.cons_append, List.nil_append, Nat.beq, gI_sI, gI_sL, gI_sA, gI_sM, gL_sI, gL_sL, gL_sA, gL_sM, aI_sI, aI_sL, aI_sA, aI_sM, aL_sI, aL_sL, aL_sA, aL_sM]
                have hd96 : ¬ (nuT b.1) := fun q => hd96 ((nd_f (by decide)).mpr q)
                refine ⟨fun h98 => absurd h98 (by decide), fun h98 => ?_⟩
                clear h98
                exact hW _ 183 [(0, .ref 1000), (1, .int c), (2, .int ((gI σ 69) - 2)), (3, .int (((gI σ 69) - 2) + 1)), (4, .int ((aI σ 20) (c).toNatClampNeg)), (5, .int q5), (6, .int q6)] _ _ _ (by simp [rdl, rky, Value.category]) ((bad (by unfold x7T; exact if_neg (by omega)) _).2.2.2.2.2.2.2.2.2.2.2.2.2.2.2.2.2.2.2.2.2.2.2.2.1 c ((gI σ 69) - 2) (((gI σ 69) - 2) + 1) ((aI σ 20) (c).toNatClampNeg) q5 q6 _ hz96)
            · have c93 : a.1 = 0 := (cI (ha).1 (rfl : (0 : Int32).toInt = 0)).1.mp h93
              refine hB _ _ _ _ _ (fun m99 hm99 => ?_)
              dsimp only [ugo, uwp, ust, uct, rfd, Bbinary, Bbinary_172, Nat.beq, lv_args, rlk, rs1, rs2, rdl, rky, rcd, rno, rsw, Value.category, List.filter, List.take, List.drop, List.reverse, List.reverseAux, List.cons_append, List.nil_append, Option.toList, Int.toNat, Int.reduceToNat, if_pos, if_neg, reduceIte, ↓reduceIte, Nat.reduceAdd, Nat.reduceEqDiff, Nat.reduceBEq, beq_self_eq_true, Bool.not_true, Bool.not_false, Bool.and_true, Bool.and_false, Bool.true_and, Bool.false_and, gI_sI, gI_sL, gI_sA, gI_sM, gL_sI, gL_sL, gL_sA, gL_sM, aI_sI, aI_sL, aI_sA, aI_sM, aL_sI, aL_sL, aL_sA, aL_sM, oi_0]; try dsimp only
              refine hB _ _ _ _ _ (fun m100 hm100 => ?_)
              dsimp only [ugo, uwp, ust, uct, rfd, Bbinary, Bbinary_177, Nat.beq, lv_args, rlk, rs1, rs2, rdl, rky, rcd, rno, rsw, Value.category, List.filter, List.take, List.drop, List.reverse, List.reverseAux, List.cons_append, List.nil_append, Option.toList, Int.toNat, Int.reduceToNat, if_pos, if_neg, reduceIte, ↓reduceIte, Nat.reduceAdd, Nat.reduceEqDiff, Nat.reduceBEq, beq_self_eq_true, Bool.not_true, Bool.not_false, Bool.and_true, Bool.and_false, Bool.true_and, Bool.false_and, gI_sI, gI_sL, gI_sA, gI_sM, gL_sI, gL_sL, gL_sA, gL_sM, aI_sI, aI_sL, aI_sA, aI_sM, aL_sI, aL_sL, aL_sA, aL_sM]; try dsimp only
              refine ⟨trivial, fun w101 τ101 hq101 => ?_⟩
              obtain ⟨hA101, b101, rfl, hb101⟩ := hq101 trivial
              rcases hb101 _ hb with ⟨rfl, rfl, hd101⟩ | ⟨rfl, hz101, hd101⟩
              · dsimp only [Option.toList, List.cons_append, List.nil_append, Nat.beq, gI_sI, gI_sL, gI_sA, gI_sM, gL_sI, gL_sL, gL_sA, gL_sM, aI_sI, aI_sL, aI_sA, aI_sM, aL_sI, aL_sL, aL_sA, aL_sM]
                have hd101 : b.1 = 0 := (nd_t (rfl)).mp hd101
                refine ⟨fun h102 => ?_, fun h102 => absurd h102 (by decide)⟩
                clear h102
                exact hW _ 201 [(0, .ref 1000), (1, .int c), (2, .int ((gI σ 69) - 2)), (3, .int (((gI σ 69) - 2) + 1)), (4, .int ((aI σ 20) (c).toNatClampNeg)), (5, .int q5), (6, .int q6)] _ _ _ (by simp [rdl, rky, Value.category]) (t201 _ ⟨by omega, by omega⟩)
              · dsimp only [Option.toList, List.cons_append, List.nil_append, Nat.beq, gI_sI, gI_sL, gI_sA, gI_sM, gL_sI, gL_sL, gL_sA, gL_sM, aI_sI, aI_sL, aI_sA, aI_sM, aL_sI, aL_sL, aL_sA, aL_sM]
                have hd101 : ¬ (b.1 = 0) := fun q => hd101 ((nd_t (rfl)).mpr q)
                refine ⟨fun h103 => absurd h103 (by decide), fun h103 => ?_⟩
                clear h103
                exact hW _ 183 [(0, .ref 1000), (1, .int c), (2, .int ((gI σ 69) - 2)), (3, .int (((gI σ 69) - 2) + 1)), (4, .int ((aI σ 20) (c).toNatClampNeg)), (5, .int q5), (6, .int q6)] _ _ _ (by simp [rdl, rky, Value.category]) ((bad (by unfold x7T; exact if_neg (by omega)) _).2.2.2.2.2.2.2.2.2.2.2.2.2.2.2.2.2.2.2.2.2.2.2.2.1 c ((gI σ 69) - 2) (((gI σ 69) - 2) + 1) ((aI σ 20) (c).toNatClampNeg) q5 q6 _ hz101)
        · dsimp only [Option.toList, List.cons_append, List.nil_append, Nat.beq, gI_sI, gI_sL, gI_sA, gI_sM, gL_sI, gL_sL, gL_sA, gL_sM, aI_sI, aI_sL, aI_sA, aI_sM, aL_sI, aL_sL, aL_sA, aL_sM]
          have hd11 : ¬ (((22 ≤ x.1.2.1 ∧ x.1.2.1 ≤ 26) ∧ a.1 = 0) ∨ nuT a.1) := fun q => hd11 (q.imp (fun z => ⟨(hqe6).mpr z.1, z.2⟩) id)
          refine ⟨fun h104 => absurd h104 (by decide), fun h104 => ?_⟩
          clear h104
          exact hW _ 138 [(0, .ref 1000), (1, .int c), (2, .int ((gI σ 69) - 2)), (3, .int (((gI σ 69) - 2) + 1)), (4, .int ((aI σ 20) (c).toNatClampNeg)), (5, .int q5), (6, .int q6)] _ _ _ (by simp [rdl, rky, Value.category]) ((bad (by unfold x7T; exact if_neg (by omega)) _).2.2.2.2.2.2.2.2.2.2.2.2.2.2.2.2.1 c ((gI σ 69) - 2) (((gI σ 69) - 2) + 1) ((aI σ 20) (c).toNatClampNeg) q5 q6 _ hz11)
      refine ⟨fun h105 => ?_, fun h105 => ?_⟩
      · have c105 : (x.1.2.1 = 25 ∨ x.1.2.1 = 26) := (hqe5).mp h105
        refine hB _ _ _ _ _ (fun m106 hm106 => ?_)
        dsimp only [ugo, uwp, ust, uct, rfd, Bbinary, Bbinary_67, Nat.beq, lv_args, rlk, rs1, rs2, rdl, rky, rcd, rno, rsw, Value.category, List.filter, List.take, List.drop, List.reverse, List.reverseAux, List.cons_append, List.nil_append, Option.toList, Int.toNat, Int.reduceToNat, if_pos, if_neg, reduceIte, ↓reduceIte, Nat.reduceAdd, Nat.reduceEqDiff, Nat.reduceBEq, beq_self_eq_true, Bool.not_true, Bool.not_false, Bool.and_true, Bool.and_false, Bool.true_and, Bool.false_and, gI_sI, gI_sL, gI_sA, gI_sM, gL_sI, gL_sL, gL_sA, gL_sM, aI_sI, aI_sL, aI_sA, aI_sM, aL_sI, aL_sL, aL_sA, aL_sM, oi_1]; try dsimp only
        exact hW _ 72 [(0, .ref 1000), (1, .int c), (2, .int ((gI σ 69) - 2)), (3, .int (((gI σ 69) - 2) + 1)), (4, .int ((aI σ 20) (c).toNatClampNeg)), (5, .int q5)] _ _ _ (by simp [rdl, rky, Value.category]) (t72 _ 1 (b01 (by omega)))
      · have c105 : ¬ ((x.1.2.1 = 25 ∨ x.1.2.1 = 26)) := fun q => (hqe5).mpr q h105
        refine hB _ _ _ _ _ (fun m107 hm107 => ?_)
        dsimp only [ugo, uwp, ust, uct, rfd, Bbinary, Bbinary_58, Nat.beq, lv_args, rlk, rs1, rs2, rdl, rky, rcd, rno, rsw, Value.category, List.filter, List.take, List.drop, List.reverse, List.reverseAux, List.cons_append, List.nil_append, Option.toList, Int.toNat, Int.reduceToNat, if_pos, if_neg, reduceIte, ↓reduceIte, Nat.reduceAdd, Nat.reduceEqDiff, Nat.reduceBEq, beq_self_eq_true, Bool.not_true, Bool.not_false, Bool.and_true, Bool.and_false, Bool.true_and, Bool.false_and, gI_sI, gI_sL, gI_sA, gI_sM, gL_sI, gL_sL, gL_sA, gL_sM, aI_sI, aI_sL, aI_sA, aI_sM, aL_sI, aL_sL, aL_sA, aL_sM]; try dsimp only
        refine ⟨trivial, fun w108 τ108 hq108 => ?_⟩
        obtain ⟨rfl, b108, rfl, hb108⟩ := hq108 trivial
        have hb108 : ¬ b108 = 0 ↔ (22 ≤ x.1.2.1 ∧ x.1.2.1 ≤ 24) := hb108.trans (sg_bi hm)
        dsimp only [Option.toList, List.cons_append, List.nil_append, Nat.beq, gI_sI, gI_sL, gI_sA, gI_sM, gL_sI, gL_sL, gL_sA, gL_sM, aI_sI, aI_sL, aI_sA, aI_sM, aL_sI, aL_sL, aL_sA, aL_sM]
        refine ⟨fun h109 => ?_, fun h109 => ?_⟩
        · have c109 : ¬ ((22 ≤ x.1.2.1 ∧ x.1.2.1 ≤ 24)) := fun q => (hb108).mpr q h109
          refine hB _ _ _ _ _ (fun m110 hm110 => ?_)
          dsimp only [ugo, uwp, ust, uct, rfd, Bbinary, Bbinary_71, Nat.beq, lv_args, rlk, rs1, rs2, rdl, rky, rcd, rno, rsw, Value.category, List.filter, List.take, List.drop, List.reverse, List.reverseAux, List.cons_append, List.nil_append, Option.toList, Int.toNat, Int.reduceToNat, if_pos, if_neg, reduceIte, ↓reduceIte, Nat.reduceAdd, Nat.reduceEqDiff, Nat.reduceBEq, beq_self_eq_true, Bool.not_true, Bool.not_false, Bool.and_true, Bool.and_false, Bool.true_and, Bool.false_and, gI_sI, gI_sL, gI_sA, gI_sM, gL_sI, gL_sL, gL_sA, gL_sM, aI_sI, aI_sL, aI_sA, aI_sM, aL_sI, aL_sL, aL_sA, aL_sM, oi_0]; try dsimp only
          exact hW _ 72 [(0, .ref 1000), (1, .int c), (2, .int ((gI σ 69) - 2)), (3, .int (((gI σ 69) - 2) + 1)), (4, .int ((aI σ 20) (c).toNatClampNeg)), (5, .int q5)] _ _ _ (by simp [rdl, rky, Value.category]) (t72 _ 0 (b00 (by omega)))
        · have c109 : (22 ≤ x.1.2.1 ∧ x.1.2.1 ≤ 24) := (hb108).mp h109
          refine hB _ _ _ _ _ (fun m111 hm111 => ?_)
          dsimp only [ugo, uwp, ust, uct, rfd, Bbinary, Bbinary_67, Nat.beq, lv_args, rlk, rs1, rs2, rdl, rky, rcd, rno, rsw, Value.category, List.filter, List.take, List.drop, List.reverse, List.reverseAux, List.cons_append, List.nil_append, Option.toList, Int.toNat, Int.reduceToNat, if_pos, if_neg, reduceIte, ↓reduceIte, Nat.reduceAdd, Nat.reduceEqDiff, Nat.reduceBEq, beq_self_eq_true, Bool.not_true, Bool.not_false, Bool.and_true, Bool.and_false, Bool.true_and, Bool.false_and, gI_sI, gI_sL, gI_sA, gI_sM, gL_sI, gL_sL, gL_sA, gL_sM, aI_sI, aI_sL, aI_sA, aI_sM, aL_sI, aL_sL, aL_sA, aL_sM, oi_1]; try dsimp only
          exact hW _ 72 [(0, .ref 1000), (1, .int c), (2, .int ((gI σ 69) - 2)), (3, .int (((gI σ 69) - 2) + 1)), (4, .int ((aI σ 20) (c).toNatClampNeg)), (5, .int q5)] _ _ _ (by simp [rdl, rky, Value.category]) (t72 _ 1 (b01 (by omega)))
    refine ⟨fun h112 => ?_, fun h112 => ?_⟩
    · have c112 : x.1.2.1 = 25 := (sg_n hm (by decide : ((300 : Int), (25 : Int)) ∈ sgT)).mp ((cI (rfl : (aI σ 20 c.toNatClampNeg).toInt = (aI σ 20 c.toNatClampNeg).toInt) (rfl : (300 : Int32).toInt = 300)).1.mp h112)
      refine hB _ _ _ _ _ (fun m113 hm113 => ?_)
      dsimp only [ugo, uwp, ust, uct, rfd, Bbinary, Bbinary_46, Nat.beq, lv_args, rlk, rs1, rs2, rdl, rky, rcd, rno, rsw, Value.category, List.filter, List.take, List.drop, List.reverse, List.reverseAux, List.cons_append, List.nil_append, Option.toList, Int.toNat, Int.reduceToNat, if_pos, if_neg, reduceIte, ↓reduceIte, Nat.reduceAdd, Nat.reduceEqDiff, Nat.reduceBEq, beq_self_eq_true, Bool.not_true, Bool.not_false, Bool.and_true, Bool.and_false, Bool.true_and, Bool.false_and, gI_sI, gI_sL, gI_sA, gI_sM, gL_sI, gL_sL, gL_sA, gL_sM, aI_sI, aI_sL, aI_sA, aI_sM, aL_sI, aL_sL, aL_sA, aL_sM, oi_1]; try dsimp only
      exact hW _ 51 [(0, .ref 1000), (1, .int c), (2, .int ((gI σ 69) - 2)), (3, .int (((gI σ 69) - 2) + 1)), (4, .int ((aI σ 20) (c).toNatClampNeg))] _ _ _ (by simp [rdl, rky, Value.category]) (t51 _ 1 (b01 (by omega)))
    · have c112 : ¬ x.1.2.1 = 25 := fun q => h112 ((cI (rfl : (aI σ 20 c.toNatClampNeg).toInt = (aI σ 20 c.toNatClampNeg).toInt) (rfl : (300 : Int32).toInt = 300)).1.mpr ((sg_n hm (by decide : ((300 : Int), (25 : Int)) ∈ sgT)).mpr q))
      refine hB _ _ _ _ _ (fun m114 hm114 => ?_)
      dsimp only [ugo, uwp, ust, uct, rfd, Bbinary, Bbinary_38, Nat.beq, lv_args, rlk, rs1, rs2, rdl, rky, rcd, rno, rsw, Value.category, List.filter, List.take, List.drop, List.reverse, List.reverseAux, List.cons_append, List.nil_append, Option.toList, Int.toNat, Int.reduceToNat, if_pos, if_neg, reduceIte, ↓reduceIte, Nat.reduceAdd, Nat.reduceEqDiff, Nat.reduceBEq, beq_self_eq_true, Bool.not_true, Bool.not_false, Bool.and_true, Bool.and_false, Bool.true_and, Bool.false_and, gI_sI, gI_sL, gI_sA, gI_sM, gL_sI, gL_sL, gL_sA, gL_sM, aI_sI, aI_sL, aI_sA, aI_sM, aL_sI, aL_sL, aL_sA, aL_sM, oi_301]; try dsimp only
      refine ⟨fun h115 => ?_, fun h115 => ?_⟩
      · have c115 : ¬ x.1.2.1 = 26 := fun q => h115 ((cI (rfl : (aI σ 20 c.toNatClampNeg).toInt = (aI σ 20 c.toNatClampNeg).toInt) (rfl : (301 : Int32).toInt = 301)).1.mpr ((sg_n hm (by decide : ((301 : Int), (26 : Int)) ∈ sgT)).mpr q))
        refine hB _ _ _ _ _ (fun m116 hm116 => ?_)
        dsimp only [ugo, uwp, ust, uct, rfd, Bbinary, Bbinary_50, Nat.beq, lv_args, rlk, rs1, rs2, rdl, rky, rcd, rno, rsw, Value.category, List.filter, List.take, List.drop, List.reverse, List.reverseAux, List.cons_append, List.nil_append, Option.toList, Int.toNat, Int.reduceToNat, if_pos, if_neg, reduceIte, ↓reduceIte, Nat.reduceAdd, Nat.reduceEqDiff, Nat.reduceBEq, beq_self_eq_true, Bool.not_true, Bool.not_false, Bool.and_true, Bool.and_false, Bool.true_and, Bool.false_and, gI_sI, gI_sL, gI_sA, gI_sM, gL_sI, gL_sL, gL_sA, gL_sM, aI_sI, aI_sL, aI_sA, aI_sM, aL_sI, aL_sL, aL_sA, aL_sM, oi_0]; try dsimp only
        exact hW _ 51 [(0, .ref 1000), (1, .int c), (2, .int ((gI σ 69) - 2)), (3, .int (((gI σ 69) - 2) + 1)), (4, .int ((aI σ 20) (c).toNatClampNeg))] _ _ _ (by simp [rdl, rky, Value.category]) (t51 _ 0 (b00 (by omega)))
      · have c115 : x.1.2.1 = 26 := (sg_n hm (by decide : ((301 : Int), (26 : Int)) ∈ sgT)).mp ((cI (rfl : (aI σ 20 c.toNatClampNeg).toInt = (aI σ 20 c.toNatClampNeg).toInt) (rfl : (301 : Int32).toInt = 301)).1.mp h115)
        refine hB _ _ _ _ _ (fun m117 hm117 => ?_)
        dsimp only [ugo, uwp, ust, uct, rfd, Bbinary, Bbinary_46, Nat.beq, lv_args, rlk, rs1, rs2, rdl, rky, rcd, rno, rsw, Value.category, List.filter, List.take, List.drop, List.reverse, List.reverseAux, List.cons_append, List.nil_append, Option.toList, Int.toNat, Int.reduceToNat, if_pos, if_neg, reduceIte, ↓reduceIte, Nat.reduceAdd, Nat.reduceEqDiff, Nat.reduceBEq, beq_self_eq_true, Bool.not_true, Bool.not_false, Bool.and_true, Bool.and_false, Bool.true_and, Bool.false_and, gI_sI, gI_sL, gI_sA, gI_sM, gL_sI, gL_sL, gL_sA, gL_sM, aI_sI, aI_sL, aI_sA, aI_sM, aL_sI, aL_sL, aL_sA, aL_sM, oi_1]; try dsimp only
        exact hW _ 51 [(0, .ref 1000), (1, .int c), (2, .int ((gI σ 69) - 2)), (3, .int (((gI σ 69) - 2) + 1)), (4, .int ((aI σ 20) (c).toNatClampNeg))] _ _ _ (by simp [rdl, rky, Value.category]) (t51 _ 1 (b01 (by omega)))
  next => exact hP.elim
theorem w_binaryB : UMet 95 (fun _ _ => True) Qw_binaryB := fun A1 σ _ w τ h a b t x hP => v_binaryB a b t x A1 σ hP w τ h
def Pv_choiceB (a b d t : TvT) (x : XrZ) : UP1 := fun A1 σ => match A1 with
  | [.int c] => gI σ 66 = 0 ∧ TeR σ ((gI σ 69) - 3).toNatClampNeg a ∧ TeR σ (((gI σ 69) - 3) + 1).toNatClampNeg b ∧ TeR σ (((gI σ 69) - 3) + 2).toNatClampNeg d
  | _ => False
def Qv_choiceB (a b d t : TvT) (x : XrZ) : UQ1 := fun A1 σ w τ => match A1 with
  | [.int c] => w = none ∧ JgR τ (x8T a b d t) (fun e τ => ∃ (ty su : Int32) (v : Int64), ShT ty su v e ∧ τ = lieS (sA (sI σ 69 (gI σ 69 - 3)) 82 (upd (aI σ 82) c.toNatClampNeg ty)) c ty su v)
  | _ => False
def Qw_choiceB : UQ1 := fun A1 σ w τ => ∀ (a b d t : TvT) (x : XrZ), Pv_choiceB a b d t x A1 σ → Qv_choiceB a b d t x A1 σ w τ
set_option maxRecDepth 100000 in
set_option maxHeartbeats 4000000 in
theorem v_choiceB (a b d t : TvT) (x : XrZ) : UMet 98 (Pv_choiceB a b d t x) (Qv_choiceB a b d t x) := by
  refine UMet.by Bchoice [(76, (fun _ _ => True), Qw_cast), (70, (fun _ _ => True), Qw_err), (79, (fun _ _ => True), Qw_isBad), (99, (fun _ _ => True), Qw_isHeld), (77, (fun _ _ => True), Qw_lie), (80, (fun _ _ => True), Qw_need), (78, (fun _ _ => True), Qw_none)] rfl (ucc w_cast (ucc w_err (ucc w_isBad (ucc w_isHeld (ucc w_lie (ucc w_need (ucc w_none uc0))))))) ?_
  intro A1 σ hP K hB hW
  unfold Pv_choiceB at hP
  split at hP
  next c =>
    obtain ⟨hE, ha, hb, hc⟩ := hP
    have bad : x8T a b d t = none → ∀ N : Nat, (∀ (x1 : Int32) (Y : RS), ¬ gI Y 66 = 0 → K N 0 [(0, .ref 1000), (1, .int x1)] [] Y) ∧ (∀ (x1 : Int32) (x2 : Int32) (x3 : Int32) (x4 : Int32) (x5 : Int32) (Y : RS), ¬ gI Y 66 = 0 → K N 46 [(0, .ref 1000), (1, .int x1), (2, .int x2), (3, .int x3), (4, .int x4), (5, .int x5)] [] Y) ∧ (∀ (x1 : Int32) (x2 : Int32) (x3 : Int32) (x4 : Int32) (x5 : Int32) (Y : RS), ¬ gI Y 66 = 0 → K N 55 [(0, .ref 1000), (1, .int x1), (2, .int x2), (3, .int x3), (4, .int x4), (5, .int x5)] [] Y) ∧ (∀ (x1 : Int32) (x2 : Int32) (x3 : Int32) (x4 : Int32) (x5 : Int32) (Y : RS), ¬ gI Y 66 = 0 → K N 63 [(0, .ref 1000), (1, .int x1), (2, .int x2), (3, .int x3), (4, .int x4), (5, .int x5)] [] Y) ∧ (∀ (x1 : Int32) (x2 : Int32) (x3 : Int32) (x4 : Int32) (x5 : Int32) (Y : RS), ¬ gI Y 66 = 0 → K N 73 [(0, .ref 1000), (1, .int x1), (2, .int x2), (3, .int x3), (4, .int x4), (5, .int x5)] [] Y) ∧ (∀ (x1 : Int32) (x2 : Int32) (x3 : Int32) (x4 : Int32) (x5 : Int32) (Y : RS), ¬ gI Y 66 = 0 → K N 84 [(0, .ref 1000), (1, .int x1), (2, .int x2), (3, .int x3), (4, .int x4), (5, .int x5)] [] Y) ∧ (∀ (x1 : Int32) (x2 : Int32) (x3 : Int32) (x4 : Int32) (x5 : Int32) (Y : RS), ¬ gI Y 66 = 0 → K N 93 [(0, .ref 1000), (1, .int x1), (2, .int x2), (3, .int x3), (4, .int x4), (5, .int x5)] [] Y) ∧ (∀ (x1 : Int32) (x2 : Int32) (x3 : Int32) (x4 : Int32) (x5 : Int32) (Y : RS), ¬ gI Y 66 = 0 → K N 104 [(0, .ref 1000), (1, .int x1), (2, .int x2), (3, .int x3), (4, .int x4), (5, .int x5)] [] Y) ∧ (∀ (x1 : Int32) (x2 : Int32) (x3 : Int32) (x4 : Int32) (x5 : Int32) (Y : RS), ¬ gI Y 66 = 0 → K N 116 [(0, .ref 1000), (1, .int x1), (2, .int x2), (3, .int x3), (4, .int x4), (5, .int x5)] [] Y) ∧ (∀ (x1 : Int32) (x2 : Int32) (x3 : Int32) (x4 : Int32) (x5 : Int32) (Y : RS), ¬ gI Y 66 = 0 → K N 122 [(0, .ref 1000), (1, .int x1), (2, .int x2), (3, .int x3), (4, .int x4), (5, .int x5)] [] Y) ∧ (∀ (x1 : Int32) (x2 : Int32) (x3 : Int32) (x4 : Int32) (x5 : Int32) (Y : RS), ¬ gI Y 66 = 0 → K N 132 [(0, .ref 1000), (1, .int x1), (2, .int x2), (3, .int x3), (4, .int x4), (5, .int x5)] [] Y) ∧ (∀ (x1 : Int32) (x2 : Int32) (x3 : Int32) (x4 : Int32) (x5 : Int32) (Y : RS), ¬ gI Y 66 = 0 → K N 154 [(0, .ref 1000), (1, .int x1), (2, .int x2), (3, .int x3), (4, .int x4), (5, .int x5)] [] Y) ∧ (∀ (x1 : Int32) (x2 : Int32) (x3 : Int32) (x4 : Int32) (x5 : Int32) (Y : RS), ¬ gI Y 66 = 0 → K N 166 [(0, .ref 1000), (1, .int x1), (2, .int x2), (3, .int x3), (4, .int x4), (5, .int x5)] [] Y) ∧ (∀ (x1 : Int32) (x2 : Int32) (x3 : Int32) (x4 : Int32) (x5 : Int32) (Y : RS), ¬ gI Y 66 = 0 → K N 172 [(0, .ref 1000), (1, .int x1), (2, .int x2), (3, .int x3), (4, .int x4), (5, .int x5)] [] Y) ∧ (∀ (x1 : Int32) (x2 : Int32) (x3 : Int32) (x4 : Int32) (x5 : Int32) (s0 : Int32) (Y : RS), ¬ gI Y 66 = 0 → K N 184 [(0, .ref 1000), (1, .int x1), (2, .int x2), (3, .int x3), (4, .int x4), (5, .int x5)] [.int s0, .ref 1000] Y) ∧ (∀ (x1 : Int32) (x2 : Int32) (x3 : Int32) (x4 : Int32) (x5 : Int32) (s0 : Int32) (Y : RS), ¬ gI Y 66 = 0 → K N 188 [(0, .ref 1000), (1, .int x1), (2, .int x2), (3, .int x3), (4, .int x4), (5, .int x5)] [.int s0, .ref 1000] Y) ∧ (∀ (x1 : Int32) (x2 : Int32) (x3 : Int32) (x4 : Int32) (x5 : Int32) (s0 : Int32) (s1 : Int32) (Y : RS), ¬ gI Y 66 = 0 → K N 189 [(0, .ref 1000), (1, .int x1), (2, .int x2), (3, .int x3), (4, .int x4), (5, .int x5)] [.int s0, .int s1, .ref 1000] Y) ∧ (∀ (x1 : Int32) (x2 : Int32) (x3 : Int32) (x4 : Int32) (x5 : Int32) (Y : RS), ¬ gI Y 66 = 0 → K N 195 [(0, .ref 1000), (1, .int x1), (2, .int x2), (3, .int x3), (4, .int x4), (5, .int x5)] [] Y) ∧ (∀ (x1 : Int32) (x2 : Int32) (x3 : Int32) (x4 : Int32) (x5 : Int32) (Y : RS), ¬ gI Y 66 = 0 → K N 200 [(0, .ref 1000), (1, .int x1), (2, .int x2), (3, .int x3), (4, .int x4), (5, .int x5)] [] Y) ∧ (∀ (x1 : Int32) (x2 : Int32) (x3 : Int32) (x4 : Int32) (x5 : Int32) (Y : RS), ¬ gI Y 66 = 0 → K N 206 [(0, .ref 1000), (1, .int x1), (2, .int x2), (3, .int x3), (4, .int x4), (5, .int x5)] [] Y) ∧ (∀ (x1 : Int32) (x2 : Int32) (x3 : Int32) (x4 : Int32) (x5 : Int32) (x6 : Int32) (x7 : Int32) (Y : RS), ¬ gI Y 66 = 0 → K N 230 [(0, .ref 1000), (1, .int x1), (2, .int x2), (3, .int x3), (4, .int x4), (5, .int x5), (6, .int x6), (7, .int x7)] [] Y) ∧ (∀ (x1 : Int32) (x2 : Int32) (x3 : Int32) (x4 : Int32) (x5 : Int32) (x6 : Int32) (x7 : Int32) (Y : RS), ¬ gI Y 66 = 0 → K N 235 [(0, .ref 1000), (1, .int x1), (2, .int x2), (3, .int x3), (4, .int x4), (5, .int x5), (6, .int x6), (7, .int x7)] [] Y) ∧ (∀ (x1 : Int32) (x2 : Int32) (x3 : Int32) (x4 : Int32) (x5 : Int32) (x6 : Int32) (x7 : Int32) (Y : RS), ¬ gI Y 66 = 0 → K N 246 [(0, .ref 1000), (1, .int x1), (2, .int x2), (3, .int x3), (4, .int x4), (5, .int x5), (6, .int x6), (7, .int x7)] [] Y) ∧ (∀ (x1 : Int32) (x2 : Int32) (x3 : Int32) (x4 : Int32) (x5 : Int32) (x6 : Int32) (x7 : Int32) (Y : RS), ¬ gI Y 66 = 0 → K N 251 [(0, .ref 1000), (1, .int x1), (2, .int x2), (3, .int x3), (4, .int x4), (5, .int x5), (6, .int x6), (7, .int x7)] [] Y) ∧ (∀ (x1 : Int32) (x2 : Int32) (x3 : Int32) (x4 : Int32) (x5 : Int32) (x6 : Int32) (x7 : Int32) (Y : RS), ¬ gI Y 66 = 0 → K N 261 [(0, .ref 1000), (1, .int x1), (2, .int x2), (3, .int x3), (4, .int x4), (5, .int x5), (6, .int x6), (7, .int x7)] [] Y) ∧ (∀ (x1 : Int32) (x2 : Int32) (x3 : Int32) (x4 : Int32) (x5 : Int32) (x6 : Int32) (x7 : Int32) (Y : RS), ¬ gI Y 66 = 0 → K N 266 [(0, .ref 1000), (1, .int x1), (2, .int x2), (3, .int x3), (4, .int x4), (5, .int x5), (6, .int x6), (7, .int x7)] [] Y) ∧ (∀ (x1 : Int32) (x2 : Int32) (x3 : Int32) (x4 : Int32) (x5 : Int32) (x6 : Int32) (x7 : Int32) (Y : RS), ¬ gI Y 66 = 0 → K N 272 [(0, .ref 1000), (1, .int x1), (2, .int x2), (3, .int x3), (4, .int x4), (5, .int x5), (6, .int x6), (7, .int x7)] [] Y) ∧ (∀ (x1 : Int32) (x2 : Int32) (x3 : Int32) (x4 : Int32) (x5 : Int32) (x6 : Int32) (x7 : Int32) (Y : RS), ¬ gI Y 66 = 0 → K N 278 [(0, .ref 1000), (1, .int x1), (2, .int x2), (3, .int x3), (4, .int x4), (5, .int x5), (6, .int x6), (7, .int x7)] [] Y) ∧ (∀ (x1 : Int32) (x2 : Int32) (x3 : Int32) (x4 : Int32) (x5 : Int32) (x6 : Int32) (x7 : Int32) (Y : RS), ¬ gI Y 66 = 0 → K N 282 [(0, .ref 1000), (1, .int x1), (2, .int x2), (3, .int x3), (4, .int x4), (5, .int x5), (6, .int x6), (7, .int x7)] [] Y) ∧ (∀ (x1 : Int32) (x2 : Int32) (x3 : Int32) (x4 : Int32) (x5 : Int32) (x6 : Int32) (x7 : Int32) (s0 : Int32) (Y : RS), ¬ gI Y 66 = 0 → K N 283 [(0, .ref 1000), (1, .int x1), (2, .int x2), (3, .int x3), (4, .int x4), (5, .int x5), (6, .int x6), (7, .int x7)] [.int s0] Y) ∧ (∀ (x1 : Int32) (x2 : Int32) (x3 : Int32) (x4 : Int32) (x5 : Int32) (x6 : Int32) (x7 : Int32) (x8 : Int32) (Y : RS), ¬ gI Y 66 = 0 → K N 294 [(0, .ref 1000), (1, .int x1), (2, .int x2), (3, .int x3), (4, .int x4), (5, .int x5), (6, .int x6), (7, .int x7), (8, .int x8)] [] Y) ∧ (∀ (x1 : Int32) (x2 : Int32) (x3 : Int32) (x4 : Int32) (x5 : Int32) (x6 : Int32) (x7 : Int32) (x8 : Int32) (Y : RS), ¬ gI Y 66 = 0 → K N 303 [(0, .ref 1000), (1, .int x1), (2, .int x2), (3, .int x3), (4, .int x4), (5, .int x5), (6, .int x6), (7, .int x7), (8, .int x8)] [] Y) ∧ (∀ (x1 : Int32) (x2 : Int32) (x3 : Int32) (x4 : Int32) (x5 : Int32) (x6 : Int32) (x7 : Int32) (x8 : Int32) (Y : RS), ¬ gI Y 66 = 0 → K N 313 [(0, .ref 1000), (1, .int x1), (2, .int x2), (3, .int x3), (4, .int x4), (5, .int x5), (6, .int x6), (7, .int x7), (8, .int x8)] [] Y) ∧ (∀ (x1 : Int32) (x2 : Int32) (x3 : Int32) (x4 : Int32) (x5 : Int32) (x6 : Int32) (x7 : Int32) (x8 : Int32) (Y : RS), ¬ gI Y 66 = 0 → K N 317 [(0, .ref 1000), (1, .int x1), (2, .int x2), (3, .int x3), (4, .int x4), (5, .int x5), (6, .int x6), (7, .int x7), (8, .int x8)] [] Y) ∧ (∀ (x1 : Int32) (x2 : Int32) (x3 : Int32) (x4 : Int32) (x5 : Int32) (x6 : Int32) (x7 : Int32) (x8 : Int32) (s0 : Int32) (Y : RS), ¬ gI Y 66 = 0 → K N 318 [(0, .ref 1000), (1, .int x1), (2, .int x2), (3, .int x3), (4, .int x4), (5, .int x5), (6, .int x6), (7, .int x7), (8, .int x8)] [.int s0] Y) ∧ (∀ (x1 : Int32) (x2 : Int32) (x3 : Int32) (x4 : Int32) (x5 : Int32) (x6 : Int32) (x7 : Int32) (x8 : Int32) (x9 : Int32) (s0 : Int32) (s2 : Int32) (s3 : Int32) (s4 : Int32) (Y : RS), ¬ gI Y 66 = 0 → K N 348 [(0, .ref 1000), (1, .int x1), (2, .int x2), (3, .int x3), (4, .int x4), (5, .int x5), (6, .int x6), (7, .int x7), (8, .int x8), (9, .int x9)] [.int s0, .ref 1000, .int s2, .int s3, .int s4, .ref 1000] Y) ∧ (∀ (x1 : Int32) (x2 : Int32) (x3 : Int32) (x4 : Int32) (x5 : Int32) (x6 : Int32) (x7 : Int32) (x8 : Int32) (x9 : Int32) (s0 : Int32) (s2 : Int32) (s3 : Int32) (s4 : Int32) (Y : RS), ¬ gI Y 66 = 0 → K N 357 [(0, .ref 1000), (1, .int x1), (2, .int x2), (3, .int x3), (4, .int x4), (5, .int x5), (6, .int x6), (7, .int x7), (8, .int x8), (9, .int x9)] [.int s0, .ref 1000, .int s2, .int s3, .int s4, .ref 1000] Y) ∧ (∀ (x1 : Int32) (x2 : Int32) (x3 : Int32) (x4 : Int32) (x5 : Int32) (x6 : Int32) (x7 : Int32) (x8 : Int32) (x9 : Int32) (s0 : Int64) (s1 : Int32) (s3 : Int32) (s4 : Int32) (s5 : Int32) (Y : RS), ¬ gI Y 66 = 0 → K N 364 [(0, .ref 1000), (1, .int x1), (2, .int x2), (3, .int x3), (4, .int x4), (5, .int x5), (6, .int x6), (7, .int x7), (8, .int x8), (9, .int x9)] [.long s0, .int s1, .ref 1000, .int s3, .int s4, .int s5, .ref 1000] Y) := by
      intro hnn
      intro N
      induction N using Nat.strongRecOn with
      | ind N ih =>
        refine ⟨?_, ?_, ?_, ?_, ?_, ?_, ?_, ?_, ?_, ?_, ?_, ?_, ?_, ?_, ?_, ?_, ?_, ?_, ?_, ?_, ?_, ?_, ?_, ?_, ?_, ?_, ?_, ?_, ?_, ?_, ?_, ?_, ?_, ?_, ?_, ?_, ?_, ?_⟩
        · intro x1 Y hz
          refine hB _ _ _ _ _ (fun m1 hm1 => ?_)
          dsimp only [ugo, uwp, ust, uct, rfd, Bchoice, Bchoice_0, Nat.beq, lv_args, rlk, rs1, rs2, rdl, rky, rcd, rno, rsw, Value.category, List.filter, List.take, List.drop, List.reverse, List.reverseAux, List.cons_append, List.nil_append, Option.toList, Int.toNat, Int.reduceToNat, if_pos, if_neg, reduceIte, ↓reduceIte, Nat.reduceAdd, Nat.reduceEqDiff, Nat.reduceBEq, beq_self_eq_true, Bool.not_true, Bool.not_false, Bool.and_true, Bool.and_false, Bool.true_and, Bool.false_and, gI_sI, gI_sL, gI_sA, gI_sM, gL_sI, gL_sL, gL_sA, gL_sM, aI_sI, aI_sL, aI_sA, aI_sM, aL_sI, aL_sL, aL_sA, aL_sM, oi_0, oi_1, oi_2, oi_3]; try dsimp only
          refine ⟨trivial, fun w2 τ2 hq2 => ?_⟩
          obtain ⟨hA2, b2, rfl, hb2⟩ := hq2 trivial
          have hz2 := hA2 hz
          dsimp only [Option.toList, List.cons_append, List.nil_append, Nat.beq, gI_sI, gI_sL, gI_sA, gI_sM, gL_sI, gL_sL, gL_sA, gL_sM, aI_sI, aI_sL, aI_sA, aI_sM, aL_sI, aL_sL, aL_sA, aL_sM]
          refine ⟨trivial, fun w3 τ3 hq3 => ?_⟩
          obtain ⟨rfl, b3, rfl, hb3⟩ := hq3 trivial
          dsimp only [Option.toList, List.cons_append, List.nil_append, Nat.beq, gI_sI, gI_sL, gI_sA, gI_sM, gL_sI, gL_sL, gL_sA, gL_sM, aI_sI, aI_sL, aI_sA, aI_sM, aL_sI, aL_sL, aL_sA, aL_sM]
          refine ⟨fun h4 => ?_, fun h4 => ?_⟩
          · exact hW _ 55 [(0, .ref 1000), (1, .int x1), (2, .int ((gI Y 69) - 3)), (3, .int (((gI Y 69) - 3) + 1)), (4, .int (((gI Y 69) - 3) + 2)), (5, .int b2)] _ _ _ (by simp [rdl, rky, Value.category]) ((ih m1 hm1).2.2.1 x1 ((gI Y 69) - 3) (((gI Y 69) - 3) + 1) (((gI Y 69) - 3) + 2) b2 _ hz2)
          · exact hW _ 46 [(0, .ref 1000), (1, .int x1), (2, .int ((gI Y 69) - 3)), (3, .int (((gI Y 69) - 3) + 1)), (4, .int (((gI Y 69) - 3) + 2)), (5, .int b2)] _ _ _ (by simp [rdl, rky, Value.category]) ((ih m1 hm1).2.1 x1 ((gI Y 69) - 3) (((gI Y 69) - 3) + 1) (((gI Y 69) - 3) + 2) b2 _ hz2)
        · intro x1 x2 x3 x4 x5 Y hz
          refine hB _ _ _ _ _ (fun m1 hm1 => ?_)
          dsimp only [ugo, uwp, ust, uct, rfd, Bchoice, Bchoice_46, Nat.beq, lv_args, rlk, rs1, rs2, rdl, rky, rcd, rno, rsw, Value.category, List.filter, List.take, List.drop, List.reverse, List.reverseAux, List.cons_append, List.nil_append, Option.toList, Int.toNat, Int.reduceToNat, if_pos, if_neg, reduceIte, ↓reduceIte, Nat.reduceAdd, Nat.reduceEqDiff, Nat.reduceBEq, beq_self_eq_true, Bool.not_true, Bool.not_false, Bool.and_true, Bool.and_false, Bool.true_and, Bool.false_and, gI_sI, gI_sL, gI_sA, gI_sM, gL_sI, gL_sL, gL_sA, gL_sM, aI_sI, aI_sL, aI_sA, aI_sM, aL_sI, aL_sL, aL_sA, aL_sM]; try dsimp only
          refine ⟨trivial, fun w2 τ2 hq2 => ?_⟩
          obtain ⟨rfl, b2, rfl, hb2⟩ := hq2 trivial
          dsimp only [Option.toList, List.cons_append, List.nil_append, Nat.beq, gI_sI, gI_sL, gI_sA, gI_sM, gL_sI, gL_sL, gL_sA, gL_sM, aI_sI, aI_sL, aI_sA, aI_sM, aL_sI, aL_sL, aL_sA, aL_sM]
          refine ⟨fun h3 => ?_, fun h3 => ?_⟩
          · exact hW _ 122 [(0, .ref 1000), (1, .int x1), (2, .int x2), (3, .int x3), (4, .int x4), (5, .int x5)] _ _ _ (by simp [rdl, rky, Value.category]) ((ih m1 hm1).2.2.2.2.2.2.2.2.2.1 x1 x2 x3 x4 x5 _ hz)
          · exact hW _ 55 [(0, .ref 1000), (1, .int x1), (2, .int x2), (3, .int x3), (4, .int x4), (5, .int x5)] _ _ _ (by simp [rdl, rky, Value.category]) ((ih m1 hm1).2.2.1 x1 x2 x3 x4 x5 _ hz)
        · intro x1 x2 x3 x4 x5 Y hz
          refine hB _ _ _ _ _ (fun m1 hm1 => ?_)
          dsimp only [ugo, uwp, ust, uct, rfd, Bchoice, Bchoice_55, Nat.beq, lv_args, rlk, rs1, rs2, rdl, rky, rcd, rno, rsw, Value.category, List.filter, List.take, List.drop, List.reverse, List.reverseAux, List.cons_append, List.nil_append, Option.toList, Int.toNat, Int.reduceToNat, if_pos, if_neg, reduceIte, ↓reduceIte, Nat.reduceAdd, Nat.reduceEqDiff, Nat.reduceBEq, beq_self_eq_true, Bool.not_true, Bool.not_false, Bool.and_true, Bool.and_false, Bool.true_and, Bool.false_and, gI_sI, gI_sL, gI_sA, gI_sM, gL_sI, gL_sL, gL_sA, gL_sM, aI_sI, aI_sL, aI_sA, aI_sM, aL_sI, aL_sL, aL_sA, aL_sM]; try dsimp only
          refine ⟨trivial, fun w2 τ2 hq2 => ?_⟩
          obtain ⟨rfl, b2, rfl, hb2⟩ := hq2 trivial
          dsimp only [Option.toList, List.cons_append, List.nil_append, Nat.beq, gI_sI, gI_sL, gI_sA, gI_sM, gL_sI, gL_sL, gL_sA, gL_sM, aI_sI, aI_sL, aI_sA, aI_sM, aL_sI, aL_sL, aL_sA, aL_sM]
          refine ⟨fun h3 => ?_, fun h3 => ?_⟩
          · exact hW _ 84 [(0, .ref 1000), (1, .int x1), (2, .int x2), (3, .int x3), (4, .int x4), (5, .int x5)] _ _ _ (by simp [rdl, rky, Value.category]) ((ih m1 hm1).2.2.2.2.2.1 x1 x2 x3 x4 x5 _ hz)
          · exact hW _ 63 [(0, .ref 1000), (1, .int x1), (2, .int x2), (3, .int x3), (4, .int x4), (5, .int x5)] _ _ _ (by simp [rdl, rky, Value.category]) ((ih m1 hm1).2.2.2.1 x1 x2 x3 x4 x5 _ hz)
        · intro x1 x2 x3 x4 x5 Y hz
          refine hB _ _ _ _ _ (fun m1 hm1 => ?_)
          dsimp only [ugo, uwp, ust, uct, rfd, Bchoice, Bchoice_63, Nat.beq, lv_args, rlk, rs1, rs2, rdl, rky, rcd, rno, rsw, Value.category, List.filter, List.take, List.drop, List.reverse, List.reverseAux, List.cons_append, List.nil_append, Option.toList, Int.toNat, Int.reduceToNat, if_pos, if_neg, reduceIte, ↓reduceIte, Nat.reduceAdd, Nat.reduceEqDiff, Nat.reduceBEq, beq_self_eq_true, Bool.not_true, Bool.not_false, Bool.and_true, Bool.and_false, Bool.true_and, Bool.false_and, gI_sI, gI_sL, gI_sA, gI_sM, gL_sI, gL_sL, gL_sA, gL_sM, aI_sI, aI_sL, aI_sA, aI_sM, aL_sI, aL_sL, aL_sA, aL_sM, oi_5]; try dsimp only
          intro p2
          refine ⟨fun h3 => ?_, fun h3 => ?_⟩
          · exact hW _ 84 [(0, .ref 1000), (1, .int x1), (2, .int x2), (3, .int x3), (4, .int x4), (5, .int x5)] _ _ _ (by simp [rdl, rky, Value.category]) ((ih m1 hm1).2.2.2.2.2.1 x1 x2 x3 x4 x5 _ hz)
          · exact hW _ 73 [(0, .ref 1000), (1, .int x1), (2, .int x2), (3, .int x3), (4, .int x4), (5, .int x5)] _ _ _ (by simp [rdl, rky, Value.category]) ((ih m1 hm1).2.2.2.2.1 x1 x2 x3 x4 x5 _ hz)
        · intro x1 x2 x3 x4 x5 Y hz
          refine hB _ _ _ _ _ (fun m1 hm1 => ?_)
          dsimp only [ugo, uwp, ust, uct, rfd, Bchoice, Bchoice_73, Nat.beq, lv_args, rlk, rs1, rs2, rdl, rky, rcd, rno, rsw, Value.category, List.filter, List.take, List.drop, List.reverse, List.reverseAux, List.cons_append, List.nil_append, Option.toList, Int.toNat, Int.reduceToNat, if_pos, if_neg, reduceIte, ↓reduceIte, Nat.reduceAdd, Nat.reduceEqDiff, Nat.reduceBEq, beq_self_eq_true, Bool.not_true, Bool.not_false, Bool.and_true, Bool.and_false, Bool.true_and, Bool.false_and, gI_sI, gI_sL, gI_sA, gI_sM, gL_sI, gL_sL, gL_sA, gL_sM, aI_sI, aI_sL, aI_sA, aI_sM, aL_sI, aL_sL, aL_sA, aL_sM, oi_5]; try dsimp only
          intro p2
          refine ⟨trivial, fun w3 τ3 hq3 => ?_⟩
          obtain ⟨rfl, hz3⟩ := hq3 (show ¬ (5 : Int32) = 0 by decide)
          dsimp only [Option.toList, List.cons_append, List.nil_append, Nat.beq, gI_sI, gI_sL, gI_sA, gI_sM, gL_sI, gL_sL, gL_sA, gL_sM, aI_sI, aI_sL, aI_sA, aI_sM, aL_sI, aL_sL, aL_sA, aL_sM]
          exact hW _ 84 [(0, .ref 1000), (1, .int x1), (2, .int x2), (3, .int x3), (4, .int x4), (5, .int x5)] _ _ _ (by simp [rdl, rky, Value.category]) ((ih m1 hm1).2.2.2.2.2.1 x1 x2 x3 x4 x5 _ hz3)
        · intro x1 x2 x3 x4 x5 Y hz
          refine hB _ _ _ _ _ (fun m1 hm1 => ?_)
          dsimp only [ugo, uwp, ust, uct, rfd, Bchoice, Bchoice_84, Nat.beq, lv_args, rlk, rs1, rs2, rdl, rky, rcd, rno, rsw, Value.category, List.filter, List.take, List.drop, List.reverse, List.reverseAux, List.cons_append, List.nil_append, Option.toList, Int.toNat, Int.reduceToNat, if_pos, if_neg, reduceIte, ↓reduceIte, Nat.reduceAdd, Nat.reduceEqDiff, Nat.reduceBEq, beq_self_eq_true, Bool.not_true, Bool.not_false, Bool.and_true, Bool.and_false, Bool.true_and, Bool.false_and, gI_sI, gI_sL, gI_sA, gI_sM, gL_sI, gL_sL, gL_sA, gL_sM, aI_sI, aI_sL, aI_sA, aI_sM, aL_sI, aL_sL, aL_sA, aL_sM]; try dsimp only
          refine ⟨trivial, fun w2 τ2 hq2 => ?_⟩
          obtain ⟨rfl, b2, rfl, hb2⟩ := hq2 trivial
          dsimp only [Option.toList, List.cons_append, List.nil_append, Nat.beq, gI_sI, gI_sL, gI_sA, gI_sM, gL_sI, gL_sL, gL_sA, gL_sM, aI_sI, aI_sL, aI_sA, aI_sM, aL_sI, aL_sL, aL_sA, aL_sM]
          refine ⟨fun h3 => ?_, fun h3 => ?_⟩
          · exact hW _ 116 [(0, .ref 1000), (1, .int x1), (2, .int x2), (3, .int x3), (4, .int x4), (5, .int x5)] _ _ _ (by simp [rdl, rky, Value.category]) ((ih m1 hm1).2.2.2.2.2.2.2.2.1 x1 x2 x3 x4 x5 _ hz)
          · exact hW _ 93 [(0, .ref 1000), (1, .int x1), (2, .int x2), (3, .int x3), (4, .int x4), (5, .int x5)] _ _ _ (by simp [rdl, rky, Value.category]) ((ih m1 hm1).2.2.2.2.2.2.1 x1 x2 x3 x4 x5 _ hz)
        · intro x1 x2 x3 x4 x5 Y hz
          refine hB _ _ _ _ _ (fun m1 hm1 => ?_)
          dsimp only [ugo, uwp, ust, uct, rfd, Bchoice, Bchoice_93, Nat.beq, lv_args, rlk, rs1, rs2, rdl, rky, rcd, rno, rsw, Value.category, List.filter, List.take, List.drop, List.reverse, List.reverseAux, List.cons_append, List.nil_append, Option.toList, Int.toNat, Int.reduceToNat, if_pos, if_neg, reduceIte, ↓reduceIte, Nat.reduceAdd, Nat.reduceEqDiff, Nat.reduceBEq, beq_self_eq_true, Bool.not_true, Bool.not_false, Bool.and_true, Bool.and_false, Bool.true_and, Bool.false_and, gI_sI, gI_sL, gI_sA, gI_sM, gL_sI, gL_sL, gL_sA, gL_sM, aI_sI, aI_sL, aI_sA, aI_sM, aL_sI, aL_sL, aL_sA, aL_sM, oi_5]; try dsimp only
          intro p2
          refine ⟨fun h3 => ?_, fun h3 => ?_⟩
          · exact hW _ 116 [(0, .ref 1000), (1, .int x1), (2, .int x2), (3, .int x3), (4, .int x4), (5, .int x5)] _ _ _ (by simp [rdl, rky, Value.category]) ((ih m1 hm1).2.2.2.2.2.2.2.2.1 x1 x2 x3 x4 x5 _ hz)
          · exact hW _ 104 [(0, .ref 1000), (1, .int x1), (2, .int x2), (3, .int x3), (4, .int x4), (5, .int x5)] _ _ _ (by simp [rdl, rky, Value.category]) ((ih m1 hm1).2.2.2.2.2.2.2.1 x1 x2 x3 x4 x5 _ hz)
        · intro x1 x2 x3 x4 x5 Y hz
          refine hB _ _ _ _ _ (fun m1 hm1 => ?_)
          dsimp only [ugo, uwp, ust, uct, rfd, Bchoice, Bchoice_104, Nat.beq, lv_args, rlk, rs1, rs2, rdl, rky, rcd, rno, rsw, Value.category, List.filter, List.take, List.drop, List.reverse, List.reverseAux, List.cons_append, List.nil_append, Option.toList, Int.toNat, Int.reduceToNat, if_pos, if_neg, reduceIte, ↓reduceIte, Nat.reduceAdd, Nat.reduceEqDiff, Nat.reduceBEq, beq_self_eq_true, Bool.not_true, Bool.not_false, Bool.and_true, Bool.and_false, Bool.true_and, Bool.false_and, gI_sI, gI_sL, gI_sA, gI_sM, gL_sI, gL_sL, gL_sA, gL_sM, aI_sI, aI_sL, aI_sA, aI_sM, aL_sI, aL_sL, aL_sA, aL_sM, oi_5]; try dsimp only
          intro p2
          refine ⟨trivial, fun w3 τ3 hq3 => ?_⟩
          obtain ⟨rfl, hz3⟩ := hq3 (show ¬ (5 : Int32) = 0 by decide)
          dsimp only [Option.toList, List.cons_append, List.nil_append, Nat.beq, gI_sI, gI_sL, gI_sA, gI_sM, gL_sI, gL_sL, gL_sA, gL_sM, aI_sI, aI_sL, aI_sA, aI_sM, aL_sI, aL_sL, aL_sA, aL_sM]
          exact hW _ 116 [(0, .ref 1000), (1, .int x1), (2, .int x2), (3, .int x3), (4, .int x4), (5, .int x5)] _ _ _ (by simp [rdl, rky, Value.category]) ((ih m1 hm1).2.2.2.2.2.2.2.2.1 x1 x2 x3 x4 x5 _ hz3)
        · intro x1 x2 x3 x4 x5 Y hz
          refine hB _ _ _ _ _ (fun m1 hm1 => ?_)
          dsimp only [ugo, uwp, ust, uct, rfd, Bchoice, Bchoice_116, Nat.beq, lv_args, rlk, rs1, rs2, rdl, rky, rcd, rno, rsw, Value.category, List.filter, List.take, List.drop, List.reverse, List.reverseAux, List.cons_append, List.nil_append, Option.toList, Int.toNat, Int.reduceToNat, if_pos, if_neg, reduceIte, ↓reduceIte, Nat.reduceAdd, Nat.reduceEqDiff, Nat.reduceBEq, beq_self_eq_true, Bool.not_true, Bool.not_false, Bool.and_true, Bool.and_false, Bool.true_and, Bool.false_and, gI_sI, gI_sL, gI_sA, gI_sM, gL_sI, gL_sL, gL_sA, gL_sM, aI_sI, aI_sL, aI_sA, aI_sM, aL_sI, aL_sL, aL_sA, aL_sM]; try dsimp only
          refine ⟨trivial, fun w2 τ2 hq2 => ?_⟩
          obtain ⟨rfl, rfl⟩ := hq2 trivial
          dsimp only [Option.toList, List.cons_append, List.nil_append, Nat.beq, gI_sI, gI_sL, gI_sA, gI_sM, gL_sI, gL_sL, gL_sA, gL_sM, aI_sI, aI_sL, aI_sA, aI_sM, aL_sI, aL_sL, aL_sA, aL_sM]
          unfold Qv_choiceB
          try dsimp only
          exact ⟨rfl, Or.inl ⟨hnn, hz⟩⟩
        · intro x1 x2 x3 x4 x5 Y hz
          refine hB _ _ _ _ _ (fun m1 hm1 => ?_)
          dsimp only [ugo, uwp, ust, uct, rfd, Bchoice, Bchoice_122, Nat.beq, lv_args, rlk, rs1, rs2, rdl, rky, rcd, rno, rsw, Value.category, List.filter, List.take, List.drop, List.reverse, List.reverseAux, List.cons_append, List.nil_append, Option.toList, Int.toNat, Int.reduceToNat, if_pos, if_neg, reduceIte, ↓reduceIte, Nat.reduceAdd, Nat.reduceEqDiff, Nat.reduceBEq, beq_self_eq_true, Bool.not_true, Bool.not_false, Bool.and_true, Bool.and_false, Bool.true_and, Bool.false_and, gI_sI, gI_sL, gI_sA, gI_sM, gL_sI, gL_sL, gL_sA, gL_sM, aI_sI, aI_sL, aI_sA, aI_sM, aL_sI, aL_sL, aL_sA, aL_sM, oi_5]; try dsimp only
          intro p2
          refine ⟨fun h3 => ?_, fun h3 => ?_⟩
          · exact hW _ 172 [(0, .ref 1000), (1, .int x1), (2, .int x2), (3, .int x3), (4, .int x4), (5, .int x5)] _ _ _ (by simp [rdl, rky, Value.category]) ((ih m1 hm1).2.2.2.2.2.2.2.2.2.2.2.2.2.1 x1 x2 x3 x4 x5 _ hz)
          · exact hW _ 132 [(0, .ref 1000), (1, .int x1), (2, .int x2), (3, .int x3), (4, .int x4), (5, .int x5)] _ _ _ (by simp [rdl, rky, Value.category]) ((ih m1 hm1).2.2.2.2.2.2.2.2.2.2.1 x1 x2 x3 x4 x5 _ hz)
        · intro x1 x2 x3 x4 x5 Y hz
          refine hB _ _ _ _ _ (fun m1 hm1 => ?_)
          dsimp only [ugo, uwp, ust, uct, rfd, Bchoice, Bchoice_132, Nat.beq, lv_args, rlk, rs1, rs2, rdl, rky, rcd, rno, rsw, Value.category, List.filter, List.take, List.drop, List.reverse, List.reverseAux, List.cons_append, List.nil_append, Option.toList, Int.toNat, Int.reduceToNat, if_pos, if_neg, reduceIte, ↓reduceIte, Nat.reduceAdd, Nat.reduceEqDiff, Nat.reduceBEq, beq_self_eq_true, Bool.not_true, Bool.not_false, Bool.and_true, Bool.and_false, Bool.true_and, Bool.false_and, gI_sI, gI_sL, gI_sA, gI_sM, gL_sI, gL_sL, gL_sA, gL_sM, aI_sI, aI_sL, aI_sA, aI_sM, aL_sI, aL_sL, aL_sA, aL_sM, oi_5]; try dsimp only
          intro p2
          refine ⟨trivial, fun w3 τ3 hq3 => ?_⟩
          obtain ⟨rfl, hz3⟩ := hq3 (show ¬ (5 : Int32) = 0 by decide)
          dsimp only [Option.toList, List.cons_append, List.nil_append, Nat.beq, gI_sI, gI_sL, gI_sA, gI_sM, gL_sI, gL_sL, gL_sA, gL_sM, aI_sI, aI_sL, aI_sA, aI_sM, aL_sI, aL_sL, aL_sA, aL_sM]
          intro p4
          refine ⟨fun h5 => ?_, fun h5 => ?_⟩
          · exact hW _ 166 [(0, .ref 1000), (1, .int x1), (2, .int x2), (3, .int x3), (4, .int x4), (5, .int x5)] _ _ _ (by simp [rdl, rky, Value.category]) ((ih m1 hm1).2.2.2.2.2.2.2.2.2.2.2.2.1 x1 x2 x3 x4 x5 _ hz3)
          · exact hW _ 154 [(0, .ref 1000), (1, .int x1), (2, .int x2), (3, .int x3), (4, .int x4), (5, .int x5)] _ _ _ (by simp [rdl, rky, Value.category]) ((ih m1 hm1).2.2.2.2.2.2.2.2.2.2.2.1 x1 x2 x3 x4 x5 _ hz3)
        · intro x1 x2 x3 x4 x5 Y hz
          refine hB _ _ _ _ _ (fun m1 hm1 => ?_)
          dsimp only [ugo, uwp, ust, uct, rfd, Bchoice, Bchoice_154, Nat.beq, lv_args, rlk, rs1, rs2, rdl, rky, rcd, rno, rsw, Value.category, List.filter, List.take, List.drop, List.reverse, List.reverseAux, List.cons_append, List.nil_append, Option.toList, Int.toNat, Int.reduceToNat, if_pos, if_neg, reduceIte, ↓reduceIte, Nat.reduceAdd, Nat.reduceEqDiff, Nat.reduceBEq, beq_self_eq_true, Bool.not_true, Bool.not_false, Bool.and_true, Bool.and_false, Bool.true_and, Bool.false_and, gI_sI, gI_sL, gI_sA, gI_sM, gL_sI, gL_sL, gL_sA, gL_sM, aI_sI, aI_sL, aI_sA, aI_sM, aL_sI, aL_sL, aL_sA, aL_sM, oi_5]; try dsimp only
          intro p2
          refine ⟨trivial, fun w3 τ3 hq3 => ?_⟩
          obtain ⟨rfl, hz3⟩ := hq3 (show ¬ (5 : Int32) = 0 by decide)
          dsimp only [Option.toList, List.cons_append, List.nil_append, Nat.beq, gI_sI, gI_sL, gI_sA, gI_sM, gL_sI, gL_sL, gL_sA, gL_sM, aI_sI, aI_sL, aI_sA, aI_sM, aL_sI, aL_sL, aL_sA, aL_sM]
          exact hW _ 166 [(0, .ref 1000), (1, .int x1), (2, .int x2), (3, .int x3), (4, .int x4), (5, .int x5)] _ _ _ (by simp [rdl, rky, Value.category]) ((ih m1 hm1).2.2.2.2.2.2.2.2.2.2.2.2.1 x1 x2 x3 x4 x5 _ hz3)
        · intro x1 x2 x3 x4 x5 Y hz
          refine hB _ _ _ _ _ (fun m1 hm1 => ?_)
          dsimp only [ugo, uwp, ust, uct, rfd, Bchoice, Bchoice_166, Nat.beq, lv_args, rlk, rs1, rs2, rdl, rky, rcd, rno, rsw, Value.category, List.filter, List.take, List.drop, List.reverse, List.reverseAux, List.cons_append, List.nil_append, Option.toList, Int.toNat, Int.reduceToNat, if_pos, if_neg, reduceIte, ↓reduceIte, Nat.reduceAdd, Nat.reduceEqDiff, Nat.reduceBEq, beq_self_eq_true, Bool.not_true, Bool.not_false, Bool.and_true, Bool.and_false, Bool.true_and, Bool.false_and, gI_sI, gI_sL, gI_sA, gI_sM, gL_sI, gL_sL, gL_sA, gL_sM, aI_sI, aI_sL, aI_sA, aI_sM, aL_sI, aL_sL, aL_sA, aL_sM]; try dsimp only
          refine ⟨trivial, fun w2 τ2 hq2 => ?_⟩
          obtain ⟨rfl, rfl⟩ := hq2 trivial
          dsimp only [Option.toList, List.cons_append, List.nil_append, Nat.beq, gI_sI, gI_sL, gI_sA, gI_sM, gL_sI, gL_sL, gL_sA, gL_sM, aI_sI, aI_sL, aI_sA, aI_sM, aL_sI, aL_sL, aL_sA, aL_sM]
          unfold Qv_choiceB
          try dsimp only
          exact ⟨rfl, Or.inl ⟨hnn, hz⟩⟩
        · intro x1 x2 x3 x4 x5 Y hz
          refine hB _ _ _ _ _ (fun m1 hm1 => ?_)
          dsimp only [ugo, uwp, ust, uct, rfd, Bchoice, Bchoice_172, Nat.beq, lv_args, rlk, rs1, rs2, rdl, rky, rcd, rno, rsw, Value.category, List.filter, List.take, List.drop, List.reverse, List.reverseAux, List.cons_append, List.nil_append, Option.toList, Int.toNat, Int.reduceToNat, if_pos, if_neg, reduceIte, ↓reduceIte, Nat.reduceAdd, Nat.reduceEqDiff, Nat.reduceBEq, beq_self_eq_true, Bool.not_true, Bool.not_false, Bool.and_true, Bool.and_false, Bool.true_and, Bool.false_and, gI_sI, gI_sL, gI_sA, gI_sM, gL_sI, gL_sL, gL_sA, gL_sM, aI_sI, aI_sL, aI_sA, aI_sM, aL_sI, aL_sL, aL_sA, aL_sM]; try dsimp only
          intro p2
          refine ⟨fun h3 => ?_, fun h3 => ?_⟩
          · exact hW _ 188 [(0, .ref 1000), (1, .int x1), (2, .int x2), (3, .int x3), (4, .int x4), (5, .int x5)] _ _ _ (by simp [rdl, rky, Value.category]) ((ih m1 hm1).2.2.2.2.2.2.2.2.2.2.2.2.2.2.2.1 x1 x2 x3 x4 x5 x4 _ hz)
          · exact hW _ 184 [(0, .ref 1000), (1, .int x1), (2, .int x2), (3, .int x3), (4, .int x4), (5, .int x5)] _ _ _ (by simp [rdl, rky, Value.category]) ((ih m1 hm1).2.2.2.2.2.2.2.2.2.2.2.2.2.2.1 x1 x2 x3 x4 x5 x4 _ hz)
        · intro x1 x2 x3 x4 x5 s0 Y hz
          refine hB _ _ _ _ _ (fun m1 hm1 => ?_)
          dsimp only [ugo, uwp, ust, uct, rfd, Bchoice, Bchoice_184, Nat.beq, lv_args, rlk, rs1, rs2, rdl, rky, rcd, rno, rsw, Value.category, List.filter, List.take, List.drop, List.reverse, List.reverseAux, List.cons_append, List.nil_append, Option.toList, Int.toNat, Int.reduceToNat, if_pos, if_neg, reduceIte, ↓reduceIte, Nat.reduceAdd, Nat.reduceEqDiff, Nat.reduceBEq, beq_self_eq_true, Bool.not_true, Bool.not_false, Bool.and_true, Bool.and_false, Bool.true_and, Bool.false_and, gI_sI, gI_sL, gI_sA, gI_sM, gL_sI, gL_sL, gL_sA, gL_sM, aI_sI, aI_sL, aI_sA, aI_sM, aL_sI, aL_sL, aL_sA, aL_sM, oi_0]; try dsimp only
          exact hW _ 189 [(0, .ref 1000), (1, .int x1), (2, .int x2), (3, .int x3), (4, .int x4), (5, .int x5)] _ _ _ (by simp [rdl, rky, Value.category]) ((ih m1 hm1).2.2.2.2.2.2.2.2.2.2.2.2.2.2.2.2.1 x1 x2 x3 x4 x5 0 s0 _ hz)
        · intro x1 x2 x3 x4 x5 s0 Y hz
          refine hB _ _ _ _ _ (fun m1 hm1 => ?_)
          dsimp only [ugo, uwp, ust, uct, rfd, Bchoice, Bchoice_188, Nat.beq, lv_args, rlk, rs1, rs2, rdl, rky, rcd, rno, rsw, Value.category, List.filter, List.take, List.drop, List.reverse, List.reverseAux, List.cons_append, List.nil_append, Option.toList, Int.toNat, Int.reduceToNat, if_pos, if_neg, reduceIte, ↓reduceIte, Nat.reduceAdd, Nat.reduceEqDiff, Nat.reduceBEq, beq_self_eq_true, Bool.not_true, Bool.not_false, Bool.and_true, Bool.and_false, Bool.true_and, Bool.false_and, gI_sI, gI_sL, gI_sA, gI_sM, gL_sI, gL_sL, gL_sA, gL_sM, aI_sI, aI_sL, aI_sA, aI_sM, aL_sI, aL_sL, aL_sA, aL_sM, oi_1]; try dsimp only
          exact hW _ 189 [(0, .ref 1000), (1, .int x1), (2, .int x2), (3, .int x3), (4, .int x4), (5, .int x5)] _ _ _ (by simp [rdl, rky, Value.category]) ((ih m1 hm1).2.2.2.2.2.2.2.2.2.2.2.2.2.2.2.2.1 x1 x2 x3 x4 x5 1 s0 _ hz)
        · intro x1 x2 x3 x4 x5 s0 s1 Y hz
          refine hB _ _ _ _ _ (fun m1 hm1 => ?_)
          dsimp only [ugo, uwp, ust, uct, rfd, Bchoice, Bchoice_189, Nat.beq, lv_args, rlk, rs1, rs2, rdl, rky, rcd, rno, rsw, Value.category, List.filter, List.take, List.drop, List.reverse, List.reverseAux, List.cons_append, List.nil_append, Option.toList, Int.toNat, Int.reduceToNat, if_pos, if_neg, reduceIte, ↓reduceIte, Nat.reduceAdd, Nat.reduceEqDiff, Nat.reduceBEq, beq_self_eq_true, Bool.not_true, Bool.not_false, Bool.and_true, Bool.and_false, Bool.true_and, Bool.false_and, gI_sI, gI_sL, gI_sA, gI_sM, gL_sI, gL_sL, gL_sA, gL_sM, aI_sI, aI_sL, aI_sA, aI_sM, aL_sI, aL_sL, aL_sA, aL_sM]; try dsimp only
          refine ⟨trivial, fun w2 τ2 hq2 => ?_⟩
          obtain ⟨hA2, b2, rfl, hb2⟩ := hq2 trivial
          have hz2 := hA2 hz
          dsimp only [Option.toList, List.cons_append, List.nil_append, Nat.beq, gI_sI, gI_sL, gI_sA, gI_sM, gL_sI, gL_sL, gL_sA, gL_sM, aI_sI, aI_sL, aI_sA, aI_sM, aL_sI, aL_sL, aL_sA, aL_sM]
          refine ⟨fun h3 => ?_, fun h3 => ?_⟩
          · exact hW _ 200 [(0, .ref 1000), (1, .int x1), (2, .int x2), (3, .int x3), (4, .int x4), (5, .int x5)] _ _ _ (by simp [rdl, rky, Value.category]) ((ih m1 hm1).2.2.2.2.2.2.2.2.2.2.2.2.2.2.2.2.2.2.1 x1 x2 x3 x4 x5 _ hz2)
          · exact hW _ 195 [(0, .ref 1000), (1, .int x1), (2, .int x2), (3, .int x3), (4, .int x4), (5, .int x5)] _ _ _ (by simp [rdl, rky, Value.category]) ((ih m1 hm1).2.2.2.2.2.2.2.2.2.2.2.2.2.2.2.2.2.1 x1 x2 x3 x4 x5 _ hz2)
        · intro x1 x2 x3 x4 x5 Y hz
          refine hB _ _ _ _ _ (fun m1 hm1 => ?_)
          dsimp only [ugo, uwp, ust, uct, rfd, Bchoice, Bchoice_195, Nat.beq, lv_args, rlk, rs1, rs2, rdl, rky, rcd, rno, rsw, Value.category, List.filter, List.take, List.drop, List.reverse, List.reverseAux, List.cons_append, List.nil_append, Option.toList, Int.toNat, Int.reduceToNat, if_pos, if_neg, reduceIte, ↓reduceIte, Nat.reduceAdd, Nat.reduceEqDiff, Nat.reduceBEq, beq_self_eq_true, Bool.not_true, Bool.not_false, Bool.and_true, Bool.and_false, Bool.true_and, Bool.false_and, gI_sI, gI_sL, gI_sA, gI_sM, gL_sI, gL_sL, gL_sA, gL_sM, aI_sI, aI_sL, aI_sA, aI_sM, aL_sI, aL_sL, aL_sA, aL_sM]; try dsimp only
          refine ⟨fun h2 => ?_, fun h2 => ?_⟩
          · exact hW _ 206 [(0, .ref 1000), (1, .int x1), (2, .int x2), (3, .int x3), (4, .int x4), (5, .int x5)] _ _ _ (by simp [rdl, rky, Value.category]) ((ih m1 hm1).2.2.2.2.2.2.2.2.2.2.2.2.2.2.2.2.2.2.2.1 x1 x2 x3 x4 x5 _ hz)
          · exact hW _ 200 [(0, .ref 1000), (1, .int x1), (2, .int x2), (3, .int x3), (4, .int x4), (5, .int x5)] _ _ _ (by simp [rdl, rky, Value.category]) ((ih m1 hm1).2.2.2.2.2.2.2.2.2.2.2.2.2.2.2.2.2.2.1 x1 x2 x3 x4 x5 _ hz)
        · intro x1 x2 x3 x4 x5 Y hz
          refine hB _ _ _ _ _ (fun m1 hm1 => ?_)
          dsimp only [ugo, uwp, ust, uct, rfd, Bchoice, Bchoice_200, Nat.beq, lv_args, rlk, rs1, rs2, rdl, rky, rcd, rno, rsw, Value.category, List.filter, List.take, List.drop, List.reverse, List.reverseAux, List.cons_append, List.nil_append, Option.toList, Int.toNat, Int.reduceToNat, if_pos, if_neg, reduceIte, ↓reduceIte, Nat.reduceAdd, Nat.reduceEqDiff, Nat.reduceBEq, beq_self_eq_true, Bool.not_true, Bool.not_false, Bool.and_true, Bool.and_false, Bool.true_and, Bool.false_and, gI_sI, gI_sL, gI_sA, gI_sM, gL_sI, gL_sL, gL_sA, gL_sM, aI_sI, aI_sL, aI_sA, aI_sM, aL_sI, aL_sL, aL_sA, aL_sM]; try dsimp only
          refine ⟨trivial, fun w2 τ2 hq2 => ?_⟩
          obtain ⟨rfl, rfl⟩ := hq2 trivial
          dsimp only [Option.toList, List.cons_append, List.nil_append, Nat.beq, gI_sI, gI_sL, gI_sA, gI_sM, gL_sI, gL_sL, gL_sA, gL_sM, aI_sI, aI_sL, aI_sA, aI_sM, aL_sI, aL_sL, aL_sA, aL_sM]
          unfold Qv_choiceB
          try dsimp only
          exact ⟨rfl, Or.inl ⟨hnn, hz⟩⟩
        · intro x1 x2 x3 x4 x5 Y hz
          refine hB _ _ _ _ _ (fun m1 hm1 => ?_)
          dsimp only [ugo, uwp, ust, uct, rfd, Bchoice, Bchoice_206, Nat.beq, lv_args, rlk, rs1, rs2, rdl, rky, rcd, rno, rsw, Value.category, List.filter, List.take, List.drop, List.reverse, List.reverseAux, List.cons_append, List.nil_append, Option.toList, Int.toNat, Int.reduceToNat, if_pos, if_neg, reduceIte, ↓reduceIte, Nat.reduceAdd, Nat.reduceEqDiff, Nat.reduceBEq, beq_self_eq_true, Bool.not_true, Bool.not_false, Bool.and_true, Bool.and_false, Bool.true_and, Bool.false_and, gI_sI, gI_sL, gI_sA, gI_sM, gL_sI, gL_sL, gL_sA, gL_sM, aI_sI, aI_sL, aI_sA, aI_sM, aL_sI, aL_sL, aL_sA, aL_sM]; try dsimp only
          intro p2
          intro p3
          refine ⟨fun h4 => ?_, fun h4 => ?_⟩
          · exact hW _ 235 [(0, .ref 1000), (1, .int x1), (2, .int x2), (3, .int x3), (4, .int x4), (5, .int x5), (6, .int ((aI Y 70) (x3).toNatClampNeg)), (7, .int ((aI Y 70) (x4).toNatClampNeg))] _ _ _ (by simp [rdl, rky, Value.category]) ((ih m1 hm1).2.2.2.2.2.2.2.2.2.2.2.2.2.2.2.2.2.2.2.2.2.1 x1 x2 x3 x4 x5 ((aI Y 70) (x3).toNatClampNeg) ((aI Y 70) (x4).toNatClampNeg) _ hz)
          · exact hW _ 230 [(0, .ref 1000), (1, .int x1), (2, .int x2), (3, .int x3), (4, .int x4), (5, .int x5), (6, .int ((aI Y 70) (x3).toNatClampNeg)), (7, .int ((aI Y 70) (x4).toNatClampNeg))] _ _ _ (by simp [rdl, rky, Value.category]) ((ih m1 hm1).2.2.2.2.2.2.2.2.2.2.2.2.2.2.2.2.2.2.2.2.1 x1 x2 x3 x4 x5 ((aI Y 70) (x3).toNatClampNeg) ((aI Y 70) (x4).toNatClampNeg) _ hz)
        · intro x1 x2 x3 x4 x5 x6 x7 Y hz
          refine hB _ _ _ _ _ (fun m1 hm1 => ?_)
          dsimp only [ugo, uwp, ust, uct, rfd, Bchoice, Bchoice_230, Nat.beq, lv_args, rlk, rs1, rs2, rdl, rky, rcd, rno, rsw, Value.category, List.filter, List.take, List.drop, List.reverse, List.reverseAux, List.cons_append, List.nil_append, Option.toList, Int.toNat, Int.reduceToNat, if_pos, if_neg, reduceIte, ↓reduceIte, Nat.reduceAdd, Nat.reduceEqDiff, Nat.reduceBEq, beq_self_eq_true, Bool.not_true, Bool.not_false, Bool.and_true, Bool.and_false, Bool.true_and, Bool.false_and, gI_sI, gI_sL, gI_sA, gI_sM, gL_sI, gL_sL, gL_sA, gL_sM, aI_sI, aI_sL, aI_sA, aI_sM, aL_sI, aL_sL, aL_sA, aL_sM]; try dsimp only
          exact hW _ 283 [(0, .ref 1000), (1, .int x1), (2, .int x2), (3, .int x3), (4, .int x4), (5, .int x5), (6, .int x6), (7, .int x7)] _ _ _ (by simp [rdl, rky, Value.category]) ((ih m1 hm1).2.2.2.2.2.2.2.2.2.2.2.2.2.2.2.2.2.2.2.2.2.2.2.2.2.2.2.2.2.1 x1 x2 x3 x4 x5 x6 x7 x6 _ hz)
        · intro x1 x2 x3 x4 x5 x6 x7 Y hz
          refine hB _ _ _ _ _ (fun m1 hm1 => ?_)
          dsimp only [ugo, uwp, ust, uct, rfd, Bchoice, Bchoice_235, Nat.beq, lv_args, rlk, rs1, rs2, rdl, rky, rcd, rno, rsw, Value.category, List.filter, List.take, List.drop, List.reverse, List.reverseAux, List.cons_append, List.nil_append, Option.toList, Int.toNat, Int.reduceToNat, if_pos, if_neg, reduceIte, ↓reduceIte, Nat.reduceAdd, Nat.reduceEqDiff, Nat.reduceBEq, beq_self_eq_true, Bool.not_true, Bool.not_false, Bool.and_true, Bool.and_false, Bool.true_and, Bool.false_and, gI_sI, gI_sL, gI_sA, gI_sM, gL_sI, gL_sL, gL_sA, gL_sM, aI_sI, aI_sL, aI_sA, aI_sM, aL_sI, aL_sL, aL_sA, aL_sM]; try dsimp only
          refine ⟨trivial, fun w2 τ2 hq2 => ?_⟩
          obtain ⟨rfl, b2, rfl, hb2⟩ := hq2 trivial
          dsimp only [Option.toList, List.cons_append, List.nil_append, Nat.beq, gI_sI, gI_sL, gI_sA, gI_sM, gL_sI, gL_sL, gL_sA, gL_sM, aI_sI, aI_sL, aI_sA, aI_sM, aL_sI, aL_sL, aL_sA, aL_sM]
          refine ⟨fun h3 => ?_, fun h3 => ?_⟩
          · exact hW _ 251 [(0, .ref 1000), (1, .int x1), (2, .int x2), (3, .int x3), (4, .int x4), (5, .int x5), (6, .int x6), (7, .int x7)] _ _ _ (by simp [rdl, rky, Value.category]) ((ih m1 hm1).2.2.2.2.2.2.2.2.2.2.2.2.2.2.2.2.2.2.2.2.2.2.2.1 x1 x2 x3 x4 x5 x6 x7 _ hz)
          · exact hW _ 246 [(0, .ref 1000), (1, .int x1), (2, .int x2), (3, .int x3), (4, .int x4), (5, .int x5), (6, .int x6), (7, .int x7)] _ _ _ (by simp [rdl, rky, Value.category]) ((ih m1 hm1).2.2.2.2.2.2.2.2.2.2.2.2.2.2.2.2.2.2.2.2.2.2.1 x1 x2 x3 x4 x5 x6 x7 _ hz)
        · intro x1 x2 x3 x4 x5 x6 x7 Y hz
          refine hB _ _ _ _ _ (fun m1 hm1 => ?_)
          dsimp only [ugo, uwp, ust, uct, rfd, Bchoice, Bchoice_246, Nat.beq, lv_args, rlk, rs1, rs2, rdl, rky, rcd, rno, rsw, Value.category, List.filter, List.take, List.drop, List.reverse, List.reverseAux, List.cons_append, List.nil_append, Option.toList, Int.toNat, Int.reduceToNat, if_pos, if_neg, reduceIte, ↓reduceIte, Nat.reduceAdd, Nat.reduceEqDiff, Nat.reduceBEq, beq_self_eq_true, Bool.not_true, Bool.not_false, Bool.and_true, Bool.and_false, Bool.true_and, Bool.false_and, gI_sI, gI_sL, gI_sA, gI_sM, gL_sI, gL_sL, gL_sA, gL_sM, aI_sI, aI_sL, aI_sA, aI_sM, aL_sI, aL_sL, aL_sA, aL_sM]; try dsimp only
          exact hW _ 283 [(0, .ref 1000), (1, .int x1), (2, .int x2), (3, .int x3), (4, .int x4), (5, .int x5), (6, .int x6), (7, .int x7)] _ _ _ (by simp [rdl, rky, Value.category]) ((ih m1 hm1).2.2.2.2.2.2.2.2.2.2.2.2.2.2.2.2.2.2.2.2.2.2.2.2.2.2.2.2.2.1 x1 x2 x3 x4 x5 x6 x7 x6 _ hz)
        · intro x1 x2 x3 x4 x5 x6 x7 Y hz
          refine hB _ _ _ _ _ (fun m1 hm1 => ?_)
          dsimp only [ugo, uwp, ust, uct, rfd, Bchoice, Bchoice_251, Nat.beq, lv_args, rlk, rs1, rs2, rdl, rky, rcd, rno, rsw, Value.category, List.filter, List.take, List.drop, List.reverse, List.reverseAux, List.cons_append, List.nil_append, Option.toList, Int.toNat, Int.reduceToNat, if_pos, if_neg, reduceIte, ↓reduceIte, Nat.reduceAdd, Nat.reduceEqDiff, Nat.reduceBEq, beq_self_eq_true, Bool.not_true, Bool.not_false, Bool.and_true, Bool.and_false, Bool.true_and, Bool.false_and, gI_sI, gI_sL, gI_sA, gI_sM, gL_sI, gL_sL, gL_sA, gL_sM, aI_sI, aI_sL, aI_sA, aI_sM, aL_sI, aL_sL, aL_sA, aL_sM]; try dsimp only
          refine ⟨trivial, fun w2 τ2 hq2 => ?_⟩
          obtain ⟨rfl, b2, rfl, hb2⟩ := hq2 trivial
          dsimp only [Option.toList, List.cons_append, List.nil_append, Nat.beq, gI_sI, gI_sL, gI_sA, gI_sM, gL_sI, gL_sL, gL_sA, gL_sM, aI_sI, aI_sL, aI_sA, aI_sM, aL_sI, aL_sL, aL_sA, aL_sM]
          refine ⟨fun h3 => ?_, fun h3 => ?_⟩
          · exact hW _ 266 [(0, .ref 1000), (1, .int x1), (2, .int x2), (3, .int x3), (4, .int x4), (5, .int x5), (6, .int x6), (7, .int x7)] _ _ _ (by simp [rdl, rky, Value.category]) ((ih m1 hm1).2.2.2.2.2.2.2.2.2.2.2.2.2.2.2.2.2.2.2.2.2.2.2.2.2.1 x1 x2 x3 x4 x5 x6 x7 _ hz)
          · exact hW _ 261 [(0, .ref 1000), (1, .int x1), (2, .int x2), (3, .int x3), (4, .int x4), (5, .int x5), (6, .int x6), (7, .int x7)] _ _ _ (by simp [rdl, rky, Value.category]) ((ih m1 hm1).2.2.2.2.2.2.2.2.2.2.2.2.2.2.2.2.2.2.2.2.2.2.2.2.1 x1 x2 x3 x4 x5 x6 x7 _ hz)
        · intro x1 x2 x3 x4 x5 x6 x7 Y hz
          refine hB _ _ _ _ _ (fun m1 hm1 => ?_)
          dsimp only [ugo, uwp, ust, uct, rfd, Bchoice, Bchoice_261, Nat.beq, lv_args, rlk, rs1, rs2, rdl, rky, rcd, rno, rsw, Value.category, List.filter, List.take, List.drop, List.reverse, List.reverseAux, List.cons_append, List.nil_append, Option.toList, Int.toNat, Int.reduceToNat, if_pos, if_neg, reduceIte, ↓reduceIte, Nat.reduceAdd, Nat.reduceEqDiff, Nat.reduceBEq, beq_self_eq_true, Bool.not_true, Bool.not_false, Bool.and_true, Bool.and_false, Bool.true_and, Bool.false_and, gI_sI, gI_sL, gI_sA, gI_sM, gL_sI, gL_sL, gL_sA, gL_sM, aI_sI, aI_sL, aI_sA, aI_sM, aL_sI, aL_sL, aL_sA, aL_sM]; try dsimp only
          exact hW _ 283 [(0, .ref 1000), (1, .int x1), (2, .int x2), (3, .int x3), (4, .int x4), (5, .int x5), (6, .int x6), (7, .int x7)] _ _ _ (by simp [rdl, rky, Value.category]) ((ih m1 hm1).2.2.2.2.2.2.2.2.2.2.2.2.2.2.2.2.2.2.2.2.2.2.2.2.2.2.2.2.2.1 x1 x2 x3 x4 x5 x6 x7 x7 _ hz)
        · intro x1 x2 x3 x4 x5 x6 x7 Y hz
          refine hB _ _ _ _ _ (fun m1 hm1 => ?_)
          dsimp only [ugo, uwp, ust, uct, rfd, Bchoice, Bchoice_266, Nat.beq, lv_args, rlk, rs1, rs2, rdl, rky, rcd, rno, rsw, Value.category, List.filter, List.take, List.drop, List.reverse, List.reverseAux, List.cons_append, List.nil_append, Option.toList, Int.toNat, Int.reduceToNat, if_pos, if_neg, reduceIte, ↓reduceIte, Nat.reduceAdd, Nat.reduceEqDiff, Nat.reduceBEq, beq_self_eq_true, Bool.not_true, Bool.not_false, Bool.and_true, Bool.and_false, Bool.true_and, Bool.false_and, gI_sI, gI_sL, gI_sA, gI_sM, gL_sI, gL_sL, gL_sA, gL_sM, aI_sI, aI_sL, aI_sA, aI_sM, aL_sI, aL_sL, aL_sA, aL_sM, oi_4]; try dsimp only
          refine ⟨fun h2 => ?_, fun h2 => ?_⟩
          · exact hW _ 278 [(0, .ref 1000), (1, .int x1), (2, .int x2), (3, .int x3), (4, .int x4), (5, .int x5), (6, .int x6), (7, .int x7)] _ _ _ (by simp [rdl, rky, Value.category]) ((ih m1 hm1).2.2.2.2.2.2.2.2.2.2.2.2.2.2.2.2.2.2.2.2.2.2.2.2.2.2.2.1 x1 x2 x3 x4 x5 x6 x7 _ hz)
          · exact hW _ 272 [(0, .ref 1000), (1, .int x1), (2, .int x2), (3, .int x3), (4, .int x4), (5, .int x5), (6, .int x6), (7, .int x7)] _ _ _ (by simp [rdl, rky, Value.category]) ((ih m1 hm1).2.2.2.2.2.2.2.2.2.2.2.2.2.2.2.2.2.2.2.2.2.2.2.2.2.2.1 x1 x2 x3 x4 x5 x6 x7 _ hz)
        · intro x1 x2 x3 x4 x5 x6 x7 Y hz
          refine hB _ _ _ _ _ (fun m1 hm1 => ?_)
          dsimp only [ugo, uwp, ust, uct, rfd, Bchoice, Bchoice_272, Nat.beq, lv_args, rlk, rs1, rs2, rdl, rky, rcd, rno, rsw, Value.category, List.filter, List.take, List.drop, List.reverse, List.reverseAux, List.cons_append, List.nil_append, Option.toList, Int.toNat, Int.reduceToNat, if_pos, if_neg, reduceIte, ↓reduceIte, Nat.reduceAdd, Nat.reduceEqDiff, Nat.reduceBEq, beq_self_eq_true, Bool.not_true, Bool.not_false, Bool.and_true, Bool.and_false, Bool.true_and, Bool.false_and, gI_sI, gI_sL, gI_sA, gI_sM, gL_sI, gL_sL, gL_sA, gL_sM, aI_sI, aI_sL, aI_sA, aI_sM, aL_sI, aL_sL, aL_sA, aL_sM, oi_4]; try dsimp only
          refine ⟨fun h2 => ?_, fun h2 => ?_⟩
          · exact hW _ 282 [(0, .ref 1000), (1, .int x1), (2, .int x2), (3, .int x3), (4, .int x4), (5, .int x5), (6, .int x6), (7, .int x7)] _ _ _ (by simp [rdl, rky, Value.category]) ((ih m1 hm1).2.2.2.2.2.2.2.2.2.2.2.2.2.2.2.2.2.2.2.2.2.2.2.2.2.2.2.2.1 x1 x2 x3 x4 x5 x6 x7 _ hz)
          · exact hW _ 278 [(0, .ref 1000), (1, .int x1), (2, .int x2), (3, .int x3), (4, .int x4), (5, .int x5), (6, .int x6), (7, .int x7)] _ _ _ (by simp [rdl, rky, Value.category]) ((ih m1 hm1).2.2.2.2.2.2.2.2.2.2.2.2.2.2.2.2.2.2.2.2.2.2.2.2.2.2.2.1 x1 x2 x3 x4 x5 x6 x7 _ hz)
        · intro x1 x2 x3 x4 x5 x6 x7 Y hz
          refine hB _ _ _ _ _ (fun m1 hm1 => ?_)
          dsimp only [ugo, uwp, ust, uct, rfd, Bchoice, Bchoice_278, Nat.beq, lv_args, rlk, rs1, rs2, rdl, rky, rcd, rno, rsw, Value.category, List.filter, List.take, List.drop, List.reverse, List.reverseAux, List.cons_append, List.nil_append, Option.toList, Int.toNat, Int.reduceToNat, if_pos, if_neg, reduceIte, ↓reduceIte, Nat.reduceAdd, Nat.reduceEqDiff, Nat.reduceBEq, beq_self_eq_true, Bool.not_true, Bool.not_false, Bool.and_true, Bool.and_false, Bool.true_and, Bool.false_and, gI_sI, gI_sL, gI_sA, gI_sM, gL_sI, gL_sL, gL_sA, gL_sM, aI_sI, aI_sL, aI_sA, aI_sM, aL_sI, aL_sL, aL_sA, aL_sM, oi_4]; try dsimp only
          exact hW _ 283 [(0, .ref 1000), (1, .int x1), (2, .int x2), (3, .int x3), (4, .int x4), (5, .int x5), (6, .int x6), (7, .int x7)] _ _ _ (by simp [rdl, rky, Value.category]) ((ih m1 hm1).2.2.2.2.2.2.2.2.2.2.2.2.2.2.2.2.2.2.2.2.2.2.2.2.2.2.2.2.2.1 x1 x2 x3 x4 x5 x6 x7 4 _ hz)
        · intro x1 x2 x3 x4 x5 x6 x7 Y hz
          refine hB _ _ _ _ _ (fun m1 hm1 => ?_)
          dsimp only [ugo, uwp, ust, uct, rfd, Bchoice, Bchoice_282, Nat.beq, lv_args, rlk, rs1, rs2, rdl, rky, rcd, rno, rsw, Value.category, List.filter, List.take, List.drop, List.reverse, List.reverseAux, List.cons_append, List.nil_append, Option.toList, Int.toNat, Int.reduceToNat, if_pos, if_neg, reduceIte, ↓reduceIte, Nat.reduceAdd, Nat.reduceEqDiff, Nat.reduceBEq, beq_self_eq_true, Bool.not_true, Bool.not_false, Bool.and_true, Bool.and_false, Bool.true_and, Bool.false_and, gI_sI, gI_sL, gI_sA, gI_sM, gL_sI, gL_sL, gL_sA, gL_sM, aI_sI, aI_sL, aI_sA, aI_sM, aL_sI, aL_sL, aL_sA, aL_sM, oi_3]; try dsimp only
          exact hW _ 283 [(0, .ref 1000), (1, .int x1), (2, .int x2), (3, .int x3), (4, .int x4), (5, .int x5), (6, .int x6), (7, .int x7)] _ _ _ (by simp [rdl, rky, Value.category]) ((ih m1 hm1).2.2.2.2.2.2.2.2.2.2.2.2.2.2.2.2.2.2.2.2.2.2.2.2.2.2.2.2.2.1 x1 x2 x3 x4 x5 x6 x7 3 _ hz)
        · intro x1 x2 x3 x4 x5 x6 x7 s0 Y hz
          refine hB _ _ _ _ _ (fun m1 hm1 => ?_)
          dsimp only [ugo, uwp, ust, uct, rfd, Bchoice, Bchoice_283, Nat.beq, lv_args, rlk, rs1, rs2, rdl, rky, rcd, rno, rsw, Value.category, List.filter, List.take, List.drop, List.reverse, List.reverseAux, List.cons_append, List.nil_append, Option.toList, Int.toNat, Int.reduceToNat, if_pos, if_neg, reduceIte, ↓reduceIte, Nat.reduceAdd, Nat.reduceEqDiff, Nat.reduceBEq, beq_self_eq_true, Bool.not_true, Bool.not_false, Bool.and_true, Bool.and_false, Bool.true_and, Bool.false_and, gI_sI, gI_sL, gI_sA, gI_sM, gL_sI, gL_sL, gL_sA, gL_sM, aI_sI, aI_sL, aI_sA, aI_sM, aL_sI, aL_sL, aL_sA, aL_sM]; try dsimp only
          intro p2
          refine ⟨fun h3 => ?_, fun h3 => ?_⟩
          · exact hW _ 317 [(0, .ref 1000), (1, .int x1), (2, .int x2), (3, .int x3), (4, .int x4), (5, .int x5), (6, .int x6), (7, .int x7), (8, .int s0)] _ _ _ (by simp [rdl, rky, Value.category]) ((ih m1 hm1).2.2.2.2.2.2.2.2.2.2.2.2.2.2.2.2.2.2.2.2.2.2.2.2.2.2.2.2.2.2.2.2.2.1 x1 x2 x3 x4 x5 x6 x7 s0 _ hz)
          · exact hW _ 294 [(0, .ref 1000), (1, .int x1), (2, .int x2), (3, .int x3), (4, .int x4), (5, .int x5), (6, .int x6), (7, .int x7), (8, .int s0)] _ _ _ (by simp [rdl, rky, Value.category]) ((ih m1 hm1).2.2.2.2.2.2.2.2.2.2.2.2.2.2.2.2.2.2.2.2.2.2.2.2.2.2.2.2.2.2.1 x1 x2 x3 x4 x5 x6 x7 s0 _ hz)
        · intro x1 x2 x3 x4 x5 x6 x7 x8 Y hz
          refine hB _ _ _ _ _ (fun m1 hm1 => ?_)
          dsimp only [ugo, uwp, ust, uct, rfd, Bchoice, Bchoice_294, Nat.beq, lv_args, rlk, rs1, rs2, rdl, rky, rcd, rno, rsw, Value.category, List.filter, List.take, List.drop, List.reverse, List.reverseAux, List.cons_append, List.nil_append, Option.toList, Int.toNat, Int.reduceToNat, if_pos, if_neg, reduceIte, ↓reduceIte, Nat.reduceAdd, Nat.reduceEqDiff, Nat.reduceBEq, beq_self_eq_true, Bool.not_true, Bool.not_false, Bool.and_true, Bool.and_false, Bool.true_and, Bool.false_and, gI_sI, gI_sL, gI_sA, gI_sM, gL_sI, gL_sL, gL_sA, gL_sM, aI_sI, aI_sL, aI_sA, aI_sM, aL_sI, aL_sL, aL_sA, aL_sM]; try dsimp only
          intro p2
          refine ⟨fun h3 => ?_, fun h3 => ?_⟩
          · exact hW _ 317 [(0, .ref 1000), (1, .int x1), (2, .int x2), (3, .int x3), (4, .int x4), (5, .int x5), (6, .int x6), (7, .int x7), (8, .int x8)] _ _ _ (by simp [rdl, rky, Value.category]) ((ih m1 hm1).2.2.2.2.2.2.2.2.2.2.2.2.2.2.2.2.2.2.2.2.2.2.2.2.2.2.2.2.2.2.2.2.2.1 x1 x2 x3 x4 x5 x6 x7 x8 _ hz)
          · exact hW _ 303 [(0, .ref 1000), (1, .int x1), (2, .int x2), (3, .int x3), (4, .int x4), (5, .int x5), (6, .int x6), (7, .int x7), (8, .int x8)] _ _ _ (by simp [rdl, rky, Value.category]) ((ih m1 hm1).2.2.2.2.2.2.2.2.2.2.2.2.2.2.2.2.2.2.2.2.2.2.2.2.2.2.2.2.2.2.2.1 x1 x2 x3 x4 x5 x6 x7 x8 _ hz)
        · intro x1 x2 x3 x4 x5 x6 x7 x8 Y hz
          refine hB _ _ _ _ _ (fun m1 hm1 => ?_)
          dsimp only [ugo, uwp, ust, uct, rfd, Bchoice, Bchoice_303, Nat.beq, lv_args, rlk, rs1, rs2, rdl, rky, rcd, rno, rsw, Value.category, List.filter, List.take, List.drop, List.reverse, List.reverseAux, List.cons_append, List.nil_append, Option.toList, Int.toNat, Int.reduceToNat, if_pos, if_neg, reduceIte, ↓reduceIte, Nat.reduceAdd, Nat.reduceEqDiff, Nat.reduceBEq, beq_self_eq_true, Bool.not_true, Bool.not_false, Bool.and_true, Bool.and_false, Bool.true_and, Bool.false_and, gI_sI, gI_sL, gI_sA, gI_sM, gL_sI, gL_sL, gL_sA, gL_sM, aI_sI, aI_sL, aI_sA, aI_sM, aL_sI, aL_sL, aL_sA, aL_sM]; try dsimp only
          intro p2
          refine ⟨fun h3 => ?_, fun h3 => ?_⟩
          · exact hW _ 317 [(0, .ref 1000), (1, .int x1), (2, .int x2), (3, .int x3), (4, .int x4), (5, .int x5), (6, .int x6), (7, .int x7), (8, .int x8)] _ _ _ (by simp [rdl, rky, Value.category]) ((ih m1 hm1).2.2.2.2.2.2.2.2.2.2.2.2.2.2.2.2.2.2.2.2.2.2.2.2.2.2.2.2.2.2.2.2.2.1 x1 x2 x3 x4 x5 x6 x7 x8 _ hz)
          · exact hW _ 313 [(0, .ref 1000), (1, .int x1), (2, .int x2), (3, .int x3), (4, .int x4), (5, .int x5), (6, .int x6), (7, .int x7), (8, .int x8)] _ _ _ (by simp [rdl, rky, Value.category]) ((ih m1 hm1).2.2.2.2.2.2.2.2.2.2.2.2.2.2.2.2.2.2.2.2.2.2.2.2.2.2.2.2.2.2.2.2.1 x1 x2 x3 x4 x5 x6 x7 x8 _ hz)
        · intro x1 x2 x3 x4 x5 x6 x7 x8 Y hz
          refine hB _ _ _ _ _ (fun m1 hm1 => ?_)
          dsimp only [ugo, uwp, ust, uct, rfd, Bchoice, Bchoice_313, Nat.beq, lv_args, rlk, rs1, rs2, rdl, rky, rcd, rno, rsw, Value.category, List.filter, List.take, List.drop, List.reverse, List.reverseAux, List.cons_append, List.nil_append, Option.toList, Int.toNat, Int.reduceToNat, if_pos, if_neg, reduceIte, ↓reduceIte, Nat.reduceAdd, Nat.reduceEqDiff, Nat.reduceBEq, beq_self_eq_true, Bool.not_true, Bool.not_false, Bool.and_true, Bool.and_false, Bool.true_and, Bool.false_and, gI_sI, gI_sL, gI_sA, gI_sM, gL_sI, gL_sL, gL_sA, gL_sM, aI_sI, aI_sL, aI_sA, aI_sM, aL_sI, aL_sL, aL_sA, aL_sM, oi_1]; try dsimp only
          exact hW _ 318 [(0, .ref 1000), (1, .int x1), (2, .int x2), (3, .int x3), (4, .int x4), (5, .int x5), (6, .int x6), (7, .int x7), (8, .int x8)] _ _ _ (by simp [rdl, rky, Value.category]) ((ih m1 hm1).2.2.2.2.2.2.2.2.2.2.2.2.2.2.2.2.2.2.2.2.2.2.2.2.2.2.2.2.2.2.2.2.2.2.1 x1 x2 x3 x4 x5 x6 x7 x8 1 _ hz)
        · intro x1 x2 x3 x4 x5 x6 x7 x8 Y hz
          refine hB _ _ _ _ _ (fun m1 hm1 => ?_)
          dsimp only [ugo, uwp, ust, uct, rfd, Bchoice, Bchoice_317, Nat.beq, lv_args, rlk, rs1, rs2, rdl, rky, rcd, rno, rsw, Value.category, List.filter, List.take, List.drop, List.reverse, List.reverseAux, List.cons_append, List.nil_append, Option.toList, Int.toNat, Int.reduceToNat, if_pos, if_neg, reduceIte, ↓reduceIte, Nat.reduceAdd, Nat.reduceEqDiff, Nat.reduceBEq, beq_self_eq_true, Bool.not_true, Bool.not_false, Bool.and_true, Bool.and_false, Bool.true_and, Bool.false_and, gI_sI, gI_sL, gI_sA, gI_sM, gL_sI, gL_sL, gL_sA, gL_sM, aI_sI, aI_sL, aI_sA, aI_sM, aL_sI, aL_sL, aL_sA, aL_sM, oi_0]; try dsimp only
          exact hW _ 318 [(0, .ref 1000), (1, .int x1), (2, .int x2), (3, .int x3), (4, .int x4), (5, .int x5), (6, .int x6), (7, .int x7), (8, .int x8)] _ _ _ (by simp [rdl, rky, Value.category]) ((ih m1 hm1).2.2.2.2.2.2.2.2.2.2.2.2.2.2.2.2.2.2.2.2.2.2.2.2.2.2.2.2.2.2.2.2.2.2.1 x1 x2 x3 x4 x5 x6 x7 x8 0 _ hz)
        · intro x1 x2 x3 x4 x5 x6 x7 x8 s0 Y hz
          refine hB _ _ _ _ _ (fun m1 hm1 => ?_)
          dsimp only [ugo, uwp, ust, uct, rfd, Bchoice, Bchoice_318, Nat.beq, lv_args, rlk, rs1, rs2, rdl, rky, rcd, rno, rsw, Value.category, List.filter, List.take, List.drop, List.reverse, List.reverseAux, List.cons_append, List.nil_append, Option.toList, Int.toNat, Int.reduceToNat, if_pos, if_neg, reduceIte, ↓reduceIte, Nat.reduceAdd, Nat.reduceEqDiff, Nat.reduceBEq, beq_self_eq_true, Bool.not_true, Bool.not_false, Bool.and_true, Bool.and_false, Bool.true_and, Bool.false_and, gI_sI, gI_sL, gI_sA, gI_sM, gL_sI, gL_sL, gL_sA, gL_sM, aI_sI, aI_sL, aI_sA, aI_sM, aL_sI, aL_sL, aL_sA, aL_sM]; try dsimp only
          intro p2
          intro p3
          refine ⟨fun h4 => ?_, fun h4 => ?_⟩
          · have c4 : ((aL Y 72) (x2).toNatClampNeg) = (0 : Int64) := (cL (a := (0 : Int64)) (b := ((aL Y 72) (x2).toNatClampNeg))).1.mp h4
            exact hW _ 357 [(0, .ref 1000), (1, .int x1), (2, .int x2), (3, .int x3), (4, .int x4), (5, .int x5), (6, .int x6), (7, .int x7), (8, .int x8), (9, .int s0)] _ _ _ (by simp [rdl, rky, Value.category]) ((ih m1 hm1).2.2.2.2.2.2.2.2.2.2.2.2.2.2.2.2.2.2.2.2.2.2.2.2.2.2.2.2.2.2.2.2.2.2.2.2.1 x1 x2 x3 x4 x5 x6 x7 x8 s0 x8 s0 x8 x1 _ hz)
          · have c4 : ¬ ((aL Y 72) (x2).toNatClampNeg) = (0 : Int64) := fun q => h4 ((cL (a := (0 : Int64)) (b := ((aL Y 72) (x2).toNatClampNeg))).1.mpr q)
            exact hW _ 348 [(0, .ref 1000), (1, .int x1), (2, .int x2), (3, .int x3), (4, .int x4), (5, .int x5), (6, .int x6), (7, .int x7), (8, .int x8), (9, .int s0)] _ _ _ (by simp [rdl, rky, Value.category]) ((ih m1 hm1).2.2.2.2.2.2.2.2.2.2.2.2.2.2.2.2.2.2.2.2.2.2.2.2.2.2.2.2.2.2.2.2.2.2.2.1 x1 x2 x3 x4 x5 x6 x7 x8 s0 x8 s0 x8 x1 _ hz)
        · intro x1 x2 x3 x4 x5 x6 x7 x8 x9 s0 s2 s3 s4 Y hz
          refine hB _ _ _ _ _ (fun m1 hm1 => ?_)
          dsimp only [ugo, uwp, ust, uct, rfd, Bchoice, Bchoice_348, Nat.beq, lv_args, rlk, rs1, rs2, rdl, rky, rcd, rno, rsw, Value.category, List.filter, List.take, List.drop, List.reverse, List.reverseAux, List.cons_append, List.nil_append, Option.toList, Int.toNat, Int.reduceToNat, if_pos, if_neg, reduceIte, ↓reduceIte, Nat.reduceAdd, Nat.reduceEqDiff, Nat.reduceBEq, beq_self_eq_true, Bool.not_true, Bool.not_false, Bool.and_true, Bool.and_false, Bool.true_and, Bool.false_and, gI_sI, gI_sL, gI_sA, gI_sM, gL_sI, gL_sL, gL_sA, gL_sM, aI_sI, aI_sL, aI_sA, aI_sM, aL_sI, aL_sL, aL_sA, aL_sM]; try dsimp only
          intro p2
          exact hW _ 364 [(0, .ref 1000), (1, .int x1), (2, .int x2), (3, .int x3), (4, .int x4), (5, .int x5), (6, .int x6), (7, .int x7), (8, .int x8), (9, .int x9)] _ _ _ (by simp [rdl, rky, Value.category]) ((ih m1 hm1).2.2.2.2.2.2.2.2.2.2.2.2.2.2.2.2.2.2.2.2.2.2.2.2.2.2.2.2.2.2.2.2.2.2.2.2.2 x1 x2 x3 x4 x5 x6 x7 x8 x9 ((aL Y 72) (x3).toNatClampNeg) s0 s2 s3 s4 _ hz)
        · intro x1 x2 x3 x4 x5 x6 x7 x8 x9 s0 s2 s3 s4 Y hz
          refine hB _ _ _ _ _ (fun m1 hm1 => ?_)
          dsimp only [ugo, uwp, ust, uct, rfd, Bchoice, Bchoice_357, Nat.beq, lv_args, rlk, rs1, rs2, rdl, rky, rcd, rno, rsw, Value.category, List.filter, List.take, List.drop, List.reverse, List.reverseAux, List.cons_append, List.nil_append, Option.toList, Int.toNat, Int.reduceToNat, if_pos, if_neg, reduceIte, ↓reduceIte, Nat.reduceAdd, Nat.reduceEqDiff, Nat.reduceBEq, beq_self_eq_true, Bool.not_true, Bool.not_false, Bool.and_true, Bool.and_false, Bool.true_and, Bool.false_and, gI_sI, gI_sL, gI_sA, gI_sM, gL_sI, gL_sL, gL_sA, gL_sM, aI_sI, aI_sL, aI_sA, aI_sM, aL_sI, aL_sL, aL_sA, aL_sM]; try dsimp only
          intro p2
          exact hW _ 364 [(0, .ref 1000), (1, .int x1), (2, .int x2), (3, .int x3), (4, .int x4), (5, .int x5), (6, .int x6), (7, .int x7), (8, .int x8), (9, .int x9)] _ _ _ (by simp [rdl, rky, Value.category]) ((ih m1 hm1).2.2.2.2.2.2.2.2.2.2.2.2.2.2.2.2.2.2.2.2.2.2.2.2.2.2.2.2.2.2.2.2.2.2.2.2.2 x1 x2 x3 x4 x5 x6 x7 x8 x9 ((aL Y 72) (x4).toNatClampNeg) s0 s2 s3 s4 _ hz)
        · intro x1 x2 x3 x4 x5 x6 x7 x8 x9 s0 s1 s3 s4 s5 Y hz
          refine hB _ _ _ _ _ (fun m1 hm1 => ?_)
          dsimp only [ugo, uwp, ust, uct, rfd, Bchoice, Bchoice_364, Nat.beq, lv_args, rlk, rs1, rs2, rdl, rky, rcd, rno, rsw, Value.category, List.filter, List.take, List.drop, List.reverse, List.reverseAux, List.cons_append, List.nil_append, Option.toList, Int.toNat, Int.reduceToNat, if_pos, if_neg, reduceIte, ↓reduceIte, Nat.reduceAdd, Nat.reduceEqDiff, Nat.reduceBEq, beq_self_eq_true, Bool.not_true, Bool.not_false, Bool.and_true, Bool.and_false, Bool.true_and, Bool.false_and, gI_sI, gI_sL, gI_sA, gI_sM, gL_sI, gL_sL, gL_sA, gL_sM, aI_sI, aI_sL, aI_sA, aI_sM, aL_sI, aL_sL, aL_sA, aL_sM]; try dsimp only
          refine ⟨trivial, fun w2 τ2 hq2 => ?_⟩
          obtain ⟨rfl, rfl⟩ := hq2 trivial
          try rw [show (s1).toInt = (s1).toInt from (rfl : (s1).toInt = (s1).toInt)]
          dsimp only [Option.toList, List.cons_append, List.nil_append, Nat.beq, gI_sI, gI_sL, gI_sA, gI_sM, gL_sI, gL_sL, gL_sA, gL_sM, aI_sI, aI_sL, aI_sA, aI_sM, aL_sI, aL_sL, aL_sA, aL_sM]
          refine ⟨trivial, fun w3 τ3 hq3 => ?_⟩
          obtain ⟨rfl, rfl⟩ := hq3 trivial
          dsimp only [Option.toList, List.cons_append, List.nil_append, Nat.beq, gI_sI, gI_sL, gI_sA, gI_sM, gL_sI, gL_sL, gL_sA, gL_sM, aI_sI, aI_sL, aI_sA, aI_sM, aL_sI, aL_sL, aL_sA, aL_sM]
          unfold Qv_choiceB
          try dsimp only
          exact ⟨rfl, Or.inl ⟨hnn, hz⟩⟩
    intro n0
    refine hB _ _ _ _ _ (fun m1 hm1 => ?_)
    dsimp only [ugo, uwp, ust, uct, rfd, Bchoice, Bchoice_0, Nat.beq, lv_args, rlk, rs1, rs2, rdl, rky, rcd, rno, rsw, Value.category, List.filter, List.take, List.drop, List.reverse, List.reverseAux, List.cons_append, List.nil_append, Option.toList, Int.toNat, Int.reduceToNat, if_pos, if_neg, reduceIte, ↓reduceIte, Nat.reduceAdd, Nat.reduceEqDiff, Nat.reduceBEq, beq_self_eq_true, Bool.not_true, Bool.not_false, Bool.and_true, Bool.and_false, Bool.true_and, Bool.false_and, gI_sI, gI_sL, gI_sA, gI_sM, gL_sI, gL_sL, gL_sA, gL_sM, aI_sI, aI_sL, aI_sA, aI_sM, aL_sI, aL_sL, aL_sA, aL_sM, oi_0, oi_1, oi_2, oi_3]; try dsimp only
    refine ⟨trivial, fun w2 τ2 hq2 => ?_⟩
    obtain ⟨hA2, b2, rfl, hb2⟩ := hq2 trivial
    rcases hb2 _ ha with ⟨rfl, rfl, hd2⟩ | ⟨rfl, hz2, hd2⟩
    · dsimp only [Option.toList, List.cons_append, List.nil_append, Nat.beq, gI_sI, gI_sL, gI_sA, gI_sM, gL_sI, gL_sL, gL_sA, gL_sM, aI_sI, aI_sL, aI_sA, aI_sM, aL_sI, aL_sL, aL_sA, aL_sM]
      have hd2 : a.1 = 0 := (nd_t (rfl)).mp hd2
      refine ⟨trivial, fun w3 τ3 hq3 => ?_⟩
      obtain ⟨rfl, b3, rfl, hb3⟩ := hq3 trivial
      obtain rfl : b3 = 0 := Classical.byContradiction (fun q => absurd (hb3.mp q) (TeR.nb hb))
      dsimp only [Option.toList, List.cons_append, List.nil_append, Nat.beq, gI_sI, gI_sL, gI_sA, gI_sM, gL_sI, gL_sL, gL_sA, gL_sM, aI_sI, aI_sL, aI_sA, aI_sM, aL_sI, aL_sL, aL_sA, aL_sM]
      refine ⟨fun h4 => absurd h4 (by decide), fun h4 => ?_⟩
      clear h4
      refine hB _ _ _ _ _ (fun m5 hm5 => ?_)
      dsimp only [ugo, uwp, ust, uct, rfd, Bchoice, Bchoice_46, Nat.beq, lv_args, rlk, rs1, rs2, rdl, rky, rcd, rno, rsw, Value.category, List.filter, List.take, List.drop, List.reverse, List.reverseAux, List.cons_append, List.nil_append, Option.toList, Int.toNat, Int.reduceToNat, if_pos, if_neg, reduceIte, ↓reduceIte, Nat.reduceAdd, Nat.reduceEqDiff, Nat.reduceBEq, beq_self_eq_true, Bool.not_true, Bool.not_false, Bool.and_true, Bool.and_false, Bool.true_and, Bool.false_and, gI_sI, gI_sL, gI_sA, gI_sM, gL_sI, gL_sL, gL_sA, gL_sM, aI_sI, aI_sL, aI_sA, aI_sM, aL_sI, aL_sL, aL_sA, aL_sM]; try dsimp only
      refine ⟨trivial, fun w6 τ6 hq6 => ?_⟩
      obtain ⟨rfl, b6, rfl, hb6⟩ := hq6 trivial
      obtain rfl : b6 = 0 := Classical.byContradiction (fun q => absurd (hb6.mp q) (TeR.nb hc))
      dsimp only [Option.toList, List.cons_append, List.nil_append, Nat.beq, gI_sI, gI_sL, gI_sA, gI_sM, gL_sI, gL_sL, gL_sA, gL_sM, aI_sI, aI_sL, aI_sA, aI_sM, aL_sI, aL_sL, aL_sA, aL_sM]
      refine ⟨fun h7 => ?_, fun h7 => absurd h7 (by decide)⟩
      clear h7
      refine hB _ _ _ _ _ (fun m8 hm8 => ?_)
      dsimp only [ugo, uwp, ust, uct, rfd, Bchoice, Bchoice_122, Nat.beq, lv_args, rlk, rs1, rs2, rdl, rky, rcd, rno, rsw, Value.category, List.filter, List.take, List.drop, List.reverse, List.reverseAux, List.cons_append, List.nil_append, Option.toList, Int.toNat, Int.reduceToNat, if_pos, if_neg, reduceIte, ↓reduceIte, Nat.reduceAdd, Nat.reduceEqDiff, Nat.reduceBEq, beq_self_eq_true, Bool.not_true, Bool.not_false, Bool.and_true, Bool.and_false, Bool.true_and, Bool.false_and, gI_sI, gI_sL, gI_sA, gI_sM, gL_sI, gL_sL, gL_sA, gL_sM, aI_sI, aI_sL, aI_sA, aI_sM, aL_sI, aL_sL, aL_sA, aL_sM, oi_5]; try dsimp only
      intro p9
      refine ⟨fun h10 => ?_, fun h10 => ?_⟩
      · have c10 : ¬ b.1 = 5 := fun q => h10 ((cI (hb).1 (rfl : (5 : Int32).toInt = 5)).1.mpr q)
        refine hB _ _ _ _ _ (fun m11 hm11 => ?_)
        dsimp only [ugo, uwp, ust, uct, rfd, Bchoice, Bchoice_172, Nat.beq, lv_args, rlk, rs1, rs2, rdl, rky, rcd, rno, rsw, Value.category, List.filter, List.take, List.drop, List.reverse, List.reverseAux, List.cons_append, List.nil_append, Option.toList, Int.toNat, Int.reduceToNat, if_pos, if_neg, reduceIte, ↓reduceIte, Nat.reduceAdd, Nat.reduceEqDiff, Nat.reduceBEq, beq_self_eq_true, Bool.not_true, Bool.not_false, Bool.and_true, Bool.and_false, Bool.true_and, Bool.false_and, gI_sI, gI_sL, gI_sA, gI_sM, gL_sI, gL_sL, gL_sA, gL_sM, aI_sI, aI_sL, aI_sA, aI_sM, aL_sI, aL_sL, aL_sA, aL_sM]; try dsimp only
        intro p12
        have t206 : ∀ (M_ : Nat), rtT b.1 d.1 → K M_ 206 [(0, .ref 1000), (1, .int c), (2, .int ((gI σ 69) - 3)), (3, .int (((gI σ 69) - 3) + 1)), (4, .int (((gI σ 69) - 3) + 2)), (5, .int 1)] [] (sI σ 69 ((gI σ 69) - 3)) := by
          intro M_ hrt
          refine hB _ _ _ _ _ (fun m13 hm13 => ?_)
          dsimp only [ugo, uwp, ust, uct, rfd, Bchoice, Bchoice_206, Nat.beq, lv_args, rlk, rs1, rs2, rdl, rky, rcd, rno, rsw, Value.category, List.filter, List.take, List.drop, List.reverse, List.reverseAux, List.cons_append, List.nil_append, Option.toList, Int.toNat, Int.reduceToNat, if_pos, if_neg, reduceIte, ↓reduceIte, Nat.reduceAdd, Nat.reduceEqDiff, Nat.reduceBEq, beq_self_eq_true, Bool.not_true, Bool.not_false, Bool.and_true, Bool.and_false, Bool.true_and, Bool.false_and, gI_sI, gI_sL, gI_sA, gI_sM, gL_sI, gL_sL, gL_sA, gL_sM, aI_sI, aI_sL, aI_sA, aI_sM, aL_sI, aL_sL, aL_sA, aL_sM]; try dsimp only
          intro p14
          intro p15
          have t283 : ∀ (M_ : Nat) (ty : Int32), ty.toInt = ctT b d → K M_ 283 [(0, .ref 1000), (1, .int c), (2, .int ((gI σ 69) - 3)), (3, .int (((gI σ 69) - 3) + 1)), (4, .int (((gI σ 69) - 3) + 2)), (5, .int 1), (6, .int ((aI σ 70) ((((gI σ 69) - 3) + 1)).toNatClampNeg)), (7, .int ((aI σ 70) ((((gI σ 69) - 3) + 2)).toNatClampNeg))] [.int ty] (sI σ 69 ((gI σ 69) - 3)) := by
            intro M_ ty hty
            refine hB _ _ _ _ _ (fun m16 hm16 => ?_)
            dsimp only [ugo, uwp, ust, uct, rfd, Bchoice, Bchoice_283, Nat.beq, lv_args, rlk, rs1, rs2, rdl, rky, rcd, rno, rsw, Value.category, List.filter, List.take, List.drop, List.reverse, List.reverseAux, List.cons_append, List.nil_append, Option.toList, Int.toNat, Int.reduceToNat, if_pos, if_neg, reduceIte, ↓reduceIte, Nat.reduceAdd, Nat.reduceEqDiff, Nat.reduceBEq, beq_self_eq_true, Bool.not_true, Bool.not_false, Bool.and_true, Bool.and_false, Bool.true_and, Bool.false_and, gI_sI, gI_sL, gI_sA, gI_sM, gL_sI, gL_sL, gL_sA, gL_sM, aI_sI, aI_sL, aI_sA, aI_sM, aL_sI, aL_sL, aL_sA, aL_sM]; try dsimp only
            intro p17
            have t318 : ∀ (M_ : Nat) (su : Int32), (¬ su = 0 ↔ ((¬ a.2.1 = 0 ∧ ¬ b.2.1 = 0) ∧ ¬ d.2.1 = 0)) → K M_ 318 [(0, .ref 1000), (1, .int c), (2, .int ((gI σ 69) - 3)), (3, .int (((gI σ 69) - 3) + 1)), (4, .int (((gI σ 69) - 3) + 2)), (5, .int 1), (6, .int ((aI σ 70) ((((gI σ 69) - 3) + 1)).toNatClampNeg)), (7, .int ((aI σ 70) ((((gI σ 69) - 3) + 2)).toNatClampNeg)), (8, .int ty)] [.int su] (sI σ 69 ((gI σ 69) - 3)) := by
              intro M_ su hsu
              refine hB _ _ _ _ _ (fun m18 hm18 => ?_)
              dsimp only [ugo, uwp, ust, uct, rfd, Bchoice, Bchoice_318, Nat.beq, lv_args, rlk, rs1, rs2, rdl, rky, rcd, rno, rsw, Value.category, List.filter, List.take, List.drop, List.reverse, List.reverseAux, List.cons_append, List.nil_append, Option.toList, Int.toNat, Int.reduceToNat, if_pos, if_neg, reduceIte, ↓reduceIte, Nat.reduceAdd, Nat.reduceEqDiff, Nat.reduceBEq, beq_self_eq_true, Bool.not_true, Bool.not_false, Bool.and_true, Bool.and_false, Bool.true_and, Bool.false_and, gI_sI, gI_sL, gI_sA, gI_sM, gL_sI, gL_sL, gL_sA, gL_sM, aI_sI, aI_sL, aI_sA, aI_sM, aL_sI, aL_sL, aL_sA, aL_sM]; try dsimp only
              intro p19
              intro p20
              have t364 : ∀ (M_ : Nat) (vv : Int64), (¬ su = 0 → vv = if a.2.2.1 = 1 then b.2.2.1 else d.2.2.1) → K M_ 364 [(0, .ref 1000), (1, .int c), (2, .int ((gI σ 69) - 3)), (3, .int (((gI σ 69) - 3) + 1)), (4, .int (((gI σ 69) - 3) + 2)), (5, .int 1), (6, .int ((aI σ 70) ((((gI σ 69) - 3) + 1)).toNatClampNeg)), (7, .int ((aI σ 70) ((((gI σ 69) - 3) + 2)).toNatClampNeg)), (8, .int ty), (9, .int su)] [.long vv, .int ty, .ref 1000, .int su, .int ty, .int c, .ref 1000] (sA (sI σ 69 ((gI σ 69) - 3)) 82 (upd (aI σ 82) (c).toNatClampNeg ty)) := by
                intro M_ vv hvv
                refine hB _ _ _ _ _ (fun m21 hm21 => ?_)
                dsimp only [ugo, uwp, ust, uct, rfd, Bchoice, Bchoice_364, Nat.beq, lv_args, rlk, rs1, rs2, rdl, rky, rcd, rno, rsw, Value.category, List.filter, List.take, List.drop, List.reverse, List.reverseAux, List.cons_append, List.nil_append, Option.toList, Int.toNat, Int.reduceToNat, if_pos, if_neg, reduceIte, ↓reduceIte, Nat.reduceAdd, Nat.reduceEqDiff, Nat.reduceBEq, beq_self_eq_true, Bool.not_true, Bool.not_false, Bool.and_true, Bool.and_false, Bool.true_and, Bool.false_and, gI_sI, gI_sL, gI_sA, gI_sM, gL_sI, gL_sL, gL_sA, gL_sM, aI_sI, aI_sL, aI_sA, aI_sM, aL_sI, aL_sL, aL_sA, aL_sM]; try dsimp only
                refine ⟨trivial, fun w22 τ22 hq22 => ?_⟩
                obtain ⟨rfl, rfl⟩ := hq22 trivial
                try rw [show (ty).toInt = (ctT b d) from hty]
                dsimp only [Option.toList, List.cons_append, List.nil_append, Nat.beq, gI_sI, gI_sL, gI_sA, gI_sM, gL_sI, gL_sL, gL_sA, gL_sM, aI_sI, aI_sL, aI_sA, aI_sM, aL_sI, aL_sL, aL_sA, aL_sM]
                refine ⟨trivial, fun w23 τ23 hq23 => ?_⟩
                obtain ⟨rfl, rfl⟩ := hq23 trivial
                dsimp only [Option.toList, List.cons_append, List.nil_append, Nat.beq, gI_sI, gI_sL, gI_sA, gI_sM, gL_sI, gL_sL, gL_sA, gL_sM, aI_sI, aI_sL, aI_sA, aI_sM, aL_sI, aL_sL, aL_sA, aL_sM]
                unfold Qv_choiceB
                try dsimp only
                refine ⟨rfl, Or.inr ?_⟩
                refine ⟨_, if_pos ⟨⟨by omega, by omega⟩, hrt⟩, ty, su, _, ⟨hty, ?_, fun hk => ?_⟩, rfl⟩
                · show _ ↔ ¬ (if _ then (1 : Int) else 0) = 0
                  rw [hsu]
                  split
                  · next q => exact ⟨fun _ => by decide, fun _ => q⟩
                  · next q => exact ⟨fun z => absurd z q, fun z => absurd rfl z⟩
                · have hk : ¬ (if ((¬ a.2.1 = 0 ∧ ¬ b.2.1 = 0) ∧ ¬ d.2.1 = 0) then (1 : Int) else 0) = 0 := hk
                  have q : (¬ a.2.1 = 0 ∧ ¬ b.2.1 = 0) ∧ ¬ d.2.1 = 0 := by
                    by_cases z : (¬ a.2.1 = 0 ∧ ¬ b.2.1 = 0) ∧ ¬ d.2.1 = 0
                    · exact z
                    · rw [if_neg z] at hk
                      exact absurd rfl hk
                  have hv := hvv (hsu.mpr q)
                  have ct := ct_v hb.2.2.2 hc.2.2.2 q.1.2 q.2 hrt (by omega)
                  show caT _ vv = if _ then _ else _
                  rw [hv]
                  split
                  · exact ct.1
                  · exact ct.2
              refine ⟨fun h24 => ?_, fun h24 => ?_⟩
              · have c24 : ((aL σ 72) (((gI σ 69) - 3)).toNatClampNeg) = (0 : Int64) := (cL (a := (0 : Int64)) (b := ((aL σ 72) (((gI σ 69) - 3)).toNatClampNeg))).1.mp h24
                refine hB _ _ _ _ _ (fun m25 hm25 => ?_)
                dsimp only [ugo, uwp, ust, uct, rfd, Bchoice, Bchoice_357, Nat.beq, lv_args, rlk, rs1, rs2, rdl, rky, rcd, rno, rsw, Value.category, List.filter, List.take, List.drop, List.reverse, List.reverseAux, List.cons_append, List.nil_append, Option.toList, Int.toNat, Int.reduceToNat, if_pos, if_neg, reduceIte, ↓reduceIte, Nat.reduceAdd, Nat.reduceEqDiff, Nat.reduceBEq, beq_self_eq_true, Bool.not_true, Bool.not_false, Bool.and_true, Bool.and_false, Bool.true_and, Bool.false_and, gI_sI, gI_sL, gI_sA, gI_sM, gL_sI, gL_sL, gL_sA, gL_sM, aI_sI, aI_sL, aI_sA, aI_sM, aL_sI, aL_sL, aL_sA, aL_sM]; try dsimp only
                intro p26
                exact hW _ 364 [(0, .ref 1000), (1, .int c), (2, .int ((gI σ 69) - 3)), (3, .int (((gI σ 69) - 3) + 1)), (4, .int (((gI σ 69) - 3) + 2)), (5, .int 1), (6, .int ((aI σ 70) ((((gI σ 69) - 3) + 1)).toNatClampNeg)), (7, .int ((aI σ 70) ((((gI σ 69) - 3) + 2)).toNatClampNeg)), (8, .int ty), (9, .int su)] _ _ _ (by simp [rdl, rky, Value.category]) (t364 _ ((aL σ 72) ((((gI σ 69) - 3) + 2)).toNatClampNeg) (fun q => by obtain ⟨⟨q1, q2⟩, q3⟩ := hsu.mp q; have z := (ha.2.2.2.2 q1).2 (by omega); have za := ha.2.2.1 q1; rw [if_neg (fun y => by have h0 : aL σ 72 _ = 0 := (by assumption); rw [za.symm.trans h0] at y; exact absurd y (by decide))]; exact hc.2.2.1 q3))
              · have c24 : ¬ ((aL σ 72) (((gI σ 69) - 3)).toNatClampNeg) = (0 : Int64) := fun q => h24 ((cL (a := (0 : Int64)) (b := ((aL σ 72) (((gI σ 69) - 3)).toNatClampNeg))).1.mpr q)
                refine hB _ _ _ _ _ (fun m27 hm27 => ?_)
                dsimp only [ugo, uwp, ust, uct, rfd, Bchoice, Bchoice_348, Nat.beq, lv_args, rlk, rs1, rs2, rdl, rky, rcd, rno, rsw, Value.category, List.filter, List.take, List.drop, List.reverse, List.reverseAux, List.cons_append, List.nil_append, Option.toList, Int.toNat, Int.reduceToNat, if_pos, if_neg, reduceIte, ↓reduceIte, Nat.reduceAdd, Nat.reduceEqDiff, Nat.reduceBEq, beq_self_eq_true, Bool.not_true, Bool.not_false, Bool.and_true, Bool.and_false, Bool.true_and, Bool.false_and, gI_sI, gI_sL, gI_sA, gI_sM, gL_sI, gL_sL, gL_sA, gL_sM, aI_sI, aI_sL, aI_sA, aI_sM, aL_sI, aL_sL, aL_sA, aL_sM]; try dsimp only
                intro p28
                exact hW _ 364 [(0, .ref 1000), (1, .int c), (2, .int ((gI σ 69) - 3)), (3, .int (((gI σ 69) - 3) + 1)), (4, .int (((gI σ 69) - 3) + 2)), (5, .int 1), (6, .int ((aI σ 70) ((((gI σ 69) - 3) + 1)).toNatClampNeg)), (7, .int ((aI σ 70) ((((gI σ 69) - 3) + 2)).toNatClampNeg)), (8, .int ty), (9, .int su)] _ _ _ (by simp [rdl, rky, Value.category]) (t364 _ ((aL σ 72) ((((gI σ 69) - 3) + 1)).toNatClampNeg) (fun q => by obtain ⟨⟨q1, q2⟩, q3⟩ := hsu.mp q; have z := (ha.2.2.2.2 q1).2 (by omega); have za := ha.2.2.1 q1; rw [if_pos (z.resolve_left (fun y => by have := za.trans y; contradiction))]; exact hb.2.2.1 q2))
            refine ⟨fun h29 => ?_, fun h29 => ?_⟩
            · have c29 : ¬ ((¬ a.2.1 = 0)) := fun q => ((ha).2.1).mpr q h29
              refine hB _ _ _ _ _ (fun m30 hm30 => ?_)
              dsimp only [ugo, uwp, ust, uct, rfd, Bchoice, Bchoice_317, Nat.beq, lv_args, rlk, rs1, rs2, rdl, rky, rcd, rno, rsw, Value.category, List.filter, List.take, List.drop, List.reverse, List.reverseAux, List.cons_append, List.nil_append, Option.toList, Int.toNat, Int.reduceToNat, if_pos, if_neg, reduceIte, ↓reduceIte, Nat.reduceAdd, Nat.reduceEqDiff, Nat.reduceBEq, beq_self_eq_true, Bool.not_true, Bool.not_false, Bool.and_true, Bool.and_false, Bool.true_and, Bool.false_and, gI_sI, gI_sL, gI_sA, gI_sM, gL_sI, gL_sL, gL_sA, gL_sM, aI_sI, aI_sL, aI_sA, aI_sM, aL_sI, aL_sL, aL_sA, aL_sM, oi_0]; try dsimp only
              exact hW _ 318 [(0, .ref 1000), (1, .int c), (2, .int ((gI σ 69) - 3)), (3, .int (((gI σ 69) - 3) + 1)), (4, .int (((gI σ 69) - 3) + 2)), (5, .int 1), (6, .int ((aI σ 70) ((((gI σ 69) - 3) + 1)).toNatClampNeg)), (7, .int ((aI σ 70) ((((gI σ 69) - 3) + 2)).toNatClampNeg)), (8, .int ty)] _ _ _ (by simp [rdl, rky, Value.category]) (t318 _ 0 (b00 (fun q => by obtain ⟨⟨q1, q2⟩, q3⟩ := q; contradiction)))
            · have c29 : (¬ a.2.1 = 0) := ((ha).2.1).mp h29
              refine hB _ _ _ _ _ (fun m31 hm31 => ?_)
              dsimp only [ugo, uwp, ust, uct, rfd, Bchoice, Bchoice_294, Nat.beq, lv_args, rlk, rs1, rs2, rdl, rky, rcd, rno, rsw, Value.category, List.filter, List.take, List.drop, List.reverse, List.reverseAux, List.cons_append, List.nil_append, Option.toList, Int.toNat, Int.reduceToNat, if_pos, if_neg, reduceIte, ↓reduceIte, Nat.reduceAdd, Nat.reduceEqDiff, Nat.reduceBEq, beq_self_eq_true, Bool.not_true, Bool.not_false, Bool.and_true, Bool.and_false, Bool.true_and, Bool.false_and, gI_sI, gI_sL, gI_sA, gI_sM, gL_sI, gL_sL, gL_sA, gL_sM, aI_sI, aI_sL, aI_sA, aI_sM, aL_sI, aL_sL, aL_sA, aL_sM]; try dsimp only
              intro p32
              refine ⟨fun h33 => ?_, fun h33 => ?_⟩
              · have c33 : ¬ ((¬ b.2.1 = 0)) := fun q => ((hb).2.1).mpr q h33
                refine hB _ _ _ _ _ (fun m34 hm34 => ?_)
                dsimp only [ugo, uwp, ust, uct, rfd, Bchoice, Bchoice_317, Nat.beq, lv_args, rlk, rs1, rs2, rdl, rky, rcd, rno, rsw, Value.category, List.filter, List.take, List.drop, List.reverse, List.reverseAux, List.cons_append, List.nil_append, Option.toList, Int.toNat, Int.reduceToNat, if_pos, if_neg, reduceIte, ↓reduceIte, Nat.reduceAdd, Nat.reduceEqDiff, Nat.reduceBEq, beq_self_eq_true, Bool.not_true, Bool.not_false, Bool.and_true, Bool.and_false, Bool.true_and, Bool.false_and, gI_sI, gI_sL, gI_sA, gI_sM, gL_sI, gL_sL, gL_sA, gL_sM, aI_sI, aI_sL, aI_sA, aI_sM, aL_sI, aL_sL, aL_sA, aL_sM, oi_0]; try dsimp only
                exact hW _ 318 [(0, .ref 1000), (1, .int c), (2, .int ((gI σ 69) - 3)), (3, .int (((gI σ 69) - 3) + 1)), (4, .int (((gI σ 69) - 3) + 2)), (5, .int 1), (6, .int ((aI σ 70) ((((gI σ 69) - 3) + 1)).toNatClampNeg)), (7, .int ((aI σ 70) ((((gI σ 69) - 3) + 2)).toNatClampNeg)), (8, .int ty)] _ _ _ (by simp [rdl, rky, Value.category]) (t318 _ 0 (b00 (fun q => by obtain ⟨⟨q1, q2⟩, q3⟩ := q; contradiction)))
              · have c33 : (¬ b.2.1 = 0) := ((hb).2.1).mp h33
                refine hB _ _ _ _ _ (fun m35 hm35 => ?_)
                dsimp only [ugo, uwp, ust, uct, rfd, Bchoice, Bchoice_303, Nat.beq, lv_args, rlk, rs1, rs2, rdl, rky, rcd, rno, rsw, Value.category, List.filter, List.take, List.drop, List.reverse, List.reverseAux, List.cons_append, List.nil_append, Option.toList, Int.toNat, Int.reduceToNat, if_pos, if_neg, reduceIte, ↓reduceIte, Nat.reduceAdd, Nat.reduceEqDiff, Nat.reduceBEq, beq_self_eq_true, Bool.not_true, Bool.not_false, Bool.and_true, Bool.and_false, Bool.true_and, Bool.false_and, gI_sI, gI_sL, gI_sA, gI_sM, gL_sI, gL_sL, gL_sA, gL_sM, aI_sI, aI_sL, aI_sA, aI_sM, aL_sI, aL_sL, aL_sA, aL_sM]; try dsimp only
                intro p36
                refine ⟨fun h37 => ?_, fun h37 => ?_⟩
                · have c37 : ¬ ((¬ d.2.1 = 0)) := fun q => ((hc).2.1).mpr q h37
                  refine hB _ _ _ _ _ (fun m38 hm38 => ?_)
                  dsimp only [ugo, uwp, ust, uct, rfd, Bchoice, Bchoice_317, Nat.beq, lv_args, rlk, rs1, rs2, rdl, rky, rcd, rno, rsw, Value.category, List.filter, List.take, List.drop, List.reverse, List.reverseAux, List.cons_append, List.nil_append, Option.toList, Int.toNat, Int.reduceToNat, if_pos, if_neg, reduceIte, ↓reduceIte, Nat.reduceAdd, Nat.reduceEqDiff, Nat.reduceBEq, beq_self_eq_true, Bool.not_true, Bool.not_false, Bool.and_true, Bool.and_false, Bool.true_and, Bool.false_and, gI_sI, gI_sL, gI_sA, gI_sM, gL_sI, gL_sL, gL_sA, gL_sM, aI_sI, aI_sL, aI_sA, aI_sM, aL_sI, aL_sL, aL_sA, aL_sM, oi_0]; try dsimp only
                  exact hW _ 318 [(0, .ref 1000), (1, .int c), (2, .int ((gI σ 69) - 3)), (3, .int (((gI σ 69) - 3) + 1)), (4, .int (((gI σ 69) - 3) + 2)), (5, .int 1), (6, .int ((aI σ 70) ((((gI σ 69) - 3) + 1)).toNatClampNeg)), (7, .int ((aI σ 70) ((((gI σ 69) - 3) + 2)).toNatClampNeg)), (8, .int ty)] _ _ _ (by simp [rdl, rky, Value.category]) (t318 _ 0 (b00 (fun q => by obtain ⟨⟨q1, q2⟩, q3⟩ := q; contradiction)))
                · have c37 : (¬ d.2.1 = 0) := ((hc).2.1).mp h37
                  refine hB _ _ _ _ _ (fun m39 hm39 => ?_)
                  dsimp only [ugo, uwp, ust, uct, rfd, Bchoice, Bchoice_313, Nat.beq, lv_args, rlk, rs1, rs2, rdl, rky, rcd, rno, rsw, Value.category, List.filter, List.take, List.drop, List.reverse, List.reverseAux, List.cons_append, List.nil_append, Option.toList, Int.toNat, Int.reduceToNat, if_pos, if_neg, reduceIte, ↓reduceIte, Nat.reduceAdd, Nat.reduceEqDiff, Nat.reduceBEq, beq_self_eq_true, Bool.not_true, Bool.not_false, Bool.and_true, Bool.and_false, Bool.true_and, Bool.false_and, gI_sI, gI_sL, gI_sA, gI_sM, gL_sI, gL_sL, gL_sA, gL_sM, aI_sI, aI_sL, aI_sA, aI_sM, aL_sI, aL_sL, aL_sA, aL_sM, oi_1]; try dsimp only
                  exact hW _ 318 [(0, .ref 1000), (1, .int c), (2, .int ((gI σ 69) - 3)), (3, .int (((gI σ 69) - 3) + 1)), (4, .int (((gI σ 69) - 3) + 2)), (5, .int 1), (6, .int ((aI σ 70) ((((gI σ 69) - 3) + 1)).toNatClampNeg)), (7, .int ((aI σ 70) ((((gI σ 69) - 3) + 2)).toNatClampNeg)), (8, .int ty)] _ _ _ (by simp [rdl, rky, Value.category]) (t318 _ 1 (b01 ⟨⟨by assumption, by assumption⟩, by assumption⟩))
          refine ⟨fun h40 => ?_, fun h40 => ?_⟩
          · have c40 : ¬ b.1 = d.1 := fun q => h40 ((cI (hb).1 (hc).1).1.mpr q)
            refine hB _ _ _ _ _ (fun m41 hm41 => ?_)
            dsimp only [ugo, uwp, ust, uct, rfd, Bchoice, Bchoice_235, Nat.beq, lv_args, rlk, rs1, rs2, rdl, rky, rcd, rno, rsw, Value.category, List.filter, List.take, List.drop, List.reverse, List.reverseAux, List.cons_append, List.nil_append, Option.toList, Int.toNat, Int.reduceToNat, if_pos, if_neg, reduceIte, ↓reduceIte, Nat.reduceAdd, Nat.reduceEqDiff, Nat.reduceBEq, beq_self_eq_true, Bool.not_true, Bool.not_false, Bool.and_true, Bool.and_false, Bool.true_and, Bool.false_and, gI_sI, gI_sL, gI_sA, gI_sM, gL_sI, gL_sL, gL_sA, gL_sM, aI_sI, aI_sL, aI_sA, aI_sM, aL_sI, aL_sL, aL_sA, aL_sM]; try dsimp only
            refine ⟨trivial, fun w42 τ42 hq42 => ?_⟩
            obtain ⟨rfl, b42, rfl, hb42⟩ := hq42 trivial
            have hb42 := hb42 _ hc
            rw [show (((aI σ 70) ((((gI σ 69) - 3) + 1)).toNatClampNeg)).toInt = b.1 from (hb).1] at hb42
            dsimp only [Option.toList, List.cons_append, List.nil_append, Nat.beq, gI_sI, gI_sL, gI_sA, gI_sM, gL_sI, gL_sL, gL_sA, gL_sM, aI_sI, aI_sL, aI_sA, aI_sM, aL_sI, aL_sL, aL_sA, aL_sM]
            refine ⟨fun h43 => ?_, fun h43 => ?_⟩
            · have c43 : ¬ ((smT (b.1) ∧ d.1 = 3 ∧ hlT d (b.1) = true)) := fun q => (hb42).mpr q h43
              refine hB _ _ _ _ _ (fun m44 hm44 => ?_)
              dsimp only [ugo, uwp, ust, uct, rfd, Bchoice, Bchoice_251, Nat.beq, lv_args, rlk, rs1, rs2, rdl, rky, rcd, rno, rsw, Value.category, List.filter, List.take, List.drop, List.reverse, List.reverseAux, List.cons_append, List.nil_append, Option.toList, Int.toNat, Int.reduceToNat, if_pos, if_neg, reduceIte, ↓reduceIte, Nat.reduceAdd, Nat.reduceEqDiff, Nat.reduceBEq, beq_self_eq_true, Bool.not_true, Bool.not_false, Bool.and_true, Bool.and_false, Bool.true_and, Bool.false_and, gI_sI, gI_sL, gI_sA, gI_sM, gL_sI, gL_sL, gL_sA, gL_sM, aI_sI, aI_sL, aI_sA, aI_sM, aL_sI, aL_sL, aL_sA, aL_sM]; try dsimp only
              refine ⟨trivial, fun w45 τ45 hq45 => ?_⟩
              obtain ⟨rfl, b45, rfl, hb45⟩ := hq45 trivial
              have hb45 := hb45 _ hb
              rw [show (((aI σ 70) ((((gI σ 69) - 3) + 2)).toNatClampNeg)).toInt = d.1 from (hc).1] at hb45
              dsimp only [Option.toList, List.cons_append, List.nil_append, Nat.beq, gI_sI, gI_sL, gI_sA, gI_sM, gL_sI, gL_sL, gL_sA, gL_sM, aI_sI, aI_sL, aI_sA, aI_sM, aL_sI, aL_sL, aL_sA, aL_sM]
              refine ⟨fun h46 => ?_, fun h46 => ?_⟩
              · have c46 : ¬ ((smT (d.1) ∧ b.1 = 3 ∧ hlT b (d.1) = true)) := fun q => (hb45).mpr q h46
                refine hB _ _ _ _ _ (fun m47 hm47 => ?_)
                dsimp only [ugo, uwp, ust, uct, rfd, Bchoice, Bchoice_266, Nat.beq, lv_args, rlk, rs1, rs2, rdl, rky, rcd, rno, rsw, Value.category, List.filter, List.take, List.drop, List.reverse, List.reverseAux, List.cons_append, List.nil_append, Option.toList, Int.toNat, Int.reduceToNat, if_pos, if_neg, reduceIte, ↓reduceIte, Nat.reduceAdd, Nat.reduceEqDiff, Nat.reduceBEq, beq_self_eq_true, Bool.not_true, Bool.not_false, Bool.and_true, Bool.and_false, Bool.true_and, Bool.false_and, gI_sI, gI_sL, gI_sA, gI_sM, gL_sI, gL_sL, gL_sA, gL_sM, aI_sI, aI_sL, aI_sA, aI_sM, aL_sI, aL_sL, aL_sA, aL_sM, oi_4]; try dsimp only
                refine ⟨fun h48 => ?_, fun h48 => ?_⟩
                · have c48 : b.1 = 4 := (cI (hb).1 (rfl : (4 : Int32).toInt = 4)).1.mp h48
                  refine hB _ _ _ _ _ (fun m49 hm49 => ?_)
                  dsimp only [ugo, uwp, ust, uct, rfd, Bchoice, Bchoice_278, Nat.beq, lv_args, rlk, rs1, rs2, rdl, rky, rcd, rno, rsw, Value.category, List.filter, List.take, List.drop, List.reverse, List.reverseAux, List.cons_append, List.nil_append, Option.toList, Int.toNat, Int.reduceToNat, if_pos, if_neg, reduceIte, ↓reduceIte, Nat.reduceAdd, Nat.reduceEqDiff, Nat.reduceBEq, beq_self_eq_true, Bool.not_true, Bool.not_false, Bool.and_true, Bool.and_false, Bool.true_and, Bool.false_and, gI_sI, gI_sL, gI_sA, gI_sM, gL_sI, gL_sL, gL_sA, gL_sM, aI_sI, aI_sL, aI_sA, aI_sM, aL_sI, aL_sL, aL_sA, aL_sM, oi_4]; try dsimp only
                  exact hW _ 283 [(0, .ref 1000), (1, .int c), (2, .int ((gI σ 69) - 3)), (3, .int (((gI σ 69) - 3) + 1)), (4, .int (((gI σ 69) - 3) + 2)), (5, .int 1), (6, .int ((aI σ 70) ((((gI σ 69) - 3) + 1)).toNatClampNeg)), (7, .int ((aI σ 70) ((((gI σ 69) - 3) + 2)).toNatClampNeg))] _ _ _ (by simp [rdl, rky, Value.category]) (t283 _ 4 (by unfold ctT; rw [if_neg (by omega), if_neg (by assumption), if_neg (by assumption), if_pos (by omega)]; rfl))
                · have c48 : ¬ b.1 = 4 := fun q => h48 ((cI (hb).1 (rfl : (4 : Int32).toInt = 4)).1.mpr q)
                  refine hB _ _ _ _ _ (fun m50 hm50 => ?_)
                  dsimp only [ugo, uwp, ust, uct, rfd, Bchoice, Bchoice_272, Nat.beq, lv_args, rlk, rs1, rs2, rdl, rky, rcd, rno, rsw, Value.category, List.filter, List.take, List.drop, List.reverse, List.reverseAux, List.cons_append, List.nil_append, Option.toList, Int.toNat, Int.reduceToNat, if_pos, if_neg, reduceIte, ↓reduceIte, Nat.reduceAdd, Nat.reduceEqDiff, Nat.reduceBEq, beq_self_eq_true, Bool.not_true, Bool.not_false, Bool.and_true, Bool.and_false, Bool.true_and, Bool.false_and, gI_sI, gI_sL, gI_sA, gI_sM, gL_sI, gL_sL, gL_sA, gL_sM, aI_sI, aI_sL, aI_sA, aI_sM, aL_sI, aL_sL, aL_sA, aL_sM, oi_4]; try dsimp only
                  refine ⟨fun h51 => ?_, fun h51 => ?_⟩
                  · have c51 : ¬ d.1 = 4 := fun q => h51 ((cI (hc).1 (rfl : (4 : Int32).toInt = 4)).1.mpr q)
                    refine hB _ _ _ _ _ (fun m52 hm52 => ?_)
                    dsimp only [ugo, uwp, ust, uct, rfd, Bchoice, Bchoice_282, Nat.beq, lv_args, rlk, rs1, rs2, rdl, rky, rcd, rno, rsw, Value.category, List.filter, List.take, List.drop, List.reverse, List.reverseAux, List.cons_append, List.nil_append, Option.toList, Int.toNat, Int.reduceToNat, if_pos, if_neg, reduceIte, ↓reduceIte, Nat.reduceAdd, Nat.reduceEqDiff, Nat.reduceBEq, beq_self_eq_true, Bool.not_true, Bool.not_false, Bool.and_true, Bool.and_false, Bool.true_and, Bool.false_and, gI_sI, gI_sL, gI_sA, gI_sM, gL_sI, gL_sL, gL_sA, gL_sM, aI_sI, aI_sL, aI_sA, aI_sM, aL_sI, aL_sL, aL_sA, aL_sM, oi_3]; try dsimp only
                    exact hW _ 283 [(0, .ref 1000), (1, .int c), (2, .int ((gI σ 69) - 3)), (3, .int (((gI σ 69) - 3) + 1)), (4, .int (((gI σ 69) - 3) + 2)), (5, .int 1), (6, .int ((aI σ 70) ((((gI σ 69) - 3) + 1)).toNatClampNeg)), (7, .int ((aI σ 70) ((((gI σ 69) - 3) + 2)).toNatClampNeg))] _ _ _ (by simp [rdl, rky, Value.category]) (t283 _ 3 (by unfold ctT; rw [if_neg (by omega), if_neg (by assumption), if_neg (by assumption), if_neg (by omega)]; rfl))
                  · have c51 : d.1 = 4 := (cI (hc).1 (rfl : (4 : Int32).toInt = 4)).1.mp h51
                    refine hB _ _ _ _ _ (fun m53 hm53 => ?_)
                    dsimp only [ugo, uwp, ust, uct, rfd, Bchoice, Bchoice_278, Nat.beq, lv_args, rlk, rs1, rs2, rdl, rky, rcd, rno, rsw, Value.category, List.filter, List.take, List.drop, List.reverse, List.reverseAux, List.cons_append, List.nil_append, Option.toList, Int.toNat, Int.reduceToNat, if_pos, if_neg, reduceIte, ↓reduceIte, Nat.reduceAdd, Nat.reduceEqDiff, Nat.reduceBEq, beq_self_eq_true, Bool.not_true, Bool.not_false, Bool.and_true, Bool.and_false, Bool.true_and, Bool.false_and, gI_sI, gI_sL, gI_sA, gI_sM, gL_sI, gL_sL, gL_sA, gL_sM, aI_sI, aI_sL, aI_sA, aI_sM, aL_sI, aL_sL, aL_sA, aL_sM, oi_4]; try dsimp only
                    exact hW _ 283 [(0, .ref 1000), (1, .int c), (2, .int ((gI σ 69) - 3)), (3, .int (((gI σ 69) - 3) + 1)), (4, .int (((gI σ 69) - 3) + 2)), (5, .int 1), (6, .int ((aI σ 70) ((((gI σ 69) - 3) + 1)).toNatClampNeg)), (7, .int ((aI σ 70) ((((gI σ 69) - 3) + 2)).toNatClampNeg))] _ _ _ (by simp [rdl, rky, Value.category]) (t283 _ 4 (by unfold ctT; rw [if_neg (by omega), if_neg (by assumption), if_neg (by assumption), if_pos (by omega)]; rfl))
              · have c46 : (smT (d.1) ∧ b.1 = 3 ∧ hlT b (d.1) = true) := (hb45).mp h46
                refine hB _ _ _ _ _ (fun m54 hm54 => ?_)
                dsimp only [ugo, uwp, ust, uct, rfd, Bchoice, Bchoice_261, Nat.beq, lv_args, rlk, rs1, rs2, rdl, rky, rcd, rno, rsw, Value.category, List.filter, List.take, List.drop, List.reverse, List.reverseAux, List.cons_append, List.nil_append, Option.toList, Int.toNat, Int.reduceToNat, if_pos, if_neg, reduceIte, ↓reduceIte, Nat.reduceAdd, Nat.reduceEqDiff, Nat.reduceBEq, beq_self_eq_true, Bool.not_true, Bool.not_false, Bool.and_true, Bool.and_false, Bool.true_and, Bool.false_and, gI_sI, gI_sL, gI_sA, gI_sM, gL_sI, gL_sL, gL_sA, gL_sM, aI_sI, aI_sL, aI_sA, aI_sM, aL_sI, aL_sL, aL_sA, aL_sM]; try dsimp only
                exact hW _ 283 [(0, .ref 1000), (1, .int c), (2, .int ((gI σ 69) - 3)), (3, .int (((gI σ 69) - 3) + 1)), (4, .int (((gI σ 69) - 3) + 2)), (5, .int 1), (6, .int ((aI σ 70) ((((gI σ 69) - 3) + 1)).toNatClampNeg)), (7, .int ((aI σ 70) ((((gI σ 69) - 3) + 2)).toNatClampNeg))] _ _ _ (by simp [rdl, rky, Value.category]) (t283 _ ((aI σ 70) ((((gI σ 69) - 3) + 2)).toNatClampNeg) (by unfold ctT; rw [if_neg (by omega), if_neg (by assumption), if_pos (by assumption)]; exact (hc).1))
            · have c43 : (smT (b.1) ∧ d.1 = 3 ∧ hlT d (b.1) = true) := (hb42).mp h43
              refine hB _ _ _ _ _ (fun m55 hm55 => ?_)
              dsimp only [ugo, uwp, ust, uct, rfd, Bchoice, Bchoice_246, Nat.beq, lv_args, rlk, rs1, rs2, rdl, rky, rcd, rno, rsw, Value.category, List.filter, List.take, List.drop, List.reverse, List.reverseAux, List.cons_append, List.nil_append, Option.toList, Int.toNat, Int.reduceToNat, if_pos, if_neg, reduceIte, ↓reduceIte, Nat.reduceAdd, Nat.reduceEqDiff, Nat.reduceBEq, beq_self_eq_true, Bool.not_true, Bool.not_false, Bool.and_true, Bool.and_false, Bool.true_and, Bool.false_and, gI_sI, gI_sL, gI_sA, gI_sM, gL_sI, gL_sL, gL_sA, gL_sM, aI_sI, aI_sL, aI_sA, aI_sM, aL_sI, aL_sL, aL_sA, aL_sM]; try dsimp only
              exact hW _ 283 [(0, .ref 1000), (1, .int c), (2, .int ((gI σ 69) - 3)), (3, .int (((gI σ 69) - 3) + 1)), (4, .int (((gI σ 69) - 3) + 2)), (5, .int 1), (6, .int ((aI σ 70) ((((gI σ 69) - 3) + 1)).toNatClampNeg)), (7, .int ((aI σ 70) ((((gI σ 69) - 3) + 2)).toNatClampNeg))] _ _ _ (by simp [rdl, rky, Value.category]) (t283 _ ((aI σ 70) ((((gI σ 69) - 3) + 1)).toNatClampNeg) (by unfold ctT; rw [if_neg (by omega), if_pos (by assumption)]; exact (hb).1))
          · have c40 : b.1 = d.1 := (cI (hb).1 (hc).1).1.mp h40
            refine hB _ _ _ _ _ (fun m56 hm56 => ?_)
            dsimp only [ugo, uwp, ust, uct, rfd, Bchoice, Bchoice_230, Nat.beq, lv_args, rlk, rs1, rs2, rdl, rky, rcd, rno, rsw, Value.category, List.filter, List.take, List.drop, List.reverse, List.reverseAux, List.cons_append, List.nil_append, Option.toList, Int.toNat, Int.reduceToNat, if_pos, if_neg, reduceIte, ↓reduceIte, Nat.reduceAdd, Nat.reduceEqDiff, Nat.reduceBEq, beq_self_eq_true, Bool.not_true, Bool.not_false, Bool.and_true, Bool.and_false, Bool.true_and, Bool.false_and, gI_sI, gI_sL, gI_sA, gI_sM, gL_sI, gL_sL, gL_sA, gL_sM, aI_sI, aI_sL, aI_sA, aI_sM, aL_sI, aL_sL, aL_sA, aL_sM]; try dsimp only
            exact hW _ 283 [(0, .ref 1000), (1, .int c), (2, .int ((gI σ 69) - 3)), (3, .int (((gI σ 69) - 3) + 1)), (4, .int (((gI σ 69) - 3) + 2)), (5, .int 1), (6, .int ((aI σ 70) ((((gI σ 69) - 3) + 1)).toNatClampNeg)), (7, .int ((aI σ 70) ((((gI σ 69) - 3) + 2)).toNatClampNeg))] _ _ _ (by simp [rdl, rky, Value.category]) (t283 _ ((aI σ 70) ((((gI σ 69) - 3) + 1)).toNatClampNeg) (by unfold ctT; rw [if_pos (by omega)]; exact (hb).1))
        refine ⟨fun h57 => ?_, fun h57 => ?_⟩
        · have c57 : ¬ b.1 = 0 := fun q => h57 ((cI (hb).1 (rfl : (0 : Int32).toInt = 0)).1.mpr q)
          refine hB _ _ _ _ _ (fun m58 hm58 => ?_)
          dsimp only [ugo, uwp, ust, uct, rfd, Bchoice, Bchoice_188, Nat.beq, lv_args, rlk, rs1, rs2, rdl, rky, rcd, rno, rsw, Value.category, List.filter, List.take, List.drop, List.reverse, List.reverseAux, List.cons_append, List.nil_append, Option.toList, Int.toNat, Int.reduceToNat, if_pos, if_neg, reduceIte, ↓reduceIte, Nat.reduceAdd, Nat.reduceEqDiff, Nat.reduceBEq, beq_self_eq_true, Bool.not_true, Bool.not_false, Bool.and_true, Bool.and_false, Bool.true_and, Bool.false_and, gI_sI, gI_sL, gI_sA, gI_sM, gL_sI, gL_sL, gL_sA, gL_sM, aI_sI, aI_sL, aI_sA, aI_sM, aL_sI, aL_sL, aL_sA, aL_sM, oi_1]; try dsimp only
          refine hB _ _ _ _ _ (fun m59 hm59 => ?_)
          dsimp only [ugo, uwp, ust, uct, rfd, Bchoice, Bchoice_189, Nat.beq, lv_args, rlk, rs1, rs2, rdl, rky, rcd, rno, rsw, Value.category, List.filter, List.take, List.drop, List.reverse, List.reverseAux, List.cons_append, List.nil_append, Option.toList, Int.toNat, Int.reduceToNat, if_pos, if_neg, reduceIte, ↓reduceIte, Nat.reduceAdd, Nat.reduceEqDiff, Nat.reduceBEq, beq_self_eq_true, Bool.not_true, Bool.not_false, Bool.and_true, Bool.and_false, Bool.true_and, Bool.false_and, gI_sI, gI_sL, gI_sA, gI_sM, gL_sI, gL_sL, gL_sA, gL_sM, aI_sI, aI_sL, aI_sA, aI_sM, aL_sI, aL_sL, aL_sA, aL_sM]; try dsimp only
          refine ⟨trivial, fun w60 τ60 hq60 => ?_⟩
          obtain ⟨hA60, b60, rfl, hb60⟩ := hq60 trivial
          rcases hb60 _ hc with ⟨rfl, rfl, hd60⟩ | ⟨rfl, hz60, hd60⟩
          · dsimp only [Option.toList, List.cons_append, List.nil_append, Nat.beq, gI_sI, gI_sL, gI_sA, gI_sM, gL_sI, gL_sL, gL_sA, gL_sM, aI_sI, aI_sL, aI_sA, aI_sM, aL_sI, aL_sL, aL_sA, aL_sM]
            have hd60 : nuT d.1 := (nd_f (by decide)).mp hd60
            refine ⟨fun h61 => absurd h61 (by decide), fun h61 => ?_⟩
            clear h61
            refine hB _ _ _ _ _ (fun m62 hm62 => ?_)
            dsimp only [ugo, uwp, ust, uct, rfd, Bchoice, Bchoice_195, Nat.beq, lv_args, rlk, rs1, rs2, rdl, rky, rcd, rno, rsw, Value.category, List.filter, List.take, List.drop, List.reverse, List.reverseAux, List.cons_append, List.nil_append, Option.toList, Int.toNat, Int.reduceToNat, if_pos, if_neg, reduceIte, ↓reduceIte, Nat.reduceAdd, Nat.reduceEqDiff, Nat.reduceBEq, beq_self_eq_true, Bool.not_true, Bool.not_false, Bool.and_true, Bool.and_false, Bool.true_and, Bool.false_and, gI_sI, gI_sL, gI_sA, gI_sM, gL_sI, gL_sL, gL_sA, gL_sM, aI_sI, aI_sL, aI_sA, aI_sM, aL_sI, aL_sL, aL_sA, aL_sM]; try dsimp only
            refine ⟨fun h63 => ?_, fun h63 => absurd h63 (by decide)⟩
            clear h63
            exact hW _ 206 [(0, .ref 1000), (1, .int c), (2, .int ((gI σ 69) - 3)), (3, .int (((gI σ 69) - 3) + 1)), (4, .int (((gI σ 69) - 3) + 2)), (5, .int 1)] _ _ _ (by simp [rdl, rky, Value.category]) (t206 _ (by omega))
          · dsimp only [Option.toList, List.cons_append, List.nil_append, Nat.beq, gI_sI, gI_sL, gI_sA, gI_sM, gL_sI, gL_sL, gL_sA, gL_sM, aI_sI, aI_sL, aI_sA, aI_sM, aL_sI, aL_sL, aL_sA, aL_sM]
            have hd60 : ¬ (nuT d.1) := fun q => hd60 ((nd_f (by decide)).mpr q)
            refine ⟨fun h64 => ?_, fun h64 => absurd h64 (by decide)⟩
            clear h64
            exact hW _ 200 [(0, .ref 1000), (1, .int c), (2, .int ((gI σ 69) - 3)), (3, .int (((gI σ 69) - 3) + 1)), (4, .int (((gI σ 69) - 3) + 2)), (5, .int 1)] _ _ _ (by simp [rdl, rky, Value.category]) ((bad (by unfold x8T; exact if_neg (by omega)) _).2.2.2.2.2.2.2.2.2.2.2.2.2.2.2.2.2.2.1 c ((gI σ 69) - 3) (((gI σ 69) - 3) + 1) (((gI σ 69) - 3) + 2) 1 _ hz60)
        · have c57 : b.1 = 0 := (cI (hb).1 (rfl : (0 : Int32).toInt = 0)).1.mp h57
          refine hB _ _ _ _ _ (fun m65 hm65 => ?_)
          dsimp only [ugo, uwp, ust, uct, rfd, Bchoice, Bchoice_184, Nat.beq, lv_args, rlk, rs1, rs2, rdl, rky, rcd, rno, rsw, Value.category, List.filter, List.take, List.drop, List.reverse, List.reverseAux, List.cons_append, List.nil_append, Option.toList, Int.toNat, Int.reduceToNat, if_pos, if_neg, reduceIte, ↓reduceIte, Nat.reduceAdd, Nat.reduceEqDiff, Nat.reduceBEq, beq_self_eq_true, Bool.not_true, Bool.not_false, Bool.and_true, Bool.and_false, Bool.true_and, Bool.false_and, gI_sI, gI_sL, gI_sA, gI_sM, gL_sI, gL_sL, gL_sA, gL_sM, aI_sI, aI_sL, aI_sA, aI_sM, aL_sI, aL_sL, aL_sA, aL_sM, oi_0]; try dsimp only
          refine hB _ _ _ _ _ (fun m66 hm66 => ?_)
          dsimp only [ugo, uwp, ust, uct, rfd, Bchoice, Bchoice_189, Nat.beq, lv_args, rlk, rs1, rs2, rdl, rky, rcd, rno, rsw, Value.category, List.filter, List.take, List.drop, List.reverse, List.reverseAux, List.cons_append, List.nil_append, Option.toList, Int.toNat, Int.reduceToNat, if_pos, if_neg, reduceIte, ↓reduceIte, Nat.reduceAdd, Nat.reduceEqDiff, Nat.reduceBEq, beq_self_eq_true, Bool.not_true, Bool.not_false, Bool.and_true, Bool.and_false, Bool.true_and, Bool.false_and, gI_sI, gI_sL, gI_sA, gI_sM, gL_sI, gL_sL, gL_sA, gL_sM, aI_sI, aI_sL, aI_sA, aI_sM, aL_sI, aL_sL, aL_sA, aL_sM]; try dsimp only
          refine ⟨trivial, fun w67 τ67 hq67 => ?_⟩
          obtain ⟨hA67, b67, rfl, hb67⟩ := hq67 trivial
          rcases hb67 _ hc with ⟨rfl, rfl, hd67⟩ | ⟨rfl, hz67, hd67⟩
          · dsimp only [Option.toList, List.cons_append, List.nil_append, Nat.beq, gI_sI, gI_sL, gI_sA, gI_sM, gL_sI, gL_sL, gL_sA, gL_sM, aI_sI, aI_sL, aI_sA, aI_sM, aL_sI, aL_sL, aL_sA, aL_sM]
            have hd67 : d.1 = 0 := (nd_t (rfl)).mp hd67
            refine ⟨fun h68 => absurd h68 (by decide), fun h68 => ?_⟩
            clear h68
            refine hB _ _ _ _ _ (fun m69 hm69 => ?_)
            dsimp only [ugo, uwp, ust, uct, rfd, Bchoice, Bchoice_195, Nat.beq, lv_args, rlk, rs1, rs2, rdl, rky, rcd, rno, rsw, Value.category, List.filter, List.take, List.drop, List.reverse, List.reverseAux, List.cons_append, List.nil_append, Option.toList, Int.toNat, Int.reduceToNat, if_pos, if_neg, reduceIte, ↓reduceIte, Nat.reduceAdd, Nat.reduceEqDiff, Nat.reduceBEq, beq_self_eq_true, Bool.not_true, Bool.not_false, Bool.and_true, Bool.and_false, Bool.true_and, Bool.false_and, gI_sI, gI_sL, gI_sA, gI_sM, gL_sI, gL_sL, gL_sA, gL_sM, aI_sI, aI_sL, aI_sA, aI_sM, aL_sI, aL_sL, aL_sA, aL_sM]; try dsimp only
            refine ⟨fun h70 => ?_, fun h70 => absurd h70 (by decide)⟩
            clear h70
            exact hW _ 206 [(0, .ref 1000), (1, .int c), (2, .int ((gI σ 69) - 3)), (3, .int (((gI σ 69) - 3) + 1)), (4, .int (((gI σ 69) - 3) + 2)), (5, .int 1)] _ _ _ (by simp [rdl, rky, Value.category]) (t206 _ (by omega))
          · dsimp only [Option.toList, List.cons_append, List.nil_append, Nat.beq, gI_sI, gI_sL, gI_sA, gI_sM, gL_sI, gL_sL, gL_sA, gL_sM, aI_sI, aI_sL, aI_sA, aI_sM, aL_sI, aL_sL, aL_sA, aL_sM]
            have hd67 : ¬ (d.1 = 0) := fun q => hd67 ((nd_t (rfl)).mpr q)
            refine ⟨fun h71 => ?_, fun h71 => absurd h71 (by decide)⟩
            clear h71
            exact hW _ 200 [(0, .ref 1000), (1, .int c), (2, .int ((gI σ 69) - 3)), (3, .int (((gI σ 69) - 3) + 1)), (4, .int (((gI σ 69) - 3) + 2)), (5, .int 1)] _ _ _ (by simp [rdl, rky, Value.category]) ((bad (by unfold x8T; exact if_neg (by omega)) _).2.2.2.2.2.2.2.2.2.2.2.2.2.2.2.2.2.2.1 c ((gI σ 69) - 3) (((gI σ 69) - 3) + 1) (((gI σ 69) - 3) + 2) 1 _ hz67)
      · have c10 : b.1 = 5 := (cI (hb).1 (rfl : (5 : Int32).toInt = 5)).1.mp h10
        refine hB _ _ _ _ _ (fun m72 hm72 => ?_)
        dsimp only [ugo, uwp, ust, uct, rfd, Bchoice, Bchoice_132, Nat.beq, lv_args, rlk, rs1, rs2, rdl, rky, rcd, rno, rsw, Value.category, List.filter, List.take, List.drop, List.reverse, List.reverseAux, List.cons_append, List.nil_append, Option.toList, Int.toNat, Int.reduceToNat, if_pos, if_neg, reduceIte, ↓reduceIte, Nat.reduceAdd, Nat.reduceEqDiff, Nat.reduceBEq, beq_self_eq_true, Bool.not_true, Bool.not_false, Bool.and_true, Bool.and_false, Bool.true_and, Bool.false_and, gI_sI, gI_sL, gI_sA, gI_sM, gL_sI, gL_sL, gL_sA, gL_sM, aI_sI, aI_sL, aI_sA, aI_sM, aL_sI, aL_sL, aL_sA, aL_sM, oi_5]; try dsimp only
        intro p73
        refine ⟨trivial, fun w74 τ74 hq74 => ?_⟩
        obtain ⟨rfl, hz74⟩ := hq74 (show ¬ (5 : Int32) = 0 by decide)
        dsimp only [Option.toList, List.cons_append, List.nil_append, Nat.beq, gI_sI, gI_sL, gI_sA, gI_sM, gL_sI, gL_sL, gL_sA, gL_sM, aI_sI, aI_sL, aI_sA, aI_sM, aL_sI, aL_sL, aL_sA, aL_sM]
        intro p75
        refine ⟨fun h76 => ?_, fun h76 => ?_⟩
        · exact hW _ 166 [(0, .ref 1000), (1, .int c), (2, .int ((gI σ 69) - 3)), (3, .int (((gI σ 69) - 3) + 1)), (4, .int (((gI σ 69) - 3) + 2)), (5, .int 1)] _ _ _ (by simp [rdl, rky, Value.category]) ((bad (by unfold x8T; exact if_neg (by omega)) _).2.2.2.2.2.2.2.2.2.2.2.2.1 c ((gI σ 69) - 3) (((gI σ 69) - 3) + 1) (((gI σ 69) - 3) + 2) 1 _ hz74)
        · exact hW _ 154 [(0, .ref 1000), (1, .int c), (2, .int ((gI σ 69) - 3)), (3, .int (((gI σ 69) - 3) + 1)), (4, .int (((gI σ 69) - 3) + 2)), (5, .int 1)] _ _ _ (by simp [rdl, rky, Value.category]) ((bad (by unfold x8T; exact if_neg (by omega)) _).2.2.2.2.2.2.2.2.2.2.2.1 c ((gI σ 69) - 3) (((gI σ 69) - 3) + 1) (((gI σ 69) - 3) + 2) 1 _ hz74)
    · dsimp only [Option.toList, List.cons_append, List.nil_append, Nat.beq, gI_sI, gI_sL, gI_sA, gI_sM, gL_sI, gL_sL, gL_sA, gL_sM, aI_sI, aI_sL, aI_sA, aI_sM, aL_sI, aL_sL, aL_sA, aL_sM]
      have hd2 : ¬ (a.1 = 0) := fun q => hd2 ((nd_t (rfl)).mpr q)
      refine ⟨trivial, fun w77 τ77 hq77 => ?_⟩
      obtain ⟨rfl, b77, rfl, hb77⟩ := hq77 trivial
      dsimp only [Option.toList, List.cons_append, List.nil_append, Nat.beq, gI_sI, gI_sL, gI_sA, gI_sM, gL_sI, gL_sL, gL_sA, gL_sM, aI_sI, aI_sL, aI_sA, aI_sM, aL_sI, aL_sL, aL_sA, aL_sM]
      refine ⟨fun h78 => ?_, fun h78 => ?_⟩
      · exact hW _ 55 [(0, .ref 1000), (1, .int c), (2, .int ((gI σ 69) - 3)), (3, .int (((gI σ 69) - 3) + 1)), (4, .int (((gI σ 69) - 3) + 2)), (5, .int 0)] _ _ _ (by simp [rdl, rky, Value.category]) ((bad (by unfold x8T; exact if_neg (by omega)) _).2.2.1 c ((gI σ 69) - 3) (((gI σ 69) - 3) + 1) (((gI σ 69) - 3) + 2) 0 _ hz2)
      · exact hW _ 46 [(0, .ref 1000), (1, .int c), (2, .int ((gI σ 69) - 3)), (3, .int (((gI σ 69) - 3) + 1)), (4, .int (((gI σ 69) - 3) + 2)), (5, .int 0)] _ _ _ (by simp [rdl, rky, Value.category]) ((bad (by unfold x8T; exact if_neg (by omega)) _).2.1 c ((gI σ 69) - 3) (((gI σ 69) - 3) + 1) (((gI σ 69) - 3) + 2) 0 _ hz2)
  next => exact hP.elim
theorem w_choiceB : UMet 98 (fun _ _ => True) Qw_choiceB := fun A1 σ _ w τ h a b d t x hP => v_choiceB a b d t x A1 σ hP w τ h
