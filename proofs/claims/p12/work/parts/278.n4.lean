def mmP : List Nat := [12, 13, 14, 15, 16, 17, 18, 19, 20, 21, 22, 23, 24, 25, 26, 27, 28, 29, 30, 31, 32, 33, 34, 35, 36, 37, 38, 39, 40, 41, 42, 43, 44, 45, 46, 47, 48, 49, 50, 51, 52, 53, 54, 55, 56, 57, 58, 59, 60, 61, 62, 63, 64, 65, 66, 67, 68, 69]
theorem ck_P : ckL mmP evT = true := by decide +kernel
def LfZ (σ : RS) (k t v : Int32) (f : Nat → Int32) : Prop := 0 ≤ v ∧ ∀ i, (i < nT v → f i = if aI σ 47 i = k ∧ aI σ 48 i < 0 then t else aI σ 48 i) ∧ (nT v ≤ i → f i = aI σ 48 i)
theorem LfZ.n {σ : RS} {k t v : Int32} {f : Nat → Int32} (h : LfZ σ k t v f) (hv : v < 2147483647) (hn : ¬ (aI σ 47 (nT v) = k ∧ f (nT v) < 0)) : LfZ σ k t (v + 1) f := by
  have h0 := h.1
  have e := nT_add h0 hv
  refine ⟨by lia, fun i => ⟨fun hi => ?_, fun hi => (h.2 i).2 (by omega)⟩⟩
  by_cases q : i = nT v
  · subst q
    have a := (h.2 (nT v)).2 (Nat.le_refl _)
    rw [a] at hn ⊢
    rw [if_neg hn]
  · exact (h.2 i).1 (by omega)
theorem LfZ.y {σ : RS} {k t v : Int32} {f : Nat → Int32} (h : LfZ σ k t v f) (hv : v < 2147483647) (h1 : aI σ 47 (nT v) = k) (h2 : f (nT v) < 0) : LfZ σ k t (v + 1) (upd f (nT v) t) := by
  have h0 := h.1
  have e := nT_add h0 hv
  refine ⟨by lia, fun i => ⟨fun hi => ?_, fun hi => by rw [upd_ne (by omega)]; exact (h.2 i).2 (by omega)⟩⟩
  by_cases q : i = nT v
  · subst q
    have a := (h.2 (nT v)).2 (Nat.le_refl _)
    rw [a] at h2
    rw [upd_eq, if_pos ⟨h1, h2⟩]
  · rw [upd_ne q]
    exact (h.2 i).1 (by omega)
theorem sc_num {t s : Int32} (h0 : 0 ≤ t.toInt) (h1 : t.toInt ≤ 600) (s0 : 9 ≤ s.toInt) (s1 : s.toInt ≤ 11) : (1000 + 3 * t + s - 9).toInt = 1000 + 3 * t.toInt + (s.toInt - 9) := by
  have e1 : (3 * t).toInt = 3 * t.toInt := by
    rw [Int32.toInt_mul]
    have : (3 : Int32).toInt = 3 := rfl
    rw [this]
    exact Int.bmod_eq_of_le (by omega) (by omega)
  have e2 : (1000 + 3 * t).toInt = 1000 + 3 * t.toInt := by
    rw [Int32.toInt_add, e1]
    have : (1000 : Int32).toInt = 1000 := rfl
    rw [this]
    exact Int.bmod_eq_of_le (by omega) (by omega)
  have e3 : (1000 + 3 * t + s).toInt = 1000 + 3 * t.toInt + s.toInt := by
    rw [Int32.toInt_add, e2]
    exact Int.bmod_eq_of_le (by omega) (by omega)
  rw [Int32.toInt_sub, e3]
  have : (9 : Int32).toInt = 9 := rfl
  rw [this, Int.bmod_eq_of_le (by omega) (by omega)]
  omega
theorem nu_9 {a : FrZ} (h : 9 ≤ a.1 ∧ a.1 ≤ 11) : nuF a = 1000 + 3 * (a.2.2.1.2 : Int) + (a.1 - 9) := by
  unfold nuF
  rw [if_neg (by omega), if_pos h.1]
theorem nu_8 {a : FrZ} (h : ¬ 9 ≤ a.1) : nuF a = (a.2.2.1.2 : Int) := by
  unfold nuF
  rw [if_neg (by omega), if_neg h]
theorem top_r {T : Int32} {x : Int} (h : T.toInt = x) (hr : rwkY x) : T = 0 ∨ T = 1 ∨ T = 8 ∨ 9 ≤ T := by
  rcases hr with hr | hr | hr | hr | hr | hr
  · exact Or.inl (Int32.toInt_inj.mp (h.trans hr))
  · exact Or.inr (Or.inl (Int32.toInt_inj.mp (h.trans hr)))
  · exact Or.inr (Or.inr (Or.inl (Int32.toInt_inj.mp (h.trans hr))))
  all_goals (refine Or.inr (Or.inr (Or.inr (Int32.le_iff_toInt_le.mpr ?_))); show (9 : Int) ≤ _; omega)
def Pv_thingZ : UP1 := fun A1 σ => match A1 with
  | [.int sort, .int token] => True
  | _ => False
def Qv_thingZ : UQ1 := fun A1 σ w τ => match A1 with
  | [.int sort, .int token] => w = some (.int (gI σ 49)) ∧ ThZ σ token τ
  | _ => False
def Qw_thingZ : UQ1 := fun A1 σ w τ => Pv_thingZ A1 σ → Qv_thingZ A1 σ w τ
set_option maxRecDepth 100000 in
set_option maxHeartbeats 4000000 in
theorem v_thingZ : UMet 35 (Pv_thingZ) (Qv_thingZ) := by
  refine UMet.by Bthing [] rfl uc0 ?_
  intro A1 σ hP K hB hW
  unfold Pv_thingZ at hP
  split at hP
  next sort token =>
    intro n0
    refine hB _ _ _ _ _ (fun m1 hm1 => ?_)
    dsimp only [ugo, uwp, ust, uct, rfd, Bthing, Nat.beq, lv_args, rlk, rs1, rs2, rdl, rky, rcd, rno, rsw, Value.category, List.filter, List.take, List.drop, List.reverse, List.reverseAux, List.cons_append, List.nil_append, Option.toList, Int.toNat, Int.reduceToNat, if_pos, if_neg, reduceIte, ↓reduceIte, Nat.reduceAdd, Nat.reduceEqDiff, Nat.reduceBEq, beq_self_eq_true, Bool.not_true, Bool.not_false, Bool.and_true, Bool.and_false, Bool.true_and, Bool.false_and, gI_sI, gI_sL, gI_sA, gI_sM, gL_sI, gL_sL, gL_sA, gL_sM, aI_sI, aI_sL, aI_sA, aI_sM, aL_sI, aL_sL, aL_sA, aL_sM, Bthing_0, oi_1, oi_m2]; try dsimp only
    intro p2
    intro p3
    intro p4
    intro p5
    intro p6
    intro p7
    intro p8
    intro p9
    intro p10
    intro p11
    intro p12
    intro p13
    unfold Qv_thingZ
    try dsimp only
    obtain ⟨b1, b2⟩ : 0 ≤ gI σ 49 ∧ gI σ 49 < 600 := vin (by assumption) (by decide) (by decide)
    refine ⟨rfl, ⟨fun k hk => (by show gI (sI σ 49 _) k = _; rw [gI_sI, nb_ne hk]), rfl, rfl, fun k hk => (aI_ne (by omega)).trans ((aI_ne (by omega)).trans ((aI_ne (by omega)).trans ((aI_ne (by omega)).trans ((aI_ne (by omega)).trans ((aI_ne (by omega)).trans ((aI_ne (by omega)).trans ((aI_ne (by omega)).trans ((aI_ne (by omega)).trans ((aI_ne (by omega)).trans ((aI_ne (by omega)).trans ((aI_ne (by omega)).trans (rfl)))))))))))), b1, b2⟩, fun a h1 h2 => ?_, rfl, rfl⟩
    have hc : a = 52 ∨ a = 53 ∨ a = 54 ∨ a = 55 ∨ a = 56 ∨ a = 57 ∨ a = 58 ∨ a = 59 := by omega
    rcases hc with rfl | rfl | rfl | rfl | rfl | rfl | rfl | rfl <;> rfl
  next => exact hP.elim
theorem w_thingZ : UMet 35 (fun _ _ => True) Qw_thingZ := fun A1 σ _ w τ h hP => v_thingZ A1 σ hP w τ h
def Pv_leaveZ : UP1 := fun A1 σ => match A1 with
  | [.int k, .int token] => True
  | _ => False
def Qv_leaveZ : UQ1 := fun A1 σ w τ => match A1 with
  | [.int k, .int token] => w = none ∧ LvZ σ k token τ
  | _ => False
def Qw_leaveZ : UQ1 := fun A1 σ w τ => Pv_leaveZ A1 σ → Qv_leaveZ A1 σ w τ
set_option maxRecDepth 100000 in
set_option maxHeartbeats 4000000 in
theorem v_leaveZ : UMet 42 (Pv_leaveZ) (Qv_leaveZ) := by
  refine UMet.by Bleave [] rfl uc0 ?_
  intro A1 σ hP K hB hW
  unfold Pv_leaveZ at hP
  split at hP
  next k token =>
    have loop : ∀ (N : Nat) (v : Int32) (f : Nat → Int32), LfZ σ k token v f → K N 2 [(0, .ref 1000), (1, .int k), (2, .int token), (3, .int v)] [] (sA σ 48 f) := by
      intro N
      induction N using Nat.strongRecOn with
      | ind N loop =>
        intro v f hf
        refine hB _ _ _ _ _ (fun m1 hm1 => ?_)
        dsimp only [ugo, uwp, ust, uct, rfd, Bleave, Nat.beq, lv_args, rlk, rs1, rs2, rdl, rky, rcd, rno, rsw, Value.category, List.filter, List.take, List.drop, List.reverse, List.reverseAux, List.cons_append, List.nil_append, Option.toList, Int.toNat, Int.reduceToNat, if_pos, if_neg, reduceIte, ↓reduceIte, Nat.reduceAdd, Nat.reduceEqDiff, Nat.reduceBEq, beq_self_eq_true, Bool.not_true, Bool.not_false, Bool.and_true, Bool.and_false, Bool.true_and, Bool.false_and, gI_sI, gI_sL, gI_sA, gI_sM, gL_sI, gL_sL, gL_sA, gL_sM, aI_sI, aI_sL, aI_sA, aI_sM, aL_sI, aL_sL, aL_sA, aL_sM, Bleave_0, Bleave_2, Bleave_10, Bleave_20, Bleave_29, Bleave_36, Bleave_42, oi_0, oi_1]; try dsimp only
        refine ⟨fun h2 => ?_, fun h2 => ?_⟩
        · refine hB _ _ _ _ _ (fun m3 hm3 => ?_)
          dsimp only [ugo, uwp, ust, uct, rfd, Bleave, Nat.beq, lv_args, rlk, rs1, rs2, rdl, rky, rcd, rno, rsw, Value.category, List.filter, List.take, List.drop, List.reverse, List.reverseAux, List.cons_append, List.nil_append, Option.toList, Int.toNat, Int.reduceToNat, if_pos, if_neg, reduceIte, ↓reduceIte, Nat.reduceAdd, Nat.reduceEqDiff, Nat.reduceBEq, beq_self_eq_true, Bool.not_true, Bool.not_false, Bool.and_true, Bool.and_false, Bool.true_and, Bool.false_and, gI_sI, gI_sL, gI_sA, gI_sM, gL_sI, gL_sL, gL_sA, gL_sM, aI_sI, aI_sL, aI_sA, aI_sM, aL_sI, aL_sL, aL_sA, aL_sM, Bleave_0, Bleave_2, Bleave_10, Bleave_20, Bleave_29, Bleave_36, Bleave_42, oi_0, oi_1]; try dsimp only
          unfold Qv_leaveZ
          try dsimp only
          refine ⟨rfl, fun j => rfl, fun j hj => aI_ne hj, fun v_ hv_ => ?_⟩
          rw [aI_eq]
          exact (hf.2 v_).1 (nT_lt2 (x := v) (y := gI σ 42) (by lia) hv_)
        · refine hB _ _ _ _ _ (fun m4 hm4 => ?_)
          dsimp only [ugo, uwp, ust, uct, rfd, Bleave, Nat.beq, lv_args, rlk, rs1, rs2, rdl, rky, rcd, rno, rsw, Value.category, List.filter, List.take, List.drop, List.reverse, List.reverseAux, List.cons_append, List.nil_append, Option.toList, Int.toNat, Int.reduceToNat, if_pos, if_neg, reduceIte, ↓reduceIte, Nat.reduceAdd, Nat.reduceEqDiff, Nat.reduceBEq, beq_self_eq_true, Bool.not_true, Bool.not_false, Bool.and_true, Bool.and_false, Bool.true_and, Bool.false_and, gI_sI, gI_sL, gI_sA, gI_sM, gL_sI, gL_sL, gL_sA, gL_sM, aI_sI, aI_sL, aI_sA, aI_sM, aL_sI, aL_sL, aL_sA, aL_sM, Bleave_0, Bleave_2, Bleave_10, Bleave_20, Bleave_29, Bleave_36, Bleave_42, oi_0, oi_1]; try dsimp only
          intro p5
          refine ⟨fun h6 => ?_, fun h6 => ?_⟩
          · refine hB _ _ _ _ _ (fun m7 hm7 => ?_)
            dsimp only [ugo, uwp, ust, uct, rfd, Bleave, Nat.beq, lv_args, rlk, rs1, rs2, rdl, rky, rcd, rno, rsw, Value.category, List.filter, List.take, List.drop, List.reverse, List.reverseAux, List.cons_append, List.nil_append, Option.toList, Int.toNat, Int.reduceToNat, if_pos, if_neg, reduceIte, ↓reduceIte, Nat.reduceAdd, Nat.reduceEqDiff, Nat.reduceBEq, beq_self_eq_true, Bool.not_true, Bool.not_false, Bool.and_true, Bool.and_false, Bool.true_and, Bool.false_and, gI_sI, gI_sL, gI_sA, gI_sM, gL_sI, gL_sL, gL_sA, gL_sM, aI_sI, aI_sL, aI_sA, aI_sM, aL_sI, aL_sL, aL_sA, aL_sM, Bleave_0, Bleave_2, Bleave_10, Bleave_20, Bleave_29, Bleave_36, Bleave_42, oi_0, oi_1]; try dsimp only
            exact hW _ 2 [(0, .ref 1000), (1, .int k), (2, .int token), (3, .int (v + 1))] _ _ _ (by simp [rdl, rky]) (loop _ (by omega) (v + 1) f (LfZ.n hf (by lia) (fun q => by have q1 : aI σ 47 v.toNatClampNeg = k := q.1; lia)))
          · refine hB _ _ _ _ _ (fun m8 hm8 => ?_)
            dsimp only [ugo, uwp, ust, uct, rfd, Bleave, Nat.beq, lv_args, rlk, rs1, rs2, rdl, rky, rcd, rno, rsw, Value.category, List.filter, List.take, List.drop, List.reverse, List.reverseAux, List.cons_append, List.nil_append, Option.toList, Int.toNat, Int.reduceToNat, if_pos, if_neg, reduceIte, ↓reduceIte, Nat.reduceAdd, Nat.reduceEqDiff, Nat.reduceBEq, beq_self_eq_true, Bool.not_true, Bool.not_false, Bool.and_true, Bool.and_false, Bool.true_and, Bool.false_and, gI_sI, gI_sL, gI_sA, gI_sM, gL_sI, gL_sL, gL_sA, gL_sM, aI_sI, aI_sL, aI_sA, aI_sM, aL_sI, aL_sL, aL_sA, aL_sM, Bleave_0, Bleave_2, Bleave_10, Bleave_20, Bleave_29, Bleave_36, Bleave_42, oi_0, oi_1]; try dsimp only
            intro p9
            refine ⟨fun h10 => ?_, fun h10 => ?_⟩
            · refine hB _ _ _ _ _ (fun m11 hm11 => ?_)
              dsimp only [ugo, uwp, ust, uct, rfd, Bleave, Nat.beq, lv_args, rlk, rs1, rs2, rdl, rky, rcd, rno, rsw, Value.category, List.filter, List.take, List.drop, List.reverse, List.reverseAux, List.cons_append, List.nil_append, Option.toList, Int.toNat, Int.reduceToNat, if_pos, if_neg, reduceIte, ↓reduceIte, Nat.reduceAdd, Nat.reduceEqDiff, Nat.reduceBEq, beq_self_eq_true, Bool.not_true, Bool.not_false, Bool.and_true, Bool.and_false, Bool.true_and, Bool.false_and, gI_sI, gI_sL, gI_sA, gI_sM, gL_sI, gL_sL, gL_sA, gL_sM, aI_sI, aI_sL, aI_sA, aI_sM, aL_sI, aL_sL, aL_sA, aL_sM, Bleave_0, Bleave_2, Bleave_10, Bleave_20, Bleave_29, Bleave_36, Bleave_42, oi_0, oi_1]; try dsimp only
              exact hW _ 2 [(0, .ref 1000), (1, .int k), (2, .int token), (3, .int (v + 1))] _ _ _ (by simp [rdl, rky]) (loop _ (by omega) (v + 1) f (LfZ.n hf (by lia) (fun q => by have q2 : f v.toNatClampNeg < 0 := q.2; lia)))
            · refine hB _ _ _ _ _ (fun m12 hm12 => ?_)
              dsimp only [ugo, uwp, ust, uct, rfd, Bleave, Nat.beq, lv_args, rlk, rs1, rs2, rdl, rky, rcd, rno, rsw, Value.category, List.filter, List.take, List.drop, List.reverse, List.reverseAux, List.cons_append, List.nil_append, Option.toList, Int.toNat, Int.reduceToNat, if_pos, if_neg, reduceIte, ↓reduceIte, Nat.reduceAdd, Nat.reduceEqDiff, Nat.reduceBEq, beq_self_eq_true, Bool.not_true, Bool.not_false, Bool.and_true, Bool.and_false, Bool.true_and, Bool.false_and, gI_sI, gI_sL, gI_sA, gI_sM, gL_sI, gL_sL, gL_sA, gL_sM, aI_sI, aI_sL, aI_sA, aI_sM, aL_sI, aL_sL, aL_sA, aL_sM, Bleave_0, Bleave_2, Bleave_10, Bleave_20, Bleave_29, Bleave_36, Bleave_42, oi_0, oi_1]; try dsimp only
              intro p13
              refine hB _ _ _ _ _ (fun m14 hm14 => ?_)
              dsimp only [ugo, uwp, ust, uct, rfd, Bleave, Nat.beq, lv_args, rlk, rs1, rs2, rdl, rky, rcd, rno, rsw, Value.category, List.filter, List.take, List.drop, List.reverse, List.reverseAux, List.cons_append, List.nil_append, Option.toList, Int.toNat, Int.reduceToNat, if_pos, if_neg, reduceIte, ↓reduceIte, Nat.reduceAdd, Nat.reduceEqDiff, Nat.reduceBEq, beq_self_eq_true, Bool.not_true, Bool.not_false, Bool.and_true, Bool.and_false, Bool.true_and, Bool.false_and, gI_sI, gI_sL, gI_sA, gI_sM, gL_sI, gL_sL, gL_sA, gL_sM, aI_sI, aI_sL, aI_sA, aI_sM, aL_sI, aL_sL, aL_sA, aL_sM, Bleave_0, Bleave_2, Bleave_10, Bleave_20, Bleave_29, Bleave_36, Bleave_42, oi_0, oi_1]; try dsimp only
              rw [sA_sA]
              exact hW _ 2 [(0, .ref 1000), (1, .int k), (2, .int token), (3, .int (v + 1))] _ _ _ (by simp [rdl, rky]) (loop _ (by omega) (v + 1) (upd f v.toNatClampNeg token) (LfZ.y hf (by lia) (show aI σ 47 v.toNatClampNeg = k by lia) (show f v.toNatClampNeg < 0 by lia)))
    intro n0
    refine hB _ _ _ _ _ (fun m1 hm1 => ?_)
    dsimp only [ugo, uwp, ust, uct, rfd, Bleave, Nat.beq, lv_args, rlk, rs1, rs2, rdl, rky, rcd, rno, rsw, Value.category, List.filter, List.take, List.drop, List.reverse, List.reverseAux, List.cons_append, List.nil_append, Option.toList, Int.toNat, Int.reduceToNat, if_pos, if_neg, reduceIte, ↓reduceIte, Nat.reduceAdd, Nat.reduceEqDiff, Nat.reduceBEq, beq_self_eq_true, Bool.not_true, Bool.not_false, Bool.and_true, Bool.and_false, Bool.true_and, Bool.false_and, gI_sI, gI_sL, gI_sA, gI_sM, gL_sI, gL_sL, gL_sA, gL_sM, aI_sI, aI_sL, aI_sA, aI_sM, aL_sI, aL_sL, aL_sA, aL_sM, Bleave_0, Bleave_2, Bleave_10, Bleave_20, Bleave_29, Bleave_36, Bleave_42, oi_0, oi_1]; try dsimp only
    rw [show σ = sA σ 48 (aI σ 48) from sA_id.symm]
    exact hW _ 2 [(0, .ref 1000), (1, .int k), (2, .int token), (3, .int 0)] _ _ _ (by simp [rdl, rky]) (loop _ 0 _ ⟨by decide, fun i => ⟨fun hi => absurd hi (Nat.not_lt_zero _), fun _ => rfl⟩⟩)
  next => exact hP.elim
theorem w_leaveZ : UMet 42 (fun _ _ => True) Qw_leaveZ := fun A1 σ _ w τ h hP => v_leaveZ A1 σ hP w τ h
def Pv_scopeZ (z : ZS) (a : FrZ) (F K_ : List FrZ) : UP1 := fun A1 σ => match A1 with
  | [] => ZRx σ z (a :: F) K_ ∧ 0 < gI σ 62 ∧ rwkY a.1 ∧ a.2.2.1.2 ≤ 600
  | _ => False
def Qv_scopeZ (z : ZS) (a : FrZ) (F K_ : List FrZ) : UQ1 := fun A1 σ w τ => match A1 with
  | [] => σ = τ ∧ ∃ r : Int32, w = some (.int r) ∧ r.toInt = nuF a
  | _ => False
def Qw_scopeZ : UQ1 := fun A1 σ w τ => ∀ (z : ZS) (a : FrZ) (F K_ : List FrZ), Pv_scopeZ z a F K_ A1 σ → Qv_scopeZ z a F K_ A1 σ w τ
set_option maxRecDepth 100000 in
set_option maxHeartbeats 4000000 in
theorem v_scopeZ (z : ZS) (a : FrZ) (F K_ : List FrZ) : UMet 41 (Pv_scopeZ z a F K_) (Qv_scopeZ z a F K_) := by
  refine UMet.by Bscope [] rfl uc0 ?_
  intro A1 σ hP K hB hW
  unfold Pv_scopeZ at hP
  split at hP
  next =>
    obtain ⟨hZ, hp, hr, h6⟩ := hP
    have hT := hZ.top hp
    have hTr := top_r hT.1 hr
    intro n0
    refine hB _ _ _ _ _ (fun m1 hm1 => ?_)
    dsimp only [ugo, uwp, ust, uct, rfd, Bscope, Nat.beq, lv_args, rlk, rs1, rs2, rdl, rky, rcd, rno, rsw, Value.category, List.filter, List.take, List.drop, List.reverse, List.reverseAux, List.cons_append, List.nil_append, Option.toList, Int.toNat, Int.reduceToNat, if_pos, if_neg, reduceIte, ↓reduceIte, Nat.reduceAdd, Nat.reduceEqDiff, Nat.reduceBEq, beq_self_eq_true, Bool.not_true, Bool.not_false, Bool.and_true, Bool.and_false, Bool.true_and, Bool.false_and, gI_sI, gI_sL, gI_sA, gI_sM, gL_sI, gL_sL, gL_sA, gL_sM, aI_sI, aI_sL, aI_sA, aI_sM, aL_sI, aL_sL, aL_sA, aL_sM, Bscope_0, Bscope_7, Bscope_16, Bscope_26, Bscope_37, Bscope_48, Bscope_54, Bscope_65, Bscope_90, Bscope_96, oi_1, oi_1000, oi_3, oi_8, oi_9, oi_m1]; try dsimp only
    refine hB _ _ _ _ _ (fun m2 hm2 => ?_)
    dsimp only [ugo, uwp, ust, uct, rfd, Bscope, Nat.beq, lv_args, rlk, rs1, rs2, rdl, rky, rcd, rno, rsw, Value.category, List.filter, List.take, List.drop, List.reverse, List.reverseAux, List.cons_append, List.nil_append, Option.toList, Int.toNat, Int.reduceToNat, if_pos, if_neg, reduceIte, ↓reduceIte, Nat.reduceAdd, Nat.reduceEqDiff, Nat.reduceBEq, beq_self_eq_true, Bool.not_true, Bool.not_false, Bool.and_true, Bool.and_false, Bool.true_and, Bool.false_and, gI_sI, gI_sL, gI_sA, gI_sM, gL_sI, gL_sL, gL_sA, gL_sM, aI_sI, aI_sL, aI_sA, aI_sM, aL_sI, aL_sL, aL_sA, aL_sM, Bscope_0, Bscope_7, Bscope_16, Bscope_26, Bscope_37, Bscope_48, Bscope_54, Bscope_65, Bscope_90, Bscope_96, oi_1, oi_1000, oi_3, oi_8, oi_9, oi_m1]; try dsimp only
    intro p3
    refine ⟨fun h4 => ?_, fun h4 => ?_⟩
    · refine hB _ _ _ _ _ (fun m5 hm5 => ?_)
      dsimp only [ugo, uwp, ust, uct, rfd, Bscope, Nat.beq, lv_args, rlk, rs1, rs2, rdl, rky, rcd, rno, rsw, Value.category, List.filter, List.take, List.drop, List.reverse, List.reverseAux, List.cons_append, List.nil_append, Option.toList, Int.toNat, Int.reduceToNat, if_pos, if_neg, reduceIte, ↓reduceIte, Nat.reduceAdd, Nat.reduceEqDiff, Nat.reduceBEq, beq_self_eq_true, Bool.not_true, Bool.not_false, Bool.and_true, Bool.and_false, Bool.true_and, Bool.false_and, gI_sI, gI_sL, gI_sA, gI_sM, gL_sI, gL_sL, gL_sA, gL_sM, aI_sI, aI_sL, aI_sA, aI_sM, aL_sI, aL_sL, aL_sA, aL_sM, Bscope_0, Bscope_7, Bscope_16, Bscope_26, Bscope_37, Bscope_48, Bscope_54, Bscope_65, Bscope_90, Bscope_96, oi_1, oi_1000, oi_3, oi_8, oi_9, oi_m1]; try dsimp only
      intro p6
      refine ⟨fun h7 => ?_, fun h7 => ?_⟩
      · refine hB _ _ _ _ _ (fun m8 hm8 => ?_)
        dsimp only [ugo, uwp, ust, uct, rfd, Bscope, Nat.beq, lv_args, rlk, rs1, rs2, rdl, rky, rcd, rno, rsw, Value.category, List.filter, List.take, List.drop, List.reverse, List.reverseAux, List.cons_append, List.nil_append, Option.toList, Int.toNat, Int.reduceToNat, if_pos, if_neg, reduceIte, ↓reduceIte, Nat.reduceAdd, Nat.reduceEqDiff, Nat.reduceBEq, beq_self_eq_true, Bool.not_true, Bool.not_false, Bool.and_true, Bool.and_false, Bool.true_and, Bool.false_and, gI_sI, gI_sL, gI_sA, gI_sM, gL_sI, gL_sL, gL_sA, gL_sM, aI_sI, aI_sL, aI_sA, aI_sM, aL_sI, aL_sL, aL_sA, aL_sM, Bscope_0, Bscope_7, Bscope_16, Bscope_26, Bscope_37, Bscope_48, Bscope_54, Bscope_65, Bscope_90, Bscope_96, oi_1, oi_1000, oi_3, oi_8, oi_9, oi_m1]; try dsimp only
        intro p9
        refine hB _ _ _ _ _ (fun m10 hm10 => ?_)
        dsimp only [ugo, uwp, ust, uct, rfd, Bscope, Nat.beq, lv_args, rlk, rs1, rs2, rdl, rky, rcd, rno, rsw, Value.category, List.filter, List.take, List.drop, List.reverse, List.reverseAux, List.cons_append, List.nil_append, Option.toList, Int.toNat, Int.reduceToNat, if_pos, if_neg, reduceIte, ↓reduceIte, Nat.reduceAdd, Nat.reduceEqDiff, Nat.reduceBEq, beq_self_eq_true, Bool.not_true, Bool.not_false, Bool.and_true, Bool.and_false, Bool.true_and, Bool.false_and, gI_sI, gI_sL, gI_sA, gI_sM, gL_sI, gL_sL, gL_sA, gL_sM, aI_sI, aI_sL, aI_sA, aI_sM, aL_sI, aL_sL, aL_sA, aL_sM, Bscope_0, Bscope_7, Bscope_16, Bscope_26, Bscope_37, Bscope_48, Bscope_54, Bscope_65, Bscope_90, Bscope_96, oi_1, oi_1000, oi_3, oi_8, oi_9, oi_m1]; try dsimp only
        unfold Qv_scopeZ
        try dsimp only
        have h9 : ¬ 9 ≤ a.1 := by
          intro q
          rw [← hT.1] at q
          have q : (9 : Int32) ≤ (aI σ 63 (gI σ 62 - 1).toNatClampNeg) := Int32.le_iff_toInt_le.mpr q
          lia
        exact ⟨rfl, _, rfl, by rw [nu_8 h9]; exact hT.2.1⟩
      · refine hB _ _ _ _ _ (fun m11 hm11 => ?_)
        dsimp only [ugo, uwp, ust, uct, rfd, Bscope, Nat.beq, lv_args, rlk, rs1, rs2, rdl, rky, rcd, rno, rsw, Value.category, List.filter, List.take, List.drop, List.reverse, List.reverseAux, List.cons_append, List.nil_append, Option.toList, Int.toNat, Int.reduceToNat, if_pos, if_neg, reduceIte, ↓reduceIte, Nat.reduceAdd, Nat.reduceEqDiff, Nat.reduceBEq, beq_self_eq_true, Bool.not_true, Bool.not_false, Bool.and_true, Bool.and_false, Bool.true_and, Bool.false_and, gI_sI, gI_sL, gI_sA, gI_sM, gL_sI, gL_sL, gL_sA, gL_sM, aI_sI, aI_sL, aI_sA, aI_sM, aL_sI, aL_sL, aL_sA, aL_sM, Bscope_0, Bscope_7, Bscope_16, Bscope_26, Bscope_37, Bscope_48, Bscope_54, Bscope_65, Bscope_90, Bscope_96, oi_1, oi_1000, oi_3, oi_8, oi_9, oi_m1]; try dsimp only
        intro p12
        intro p13
        refine hB _ _ _ _ _ (fun m14 hm14 => ?_)
        dsimp only [ugo, uwp, ust, uct, rfd, Bscope, Nat.beq, lv_args, rlk, rs1, rs2, rdl, rky, rcd, rno, rsw, Value.category, List.filter, List.take, List.drop, List.reverse, List.reverseAux, List.cons_append, List.nil_append, Option.toList, Int.toNat, Int.reduceToNat, if_pos, if_neg, reduceIte, ↓reduceIte, Nat.reduceAdd, Nat.reduceEqDiff, Nat.reduceBEq, beq_self_eq_true, Bool.not_true, Bool.not_false, Bool.and_true, Bool.and_false, Bool.true_and, Bool.false_and, gI_sI, gI_sL, gI_sA, gI_sM, gL_sI, gL_sL, gL_sA, gL_sM, aI_sI, aI_sL, aI_sA, aI_sM, aL_sI, aL_sL, aL_sA, aL_sM, Bscope_0, Bscope_7, Bscope_16, Bscope_26, Bscope_37, Bscope_48, Bscope_54, Bscope_65, Bscope_90, Bscope_96, oi_1, oi_1000, oi_3, oi_8, oi_9, oi_m1]; try dsimp only
        unfold Qv_scopeZ
        try dsimp only
        have h9 : 9 ≤ a.1 ∧ a.1 ≤ 11 := by
          rw [← hT.1]
          have q : (9 : Int32) ≤ (aI σ 63 (gI σ 62 - 1).toNatClampNeg) := by lia
          have q := Int32.le_iff_toInt_le.mp q
          have q : (9 : Int) ≤ ((aI σ 63 (gI σ 62 - 1).toNatClampNeg)).toInt := q
          rw [hT.1] at q ⊢
          unfold rwkY at hr
          omega
        refine ⟨rfl, _, rfl, ?_⟩
        rw [nu_9 h9, ← hT.1, ← hT.2.1]
        exact sc_num (by rw [hT.2.1]; omega) (by rw [hT.2.1]; omega) (by rw [hT.1]; exact h9.1) (by rw [hT.1]; exact h9.2)
    · refine hB _ _ _ _ _ (fun m15 hm15 => ?_)
      dsimp only [ugo, uwp, ust, uct, rfd, Bscope, Nat.beq, lv_args, rlk, rs1, rs2, rdl, rky, rcd, rno, rsw, Value.category, List.filter, List.take, List.drop, List.reverse, List.reverseAux, List.cons_append, List.nil_append, Option.toList, Int.toNat, Int.reduceToNat, if_pos, if_neg, reduceIte, ↓reduceIte, Nat.reduceAdd, Nat.reduceEqDiff, Nat.reduceBEq, beq_self_eq_true, Bool.not_true, Bool.not_false, Bool.and_true, Bool.and_false, Bool.true_and, Bool.false_and, gI_sI, gI_sL, gI_sA, gI_sM, gL_sI, gL_sL, gL_sA, gL_sM, aI_sI, aI_sL, aI_sA, aI_sM, aL_sI, aL_sL, aL_sA, aL_sM, Bscope_0, Bscope_7, Bscope_16, Bscope_26, Bscope_37, Bscope_48, Bscope_54, Bscope_65, Bscope_90, Bscope_96, oi_1, oi_1000, oi_3, oi_8, oi_9, oi_m1]; try dsimp only
      intro p16
      refine ⟨fun h17 => ?_, fun h17 => ?_⟩
      · refine hB _ _ _ _ _ (fun m18 hm18 => ?_)
        dsimp only [ugo, uwp, ust, uct, rfd, Bscope, Nat.beq, lv_args, rlk, rs1, rs2, rdl, rky, rcd, rno, rsw, Value.category, List.filter, List.take, List.drop, List.reverse, List.reverseAux, List.cons_append, List.nil_append, Option.toList, Int.toNat, Int.reduceToNat, if_pos, if_neg, reduceIte, ↓reduceIte, Nat.reduceAdd, Nat.reduceEqDiff, Nat.reduceBEq, beq_self_eq_true, Bool.not_true, Bool.not_false, Bool.and_true, Bool.and_false, Bool.true_and, Bool.false_and, gI_sI, gI_sL, gI_sA, gI_sM, gL_sI, gL_sL, gL_sA, gL_sM, aI_sI, aI_sL, aI_sA, aI_sM, aL_sI, aL_sL, aL_sA, aL_sM, Bscope_0, Bscope_7, Bscope_16, Bscope_26, Bscope_37, Bscope_48, Bscope_54, Bscope_65, Bscope_90, Bscope_96, oi_1, oi_1000, oi_3, oi_8, oi_9, oi_m1]; try dsimp only
        intro p19
        refine ⟨fun h20 => ?_, fun h20 => ?_⟩
        · refine hB _ _ _ _ _ (fun m21 hm21 => ?_)
          dsimp only [ugo, uwp, ust, uct, rfd, Bscope, Nat.beq, lv_args, rlk, rs1, rs2, rdl, rky, rcd, rno, rsw, Value.category, List.filter, List.take, List.drop, List.reverse, List.reverseAux, List.cons_append, List.nil_append, Option.toList, Int.toNat, Int.reduceToNat, if_pos, if_neg, reduceIte, ↓reduceIte, Nat.reduceAdd, Nat.reduceEqDiff, Nat.reduceBEq, beq_self_eq_true, Bool.not_true, Bool.not_false, Bool.and_true, Bool.and_false, Bool.true_and, Bool.false_and, gI_sI, gI_sL, gI_sA, gI_sM, gL_sI, gL_sL, gL_sA, gL_sM, aI_sI, aI_sL, aI_sA, aI_sM, aL_sI, aL_sL, aL_sA, aL_sM, Bscope_0, Bscope_7, Bscope_16, Bscope_26, Bscope_37, Bscope_48, Bscope_54, Bscope_65, Bscope_90, Bscope_96, oi_1, oi_1000, oi_3, oi_8, oi_9, oi_m1]; try dsimp only
          intro p22
          refine hB _ _ _ _ _ (fun m23 hm23 => ?_)
          dsimp only [ugo, uwp, ust, uct, rfd, Bscope, Nat.beq, lv_args, rlk, rs1, rs2, rdl, rky, rcd, rno, rsw, Value.category, List.filter, List.take, List.drop, List.reverse, List.reverseAux, List.cons_append, List.nil_append, Option.toList, Int.toNat, Int.reduceToNat, if_pos, if_neg, reduceIte, ↓reduceIte, Nat.reduceAdd, Nat.reduceEqDiff, Nat.reduceBEq, beq_self_eq_true, Bool.not_true, Bool.not_false, Bool.and_true, Bool.and_false, Bool.true_and, Bool.false_and, gI_sI, gI_sL, gI_sA, gI_sM, gL_sI, gL_sL, gL_sA, gL_sM, aI_sI, aI_sL, aI_sA, aI_sM, aL_sI, aL_sL, aL_sA, aL_sM, Bscope_0, Bscope_7, Bscope_16, Bscope_26, Bscope_37, Bscope_48, Bscope_54, Bscope_65, Bscope_90, Bscope_96, oi_1, oi_1000, oi_3, oi_8, oi_9, oi_m1]; try dsimp only
          unfold Qv_scopeZ
          try dsimp only
          have h9 : ¬ 9 ≤ a.1 := by
            intro q
            rw [← hT.1] at q
            have q : (9 : Int32) ≤ (aI σ 63 (gI σ 62 - 1).toNatClampNeg) := Int32.le_iff_toInt_le.mpr q
            lia
          exact ⟨rfl, _, rfl, by rw [nu_8 h9]; exact hT.2.1⟩
        · refine hB _ _ _ _ _ (fun m24 hm24 => ?_)
          dsimp only [ugo, uwp, ust, uct, rfd, Bscope, Nat.beq, lv_args, rlk, rs1, rs2, rdl, rky, rcd, rno, rsw, Value.category, List.filter, List.take, List.drop, List.reverse, List.reverseAux, List.cons_append, List.nil_append, Option.toList, Int.toNat, Int.reduceToNat, if_pos, if_neg, reduceIte, ↓reduceIte, Nat.reduceAdd, Nat.reduceEqDiff, Nat.reduceBEq, beq_self_eq_true, Bool.not_true, Bool.not_false, Bool.and_true, Bool.and_false, Bool.true_and, Bool.false_and, gI_sI, gI_sL, gI_sA, gI_sM, gL_sI, gL_sL, gL_sA, gL_sM, aI_sI, aI_sL, aI_sA, aI_sM, aL_sI, aL_sL, aL_sA, aL_sM, Bscope_0, Bscope_7, Bscope_16, Bscope_26, Bscope_37, Bscope_48, Bscope_54, Bscope_65, Bscope_90, Bscope_96, oi_1, oi_1000, oi_3, oi_8, oi_9, oi_m1]; try dsimp only
          intro p25
          intro p26
          refine hB _ _ _ _ _ (fun m27 hm27 => ?_)
          dsimp only [ugo, uwp, ust, uct, rfd, Bscope, Nat.beq, lv_args, rlk, rs1, rs2, rdl, rky, rcd, rno, rsw, Value.category, List.filter, List.take, List.drop, List.reverse, List.reverseAux, List.cons_append, List.nil_append, Option.toList, Int.toNat, Int.reduceToNat, if_pos, if_neg, reduceIte, ↓reduceIte, Nat.reduceAdd, Nat.reduceEqDiff, Nat.reduceBEq, beq_self_eq_true, Bool.not_true, Bool.not_false, Bool.and_true, Bool.and_false, Bool.true_and, Bool.false_and, gI_sI, gI_sL, gI_sA, gI_sM, gL_sI, gL_sL, gL_sA, gL_sM, aI_sI, aI_sL, aI_sA, aI_sM, aL_sI, aL_sL, aL_sA, aL_sM, Bscope_0, Bscope_7, Bscope_16, Bscope_26, Bscope_37, Bscope_48, Bscope_54, Bscope_65, Bscope_90, Bscope_96, oi_1, oi_1000, oi_3, oi_8, oi_9, oi_m1]; try dsimp only
          unfold Qv_scopeZ
          try dsimp only
          have h9 : 9 ≤ a.1 ∧ a.1 ≤ 11 := by
            rw [← hT.1]
            have q : (9 : Int32) ≤ (aI σ 63 (gI σ 62 - 1).toNatClampNeg) := by lia
            have q := Int32.le_iff_toInt_le.mp q
            have q : (9 : Int) ≤ ((aI σ 63 (gI σ 62 - 1).toNatClampNeg)).toInt := q
            rw [hT.1] at q ⊢
            unfold rwkY at hr
            omega
          refine ⟨rfl, _, rfl, ?_⟩
          rw [nu_9 h9, ← hT.1, ← hT.2.1]
          exact sc_num (by rw [hT.2.1]; omega) (by rw [hT.2.1]; omega) (by rw [hT.1]; exact h9.1) (by rw [hT.1]; exact h9.2)
      · refine hB _ _ _ _ _ (fun m28 hm28 => ?_)
        dsimp only [ugo, uwp, ust, uct, rfd, Bscope, Nat.beq, lv_args, rlk, rs1, rs2, rdl, rky, rcd, rno, rsw, Value.category, List.filter, List.take, List.drop, List.reverse, List.reverseAux, List.cons_append, List.nil_append, Option.toList, Int.toNat, Int.reduceToNat, if_pos, if_neg, reduceIte, ↓reduceIte, Nat.reduceAdd, Nat.reduceEqDiff, Nat.reduceBEq, beq_self_eq_true, Bool.not_true, Bool.not_false, Bool.and_true, Bool.and_false, Bool.true_and, Bool.false_and, gI_sI, gI_sL, gI_sA, gI_sM, gL_sI, gL_sL, gL_sA, gL_sM, aI_sI, aI_sL, aI_sA, aI_sM, aL_sI, aL_sL, aL_sA, aL_sM, Bscope_0, Bscope_7, Bscope_16, Bscope_26, Bscope_37, Bscope_48, Bscope_54, Bscope_65, Bscope_90, Bscope_96, oi_1, oi_1000, oi_3, oi_8, oi_9, oi_m1]; try dsimp only
        intro p29
        refine ⟨fun h30 => ?_, fun h30 => ?_⟩
        · refine hB _ _ _ _ _ (fun m31 hm31 => ?_)
          dsimp only [ugo, uwp, ust, uct, rfd, Bscope, Nat.beq, lv_args, rlk, rs1, rs2, rdl, rky, rcd, rno, rsw, Value.category, List.filter, List.take, List.drop, List.reverse, List.reverseAux, List.cons_append, List.nil_append, Option.toList, Int.toNat, Int.reduceToNat, if_pos, if_neg, reduceIte, ↓reduceIte, Nat.reduceAdd, Nat.reduceEqDiff, Nat.reduceBEq, beq_self_eq_true, Bool.not_true, Bool.not_false, Bool.and_true, Bool.and_false, Bool.true_and, Bool.false_and, gI_sI, gI_sL, gI_sA, gI_sM, gL_sI, gL_sL, gL_sA, gL_sM, aI_sI, aI_sL, aI_sA, aI_sM, aL_sI, aL_sL, aL_sA, aL_sM, Bscope_0, Bscope_7, Bscope_16, Bscope_26, Bscope_37, Bscope_48, Bscope_54, Bscope_65, Bscope_90, Bscope_96, oi_1, oi_1000, oi_3, oi_8, oi_9, oi_m1]; try dsimp only
          intro p32
          refine ⟨fun h33 => ?_, fun h33 => ?_⟩
          · refine hB _ _ _ _ _ (fun m34 hm34 => ?_)
            dsimp only [ugo, uwp, ust, uct, rfd, Bscope, Nat.beq, lv_args, rlk, rs1, rs2, rdl, rky, rcd, rno, rsw, Value.category, List.filter, List.take, List.drop, List.reverse, List.reverseAux, List.cons_append, List.nil_append, Option.toList, Int.toNat, Int.reduceToNat, if_pos, if_neg, reduceIte, ↓reduceIte, Nat.reduceAdd, Nat.reduceEqDiff, Nat.reduceBEq, beq_self_eq_true, Bool.not_true, Bool.not_false, Bool.and_true, Bool.and_false, Bool.true_and, Bool.false_and, gI_sI, gI_sL, gI_sA, gI_sM, gL_sI, gL_sL, gL_sA, gL_sM, aI_sI, aI_sL, aI_sA, aI_sM, aL_sI, aL_sL, aL_sA, aL_sM, Bscope_0, Bscope_7, Bscope_16, Bscope_26, Bscope_37, Bscope_48, Bscope_54, Bscope_65, Bscope_90, Bscope_96, oi_1, oi_1000, oi_3, oi_8, oi_9, oi_m1]; try dsimp only
            intro p35
            refine hB _ _ _ _ _ (fun m36 hm36 => ?_)
            dsimp only [ugo, uwp, ust, uct, rfd, Bscope, Nat.beq, lv_args, rlk, rs1, rs2, rdl, rky, rcd, rno, rsw, Value.category, List.filter, List.take, List.drop, List.reverse, List.reverseAux, List.cons_append, List.nil_append, Option.toList, Int.toNat, Int.reduceToNat, if_pos, if_neg, reduceIte, ↓reduceIte, Nat.reduceAdd, Nat.reduceEqDiff, Nat.reduceBEq, beq_self_eq_true, Bool.not_true, Bool.not_false, Bool.and_true, Bool.and_false, Bool.true_and, Bool.false_and, gI_sI, gI_sL, gI_sA, gI_sM, gL_sI, gL_sL, gL_sA, gL_sM, aI_sI, aI_sL, aI_sA, aI_sM, aL_sI, aL_sL, aL_sA, aL_sM, Bscope_0, Bscope_7, Bscope_16, Bscope_26, Bscope_37, Bscope_48, Bscope_54, Bscope_65, Bscope_90, Bscope_96, oi_1, oi_1000, oi_3, oi_8, oi_9, oi_m1]; try dsimp only
            unfold Qv_scopeZ
            try dsimp only
            have h9 : ¬ 9 ≤ a.1 := by
              intro q
              rw [← hT.1] at q
              have q : (9 : Int32) ≤ (aI σ 63 (gI σ 62 - 1).toNatClampNeg) := Int32.le_iff_toInt_le.mpr q
              lia
            exact ⟨rfl, _, rfl, by rw [nu_8 h9]; exact hT.2.1⟩
          · refine hB _ _ _ _ _ (fun m37 hm37 => ?_)
            dsimp only [ugo, uwp, ust, uct, rfd, Bscope, Nat.beq, lv_args, rlk, rs1, rs2, rdl, rky, rcd, rno, rsw, Value.category, List.filter, List.take, List.drop, List.reverse, List.reverseAux, List.cons_append, List.nil_append, Option.toList, Int.toNat, Int.reduceToNat, if_pos, if_neg, reduceIte, ↓reduceIte, Nat.reduceAdd, Nat.reduceEqDiff, Nat.reduceBEq, beq_self_eq_true, Bool.not_true, Bool.not_false, Bool.and_true, Bool.and_false, Bool.true_and, Bool.false_and, gI_sI, gI_sL, gI_sA, gI_sM, gL_sI, gL_sL, gL_sA, gL_sM, aI_sI, aI_sL, aI_sA, aI_sM, aL_sI, aL_sL, aL_sA, aL_sM, Bscope_0, Bscope_7, Bscope_16, Bscope_26, Bscope_37, Bscope_48, Bscope_54, Bscope_65, Bscope_90, Bscope_96, oi_1, oi_1000, oi_3, oi_8, oi_9, oi_m1]; try dsimp only
            intro p38
            intro p39
            refine hB _ _ _ _ _ (fun m40 hm40 => ?_)
            dsimp only [ugo, uwp, ust, uct, rfd, Bscope, Nat.beq, lv_args, rlk, rs1, rs2, rdl, rky, rcd, rno, rsw, Value.category, List.filter, List.take, List.drop, List.reverse, List.reverseAux, List.cons_append, List.nil_append, Option.toList, Int.toNat, Int.reduceToNat, if_pos, if_neg, reduceIte, ↓reduceIte, Nat.reduceAdd, Nat.reduceEqDiff, Nat.reduceBEq, beq_self_eq_true, Bool.not_true, Bool.not_false, Bool.and_true, Bool.and_false, Bool.true_and, Bool.false_and, gI_sI, gI_sL, gI_sA, gI_sM, gL_sI, gL_sL, gL_sA, gL_sM, aI_sI, aI_sL, aI_sA, aI_sM, aL_sI, aL_sL, aL_sA, aL_sM, Bscope_0, Bscope_7, Bscope_16, Bscope_26, Bscope_37, Bscope_48, Bscope_54, Bscope_65, Bscope_90, Bscope_96, oi_1, oi_1000, oi_3, oi_8, oi_9, oi_m1]; try dsimp only
            unfold Qv_scopeZ
            try dsimp only
            have h9 : 9 ≤ a.1 ∧ a.1 ≤ 11 := by
              rw [← hT.1]
              have q : (9 : Int32) ≤ (aI σ 63 (gI σ 62 - 1).toNatClampNeg) := by lia
              have q := Int32.le_iff_toInt_le.mp q
              have q : (9 : Int) ≤ ((aI σ 63 (gI σ 62 - 1).toNatClampNeg)).toInt := q
              rw [hT.1] at q ⊢
              unfold rwkY at hr
              omega
            refine ⟨rfl, _, rfl, ?_⟩
            rw [nu_9 h9, ← hT.1, ← hT.2.1]
            exact sc_num (by rw [hT.2.1]; omega) (by rw [hT.2.1]; omega) (by rw [hT.1]; exact h9.1) (by rw [hT.1]; exact h9.2)
        · refine hB _ _ _ _ _ (fun m41 hm41 => ?_)
          dsimp only [ugo, uwp, ust, uct, rfd, Bscope, Nat.beq, lv_args, rlk, rs1, rs2, rdl, rky, rcd, rno, rsw, Value.category, List.filter, List.take, List.drop, List.reverse, List.reverseAux, List.cons_append, List.nil_append, Option.toList, Int.toNat, Int.reduceToNat, if_pos, if_neg, reduceIte, ↓reduceIte, Nat.reduceAdd, Nat.reduceEqDiff, Nat.reduceBEq, beq_self_eq_true, Bool.not_true, Bool.not_false, Bool.and_true, Bool.and_false, Bool.true_and, Bool.false_and, gI_sI, gI_sL, gI_sA, gI_sM, gL_sI, gL_sL, gL_sA, gL_sM, aI_sI, aI_sL, aI_sA, aI_sM, aL_sI, aL_sL, aL_sA, aL_sM, Bscope_0, Bscope_7, Bscope_16, Bscope_26, Bscope_37, Bscope_48, Bscope_54, Bscope_65, Bscope_90, Bscope_96, oi_1, oi_1000, oi_3, oi_8, oi_9, oi_m1]; try dsimp only
          intro p42
          refine ⟨fun h43 => ?_, fun h43 => ?_⟩
          · refine hB _ _ _ _ _ (fun m44 hm44 => ?_)
            dsimp only [ugo, uwp, ust, uct, rfd, Bscope, Nat.beq, lv_args, rlk, rs1, rs2, rdl, rky, rcd, rno, rsw, Value.category, List.filter, List.take, List.drop, List.reverse, List.reverseAux, List.cons_append, List.nil_append, Option.toList, Int.toNat, Int.reduceToNat, if_pos, if_neg, reduceIte, ↓reduceIte, Nat.reduceAdd, Nat.reduceEqDiff, Nat.reduceBEq, beq_self_eq_true, Bool.not_true, Bool.not_false, Bool.and_true, Bool.and_false, Bool.true_and, Bool.false_and, gI_sI, gI_sL, gI_sA, gI_sM, gL_sI, gL_sL, gL_sA, gL_sM, aI_sI, aI_sL, aI_sA, aI_sM, aL_sI, aL_sL, aL_sA, aL_sM, Bscope_0, Bscope_7, Bscope_16, Bscope_26, Bscope_37, Bscope_48, Bscope_54, Bscope_65, Bscope_90, Bscope_96, oi_1, oi_1000, oi_3, oi_8, oi_9, oi_m1]; try dsimp only
            intro p45
            refine ⟨fun h46 => ?_, fun h46 => ?_⟩
            · refine hB _ _ _ _ _ (fun m47 hm47 => ?_)
              dsimp only [ugo, uwp, ust, uct, rfd, Bscope, Nat.beq, lv_args, rlk, rs1, rs2, rdl, rky, rcd, rno, rsw, Value.category, List.filter, List.take, List.drop, List.reverse, List.reverseAux, List.cons_append, List.nil_append, Option.toList, Int.toNat, Int.reduceToNat, if_pos, if_neg, reduceIte, ↓reduceIte, Nat.reduceAdd, Nat.reduceEqDiff, Nat.reduceBEq, beq_self_eq_true, Bool.not_true, Bool.not_false, Bool.and_true, Bool.and_false, Bool.true_and, Bool.false_and, gI_sI, gI_sL, gI_sA, gI_sM, gL_sI, gL_sL, gL_sA, gL_sM, aI_sI, aI_sL, aI_sA, aI_sM, aL_sI, aL_sL, aL_sA, aL_sM, Bscope_0, Bscope_7, Bscope_16, Bscope_26, Bscope_37, Bscope_48, Bscope_54, Bscope_65, Bscope_90, Bscope_96, oi_1, oi_1000, oi_3, oi_8, oi_9, oi_m1]; try dsimp only
              intro p48
              refine hB _ _ _ _ _ (fun m49 hm49 => ?_)
              dsimp only [ugo, uwp, ust, uct, rfd, Bscope, Nat.beq, lv_args, rlk, rs1, rs2, rdl, rky, rcd, rno, rsw, Value.category, List.filter, List.take, List.drop, List.reverse, List.reverseAux, List.cons_append, List.nil_append, Option.toList, Int.toNat, Int.reduceToNat, if_pos, if_neg, reduceIte, ↓reduceIte, Nat.reduceAdd, Nat.reduceEqDiff, Nat.reduceBEq, beq_self_eq_true, Bool.not_true, Bool.not_false, Bool.and_true, Bool.and_false, Bool.true_and, Bool.false_and, gI_sI, gI_sL, gI_sA, gI_sM, gL_sI, gL_sL, gL_sA, gL_sM, aI_sI, aI_sL, aI_sA, aI_sM, aL_sI, aL_sL, aL_sA, aL_sM, Bscope_0, Bscope_7, Bscope_16, Bscope_26, Bscope_37, Bscope_48, Bscope_54, Bscope_65, Bscope_90, Bscope_96, oi_1, oi_1000, oi_3, oi_8, oi_9, oi_m1]; try dsimp only
              unfold Qv_scopeZ
              try dsimp only
              have h9 : ¬ 9 ≤ a.1 := by
                intro q
                rw [← hT.1] at q
                have q : (9 : Int32) ≤ (aI σ 63 (gI σ 62 - 1).toNatClampNeg) := Int32.le_iff_toInt_le.mpr q
                lia
              exact ⟨rfl, _, rfl, by rw [nu_8 h9]; exact hT.2.1⟩
            · refine hB _ _ _ _ _ (fun m50 hm50 => ?_)
              dsimp only [ugo, uwp, ust, uct, rfd, Bscope, Nat.beq, lv_args, rlk, rs1, rs2, rdl, rky, rcd, rno, rsw, Value.category, List.filter, List.take, List.drop, List.reverse, List.reverseAux, List.cons_append, List.nil_append, Option.toList, Int.toNat, Int.reduceToNat, if_pos, if_neg, reduceIte, ↓reduceIte, Nat.reduceAdd, Nat.reduceEqDiff, Nat.reduceBEq, beq_self_eq_true, Bool.not_true, Bool.not_false, Bool.and_true, Bool.and_false, Bool.true_and, Bool.false_and, gI_sI, gI_sL, gI_sA, gI_sM, gL_sI, gL_sL, gL_sA, gL_sM, aI_sI, aI_sL, aI_sA, aI_sM, aL_sI, aL_sL, aL_sA, aL_sM, Bscope_0, Bscope_7, Bscope_16, Bscope_26, Bscope_37, Bscope_48, Bscope_54, Bscope_65, Bscope_90, Bscope_96, oi_1, oi_1000, oi_3, oi_8, oi_9, oi_m1]; try dsimp only
              intro p51
              intro p52
              refine hB _ _ _ _ _ (fun m53 hm53 => ?_)
              dsimp only [ugo, uwp, ust, uct, rfd, Bscope, Nat.beq, lv_args, rlk, rs1, rs2, rdl, rky, rcd, rno, rsw, Value.category, List.filter, List.take, List.drop, List.reverse, List.reverseAux, List.cons_append, List.nil_append, Option.toList, Int.toNat, Int.reduceToNat, if_pos, if_neg, reduceIte, ↓reduceIte, Nat.reduceAdd, Nat.reduceEqDiff, Nat.reduceBEq, beq_self_eq_true, Bool.not_true, Bool.not_false, Bool.and_true, Bool.and_false, Bool.true_and, Bool.false_and, gI_sI, gI_sL, gI_sA, gI_sM, gL_sI, gL_sL, gL_sA, gL_sM, aI_sI, aI_sL, aI_sA, aI_sM, aL_sI, aL_sL, aL_sA, aL_sM, Bscope_0, Bscope_7, Bscope_16, Bscope_26, Bscope_37, Bscope_48, Bscope_54, Bscope_65, Bscope_90, Bscope_96, oi_1, oi_1000, oi_3, oi_8, oi_9, oi_m1]; try dsimp only
              unfold Qv_scopeZ
              try dsimp only
              have h9 : 9 ≤ a.1 ∧ a.1 ≤ 11 := by
                rw [← hT.1]
                have q : (9 : Int32) ≤ (aI σ 63 (gI σ 62 - 1).toNatClampNeg) := by lia
                have q := Int32.le_iff_toInt_le.mp q
                have q : (9 : Int) ≤ ((aI σ 63 (gI σ 62 - 1).toNatClampNeg)).toInt := q
                rw [hT.1] at q ⊢
                unfold rwkY at hr
                omega
              refine ⟨rfl, _, rfl, ?_⟩
              rw [nu_9 h9, ← hT.1, ← hT.2.1]
              exact sc_num (by rw [hT.2.1]; omega) (by rw [hT.2.1]; omega) (by rw [hT.1]; exact h9.1) (by rw [hT.1]; exact h9.2)
          · exfalso; lia
  next => exact hP.elim
theorem w_scopeZ : UMet 41 (fun _ _ => True) Qw_scopeZ := fun A1 σ _ w τ h z a F K_ hP => v_scopeZ z a F K_ A1 σ hP w τ h
def Pv_sameNameZ : UP1 := fun A1 σ => match A1 with
  | [.int t, .int u] => True
  | _ => False
def Qv_sameNameZ : UQ1 := fun A1 σ w τ => match A1 with
  | [.int t, .int u] => σ = τ ∧ ((w = some (.int 1) ∧ aL σ 7 t.toNatClampNeg = aL σ 7 u.toNatClampNeg ∧ aI σ 8 t.toNatClampNeg = aI σ 8 u.toNatClampNeg ∧ aI σ 5 t.toNatClampNeg = aI σ 5 u.toNatClampNeg) ∨ (w = some (.int 0) ∧ ¬ (aL σ 7 t.toNatClampNeg = aL σ 7 u.toNatClampNeg ∧ aI σ 8 t.toNatClampNeg = aI σ 8 u.toNatClampNeg ∧ aI σ 5 t.toNatClampNeg = aI σ 5 u.toNatClampNeg)))
  | _ => False
def Qw_sameNameZ : UQ1 := fun A1 σ w τ => Pv_sameNameZ A1 σ → Qv_sameNameZ A1 σ w τ
set_option maxRecDepth 100000 in
set_option maxHeartbeats 4000000 in
theorem v_sameNameZ : UMet 63 (Pv_sameNameZ) (Qv_sameNameZ) := by
  refine UMet.by BsameName [] rfl uc0 ?_
  intro A1 σ hP K hB hW
  unfold Pv_sameNameZ at hP
  split at hP
  next t u =>
    intro n0
    refine hB _ _ _ _ _ (fun m1 hm1 => ?_)
    dsimp only [ugo, uwp, ust, uct, rfd, BsameName, Nat.beq, lv_args, rlk, rs1, rs2, rdl, rky, rcd, rno, rsw, Value.category, List.filter, List.take, List.drop, List.reverse, List.reverseAux, List.cons_append, List.nil_append, Option.toList, Int.toNat, Int.reduceToNat, if_pos, if_neg, reduceIte, ↓reduceIte, Nat.reduceAdd, Nat.reduceEqDiff, Nat.reduceBEq, beq_self_eq_true, Bool.not_true, Bool.not_false, Bool.and_true, Bool.and_false, Bool.true_and, Bool.false_and, gI_sI, gI_sL, gI_sA, gI_sM, gL_sI, gL_sL, gL_sA, gL_sM, aI_sI, aI_sL, aI_sA, aI_sM, aL_sI, aL_sL, aL_sA, aL_sM, BsameName_0, BsameName_16, BsameName_31, BsameName_46, BsameName_50, BsameName_51, oi_0, oi_1]; try dsimp only
    intro p2
    intro p3
    refine ⟨fun h4 => ?_, fun h4 => ?_⟩
    · refine hB _ _ _ _ _ (fun m5 hm5 => ?_)
      dsimp only [ugo, uwp, ust, uct, rfd, BsameName, Nat.beq, lv_args, rlk, rs1, rs2, rdl, rky, rcd, rno, rsw, Value.category, List.filter, List.take, List.drop, List.reverse, List.reverseAux, List.cons_append, List.nil_append, Option.toList, Int.toNat, Int.reduceToNat, if_pos, if_neg, reduceIte, ↓reduceIte, Nat.reduceAdd, Nat.reduceEqDiff, Nat.reduceBEq, beq_self_eq_true, Bool.not_true, Bool.not_false, Bool.and_true, Bool.and_false, Bool.true_and, Bool.false_and, gI_sI, gI_sL, gI_sA, gI_sM, gL_sI, gL_sL, gL_sA, gL_sM, aI_sI, aI_sL, aI_sA, aI_sM, aL_sI, aL_sL, aL_sA, aL_sM, BsameName_0, BsameName_16, BsameName_31, BsameName_46, BsameName_50, BsameName_51, oi_0, oi_1]; try dsimp only
      refine hB _ _ _ _ _ (fun m6 hm6 => ?_)
      dsimp only [ugo, uwp, ust, uct, rfd, BsameName, Nat.beq, lv_args, rlk, rs1, rs2, rdl, rky, rcd, rno, rsw, Value.category, List.filter, List.take, List.drop, List.reverse, List.reverseAux, List.cons_append, List.nil_append, Option.toList, Int.toNat, Int.reduceToNat, if_pos, if_neg, reduceIte, ↓reduceIte, Nat.reduceAdd, Nat.reduceEqDiff, Nat.reduceBEq, beq_self_eq_true, Bool.not_true, Bool.not_false, Bool.and_true, Bool.and_false, Bool.true_and, Bool.false_and, gI_sI, gI_sL, gI_sA, gI_sM, gL_sI, gL_sL, gL_sA, gL_sM, aI_sI, aI_sL, aI_sA, aI_sM, aL_sI, aL_sL, aL_sA, aL_sM, BsameName_0, BsameName_16, BsameName_31, BsameName_46, BsameName_50, BsameName_51, oi_0, oi_1]; try dsimp only
      unfold Qv_sameNameZ
      try dsimp only
      exact ⟨rfl, Or.inr ⟨rfl, by rintro ⟨q1, q2, q3⟩; have e := wox.mpr q1; lia⟩⟩
    · refine hB _ _ _ _ _ (fun m7 hm7 => ?_)
      dsimp only [ugo, uwp, ust, uct, rfd, BsameName, Nat.beq, lv_args, rlk, rs1, rs2, rdl, rky, rcd, rno, rsw, Value.category, List.filter, List.take, List.drop, List.reverse, List.reverseAux, List.cons_append, List.nil_append, Option.toList, Int.toNat, Int.reduceToNat, if_pos, if_neg, reduceIte, ↓reduceIte, Nat.reduceAdd, Nat.reduceEqDiff, Nat.reduceBEq, beq_self_eq_true, Bool.not_true, Bool.not_false, Bool.and_true, Bool.and_false, Bool.true_and, Bool.false_and, gI_sI, gI_sL, gI_sA, gI_sM, gL_sI, gL_sL, gL_sA, gL_sM, aI_sI, aI_sL, aI_sA, aI_sM, aL_sI, aL_sL, aL_sA, aL_sM, BsameName_0, BsameName_16, BsameName_31, BsameName_46, BsameName_50, BsameName_51, oi_0, oi_1]; try dsimp only
      intro p8
      intro p9
      refine ⟨fun h10 => ?_, fun h10 => ?_⟩
      · refine hB _ _ _ _ _ (fun m11 hm11 => ?_)
        dsimp only [ugo, uwp, ust, uct, rfd, BsameName, Nat.beq, lv_args, rlk, rs1, rs2, rdl, rky, rcd, rno, rsw, Value.category, List.filter, List.take, List.drop, List.reverse, List.reverseAux, List.cons_append, List.nil_append, Option.toList, Int.toNat, Int.reduceToNat, if_pos, if_neg, reduceIte, ↓reduceIte, Nat.reduceAdd, Nat.reduceEqDiff, Nat.reduceBEq, beq_self_eq_true, Bool.not_true, Bool.not_false, Bool.and_true, Bool.and_false, Bool.true_and, Bool.false_and, gI_sI, gI_sL, gI_sA, gI_sM, gL_sI, gL_sL, gL_sA, gL_sM, aI_sI, aI_sL, aI_sA, aI_sM, aL_sI, aL_sL, aL_sA, aL_sM, BsameName_0, BsameName_16, BsameName_31, BsameName_46, BsameName_50, BsameName_51, oi_0, oi_1]; try dsimp only
        refine hB _ _ _ _ _ (fun m12 hm12 => ?_)
        dsimp only [ugo, uwp, ust, uct, rfd, BsameName, Nat.beq, lv_args, rlk, rs1, rs2, rdl, rky, rcd, rno, rsw, Value.category, List.filter, List.take, List.drop, List.reverse, List.reverseAux, List.cons_append, List.nil_append, Option.toList, Int.toNat, Int.reduceToNat, if_pos, if_neg, reduceIte, ↓reduceIte, Nat.reduceAdd, Nat.reduceEqDiff, Nat.reduceBEq, beq_self_eq_true, Bool.not_true, Bool.not_false, Bool.and_true, Bool.and_false, Bool.true_and, Bool.false_and, gI_sI, gI_sL, gI_sA, gI_sM, gL_sI, gL_sL, gL_sA, gL_sM, aI_sI, aI_sL, aI_sA, aI_sM, aL_sI, aL_sL, aL_sA, aL_sM, BsameName_0, BsameName_16, BsameName_31, BsameName_46, BsameName_50, BsameName_51, oi_0, oi_1]; try dsimp only
        unfold Qv_sameNameZ
        try dsimp only
        exact ⟨rfl, Or.inr ⟨rfl, by rintro ⟨q1, q2, q3⟩; lia⟩⟩
      · refine hB _ _ _ _ _ (fun m13 hm13 => ?_)
        dsimp only [ugo, uwp, ust, uct, rfd, BsameName, Nat.beq, lv_args, rlk, rs1, rs2, rdl, rky, rcd, rno, rsw, Value.category, List.filter, List.take, List.drop, List.reverse, List.reverseAux, List.cons_append, List.nil_append, Option.toList, Int.toNat, Int.reduceToNat, if_pos, if_neg, reduceIte, ↓reduceIte, Nat.reduceAdd, Nat.reduceEqDiff, Nat.reduceBEq, beq_self_eq_true, Bool.not_true, Bool.not_false, Bool.and_true, Bool.and_false, Bool.true_and, Bool.false_and, gI_sI, gI_sL, gI_sA, gI_sM, gL_sI, gL_sL, gL_sA, gL_sM, aI_sI, aI_sL, aI_sA, aI_sM, aL_sI, aL_sL, aL_sA, aL_sM, BsameName_0, BsameName_16, BsameName_31, BsameName_46, BsameName_50, BsameName_51, oi_0, oi_1]; try dsimp only
        intro p14
        intro p15
        refine ⟨fun h16 => ?_, fun h16 => ?_⟩
        · refine hB _ _ _ _ _ (fun m17 hm17 => ?_)
          dsimp only [ugo, uwp, ust, uct, rfd, BsameName, Nat.beq, lv_args, rlk, rs1, rs2, rdl, rky, rcd, rno, rsw, Value.category, List.filter, List.take, List.drop, List.reverse, List.reverseAux, List.cons_append, List.nil_append, Option.toList, Int.toNat, Int.reduceToNat, if_pos, if_neg, reduceIte, ↓reduceIte, Nat.reduceAdd, Nat.reduceEqDiff, Nat.reduceBEq, beq_self_eq_true, Bool.not_true, Bool.not_false, Bool.and_true, Bool.and_false, Bool.true_and, Bool.false_and, gI_sI, gI_sL, gI_sA, gI_sM, gL_sI, gL_sL, gL_sA, gL_sM, aI_sI, aI_sL, aI_sA, aI_sM, aL_sI, aL_sL, aL_sA, aL_sM, BsameName_0, BsameName_16, BsameName_31, BsameName_46, BsameName_50, BsameName_51, oi_0, oi_1]; try dsimp only
          refine hB _ _ _ _ _ (fun m18 hm18 => ?_)
          dsimp only [ugo, uwp, ust, uct, rfd, BsameName, Nat.beq, lv_args, rlk, rs1, rs2, rdl, rky, rcd, rno, rsw, Value.category, List.filter, List.take, List.drop, List.reverse, List.reverseAux, List.cons_append, List.nil_append, Option.toList, Int.toNat, Int.reduceToNat, if_pos, if_neg, reduceIte, ↓reduceIte, Nat.reduceAdd, Nat.reduceEqDiff, Nat.reduceBEq, beq_self_eq_true, Bool.not_true, Bool.not_false, Bool.and_true, Bool.and_false, Bool.true_and, Bool.false_and, gI_sI, gI_sL, gI_sA, gI_sM, gL_sI, gL_sL, gL_sA, gL_sM, aI_sI, aI_sL, aI_sA, aI_sM, aL_sI, aL_sL, aL_sA, aL_sM, BsameName_0, BsameName_16, BsameName_31, BsameName_46, BsameName_50, BsameName_51, oi_0, oi_1]; try dsimp only
          unfold Qv_sameNameZ
          try dsimp only
          exact ⟨rfl, Or.inr ⟨rfl, by rintro ⟨q1, q2, q3⟩; lia⟩⟩
        · refine hB _ _ _ _ _ (fun m19 hm19 => ?_)
          dsimp only [ugo, uwp, ust, uct, rfd, BsameName, Nat.beq, lv_args, rlk, rs1, rs2, rdl, rky, rcd, rno, rsw, Value.category, List.filter, List.take, List.drop, List.reverse, List.reverseAux, List.cons_append, List.nil_append, Option.toList, Int.toNat, Int.reduceToNat, if_pos, if_neg, reduceIte, ↓reduceIte, Nat.reduceAdd, Nat.reduceEqDiff, Nat.reduceBEq, beq_self_eq_true, Bool.not_true, Bool.not_false, Bool.and_true, Bool.and_false, Bool.true_and, Bool.false_and, gI_sI, gI_sL, gI_sA, gI_sM, gL_sI, gL_sL, gL_sA, gL_sM, aI_sI, aI_sL, aI_sA, aI_sM, aL_sI, aL_sL, aL_sA, aL_sM, BsameName_0, BsameName_16, BsameName_31, BsameName_46, BsameName_50, BsameName_51, oi_0, oi_1]; try dsimp only
          refine hB _ _ _ _ _ (fun m20 hm20 => ?_)
          dsimp only [ugo, uwp, ust, uct, rfd, BsameName, Nat.beq, lv_args, rlk, rs1, rs2, rdl, rky, rcd, rno, rsw, Value.category, List.filter, List.take, List.drop, List.reverse, List.reverseAux, List.cons_append, List.nil_append, Option.toList, Int.toNat, Int.reduceToNat, if_pos, if_neg, reduceIte, ↓reduceIte, Nat.reduceAdd, Nat.reduceEqDiff, Nat.reduceBEq, beq_self_eq_true, Bool.not_true, Bool.not_false, Bool.and_true, Bool.and_false, Bool.true_and, Bool.false_and, gI_sI, gI_sL, gI_sA, gI_sM, gL_sI, gL_sL, gL_sA, gL_sM, aI_sI, aI_sL, aI_sA, aI_sM, aL_sI, aL_sL, aL_sA, aL_sM, BsameName_0, BsameName_16, BsameName_31, BsameName_46, BsameName_50, BsameName_51, oi_0, oi_1]; try dsimp only
          unfold Qv_sameNameZ
          try dsimp only
          exact ⟨rfl, Or.inl ⟨rfl, wox.mp (by lia), by lia, by lia⟩⟩
  next => exact hP.elim
theorem w_sameNameZ : UMet 63 (fun _ _ => True) Qw_sameNameZ := fun A1 σ _ w τ h hP => v_sameNameZ A1 σ hP w τ h
def Pv_named_Z (N : Int → Int) (z : ZS) (F K_ : List FrZ) : UP1 := fun A1 σ => match A1 with
  | [.int t, .int on] => ZRx σ z F K_ ∧ NmZ N σ ∧ LbZ σ z F ∧ (0 ≤ t.toInt ∧ nT t < nT (gI σ 2) ∧ nT t ≤ 500 ∧ aI σ 3 (nT t) = 1) ∧ (on = 0 ∨ on = 1) ∧ 0 ≤ gI σ 62
  | _ => False
def Qv_named_Z (N : Int → Int) (z : ZS) (F K_ : List FrZ) : UQ1 := fun A1 σ w τ => match A1 with
  | [.int t, .int on] => σ = τ ∧ ∃ r : Int32, w = some (.int r) ∧ r.toInt = tgF N z (decide (on = 1)) t.toInt (-1, -1) F
  | _ => False
def Qw_named_Z : UQ1 := fun A1 σ w τ => ∀ (N : Int → Int) (z : ZS) (F K_ : List FrZ), Pv_named_Z N z F K_ A1 σ → Qv_named_Z N z F K_ A1 σ w τ
theorem fx_at {σ : RS} {z : ZS} {a : FrZ} {F : List FrZ} {f : Int32} (h : FxR σ z (a :: F)) (hf : f.toInt = (F.length : Int)) : (aI σ 63 f.toNatClampNeg).toInt = a.1 ∧ (aI σ 64 f.toNatClampNeg).toInt = (a.2.2.1.2 : Int) ∧ (¬ a.1 = 0 → (aI σ 60 a.2.2.1.2).toInt = fiS z a.2.1) := by
  have e : f.toNatClampNeg = F.length := nT_i hf
  rw [e]
  exact ⟨h.1.1, h.1.2, fun q => (h.2.1 q).2.2⟩
theorem i32_eqn {x : Int32} {n : Nat} (h : x.toInt = (n : Int)) : x.toNatClampNeg = n := nT_i h
theorem i32_pr {f : Int32} {n : Nat} (h : f.toInt = ((n + 1 : Nat) : Int)) : (f + -1).toInt = (n : Int) := by
  rw [Int32.toInt_add]
  have e : (-1 : Int32).toInt = -1 := rfl
  have a := f.toInt_lt
  rw [e, h, Int.bmod_eq_of_le (by omega) (by omega)]
  omega
theorem i32_p0 {f : Int32} (h : f.toInt = 0) : (f + -1).toInt = -1 := by
  rw [Int32.toInt_add, h]
  rfl
/-- the frame above -/
def UpZ (σ : RS) (u : Int × Int) (G : List FrZ) : Prop := ((G.length : Int) < (gI σ 62).toInt → u = ((aI σ 63 G.length).toInt, (aI σ 64 G.length).toInt)) ∧ (¬ (G.length : Int) < (gI σ 62).toInt → u = (-1, -1))
theorem FxR.up {σ : RS} {z : ZS} {a : FrZ} {G : List FrZ} (h : FxR σ z (a :: G)) (hl : (G.length : Int) < (gI σ 62).toInt) : UpZ σ (a.1, (a.2.2.1.2 : Int)) G := ⟨fun _ => by rw [h.1.1, h.1.2], fun q => absurd hl q⟩
theorem tg_l0 {N : Int → Int} {z : ZS} {on : Bool} {t : Int} {u : Int × Int} {a : FrZ} {F : List FrZ} (ht : 0 ≤ t) (h : ¬ (a.1 = 7 ∧ N (fiS z a.2.1) = N t)) : tgF N z on t u (a :: F) = tgF N z on t (a.1, (a.2.2.1.2 : Int)) F := by
  rw [tgF, if_neg (by omega), if_neg h]
theorem tg_l1 {N : Int → Int} {z : ZS} {t : Int} {u : Int × Int} {a : FrZ} {F : List FrZ} (ht : 0 ≤ t) (h : a.1 = 7 ∧ N (fiS z a.2.1) = N t) : tgF N z false t u (a :: F) = (a.2.2.1.2 : Int) := by
  rw [tgF, if_neg (by omega), if_pos h, if_pos rfl]
theorem tg_l2 {N : Int → Int} {z : ZS} {t : Int} {u : Int × Int} {a : FrZ} {F : List FrZ} (ht : 0 ≤ t) (h : a.1 = 7 ∧ N (fiS z a.2.1) = N t) : tgF N z true t u (a :: F) = if u.1 = 4 ∨ u.1 = 5 ∨ u.1 = 6 then u.2 else -2 := by
  rw [tgF, if_neg (by omega), if_pos h, if_neg (by decide)]
set_option maxRecDepth 100000 in
set_option maxHeartbeats 4000000 in
theorem v_named_Z (N : Int → Int) (z : ZS) (F K_ : List FrZ) : UMet 64 (Pv_named_Z N z F K_) (Qv_named_Z N z F K_) := by
  refine UMet.by Bnamed_ [(63, (fun _ _ => True), Qw_sameNameZ)] rfl (ucc w_sameNameZ uc0) ?_
  intro A1 σ hP K hB hW
  unfold Pv_named_Z at hP
  split at hP
  next t on =>
    obtain ⟨hZ, hN, hLb0, ht, hon, h62⟩ := hP
    have loop : ∀ (M : Nat) (f : Int32) (u : Int × Int) (G : List FrZ), f.toInt = (G.length : Int) - 1 → (G.length : Int) ≤ (gI σ 62).toInt → FxR σ z G → LbZ σ z G → UpZ σ u G → tgF N z (decide (on = 1)) t.toInt u G = tgF N z (decide (on = 1)) t.toInt (-1, -1) F → K M 7 [(0, .ref 1000), (1, .int t), (2, .int on), (3, .int f)] [] σ := by
      intro M
      induction M using Nat.strongRecOn with
      | ind M loop =>
        intro f u G hf hle hFx hLb hUp hTg
        refine hB _ _ _ _ _ (fun m1 hm1 => ?_)
        dsimp only [ugo, uwp, ust, uct, rfd, Bnamed_, Nat.beq, lv_args, rlk, rs1, rs2, rdl, rky, rcd, rno, rsw, Value.category, List.filter, List.take, List.drop, List.reverse, List.reverseAux, List.cons_append, List.nil_append, Option.toList, Int.toNat, Int.reduceToNat, if_pos, if_neg, reduceIte, ↓reduceIte, Nat.reduceAdd, Nat.reduceEqDiff, Nat.reduceBEq, beq_self_eq_true, Bool.not_true, Bool.not_false, Bool.and_true, Bool.and_false, Bool.true_and, Bool.false_and, gI_sI, gI_sL, gI_sA, gI_sM, gL_sI, gL_sL, gL_sA, gL_sM, aI_sI, aI_sL, aI_sA, aI_sM, aL_sI, aL_sL, aL_sA, aL_sM, Bnamed__0, Bnamed__7, Bnamed__11, Bnamed__22, Bnamed__41, Bnamed__44, Bnamed__48, Bnamed__55, Bnamed__65, Bnamed__76, Bnamed__78, Bnamed__86, Bnamed__92, Bnamed__99, Bnamed__110, Bnamed__112, Bnamed__113, Bnamed__119, oi_1, oi_4, oi_5, oi_6, oi_7, oi_m1, oi_m2]; try dsimp only
        refine ⟨fun h2 => ?_, fun h2 => ?_⟩
        · refine hB _ _ _ _ _ (fun m3 hm3 => ?_)
          dsimp only [ugo, uwp, ust, uct, rfd, Bnamed_, Nat.beq, lv_args, rlk, rs1, rs2, rdl, rky, rcd, rno, rsw, Value.category, List.filter, List.take, List.drop, List.reverse, List.reverseAux, List.cons_append, List.nil_append, Option.toList, Int.toNat, Int.reduceToNat, if_pos, if_neg, reduceIte, ↓reduceIte, Nat.reduceAdd, Nat.reduceEqDiff, Nat.reduceBEq, beq_self_eq_true, Bool.not_true, Bool.not_false, Bool.and_true, Bool.and_false, Bool.true_and, Bool.false_and, gI_sI, gI_sL, gI_sA, gI_sM, gL_sI, gL_sL, gL_sA, gL_sM, aI_sI, aI_sL, aI_sA, aI_sM, aL_sI, aL_sL, aL_sA, aL_sM, Bnamed__0, Bnamed__7, Bnamed__11, Bnamed__22, Bnamed__41, Bnamed__44, Bnamed__48, Bnamed__55, Bnamed__65, Bnamed__76, Bnamed__78, Bnamed__86, Bnamed__92, Bnamed__99, Bnamed__110, Bnamed__112, Bnamed__113, Bnamed__119, oi_1, oi_4, oi_5, oi_6, oi_7, oi_m1, oi_m2]; try dsimp only
          unfold Qv_named_Z
          try dsimp only
          have hG : G = [] := by
            cases G with
            | nil => rfl
            | cons a G' =>
              exfalso
              have q : f < (0 : Int32) := by lia
              have q := Int32.lt_iff_toInt_lt.mp q
              have q : f.toInt < 0 := q
              rw [hf, List.length_cons] at q
              omega
          subst hG
          exact ⟨rfl, _, rfl, by rw [← hTg]; rfl⟩
        · refine hB _ _ _ _ _ (fun m4 hm4 => ?_)
          dsimp only [ugo, uwp, ust, uct, rfd, Bnamed_, Nat.beq, lv_args, rlk, rs1, rs2, rdl, rky, rcd, rno, rsw, Value.category, List.filter, List.take, List.drop, List.reverse, List.reverseAux, List.cons_append, List.nil_append, Option.toList, Int.toNat, Int.reduceToNat, if_pos, if_neg, reduceIte, ↓reduceIte, Nat.reduceAdd, Nat.reduceEqDiff, Nat.reduceBEq, beq_self_eq_true, Bool.not_true, Bool.not_false, Bool.and_true, Bool.and_false, Bool.true_and, Bool.false_and, gI_sI, gI_sL, gI_sA, gI_sM, gL_sI, gL_sL, gL_sA, gL_sM, aI_sI, aI_sL, aI_sA, aI_sM, aL_sI, aL_sL, aL_sA, aL_sM, Bnamed__0, Bnamed__7, Bnamed__11, Bnamed__22, Bnamed__41, Bnamed__44, Bnamed__48, Bnamed__55, Bnamed__65, Bnamed__76, Bnamed__78, Bnamed__86, Bnamed__92, Bnamed__99, Bnamed__110, Bnamed__112, Bnamed__113, Bnamed__119, oi_1, oi_4, oi_5, oi_6, oi_7, oi_m1, oi_m2]; try dsimp only
          obtain ⟨a, G', rfl, hfl⟩ : ∃ a G', G = a :: G' ∧ f.toInt = (G'.length : Int) := by
            cases G with
            | nil =>
              have q : f.toInt = -1 := hf
              have q2 : (0 : Int32) ≤ f := by lia
              have q2 := Int32.le_iff_toInt_le.mp q2
              have q2 : 0 ≤ f.toInt := q2
              omega
            | cons a G' => exact ⟨a, G', rfl, by rw [hf, List.length_cons]; omega⟩
          have hA := fx_at hFx hfl
          have hpr : (f + -1).toInt = (G'.length : Int) - 1 := by
            cases G' with
            | nil => exact i32_p0 hfl
            | cons b H => rw [i32_pr (n := H.length) (by rw [hfl, List.length_cons]), List.length_cons]; omega
          have hl9 : (G'.length : Int) < (gI σ 62).toInt := by clear hTg hUp hFx hLb loop hA hpr; rw [List.length_cons] at hle; omega
          have hup := FxR.up hFx hl9
          intro p5
          refine ⟨fun h6 => ?_, fun h6 => ?_⟩
          · refine hB _ _ _ _ _ (fun m7 hm7 => ?_)
            dsimp only [ugo, uwp, ust, uct, rfd, Bnamed_, Nat.beq, lv_args, rlk, rs1, rs2, rdl, rky, rcd, rno, rsw, Value.category, List.filter, List.take, List.drop, List.reverse, List.reverseAux, List.cons_append, List.nil_append, Option.toList, Int.toNat, Int.reduceToNat, if_pos, if_neg, reduceIte, ↓reduceIte, Nat.reduceAdd, Nat.reduceEqDiff, Nat.reduceBEq, beq_self_eq_true, Bool.not_true, Bool.not_false, Bool.and_true, Bool.and_false, Bool.true_and, Bool.false_and, gI_sI, gI_sL, gI_sA, gI_sM, gL_sI, gL_sL, gL_sA, gL_sM, aI_sI, aI_sL, aI_sA, aI_sM, aL_sI, aL_sL, aL_sA, aL_sM, Bnamed__0, Bnamed__7, Bnamed__11, Bnamed__22, Bnamed__41, Bnamed__44, Bnamed__48, Bnamed__55, Bnamed__65, Bnamed__76, Bnamed__78, Bnamed__86, Bnamed__92, Bnamed__99, Bnamed__110, Bnamed__112, Bnamed__113, Bnamed__119, oi_1, oi_4, oi_5, oi_6, oi_7, oi_m1, oi_m2]; try dsimp only
            exact hW _ 7 [(0, .ref 1000), (1, .int t), (2, .int on), (3, .int (f + -1))] _ _ _ (by simp [rdl, rky]) (loop _ (by clear hA hTg hpr; omega) (f + -1) (a.1, (a.2.2.1.2 : Int)) G' hpr (Int.le_of_lt hl9) hFx.2.2 (fun b hb => hLb b (List.mem_cons_of_mem _ hb)) hup (by rw [← hTg, tg_l0 ht.1 (fun q => absurd (Int32.toInt_inj.mp (hA.1.trans (show a.1 = (7 : Int32).toInt from q.1))) (by clear hA hup hpr hTg hUp hFx hLb loop hN hLb0 hZ; lia))]))
          · refine hB _ _ _ _ _ (fun m8 hm8 => ?_)
            dsimp only [ugo, uwp, ust, uct, rfd, Bnamed_, Nat.beq, lv_args, rlk, rs1, rs2, rdl, rky, rcd, rno, rsw, Value.category, List.filter, List.take, List.drop, List.reverse, List.reverseAux, List.cons_append, List.nil_append, Option.toList, Int.toNat, Int.reduceToNat, if_pos, if_neg, reduceIte, ↓reduceIte, Nat.reduceAdd, Nat.reduceEqDiff, Nat.reduceBEq, beq_self_eq_true, Bool.not_true, Bool.not_false, Bool.and_true, Bool.and_false, Bool.true_and, Bool.false_and, gI_sI, gI_sL, gI_sA, gI_sM, gL_sI, gL_sL, gL_sA, gL_sM, aI_sI, aI_sL, aI_sA, aI_sM, aL_sI, aL_sL, aL_sA, aL_sM, Bnamed__0, Bnamed__7, Bnamed__11, Bnamed__22, Bnamed__41, Bnamed__44, Bnamed__48, Bnamed__55, Bnamed__65, Bnamed__76, Bnamed__78, Bnamed__86, Bnamed__92, Bnamed__99, Bnamed__110, Bnamed__112, Bnamed__113, Bnamed__119, oi_1, oi_4, oi_5, oi_6, oi_7, oi_m1, oi_m2]; try dsimp only
            have h7 : a.1 = 7 := by rw [← hA.1]; exact congrArg Int32.toInt (show aI σ 63 f.toNatClampNeg = 7 by clear hA hup hpr hTg hUp hFx hLb loop hN hLb0 hZ; lia)
            have hA3 := hA.2.2 (by rw [h7]; decide)
            obtain ⟨t7, e7, l7, b7, k7⟩ := (hLb a List.mem_cons_self).1 h7
            have en : (aI σ 60 (aI σ 64 f.toNatClampNeg).toNatClampNeg).toNatClampNeg = t7 := by
              have e1 : (aI σ 64 f.toNatClampNeg).toNatClampNeg = a.2.2.1.2 := nT_i hA.2.1
              rw [e1]
              exact nT_i (hA3.trans e7)
            have tt : t.toInt = (nT t : Int) := by have q9 := ht.1; clear hA hA3 hTg e7 hpr; show t.toInt = ((t.toInt.toNat : Nat) : Int); omega
            have hNm := hN t7 (nT t) l7 ht.2.1 b7 ht.2.2.1 k7 ht.2.2.2
            intro p9
            intro p10
            refine ⟨trivial, fun w11 τ11 hq11 => ?_⟩
            obtain ⟨rfl, hb11⟩ := hq11 trivial
            rw [en] at hb11
            rcases hb11 with ⟨rfl, hc11⟩ | ⟨rfl, hc11⟩
            · dsimp only [Option.toList, List.cons_append, List.nil_append, Nat.beq, gI_sI, gI_sL, gI_sA, gI_sM, gL_sI, gL_sL, gL_sA, gL_sM, aI_sI, aI_sL, aI_sA, aI_sM, aL_sI, aL_sL, aL_sA, aL_sM]
              have hNy := hNm.mp hc11
              refine ⟨fun h12 => ?_, fun h12 => absurd h12 (by decide)⟩
              clear h12
              refine hB _ _ _ _ _ (fun m13 hm13 => ?_)
              dsimp only [ugo, uwp, ust, uct, rfd, Bnamed_, Nat.beq, lv_args, rlk, rs1, rs2, rdl, rky, rcd, rno, rsw, Value.category, List.filter, List.take, List.drop, List.reverse, List.reverseAux, List.cons_append, List.nil_append, Option.toList, Int.toNat, Int.reduceToNat, if_pos, if_neg, reduceIte, ↓reduceIte, Nat.reduceAdd, Nat.reduceEqDiff, Nat.reduceBEq, beq_self_eq_true, Bool.not_true, Bool.not_false, Bool.and_true, Bool.and_false, Bool.true_and, Bool.false_and, gI_sI, gI_sL, gI_sA, gI_sM, gL_sI, gL_sL, gL_sA, gL_sM, aI_sI, aI_sL, aI_sA, aI_sM, aL_sI, aL_sL, aL_sA, aL_sM, Bnamed__0, Bnamed__7, Bnamed__11, Bnamed__22, Bnamed__41, Bnamed__44, Bnamed__48, Bnamed__55, Bnamed__65, Bnamed__76, Bnamed__78, Bnamed__86, Bnamed__92, Bnamed__99, Bnamed__110, Bnamed__112, Bnamed__113, Bnamed__119, oi_1, oi_4, oi_5, oi_6, oi_7, oi_m1, oi_m2]; try dsimp only
              refine ⟨fun h14 => ?_, fun h14 => ?_⟩
              · refine hB _ _ _ _ _ (fun m15 hm15 => ?_)
                dsimp only [ugo, uwp, ust, uct, rfd, Bnamed_, Nat.beq, lv_args, rlk, rs1, rs2, rdl, rky, rcd, rno, rsw, Value.category, List.filter, List.take, List.drop, List.reverse, List.reverseAux, List.cons_append, List.nil_append, Option.toList, Int.toNat, Int.reduceToNat, if_pos, if_neg, reduceIte, ↓reduceIte, Nat.reduceAdd, Nat.reduceEqDiff, Nat.reduceBEq, beq_self_eq_true, Bool.not_true, Bool.not_false, Bool.and_true, Bool.and_false, Bool.true_and, Bool.false_and, gI_sI, gI_sL, gI_sA, gI_sM, gL_sI, gL_sL, gL_sA, gL_sM, aI_sI, aI_sL, aI_sA, aI_sM, aL_sI, aL_sL, aL_sA, aL_sM, Bnamed__0, Bnamed__7, Bnamed__11, Bnamed__22, Bnamed__41, Bnamed__44, Bnamed__48, Bnamed__55, Bnamed__65, Bnamed__76, Bnamed__78, Bnamed__86, Bnamed__92, Bnamed__99, Bnamed__110, Bnamed__112, Bnamed__113, Bnamed__119, oi_1, oi_4, oi_5, oi_6, oi_7, oi_m1, oi_m2]; try dsimp only
                refine ⟨fun h16 => ?_, fun h16 => ?_⟩
                · refine hB _ _ _ _ _ (fun m17 hm17 => ?_)
                  dsimp only [ugo, uwp, ust, uct, rfd, Bnamed_, Nat.beq, lv_args, rlk, rs1, rs2, rdl, rky, rcd, rno, rsw, Value.category, List.filter, List.take, List.drop, List.reverse, List.reverseAux, List.cons_append, List.nil_append, Option.toList, Int.toNat, Int.reduceToNat, if_pos, if_neg, reduceIte, ↓reduceIte, Nat.reduceAdd, Nat.reduceEqDiff, Nat.reduceBEq, beq_self_eq_true, Bool.not_true, Bool.not_false, Bool.and_true, Bool.and_false, Bool.true_and, Bool.false_and, gI_sI, gI_sL, gI_sA, gI_sM, gL_sI, gL_sL, gL_sA, gL_sM, aI_sI, aI_sL, aI_sA, aI_sM, aL_sI, aL_sL, aL_sA, aL_sM, Bnamed__0, Bnamed__7, Bnamed__11, Bnamed__22, Bnamed__41, Bnamed__44, Bnamed__48, Bnamed__55, Bnamed__65, Bnamed__76, Bnamed__78, Bnamed__86, Bnamed__92, Bnamed__99, Bnamed__110, Bnamed__112, Bnamed__113, Bnamed__119, oi_1, oi_4, oi_5, oi_6, oi_7, oi_m1, oi_m2]; try dsimp only
                  refine hB _ _ _ _ _ (fun m18 hm18 => ?_)
                  dsimp only [ugo, uwp, ust, uct, rfd, Bnamed_, Nat.beq, lv_args, rlk, rs1, rs2, rdl, rky, rcd, rno, rsw, Value.category, List.filter, List.take, List.drop, List.reverse, List.reverseAux, List.cons_append, List.nil_append, Option.toList, Int.toNat, Int.reduceToNat, if_pos, if_neg, reduceIte, ↓reduceIte, Nat.reduceAdd, Nat.reduceEqDiff, Nat.reduceBEq, beq_self_eq_true, Bool.not_true, Bool.not_false, Bool.and_true, Bool.and_false, Bool.true_and, Bool.false_and, gI_sI, gI_sL, gI_sA, gI_sM, gL_sI, gL_sL, gL_sA, gL_sM, aI_sI, aI_sL, aI_sA, aI_sM, aL_sI, aL_sL, aL_sA, aL_sM, Bnamed__0, Bnamed__7, Bnamed__11, Bnamed__22, Bnamed__41, Bnamed__44, Bnamed__48, Bnamed__55, Bnamed__65, Bnamed__76, Bnamed__78, Bnamed__86, Bnamed__92, Bnamed__99, Bnamed__110, Bnamed__112, Bnamed__113, Bnamed__119, oi_1, oi_4, oi_5, oi_6, oi_7, oi_m1, oi_m2]; try dsimp only
                  refine ⟨fun h19 => absurd h19 (by decide), fun h19 => ?_⟩
                  clear h19
                  refine hB _ _ _ _ _ (fun m20 hm20 => ?_)
                  dsimp only [ugo, uwp, ust, uct, rfd, Bnamed_, Nat.beq, lv_args, rlk, rs1, rs2, rdl, rky, rcd, rno, rsw, Value.category, List.filter, List.take, List.drop, List.reverse, List.reverseAux, List.cons_append, List.nil_append, Option.toList, Int.toNat, Int.reduceToNat, if_pos, if_neg, reduceIte, ↓reduceIte, Nat.reduceAdd, Nat.reduceEqDiff, Nat.reduceBEq, beq_self_eq_true, Bool.not_true, Bool.not_false, Bool.and_true, Bool.and_false, Bool.true_and, Bool.false_and, gI_sI, gI_sL, gI_sA, gI_sM, gL_sI, gL_sL, gL_sA, gL_sM, aI_sI, aI_sL, aI_sA, aI_sM, aL_sI, aL_sL, aL_sA, aL_sM, Bnamed__0, Bnamed__7, Bnamed__11, Bnamed__22, Bnamed__41, Bnamed__44, Bnamed__48, Bnamed__55, Bnamed__65, Bnamed__76, Bnamed__78, Bnamed__86, Bnamed__92, Bnamed__99, Bnamed__110, Bnamed__112, Bnamed__113, Bnamed__119, oi_1, oi_4, oi_5, oi_6, oi_7, oi_m1, oi_m2]; try dsimp only
                  refine ⟨fun h21 => absurd h21 (by decide), fun h21 => ?_⟩
                  clear h21
                  refine hB _ _ _ _ _ (fun m22 hm22 => ?_)
                  dsimp only [ugo, uwp, ust, uct, rfd, Bnamed_, Nat.beq, lv_args, rlk, rs1, rs2, rdl, rky, rcd, rno, rsw, Value.category, List.filter, List.take, List.drop, List.reverse, List.reverseAux, List.cons_append, List.nil_append, Option.toList, Int.toNat, Int.reduceToNat, if_pos, if_neg, reduceIte, ↓reduceIte, Nat.reduceAdd, Nat.reduceEqDiff, Nat.reduceBEq, beq_self_eq_true, Bool.not_true, Bool.not_false, Bool.and_true, Bool.and_false, Bool.true_and, Bool.false_and, gI_sI, gI_sL, gI_sA, gI_sM, gL_sI, gL_sL, gL_sA, gL_sM, aI_sI, aI_sL, aI_sA, aI_sM, aL_sI, aL_sL, aL_sA, aL_sM, Bnamed__0, Bnamed__7, Bnamed__11, Bnamed__22, Bnamed__41, Bnamed__44, Bnamed__48, Bnamed__55, Bnamed__65, Bnamed__76, Bnamed__78, Bnamed__86, Bnamed__92, Bnamed__99, Bnamed__110, Bnamed__112, Bnamed__113, Bnamed__119, oi_1, oi_4, oi_5, oi_6, oi_7, oi_m1, oi_m2]; try dsimp only
                  refine ⟨fun h23 => ?_, fun h23 => absurd h23 (by decide)⟩
                  clear h23
                  refine hB _ _ _ _ _ (fun m24 hm24 => ?_)
                  dsimp only [ugo, uwp, ust, uct, rfd, Bnamed_, Nat.beq, lv_args, rlk, rs1, rs2, rdl, rky, rcd, rno, rsw, Value.category, List.filter, List.take, List.drop, List.reverse, List.reverseAux, List.cons_append, List.nil_append, Option.toList, Int.toNat, Int.reduceToNat, if_pos, if_neg, reduceIte, ↓reduceIte, Nat.reduceAdd, Nat.reduceEqDiff, Nat.reduceBEq, beq_self_eq_true, Bool.not_true, Bool.not_false, Bool.and_true, Bool.and_false, Bool.true_and, Bool.false_and, gI_sI, gI_sL, gI_sA, gI_sM, gL_sI, gL_sL, gL_sA, gL_sM, aI_sI, aI_sL, aI_sA, aI_sM, aL_sI, aL_sL, aL_sA, aL_sM, Bnamed__0, Bnamed__7, Bnamed__11, Bnamed__22, Bnamed__41, Bnamed__44, Bnamed__48, Bnamed__55, Bnamed__65, Bnamed__76, Bnamed__78, Bnamed__86, Bnamed__92, Bnamed__99, Bnamed__110, Bnamed__112, Bnamed__113, Bnamed__119, oi_1, oi_4, oi_5, oi_6, oi_7, oi_m1, oi_m2]; try dsimp only
                  refine hB _ _ _ _ _ (fun m25 hm25 => ?_)
                  dsimp only [ugo, uwp, ust, uct, rfd, Bnamed_, Nat.beq, lv_args, rlk, rs1, rs2, rdl, rky, rcd, rno, rsw, Value.category, List.filter, List.take, List.drop, List.reverse, List.reverseAux, List.cons_append, List.nil_append, Option.toList, Int.toNat, Int.reduceToNat, if_pos, if_neg, reduceIte, ↓reduceIte, Nat.reduceAdd, Nat.reduceEqDiff, Nat.reduceBEq, beq_self_eq_true, Bool.not_true, Bool.not_false, Bool.and_true, Bool.and_false, Bool.true_and, Bool.false_and, gI_sI, gI_sL, gI_sA, gI_sM, gL_sI, gL_sL, gL_sA, gL_sM, aI_sI, aI_sL, aI_sA, aI_sM, aL_sI, aL_sL, aL_sA, aL_sM, Bnamed__0, Bnamed__7, Bnamed__11, Bnamed__22, Bnamed__41, Bnamed__44, Bnamed__48, Bnamed__55, Bnamed__65, Bnamed__76, Bnamed__78, Bnamed__86, Bnamed__92, Bnamed__99, Bnamed__110, Bnamed__112, Bnamed__113, Bnamed__119, oi_1, oi_4, oi_5, oi_6, oi_7, oi_m1, oi_m2]; try dsimp only
                  unfold Qv_named_Z
                  try dsimp only
                  have ho : on = 1 := hon.resolve_left (by clear hA hup hpr hTg hUp hFx hLb loop hN hLb0 hZ hA3 hNm hNy e7; lia)
                  subst ho
                  have hd : decide ((1 : Int32) = 1) = true := by decide
                  rw [hd] at hTg
                  have hr9 := hTg.symm.trans (tg_l2 ht.1 ⟨h7, by rw [e7, tt]; exact hNy⟩)
                  refine ⟨rfl, _, rfl, ?_⟩
                  rw [hd, hr9]
                  clear hr9
                  have fl : (f + 1).toInt = ((G'.length + 1 : Nat) : Int) := by
                    clear hA hA3 hTg e7 tt hNm hNy h7 hpr hf en hup
                    have q := hle
                    have r := (gI σ 62).toInt_lt
                    rw [List.length_cons] at q
                    rw [Int32.toInt_add, hfl]
                    have e : (1 : Int32).toInt = 1 := rfl
                    rw [e, Int.bmod_eq_of_le (by omega) (by omega)]
                    omega
                  have fn : (f + 1).toNatClampNeg = G'.length + 1 := nT_i fl
                  have lt : ¬ ((a :: G').length : Int) < (gI σ 62).toInt := by
                    intro q
                    have q : f + 1 < gI σ 62 := Int32.lt_iff_toInt_lt.mpr (by rw [fl]; exact q)
                    clear hA hup hpr hTg hUp hFx hLb loop hN hLb0 hZ hA3 hNm hNy e7; lia
                  rw [hUp.2 lt]
                  rfl
                · refine hB _ _ _ _ _ (fun m26 hm26 => ?_)
                  dsimp only [ugo, uwp, ust, uct, rfd, Bnamed_, Nat.beq, lv_args, rlk, rs1, rs2, rdl, rky, rcd, rno, rsw, Value.category, List.filter, List.take, List.drop, List.reverse, List.reverseAux, List.cons_append, List.nil_append, Option.toList, Int.toNat, Int.reduceToNat, if_pos, if_neg, reduceIte, ↓reduceIte, Nat.reduceAdd, Nat.reduceEqDiff, Nat.reduceBEq, beq_self_eq_true, Bool.not_true, Bool.not_false, Bool.and_true, Bool.and_false, Bool.true_and, Bool.false_and, gI_sI, gI_sL, gI_sA, gI_sM, gL_sI, gL_sL, gL_sA, gL_sM, aI_sI, aI_sL, aI_sA, aI_sM, aL_sI, aL_sL, aL_sA, aL_sM, Bnamed__0, Bnamed__7, Bnamed__11, Bnamed__22, Bnamed__41, Bnamed__44, Bnamed__48, Bnamed__55, Bnamed__65, Bnamed__76, Bnamed__78, Bnamed__86, Bnamed__92, Bnamed__99, Bnamed__110, Bnamed__112, Bnamed__113, Bnamed__119, oi_1, oi_4, oi_5, oi_6, oi_7, oi_m1, oi_m2]; try dsimp only
                  intro p27
                  refine hB _ _ _ _ _ (fun m28 hm28 => ?_)
                  dsimp only [ugo, uwp, ust, uct, rfd, Bnamed_, Nat.beq, lv_args, rlk, rs1, rs2, rdl, rky, rcd, rno, rsw, Value.category, List.filter, List.take, List.drop, List.reverse, List.reverseAux, List.cons_append, List.nil_append, Option.toList, Int.toNat, Int.reduceToNat, if_pos, if_neg, reduceIte, ↓reduceIte, Nat.reduceAdd, Nat.reduceEqDiff, Nat.reduceBEq, beq_self_eq_true, Bool.not_true, Bool.not_false, Bool.and_true, Bool.and_false, Bool.true_and, Bool.false_and, gI_sI, gI_sL, gI_sA, gI_sM, gL_sI, gL_sL, gL_sA, gL_sM, aI_sI, aI_sL, aI_sA, aI_sM, aL_sI, aL_sL, aL_sA, aL_sM, Bnamed__0, Bnamed__7, Bnamed__11, Bnamed__22, Bnamed__41, Bnamed__44, Bnamed__48, Bnamed__55, Bnamed__65, Bnamed__76, Bnamed__78, Bnamed__86, Bnamed__92, Bnamed__99, Bnamed__110, Bnamed__112, Bnamed__113, Bnamed__119, oi_1, oi_4, oi_5, oi_6, oi_7, oi_m1, oi_m2]; try dsimp only
                  refine ⟨fun h29 => ?_, fun h29 => ?_⟩
                  · refine hB _ _ _ _ _ (fun m30 hm30 => ?_)
                    dsimp only [ugo, uwp, ust, uct, rfd, Bnamed_, Nat.beq, lv_args, rlk, rs1, rs2, rdl, rky, rcd, rno, rsw, Value.category, List.filter, List.take, List.drop, List.reverse, List.reverseAux, List.cons_append, List.nil_append, Option.toList, Int.toNat, Int.reduceToNat, if_pos, if_neg, reduceIte, ↓reduceIte, Nat.reduceAdd, Nat.reduceEqDiff, Nat.reduceBEq, beq_self_eq_true, Bool.not_true, Bool.not_false, Bool.and_true, Bool.and_false, Bool.true_and, Bool.false_and, gI_sI, gI_sL, gI_sA, gI_sM, gL_sI, gL_sL, gL_sA, gL_sM, aI_sI, aI_sL, aI_sA, aI_sM, aL_sI, aL_sL, aL_sA, aL_sM, Bnamed__0, Bnamed__7, Bnamed__11, Bnamed__22, Bnamed__41, Bnamed__44, Bnamed__48, Bnamed__55, Bnamed__65, Bnamed__76, Bnamed__78, Bnamed__86, Bnamed__92, Bnamed__99, Bnamed__110, Bnamed__112, Bnamed__113, Bnamed__119, oi_1, oi_4, oi_5, oi_6, oi_7, oi_m1, oi_m2]; try dsimp only
                    intro p31
                    refine hB _ _ _ _ _ (fun m32 hm32 => ?_)
                    dsimp only [ugo, uwp, ust, uct, rfd, Bnamed_, Nat.beq, lv_args, rlk, rs1, rs2, rdl, rky, rcd, rno, rsw, Value.category, List.filter, List.take, List.drop, List.reverse, List.reverseAux, List.cons_append, List.nil_append, Option.toList, Int.toNat, Int.reduceToNat, if_pos, if_neg, reduceIte, ↓reduceIte, Nat.reduceAdd, Nat.reduceEqDiff, Nat.reduceBEq, beq_self_eq_true, Bool.not_true, Bool.not_false, Bool.and_true, Bool.and_false, Bool.true_and, Bool.false_and, gI_sI, gI_sL, gI_sA, gI_sM, gL_sI, gL_sL, gL_sA, gL_sM, aI_sI, aI_sL, aI_sA, aI_sM, aL_sI, aL_sL, aL_sA, aL_sM, Bnamed__0, Bnamed__7, Bnamed__11, Bnamed__22, Bnamed__41, Bnamed__44, Bnamed__48, Bnamed__55, Bnamed__65, Bnamed__76, Bnamed__78, Bnamed__86, Bnamed__92, Bnamed__99, Bnamed__110, Bnamed__112, Bnamed__113, Bnamed__119, oi_1, oi_4, oi_5, oi_6, oi_7, oi_m1, oi_m2]; try dsimp only
                    unfold Qv_named_Z
                    try dsimp only
                    have ho : on = 1 := hon.resolve_left (by clear hA hup hpr hTg hUp hFx hLb loop hN hLb0 hZ hA3 hNm hNy e7; lia)
                    subst ho
                    have hd : decide ((1 : Int32) = 1) = true := by decide
                    rw [hd] at hTg
                    have hr9 := hTg.symm.trans (tg_l2 ht.1 ⟨h7, by rw [e7, tt]; exact hNy⟩)
                    refine ⟨rfl, _, rfl, ?_⟩
                    rw [hd, hr9]
                    clear hr9
                    have fl : (f + 1).toInt = ((G'.length + 1 : Nat) : Int) := by
                      clear hA hA3 hTg e7 tt hNm hNy h7 hpr hf en hup
                      have q := hle
                      have r := (gI σ 62).toInt_lt
                      rw [List.length_cons] at q
                      rw [Int32.toInt_add, hfl]
                      have e : (1 : Int32).toInt = 1 := rfl
                      rw [e, Int.bmod_eq_of_le (by omega) (by omega)]
                      omega
                    have fn : (f + 1).toNatClampNeg = G'.length + 1 := nT_i fl
                    have lt : ((a :: G').length : Int) < (gI σ 62).toInt := by
                      have q : f + 1 < gI σ 62 := by clear hA hup hpr hTg hUp hFx hLb loop hN hLb0 hZ hA3 hNm hNy e7; lia
                      have q := Int32.lt_iff_toInt_lt.mp q
                      rw [fl] at q
                      exact q
                    have hu := hUp.1 lt
                    rw [List.length_cons] at hu
                    rw [hu]
                    have hs : aI σ 63 (f + 1).toNatClampNeg = 4 ∨ aI σ 63 (f + 1).toNatClampNeg = 5 ∨ aI σ 63 (f + 1).toNatClampNeg = 6 := by clear hA hup hpr hTg hUp hFx hLb loop hN hLb0 hZ hA3 hNm hNy e7; lia
                    rw [fn] at hs ⊢
                    rw [if_pos (by rcases hs with hs | hs | hs <;> (rw [hs]; dsimp only; decide))]
                  · refine hB _ _ _ _ _ (fun m33 hm33 => ?_)
                    dsimp only [ugo, uwp, ust, uct, rfd, Bnamed_, Nat.beq, lv_args, rlk, rs1, rs2, rdl, rky, rcd, rno, rsw, Value.category, List.filter, List.take, List.drop, List.reverse, List.reverseAux, List.cons_append, List.nil_append, Option.toList, Int.toNat, Int.reduceToNat, if_pos, if_neg, reduceIte, ↓reduceIte, Nat.reduceAdd, Nat.reduceEqDiff, Nat.reduceBEq, beq_self_eq_true, Bool.not_true, Bool.not_false, Bool.and_true, Bool.and_false, Bool.true_and, Bool.false_and, gI_sI, gI_sL, gI_sA, gI_sM, gL_sI, gL_sL, gL_sA, gL_sM, aI_sI, aI_sL, aI_sA, aI_sM, aL_sI, aL_sL, aL_sA, aL_sM, Bnamed__0, Bnamed__7, Bnamed__11, Bnamed__22, Bnamed__41, Bnamed__44, Bnamed__48, Bnamed__55, Bnamed__65, Bnamed__76, Bnamed__78, Bnamed__86, Bnamed__92, Bnamed__99, Bnamed__110, Bnamed__112, Bnamed__113, Bnamed__119, oi_1, oi_4, oi_5, oi_6, oi_7, oi_m1, oi_m2]; try dsimp only
                    refine ⟨fun h34 => ?_, fun h34 => ?_⟩
                    · refine hB _ _ _ _ _ (fun m35 hm35 => ?_)
                      dsimp only [ugo, uwp, ust, uct, rfd, Bnamed_, Nat.beq, lv_args, rlk, rs1, rs2, rdl, rky, rcd, rno, rsw, Value.category, List.filter, List.take, List.drop, List.reverse, List.reverseAux, List.cons_append, List.nil_append, Option.toList, Int.toNat, Int.reduceToNat, if_pos, if_neg, reduceIte, ↓reduceIte, Nat.reduceAdd, Nat.reduceEqDiff, Nat.reduceBEq, beq_self_eq_true, Bool.not_true, Bool.not_false, Bool.and_true, Bool.and_false, Bool.true_and, Bool.false_and, gI_sI, gI_sL, gI_sA, gI_sM, gL_sI, gL_sL, gL_sA, gL_sM, aI_sI, aI_sL, aI_sA, aI_sM, aL_sI, aL_sL, aL_sA, aL_sM, Bnamed__0, Bnamed__7, Bnamed__11, Bnamed__22, Bnamed__41, Bnamed__44, Bnamed__48, Bnamed__55, Bnamed__65, Bnamed__76, Bnamed__78, Bnamed__86, Bnamed__92, Bnamed__99, Bnamed__110, Bnamed__112, Bnamed__113, Bnamed__119, oi_1, oi_4, oi_5, oi_6, oi_7, oi_m1, oi_m2]; try dsimp only
                      intro p36
                      refine hB _ _ _ _ _ (fun m37 hm37 => ?_)
                      dsimp only [ugo, uwp, ust, uct, rfd, Bnamed_, Nat.beq, lv_args, rlk, rs1, rs2, rdl, rky, rcd, rno, rsw, Value.category, List.filter, List.take, List.drop, List.reverse, List.reverseAux, List.cons_append, List.nil_append, Option.toList, Int.toNat, Int.reduceToNat, if_pos, if_neg, reduceIte, ↓reduceIte, Nat.reduceAdd, Nat.reduceEqDiff, Nat.reduceBEq, beq_self_eq_true, Bool.not_true, Bool.not_false, Bool.and_true, Bool.and_false, Bool.true_and, Bool.false_and, gI_sI, gI_sL, gI_sA, gI_sM, gL_sI, gL_sL, gL_sA, gL_sM, aI_sI, aI_sL, aI_sA, aI_sM, aL_sI, aL_sL, aL_sA, aL_sM, Bnamed__0, Bnamed__7, Bnamed__11, Bnamed__22, Bnamed__41, Bnamed__44, Bnamed__48, Bnamed__55, Bnamed__65, Bnamed__76, Bnamed__78, Bnamed__86, Bnamed__92, Bnamed__99, Bnamed__110, Bnamed__112, Bnamed__113, Bnamed__119, oi_1, oi_4, oi_5, oi_6, oi_7, oi_m1, oi_m2]; try dsimp only
                      unfold Qv_named_Z
                      try dsimp only
                      have ho : on = 1 := hon.resolve_left (by clear hA hup hpr hTg hUp hFx hLb loop hN hLb0 hZ hA3 hNm hNy e7; lia)
                      subst ho
                      have hd : decide ((1 : Int32) = 1) = true := by decide
                      rw [hd] at hTg
                      have hr9 := hTg.symm.trans (tg_l2 ht.1 ⟨h7, by rw [e7, tt]; exact hNy⟩)
                      refine ⟨rfl, _, rfl, ?_⟩
                      rw [hd, hr9]
                      clear hr9
                      have fl : (f + 1).toInt = ((G'.length + 1 : Nat) : Int) := by
                        clear hA hA3 hTg e7 tt hNm hNy h7 hpr hf en hup
                        have q := hle
                        have r := (gI σ 62).toInt_lt
                        rw [List.length_cons] at q
                        rw [Int32.toInt_add, hfl]
                        have e : (1 : Int32).toInt = 1 := rfl
                        rw [e, Int.bmod_eq_of_le (by omega) (by omega)]
                        omega
                      have fn : (f + 1).toNatClampNeg = G'.length + 1 := nT_i fl
                      have lt : ((a :: G').length : Int) < (gI σ 62).toInt := by
                        have q : f + 1 < gI σ 62 := by clear hA hup hpr hTg hUp hFx hLb loop hN hLb0 hZ hA3 hNm hNy e7; lia
                        have q := Int32.lt_iff_toInt_lt.mp q
                        rw [fl] at q
                        exact q
                      have hu := hUp.1 lt
                      rw [List.length_cons] at hu
                      rw [hu]
                      have hs : aI σ 63 (f + 1).toNatClampNeg = 4 ∨ aI σ 63 (f + 1).toNatClampNeg = 5 ∨ aI σ 63 (f + 1).toNatClampNeg = 6 := by clear hA hup hpr hTg hUp hFx hLb loop hN hLb0 hZ hA3 hNm hNy e7; lia
                      rw [fn] at hs ⊢
                      rw [if_pos (by rcases hs with hs | hs | hs <;> (rw [hs]; dsimp only; decide))]
                    · refine hB _ _ _ _ _ (fun m38 hm38 => ?_)
                      dsimp only [ugo, uwp, ust, uct, rfd, Bnamed_, Nat.beq, lv_args, rlk, rs1, rs2, rdl, rky, rcd, rno, rsw, Value.category, List.filter, List.take, List.drop, List.reverse, List.reverseAux, List.cons_append, List.nil_append, Option.toList, Int.toNat, Int.reduceToNat, if_pos, if_neg, reduceIte, ↓reduceIte, Nat.reduceAdd, Nat.reduceEqDiff, Nat.reduceBEq, beq_self_eq_true, Bool.not_true, Bool.not_false, Bool.and_true, Bool.and_false, Bool.true_and, Bool.false_and, gI_sI, gI_sL, gI_sA, gI_sM, gL_sI, gL_sL, gL_sA, gL_sM, aI_sI, aI_sL, aI_sA, aI_sM, aL_sI, aL_sL, aL_sA, aL_sM, Bnamed__0, Bnamed__7, Bnamed__11, Bnamed__22, Bnamed__41, Bnamed__44, Bnamed__48, Bnamed__55, Bnamed__65, Bnamed__76, Bnamed__78, Bnamed__86, Bnamed__92, Bnamed__99, Bnamed__110, Bnamed__112, Bnamed__113, Bnamed__119, oi_1, oi_4, oi_5, oi_6, oi_7, oi_m1, oi_m2]; try dsimp only
                      refine ⟨fun h39 => ?_, fun h39 => ?_⟩
                      · refine hB _ _ _ _ _ (fun m40 hm40 => ?_)
                        dsimp only [ugo, uwp, ust, uct, rfd, Bnamed_, Nat.beq, lv_args, rlk, rs1, rs2, rdl, rky, rcd, rno, rsw, Value.category, List.filter, List.take, List.drop, List.reverse, List.reverseAux, List.cons_append, List.nil_append, Option.toList, Int.toNat, Int.reduceToNat, if_pos, if_neg, reduceIte, ↓reduceIte, Nat.reduceAdd, Nat.reduceEqDiff, Nat.reduceBEq, beq_self_eq_true, Bool.not_true, Bool.not_false, Bool.and_true, Bool.and_false, Bool.true_and, Bool.false_and, gI_sI, gI_sL, gI_sA, gI_sM, gL_sI, gL_sL, gL_sA, gL_sM, aI_sI, aI_sL, aI_sA, aI_sM, aL_sI, aL_sL, aL_sA, aL_sM, Bnamed__0, Bnamed__7, Bnamed__11, Bnamed__22, Bnamed__41, Bnamed__44, Bnamed__48, Bnamed__55, Bnamed__65, Bnamed__76, Bnamed__78, Bnamed__86, Bnamed__92, Bnamed__99, Bnamed__110, Bnamed__112, Bnamed__113, Bnamed__119, oi_1, oi_4, oi_5, oi_6, oi_7, oi_m1, oi_m2]; try dsimp only
                        refine hB _ _ _ _ _ (fun m41 hm41 => ?_)
                        dsimp only [ugo, uwp, ust, uct, rfd, Bnamed_, Nat.beq, lv_args, rlk, rs1, rs2, rdl, rky, rcd, rno, rsw, Value.category, List.filter, List.take, List.drop, List.reverse, List.reverseAux, List.cons_append, List.nil_append, Option.toList, Int.toNat, Int.reduceToNat, if_pos, if_neg, reduceIte, ↓reduceIte, Nat.reduceAdd, Nat.reduceEqDiff, Nat.reduceBEq, beq_self_eq_true, Bool.not_true, Bool.not_false, Bool.and_true, Bool.and_false, Bool.true_and, Bool.false_and, gI_sI, gI_sL, gI_sA, gI_sM, gL_sI, gL_sL, gL_sA, gL_sM, aI_sI, aI_sL, aI_sA, aI_sM, aL_sI, aL_sL, aL_sA, aL_sM, Bnamed__0, Bnamed__7, Bnamed__11, Bnamed__22, Bnamed__41, Bnamed__44, Bnamed__48, Bnamed__55, Bnamed__65, Bnamed__76, Bnamed__78, Bnamed__86, Bnamed__92, Bnamed__99, Bnamed__110, Bnamed__112, Bnamed__113, Bnamed__119, oi_1, oi_4, oi_5, oi_6, oi_7, oi_m1, oi_m2]; try dsimp only
                        unfold Qv_named_Z
                        try dsimp only
                        have ho : on = 1 := hon.resolve_left (by clear hA hup hpr hTg hUp hFx hLb loop hN hLb0 hZ hA3 hNm hNy e7; lia)
                        subst ho
                        have hd : decide ((1 : Int32) = 1) = true := by decide
                        rw [hd] at hTg
                        have hr9 := hTg.symm.trans (tg_l2 ht.1 ⟨h7, by rw [e7, tt]; exact hNy⟩)
                        refine ⟨rfl, _, rfl, ?_⟩
                        rw [hd, hr9]
                        clear hr9
                        have fl : (f + 1).toInt = ((G'.length + 1 : Nat) : Int) := by
                          clear hA hA3 hTg e7 tt hNm hNy h7 hpr hf en hup
                          have q := hle
                          have r := (gI σ 62).toInt_lt
                          rw [List.length_cons] at q
                          rw [Int32.toInt_add, hfl]
                          have e : (1 : Int32).toInt = 1 := rfl
                          rw [e, Int.bmod_eq_of_le (by omega) (by omega)]
                          omega
                        have fn : (f + 1).toNatClampNeg = G'.length + 1 := nT_i fl
                        have lt : ((a :: G').length : Int) < (gI σ 62).toInt := by
                          have q : f + 1 < gI σ 62 := by clear hA hup hpr hTg hUp hFx hLb loop hN hLb0 hZ hA3 hNm hNy e7; lia
                          have q := Int32.lt_iff_toInt_lt.mp q
                          rw [fl] at q
                          exact q
                        have hu := hUp.1 lt
                        rw [List.length_cons] at hu
                        rw [hu]
                        have hs : ¬ aI σ 63 (f + 1).toNatClampNeg = 4 ∧ ¬ aI σ 63 (f + 1).toNatClampNeg = 5 ∧ ¬ aI σ 63 (f + 1).toNatClampNeg = 6 := by clear hA hup hpr hTg hUp hFx hLb loop hN hLb0 hZ hA3 hNm hNy e7; lia
                        rw [fn] at hs
                        rw [if_neg (fun q => by rcases q with q | q | q; exact hs.1 (Int32.toInt_inj.mp q); exact hs.2.1 (Int32.toInt_inj.mp q); exact hs.2.2 (Int32.toInt_inj.mp q))]
                        rfl
                      · refine hB _ _ _ _ _ (fun m42 hm42 => ?_)
                        dsimp only [ugo, uwp, ust, uct, rfd, Bnamed_, Nat.beq, lv_args, rlk, rs1, rs2, rdl, rky, rcd, rno, rsw, Value.category, List.filter, List.take, List.drop, List.reverse, List.reverseAux, List.cons_append, List.nil_append, Option.toList, Int.toNat, Int.reduceToNat, if_pos, if_neg, reduceIte, ↓reduceIte, Nat.reduceAdd, Nat.reduceEqDiff, Nat.reduceBEq, beq_self_eq_true, Bool.not_true, Bool.not_false, Bool.and_true, Bool.and_false, Bool.true_and, Bool.false_and, gI_sI, gI_sL, gI_sA, gI_sM, gL_sI, gL_sL, gL_sA, gL_sM, aI_sI, aI_sL, aI_sA, aI_sM, aL_sI, aL_sL, aL_sA, aL_sM, Bnamed__0, Bnamed__7, Bnamed__11, Bnamed__22, Bnamed__41, Bnamed__44, Bnamed__48, Bnamed__55, Bnamed__65, Bnamed__76, Bnamed__78, Bnamed__86, Bnamed__92, Bnamed__99, Bnamed__110, Bnamed__112, Bnamed__113, Bnamed__119, oi_1, oi_4, oi_5, oi_6, oi_7, oi_m1, oi_m2]; try dsimp only
                        intro p43
                        refine hB _ _ _ _ _ (fun m44 hm44 => ?_)
                        dsimp only [ugo, uwp, ust, uct, rfd, Bnamed_, Nat.beq, lv_args, rlk, rs1, rs2, rdl, rky, rcd, rno, rsw, Value.category, List.filter, List.take, List.drop, List.reverse, List.reverseAux, List.cons_append, List.nil_append, Option.toList, Int.toNat, Int.reduceToNat, if_pos, if_neg, reduceIte, ↓reduceIte, Nat.reduceAdd, Nat.reduceEqDiff, Nat.reduceBEq, beq_self_eq_true, Bool.not_true, Bool.not_false, Bool.and_true, Bool.and_false, Bool.true_and, Bool.false_and, gI_sI, gI_sL, gI_sA, gI_sM, gL_sI, gL_sL, gL_sA, gL_sM, aI_sI, aI_sL, aI_sA, aI_sM, aL_sI, aL_sL, aL_sA, aL_sM, Bnamed__0, Bnamed__7, Bnamed__11, Bnamed__22, Bnamed__41, Bnamed__44, Bnamed__48, Bnamed__55, Bnamed__65, Bnamed__76, Bnamed__78, Bnamed__86, Bnamed__92, Bnamed__99, Bnamed__110, Bnamed__112, Bnamed__113, Bnamed__119, oi_1, oi_4, oi_5, oi_6, oi_7, oi_m1, oi_m2]; try dsimp only
                        unfold Qv_named_Z
                        try dsimp only
                        have ho : on = 1 := hon.resolve_left (by clear hA hup hpr hTg hUp hFx hLb loop hN hLb0 hZ hA3 hNm hNy e7; lia)
                        subst ho
                        have hd : decide ((1 : Int32) = 1) = true := by decide
                        rw [hd] at hTg
                        have hr9 := hTg.symm.trans (tg_l2 ht.1 ⟨h7, by rw [e7, tt]; exact hNy⟩)
                        refine ⟨rfl, _, rfl, ?_⟩
                        rw [hd, hr9]
                        clear hr9
                        have fl : (f + 1).toInt = ((G'.length + 1 : Nat) : Int) := by
                          clear hA hA3 hTg e7 tt hNm hNy h7 hpr hf en hup
                          have q := hle
                          have r := (gI σ 62).toInt_lt
                          rw [List.length_cons] at q
                          rw [Int32.toInt_add, hfl]
                          have e : (1 : Int32).toInt = 1 := rfl
                          rw [e, Int.bmod_eq_of_le (by omega) (by omega)]
                          omega
                        have fn : (f + 1).toNatClampNeg = G'.length + 1 := nT_i fl
                        have lt : ((a :: G').length : Int) < (gI σ 62).toInt := by
                          have q : f + 1 < gI σ 62 := by clear hA hup hpr hTg hUp hFx hLb loop hN hLb0 hZ hA3 hNm hNy e7; lia
                          have q := Int32.lt_iff_toInt_lt.mp q
                          rw [fl] at q
                          exact q
                        have hu := hUp.1 lt
                        rw [List.length_cons] at hu
                        rw [hu]
                        have hs : aI σ 63 (f + 1).toNatClampNeg = 4 ∨ aI σ 63 (f + 1).toNatClampNeg = 5 ∨ aI σ 63 (f + 1).toNatClampNeg = 6 := by clear hA hup hpr hTg hUp hFx hLb loop hN hLb0 hZ hA3 hNm hNy e7; lia
                        rw [fn] at hs ⊢
                        rw [if_pos (by rcases hs with hs | hs | hs <;> (rw [hs]; dsimp only; decide))]
              · refine hB _ _ _ _ _ (fun m45 hm45 => ?_)
                dsimp only [ugo, uwp, ust, uct, rfd, Bnamed_, Nat.beq, lv_args, rlk, rs1, rs2, rdl, rky, rcd, rno, rsw, Value.category, List.filter, List.take, List.drop, List.reverse, List.reverseAux, List.cons_append, List.nil_append, Option.toList, Int.toNat, Int.reduceToNat, if_pos, if_neg, reduceIte, ↓reduceIte, Nat.reduceAdd, Nat.reduceEqDiff, Nat.reduceBEq, beq_self_eq_true, Bool.not_true, Bool.not_false, Bool.and_true, Bool.and_false, Bool.true_and, Bool.false_and, gI_sI, gI_sL, gI_sA, gI_sM, gL_sI, gL_sL, gL_sA, gL_sM, aI_sI, aI_sL, aI_sA, aI_sM, aL_sI, aL_sL, aL_sA, aL_sM, Bnamed__0, Bnamed__7, Bnamed__11, Bnamed__22, Bnamed__41, Bnamed__44, Bnamed__48, Bnamed__55, Bnamed__65, Bnamed__76, Bnamed__78, Bnamed__86, Bnamed__92, Bnamed__99, Bnamed__110, Bnamed__112, Bnamed__113, Bnamed__119, oi_1, oi_4, oi_5, oi_6, oi_7, oi_m1, oi_m2]; try dsimp only
                intro p46
                unfold Qv_named_Z
                try dsimp only
                have ho : on = 0 := by clear hA hup hpr hTg hUp hFx hLb loop hN hLb0 hZ hA3 hNm hNy e7; lia
                subst ho
                have hd : decide ((0 : Int32) = 1) = false := by decide
                rw [hd] at hTg
                have hr9 := hTg.symm.trans (tg_l1 ht.1 ⟨h7, by rw [e7, tt]; exact hNy⟩)
                exact ⟨rfl, _, rfl, by rw [hd, hr9]; exact hA.2.1⟩
            · dsimp only [Option.toList, List.cons_append, List.nil_append, Nat.beq, gI_sI, gI_sL, gI_sA, gI_sM, gL_sI, gL_sL, gL_sA, gL_sM, aI_sI, aI_sL, aI_sA, aI_sM, aL_sI, aL_sL, aL_sA, aL_sM]
              have hNn : ¬ N (t7 : Int) = N (nT t : Int) := fun q => hc11 (hNm.mpr q)
              refine ⟨fun h47 => absurd h47 (by decide), fun h47 => ?_⟩
              clear h47
              refine hB _ _ _ _ _ (fun m48 hm48 => ?_)
              dsimp only [ugo, uwp, ust, uct, rfd, Bnamed_, Nat.beq, lv_args, rlk, rs1, rs2, rdl, rky, rcd, rno, rsw, Value.category, List.filter, List.take, List.drop, List.reverse, List.reverseAux, List.cons_append, List.nil_append, Option.toList, Int.toNat, Int.reduceToNat, if_pos, if_neg, reduceIte, ↓reduceIte, Nat.reduceAdd, Nat.reduceEqDiff, Nat.reduceBEq, beq_self_eq_true, Bool.not_true, Bool.not_false, Bool.and_true, Bool.and_false, Bool.true_and, Bool.false_and, gI_sI, gI_sL, gI_sA, gI_sM, gL_sI, gL_sL, gL_sA, gL_sM, aI_sI, aI_sL, aI_sA, aI_sM, aL_sI, aL_sL, aL_sA, aL_sM, Bnamed__0, Bnamed__7, Bnamed__11, Bnamed__22, Bnamed__41, Bnamed__44, Bnamed__48, Bnamed__55, Bnamed__65, Bnamed__76, Bnamed__78, Bnamed__86, Bnamed__92, Bnamed__99, Bnamed__110, Bnamed__112, Bnamed__113, Bnamed__119, oi_1, oi_4, oi_5, oi_6, oi_7, oi_m1, oi_m2]; try dsimp only
              refine hB _ _ _ _ _ (fun m49 hm49 => ?_)
              dsimp only [ugo, uwp, ust, uct, rfd, Bnamed_, Nat.beq, lv_args, rlk, rs1, rs2, rdl, rky, rcd, rno, rsw, Value.category, List.filter, List.take, List.drop, List.reverse, List.reverseAux, List.cons_append, List.nil_append, Option.toList, Int.toNat, Int.reduceToNat, if_pos, if_neg, reduceIte, ↓reduceIte, Nat.reduceAdd, Nat.reduceEqDiff, Nat.reduceBEq, beq_self_eq_true, Bool.not_true, Bool.not_false, Bool.and_true, Bool.and_false, Bool.true_and, Bool.false_and, gI_sI, gI_sL, gI_sA, gI_sM, gL_sI, gL_sL, gL_sA, gL_sM, aI_sI, aI_sL, aI_sA, aI_sM, aL_sI, aL_sL, aL_sA, aL_sM, Bnamed__0, Bnamed__7, Bnamed__11, Bnamed__22, Bnamed__41, Bnamed__44, Bnamed__48, Bnamed__55, Bnamed__65, Bnamed__76, Bnamed__78, Bnamed__86, Bnamed__92, Bnamed__99, Bnamed__110, Bnamed__112, Bnamed__113, Bnamed__119, oi_1, oi_4, oi_5, oi_6, oi_7, oi_m1, oi_m2]; try dsimp only
              exact hW _ 7 [(0, .ref 1000), (1, .int t), (2, .int on), (3, .int (f + -1))] _ _ _ (by simp [rdl, rky]) (loop _ (by clear hA hTg hpr; omega) (f + -1) (a.1, (a.2.2.1.2 : Int)) G' hpr (Int.le_of_lt hl9) hFx.2.2 (fun b hb => hLb b (List.mem_cons_of_mem _ hb)) hup (by rw [← hTg, tg_l0 ht.1 (fun q => hNn (by have q2 := q.2; rw [e7, tt] at q2; exact q2))]))
    have l62 : (gI σ 62).toInt = (F.length : Int) := by rw [toI_n h62, hZ.2.1.2]
    intro n0
    refine hB _ _ _ _ _ (fun m1 hm1 => ?_)
    dsimp only [ugo, uwp, ust, uct, rfd, Bnamed_, Nat.beq, lv_args, rlk, rs1, rs2, rdl, rky, rcd, rno, rsw, Value.category, List.filter, List.take, List.drop, List.reverse, List.reverseAux, List.cons_append, List.nil_append, Option.toList, Int.toNat, Int.reduceToNat, if_pos, if_neg, reduceIte, ↓reduceIte, Nat.reduceAdd, Nat.reduceEqDiff, Nat.reduceBEq, beq_self_eq_true, Bool.not_true, Bool.not_false, Bool.and_true, Bool.and_false, Bool.true_and, Bool.false_and, gI_sI, gI_sL, gI_sA, gI_sM, gL_sI, gL_sL, gL_sA, gL_sM, aI_sI, aI_sL, aI_sA, aI_sM, aL_sI, aL_sL, aL_sA, aL_sM, Bnamed__0, Bnamed__7, Bnamed__11, Bnamed__22, Bnamed__41, Bnamed__44, Bnamed__48, Bnamed__55, Bnamed__65, Bnamed__76, Bnamed__78, Bnamed__86, Bnamed__92, Bnamed__99, Bnamed__110, Bnamed__112, Bnamed__113, Bnamed__119, oi_1, oi_4, oi_5, oi_6, oi_7, oi_m1, oi_m2]; try dsimp only
    exact hW _ 7 [(0, .ref 1000), (1, .int t), (2, .int on), (3, .int (gI σ 62 - 1))] _ _ _ (by simp [rdl, rky]) (loop _ (gI σ 62 - 1) (-1, -1) F (by rw [i32_s1 (by rw [l62]; omega), l62]) (by rw [l62]; exact Int.le_refl _) hZ.2.2.1.1 hLb0 ⟨fun q => absurd q (by rw [l62]; omega), fun _ => rfl⟩ rfl)
  next => exact hP.elim
theorem w_named_Z : UMet 64 (fun _ _ => True) Qw_named_Z := fun A1 σ _ w τ h N z F K_ hP => v_named_Z N z F K_ A1 σ hP w τ h
def Pv_openZ (s : SpC) (n : Nat) : UP1 := fun A1 σ => match A1 with
  | [.int sort, .int k, .int step] => SR σ s n ∧ FgR σ 0 ∧ nT k < nT (gI σ 49) ∧ (0 ≤ sort.toInt ∧ sort.toInt ≤ 11) ∧ (sort.toInt = 0 ↔ frR σ = []) ∧ 0 < gI σ 36 ∧ (sort = 8 → nT (aI σ 51 (nT k)) ≤ nT (gI σ 18) ∧ ¬ gR σ k)
  | _ => False
def Qv_openZ (s : SpC) (n : Nat) : UQ1 := fun A1 σ w τ => match A1 with
  | [.int sort, .int k, .int step] => (w = some (.int 0) ∧ n = 1 ∧ FlR τ (raiY 3 s)) ∨ (w = some (.int 1) ∧ 2 ≤ n ∧ SR τ s (n - 1) ∧ FgR τ 1 ∧ frR τ = sort.toInt :: frR σ ∧ OfZ σ sort k step τ)
  | _ => False
def Qw_openZ : UQ1 := fun A1 σ w τ => ∀ (s : SpC) (n : Nat), Pv_openZ s n A1 σ → Qv_openZ s n A1 σ w τ
set_option maxRecDepth 100000 in
set_option maxHeartbeats 4000000 in
theorem v_openZ (s : SpC) (n : Nat) : UMet 36 (Pv_openZ s n) (Qv_openZ s n) := by
  refine UMet.by Bopen [(19, (fun _ _ => True), Qw_enter)] rfl (ucc w_enter uc0) ?_
  intro A1 σ hP K hB hW
  unfold Pv_openZ at hP
  split at hP
  next sort k step =>
    obtain ⟨hR, hg, hk, hs, h0, h6, h8⟩ := hP
    have hnn := hR.2.1
    intro n0_
    refine hB _ _ _ _ _ (fun m1 hm1 => ?_)
    dsimp only [ugo, uwp, ust, uct, rfd, Bopen, Nat.beq, lv_args, rlk, rs1, rs2, rdl, rky, rcd, rno, rsw, Value.category, List.filter, List.take, List.drop, List.reverse, List.reverseAux, List.cons_append, List.nil_append, Option.toList, Int.toNat, Int.reduceToNat, if_pos, if_neg, reduceIte, ↓reduceIte, Nat.reduceAdd, Nat.reduceEqDiff, Nat.reduceBEq, beq_self_eq_true, Bool.not_true, Bool.not_false, Bool.and_true, Bool.and_false, Bool.true_and, Bool.false_and, gI_sI, gI_sL, gI_sA, gI_sM, gL_sI, gL_sL, gL_sA, gL_sM, aI_sI, aI_sL, aI_sA, aI_sM, aL_sI, aL_sL, aL_sA, aL_sM, Bopen_0, oi_1]; try dsimp only
    intro p2
    intro p3
    intro p4
    refine ⟨trivial, fun w5 τ5 hq5 => ?_⟩
    have hb_ := vin (m := 80) (j := gI σ 62) (by assumption) (by decide) (by decide)
    have hq5 := hq5 (sI (sA (sA (sA σ 63 (upd (aI σ 63) (gI σ 62).toNatClampNeg sort)) 64 (upd (aI σ 64) (gI σ 62).toNatClampNeg k)) 65 (upd (aI σ 65) (gI σ 62).toNatClampNeg step)) 62 (gI σ 62 + 1)) s n ⟨⟨hR.1.kp rfl rfl rfl rfl rfl rfl, ⟨hR.2.1.1, hR.2.1.2.1⟩, KR.rf⟩, by omega⟩
    rcases hq5 with ⟨rfl, hn5, hF5⟩ | ⟨rfl, hn5, hX5, hS5⟩
    · dsimp only [Option.toList, List.cons_append, List.nil_append, Nat.beq, gI_sI, gI_sL, gI_sA, gI_sM, gL_sI, gL_sL, gL_sA, gL_sM, aI_sI, aI_sL, aI_sA, aI_sM, aL_sI, aL_sL, aL_sA, aL_sM]
      unfold Qv_openZ
      try dsimp only
      exact Or.inl ⟨rfl, hn5, hF5⟩
    · dsimp only [Option.toList, List.cons_append, List.nil_append, Nat.beq, gI_sI, gI_sL, gI_sA, gI_sM, gL_sI, gL_sL, gL_sA, gL_sM, aI_sI, aI_sL, aI_sA, aI_sM, aL_sI, aL_sL, aL_sA, aL_sM]
      unfold Qv_openZ
      try dsimp only
      have ei : ∀ j, j ≠ 17 → j ≠ 62 → gI τ5 j = gI σ j := fun j h1 h2 => (hS5.1 j h1).trans (by rw [gI_sI, nb_ne h2]; rfl)
      have z := SR.op hR hg hn5 hX5.1 hX5.2.1.1 ((hS5.1 62 (by decide)).trans rfl) hb_.2 ei ((hS5.2 63).trans rfl) ((hS5.2 64).trans rfl) (fun j hj => (hS5.2 j).trans ((aI_ne (by omega)).trans ((aI_ne (by omega)).trans ((aI_ne (by omega)).trans rfl)))) hk hs h0 h6 h8
      exact Or.inr ⟨rfl, hn5, z.1, z.2.1, z.2.2, ei, (hS5.1 62 (by decide)).trans rfl, ⟨(hS5.2 63).trans rfl, (hS5.2 64).trans rfl, (hS5.2 65).trans rfl⟩, fun j hj => (hS5.2 j).trans ((aI_ne (by omega)).trans ((aI_ne (by omega)).trans ((aI_ne (by omega)).trans rfl))), hb_⟩
  next => exact hP.elim
theorem w_openZ : UMet 36 (fun _ _ => True) Qw_openZ := fun A1 σ _ w τ h s n hP => v_openZ s n A1 σ hP w τ h
def Pv_variableZ (s : SpC) (n : Nat) : UP1 := fun A1 σ => match A1 with
  | [.int type, .int fixed, .int k] => ShR σ s ∧ ((gI σ 17).toInt + n = 21 ∧ 1 ≤ n) ∧ codY s = 80 ∧ VvR σ s
  | _ => False
def Qv_variableZ (s : SpC) (n : Nat) : UQ1 := fun A1 σ w τ => match A1 with
  | [.int type, .int fixed, .int k] => (w = some (.int 0) ∧ FlR τ (dclY type.toInt fixed.toInt 1 s)) ∨ (w = some (.int 1) ∧ ShR τ (accY s) ∧ zAt s < 500 ∧ ¬ 60 ≤ (zVs s).length ∧ VaR σ τ type fixed ∧ aI τ 47 = upd (aI σ 47) (nT (gI σ 42)) k ∧ aI τ 48 = upd (aI σ 48) (nT (gI σ 42)) (-2))
  | _ => False
def Qw_variableZ : UQ1 := fun A1 σ w τ => ∀ (s : SpC) (n : Nat), Pv_variableZ s n A1 σ → Qv_variableZ s n A1 σ w τ
set_option maxRecDepth 100000 in
set_option maxHeartbeats 4000000 in
theorem v_variableZ (s : SpC) (n : Nat) : UMet 40 (Pv_variableZ s n) (Qv_variableZ s n) := by
  refine UMet.by Bvariable [(17, (fun _ _ => True), Qw_take), (12, (fun _ _ => True), Qw_wrong)] rfl (ucc w_take (ucc w_wrong uc0)) ?_
  intro A1 σ hP K hB hW
  unfold Pv_variableZ at hP
  split at hP
  next type fixed k =>
    obtain ⟨hS, hd, hc, hv⟩ := hP
    intro n0_
    refine hB _ _ _ _ _ (fun m1 hm1 => ?_)
    dsimp only [ugo, uwp, ust, uct, rfd, Bvariable, Nat.beq, lv_args, rlk, rs1, rs2, rdl, rky, rcd, rno, rsw, Value.category, List.filter, List.take, List.drop, List.reverse, List.reverseAux, List.cons_append, List.nil_append, Option.toList, Int.toNat, Int.reduceToNat, if_pos, if_neg, reduceIte, ↓reduceIte, Nat.reduceAdd, Nat.reduceEqDiff, Nat.reduceBEq, beq_self_eq_true, Bool.not_true, Bool.not_false, Bool.and_true, Bool.and_false, Bool.true_and, Bool.false_and, gI_sI, gI_sL, gI_sA, gI_sM, gL_sI, gL_sL, gL_sA, gL_sM, aI_sI, aI_sL, aI_sA, aI_sM, aL_sI, aL_sL, aL_sA, aL_sM, Bvariable_0, Bvariable_9, Bvariable_19, Bvariable_75, Bvariable_82, Bvariable_89, Bvariable_95, oi_1, oi_3, oi_60, oi_m2]; try dsimp only
    refine ⟨fun h2 => ?_, fun h2 => ?_⟩
    · refine hB _ _ _ _ _ (fun m3 hm3 => ?_)
      dsimp only [ugo, uwp, ust, uct, rfd, Bvariable, Nat.beq, lv_args, rlk, rs1, rs2, rdl, rky, rcd, rno, rsw, Value.category, List.filter, List.take, List.drop, List.reverse, List.reverseAux, List.cons_append, List.nil_append, Option.toList, Int.toNat, Int.reduceToNat, if_pos, if_neg, reduceIte, ↓reduceIte, Nat.reduceAdd, Nat.reduceEqDiff, Nat.reduceBEq, beq_self_eq_true, Bool.not_true, Bool.not_false, Bool.and_true, Bool.and_false, Bool.true_and, Bool.false_and, gI_sI, gI_sL, gI_sA, gI_sM, gL_sI, gL_sL, gL_sA, gL_sM, aI_sI, aI_sL, aI_sA, aI_sM, aL_sI, aL_sL, aL_sA, aL_sM, Bvariable_0, Bvariable_9, Bvariable_19, Bvariable_75, Bvariable_82, Bvariable_89, Bvariable_95, oi_1, oi_3, oi_60, oi_m2]; try dsimp only
      intro p4
      intro p5
      intro p6
      refine ⟨fun h7 => ?_, fun h7 => ?_⟩
      · refine hB _ _ _ _ _ (fun m8 hm8 => ?_)
        dsimp only [ugo, uwp, ust, uct, rfd, Bvariable, Nat.beq, lv_args, rlk, rs1, rs2, rdl, rky, rcd, rno, rsw, Value.category, List.filter, List.take, List.drop, List.reverse, List.reverseAux, List.cons_append, List.nil_append, Option.toList, Int.toNat, Int.reduceToNat, if_pos, if_neg, reduceIte, ↓reduceIte, Nat.reduceAdd, Nat.reduceEqDiff, Nat.reduceBEq, beq_self_eq_true, Bool.not_true, Bool.not_false, Bool.and_true, Bool.and_false, Bool.true_and, Bool.false_and, gI_sI, gI_sL, gI_sA, gI_sM, gL_sI, gL_sL, gL_sA, gL_sM, aI_sI, aI_sL, aI_sA, aI_sM, aL_sI, aL_sL, aL_sA, aL_sM, Bvariable_0, Bvariable_9, Bvariable_19, Bvariable_75, Bvariable_82, Bvariable_89, Bvariable_95, oi_1, oi_3, oi_60, oi_m2]; try dsimp only
        refine hB _ _ _ _ _ (fun m9 hm9 => ?_)
        dsimp only [ugo, uwp, ust, uct, rfd, Bvariable, Nat.beq, lv_args, rlk, rs1, rs2, rdl, rky, rcd, rno, rsw, Value.category, List.filter, List.take, List.drop, List.reverse, List.reverseAux, List.cons_append, List.nil_append, Option.toList, Int.toNat, Int.reduceToNat, if_pos, if_neg, reduceIte, ↓reduceIte, Nat.reduceAdd, Nat.reduceEqDiff, Nat.reduceBEq, beq_self_eq_true, Bool.not_true, Bool.not_false, Bool.and_true, Bool.and_false, Bool.true_and, Bool.false_and, gI_sI, gI_sL, gI_sA, gI_sM, gL_sI, gL_sL, gL_sA, gL_sM, aI_sI, aI_sL, aI_sA, aI_sM, aL_sI, aL_sL, aL_sA, aL_sM, Bvariable_0, Bvariable_9, Bvariable_19, Bvariable_75, Bvariable_82, Bvariable_89, Bvariable_95, oi_1, oi_3, oi_60, oi_m2]; try dsimp only
        intro p10
        intro p11
        intro p12
        refine ⟨trivial, fun w13 τ13 hq13 => ?_⟩
        have hq13 := hq13 _ s n ⟨⟨hS.kp rfl rfl rfl rfl rfl rfl, hd, KR.rf⟩, by omega, by omega⟩
        rcases hq13 with ⟨rfl, hF13⟩ | ⟨rfl, hX13, hz13, hS13⟩
        · dsimp only [Option.toList, List.cons_append, List.nil_append, Nat.beq, gI_sI, gI_sL, gI_sA, gI_sM, gL_sI, gL_sL, gL_sA, gL_sM, aI_sI, aI_sL, aI_sA, aI_sM, aL_sI, aL_sL, aL_sA, aL_sM]
          unfold Qv_variableZ
          try dsimp only
          have h60 : gI σ 42 < 60 := by have := hv.2.2; lia
          have hl : ¬ 60 ≤ (zVs s).length := by
            rw [hv.1, vlR_l]
            have := nT_lt hv.2.1 h60
            have q : nT (60 : Int32) = 60 := rfl
            omega
          refine Or.inl ⟨rfl, ?_⟩
          rw [dcl_y hS.1.1 hc hl]
          refine FlR.q hF13 ?_
          unfold zFt zPl
          rw [acc_v.1]
          exact ⟨rfl, rfl⟩
        · dsimp only [Option.toList, List.cons_append, List.nil_append, Nat.beq, gI_sI, gI_sL, gI_sA, gI_sM, gL_sI, gL_sL, gL_sA, gL_sM, aI_sI, aI_sL, aI_sA, aI_sM, aL_sI, aL_sL, aL_sA, aL_sM]
          unfold Qv_variableZ
          try dsimp only
          have h60 : gI σ 42 < 60 := by have := hv.2.2; lia
          have hl : ¬ 60 ≤ (zVs s).length := by
            rw [hv.1, vlR_l]
            have := nT_lt hv.2.1 h60
            have q : nT (60 : Int32) = 60 := rfl
            omega
          refine Or.inr ⟨rfl, hX13.1, hz13, hl, ⟨fun j h1 h2 => (hS13.1 j h1).trans (by show gI (sI σ 42 _) j = _; rw [gI_sI, nb_ne h2]), (hS13.1 42 (by decide)).trans rfl, ⟨hv.2.1, h60⟩, ⟨(hS13.2 43).trans rfl, (hS13.2 44).trans rfl, (hS13.2 45).trans rfl, (hS13.2 46).trans ?_⟩, fun j hj => (hS13.2 j).trans ((aI_ne (by omega)).trans ((aI_ne (by omega)).trans ((aI_ne (by omega)).trans ((aI_ne (by omega)).trans ((aI_ne (by omega)).trans ((aI_ne (by omega)).trans rfl))))))⟩, (hS13.2 47).trans rfl, (hS13.2 48).trans rfl⟩
          rw [if_pos (Or.inl (by lia))]
          rfl
      · refine hB _ _ _ _ _ (fun m14 hm14 => ?_)
        dsimp only [ugo, uwp, ust, uct, rfd, Bvariable, Nat.beq, lv_args, rlk, rs1, rs2, rdl, rky, rcd, rno, rsw, Value.category, List.filter, List.take, List.drop, List.reverse, List.reverseAux, List.cons_append, List.nil_append, Option.toList, Int.toNat, Int.reduceToNat, if_pos, if_neg, reduceIte, ↓reduceIte, Nat.reduceAdd, Nat.reduceEqDiff, Nat.reduceBEq, beq_self_eq_true, Bool.not_true, Bool.not_false, Bool.and_true, Bool.and_false, Bool.true_and, Bool.false_and, gI_sI, gI_sL, gI_sA, gI_sM, gL_sI, gL_sL, gL_sA, gL_sM, aI_sI, aI_sL, aI_sA, aI_sM, aL_sI, aL_sL, aL_sA, aL_sM, Bvariable_0, Bvariable_9, Bvariable_19, Bvariable_75, Bvariable_82, Bvariable_89, Bvariable_95, oi_1, oi_3, oi_60, oi_m2]; try dsimp only
        refine ⟨fun h15 => ?_, fun h15 => ?_⟩
        · refine hB _ _ _ _ _ (fun m16 hm16 => ?_)
          dsimp only [ugo, uwp, ust, uct, rfd, Bvariable, Nat.beq, lv_args, rlk, rs1, rs2, rdl, rky, rcd, rno, rsw, Value.category, List.filter, List.take, List.drop, List.reverse, List.reverseAux, List.cons_append, List.nil_append, Option.toList, Int.toNat, Int.reduceToNat, if_pos, if_neg, reduceIte, ↓reduceIte, Nat.reduceAdd, Nat.reduceEqDiff, Nat.reduceBEq, beq_self_eq_true, Bool.not_true, Bool.not_false, Bool.and_true, Bool.and_false, Bool.true_and, Bool.false_and, gI_sI, gI_sL, gI_sA, gI_sM, gL_sI, gL_sL, gL_sA, gL_sM, aI_sI, aI_sL, aI_sA, aI_sM, aL_sI, aL_sL, aL_sA, aL_sM, Bvariable_0, Bvariable_9, Bvariable_19, Bvariable_75, Bvariable_82, Bvariable_89, Bvariable_95, oi_1, oi_3, oi_60, oi_m2]; try dsimp only
          refine hB _ _ _ _ _ (fun m17 hm17 => ?_)
          dsimp only [ugo, uwp, ust, uct, rfd, Bvariable, Nat.beq, lv_args, rlk, rs1, rs2, rdl, rky, rcd, rno, rsw, Value.category, List.filter, List.take, List.drop, List.reverse, List.reverseAux, List.cons_append, List.nil_append, Option.toList, Int.toNat, Int.reduceToNat, if_pos, if_neg, reduceIte, ↓reduceIte, Nat.reduceAdd, Nat.reduceEqDiff, Nat.reduceBEq, beq_self_eq_true, Bool.not_true, Bool.not_false, Bool.and_true, Bool.and_false, Bool.true_and, Bool.false_and, gI_sI, gI_sL, gI_sA, gI_sM, gL_sI, gL_sL, gL_sA, gL_sM, aI_sI, aI_sL, aI_sA, aI_sM, aL_sI, aL_sL, aL_sA, aL_sM, Bvariable_0, Bvariable_9, Bvariable_19, Bvariable_75, Bvariable_82, Bvariable_89, Bvariable_95, oi_1, oi_3, oi_60, oi_m2]; try dsimp only
          intro p18
          intro p19
          intro p20
          refine ⟨trivial, fun w21 τ21 hq21 => ?_⟩
          have hq21 := hq21 _ s n ⟨⟨hS.kp rfl rfl rfl rfl rfl rfl, hd, KR.rf⟩, by omega, by omega⟩
          rcases hq21 with ⟨rfl, hF21⟩ | ⟨rfl, hX21, hz21, hS21⟩
          · dsimp only [Option.toList, List.cons_append, List.nil_append, Nat.beq, gI_sI, gI_sL, gI_sA, gI_sM, gL_sI, gL_sL, gL_sA, gL_sM, aI_sI, aI_sL, aI_sA, aI_sM, aL_sI, aL_sL, aL_sA, aL_sM]
            unfold Qv_variableZ
            try dsimp only
            have h60 : gI σ 42 < 60 := by have := hv.2.2; lia
            have hl : ¬ 60 ≤ (zVs s).length := by
              rw [hv.1, vlR_l]
              have := nT_lt hv.2.1 h60
              have q : nT (60 : Int32) = 60 := rfl
              omega
            refine Or.inl ⟨rfl, ?_⟩
            rw [dcl_y hS.1.1 hc hl]
            refine FlR.q hF21 ?_
            unfold zFt zPl
            rw [acc_v.1]
            exact ⟨rfl, rfl⟩
          · dsimp only [Option.toList, List.cons_append, List.nil_append, Nat.beq, gI_sI, gI_sL, gI_sA, gI_sM, gL_sI, gL_sL, gL_sA, gL_sM, aI_sI, aI_sL, aI_sA, aI_sM, aL_sI, aL_sL, aL_sA, aL_sM]
            unfold Qv_variableZ
            try dsimp only
            have h60 : gI σ 42 < 60 := by have := hv.2.2; lia
            have hl : ¬ 60 ≤ (zVs s).length := by
              rw [hv.1, vlR_l]
              have := nT_lt hv.2.1 h60
              have q : nT (60 : Int32) = 60 := rfl
              omega
            refine Or.inr ⟨rfl, hX21.1, hz21, hl, ⟨fun j h1 h2 => (hS21.1 j h1).trans (by show gI (sI σ 42 _) j = _; rw [gI_sI, nb_ne h2]), (hS21.1 42 (by decide)).trans rfl, ⟨hv.2.1, h60⟩, ⟨(hS21.2 43).trans rfl, (hS21.2 44).trans rfl, (hS21.2 45).trans rfl, (hS21.2 46).trans ?_⟩, fun j hj => (hS21.2 j).trans ((aI_ne (by omega)).trans ((aI_ne (by omega)).trans ((aI_ne (by omega)).trans ((aI_ne (by omega)).trans ((aI_ne (by omega)).trans ((aI_ne (by omega)).trans rfl))))))⟩, (hS21.2 47).trans rfl, (hS21.2 48).trans rfl⟩
            rw [if_neg (fun q => q.elim (fun q => absurd q (by lia)) (fun q => absurd q (by lia)))]
            rfl
        · refine hB _ _ _ _ _ (fun m22 hm22 => ?_)
          dsimp only [ugo, uwp, ust, uct, rfd, Bvariable, Nat.beq, lv_args, rlk, rs1, rs2, rdl, rky, rcd, rno, rsw, Value.category, List.filter, List.take, List.drop, List.reverse, List.reverseAux, List.cons_append, List.nil_append, Option.toList, Int.toNat, Int.reduceToNat, if_pos, if_neg, reduceIte, ↓reduceIte, Nat.reduceAdd, Nat.reduceEqDiff, Nat.reduceBEq, beq_self_eq_true, Bool.not_true, Bool.not_false, Bool.and_true, Bool.and_false, Bool.true_and, Bool.false_and, gI_sI, gI_sL, gI_sA, gI_sM, gL_sI, gL_sL, gL_sA, gL_sM, aI_sI, aI_sL, aI_sA, aI_sM, aL_sI, aL_sL, aL_sA, aL_sM, Bvariable_0, Bvariable_9, Bvariable_19, Bvariable_75, Bvariable_82, Bvariable_89, Bvariable_95, oi_1, oi_3, oi_60, oi_m2]; try dsimp only
          refine hB _ _ _ _ _ (fun m23 hm23 => ?_)
          dsimp only [ugo, uwp, ust, uct, rfd, Bvariable, Nat.beq, lv_args, rlk, rs1, rs2, rdl, rky, rcd, rno, rsw, Value.category, List.filter, List.take, List.drop, List.reverse, List.reverseAux, List.cons_append, List.nil_append, Option.toList, Int.toNat, Int.reduceToNat, if_pos, if_neg, reduceIte, ↓reduceIte, Nat.reduceAdd, Nat.reduceEqDiff, Nat.reduceBEq, beq_self_eq_true, Bool.not_true, Bool.not_false, Bool.and_true, Bool.and_false, Bool.true_and, Bool.false_and, gI_sI, gI_sL, gI_sA, gI_sM, gL_sI, gL_sL, gL_sA, gL_sM, aI_sI, aI_sL, aI_sA, aI_sM, aL_sI, aL_sL, aL_sA, aL_sM, Bvariable_0, Bvariable_9, Bvariable_19, Bvariable_75, Bvariable_82, Bvariable_89, Bvariable_95, oi_1, oi_3, oi_60, oi_m2]; try dsimp only
          intro p24
          intro p25
          intro p26
          refine ⟨trivial, fun w27 τ27 hq27 => ?_⟩
          have hq27 := hq27 _ s n ⟨⟨hS.kp rfl rfl rfl rfl rfl rfl, hd, KR.rf⟩, by omega, by omega⟩
          rcases hq27 with ⟨rfl, hF27⟩ | ⟨rfl, hX27, hz27, hS27⟩
          · dsimp only [Option.toList, List.cons_append, List.nil_append, Nat.beq, gI_sI, gI_sL, gI_sA, gI_sM, gL_sI, gL_sL, gL_sA, gL_sM, aI_sI, aI_sL, aI_sA, aI_sM, aL_sI, aL_sL, aL_sA, aL_sM]
            unfold Qv_variableZ
            try dsimp only
            have h60 : gI σ 42 < 60 := by have := hv.2.2; lia
            have hl : ¬ 60 ≤ (zVs s).length := by
              rw [hv.1, vlR_l]
              have := nT_lt hv.2.1 h60
              have q : nT (60 : Int32) = 60 := rfl
              omega
            refine Or.inl ⟨rfl, ?_⟩
            rw [dcl_y hS.1.1 hc hl]
            refine FlR.q hF27 ?_
            unfold zFt zPl
            rw [acc_v.1]
            exact ⟨rfl, rfl⟩
          · dsimp only [Option.toList, List.cons_append, List.nil_append, Nat.beq, gI_sI, gI_sL, gI_sA, gI_sM, gL_sI, gL_sL, gL_sA, gL_sM, aI_sI, aI_sL, aI_sA, aI_sM, aL_sI, aL_sL, aL_sA, aL_sM]
            unfold Qv_variableZ
            try dsimp only
            have h60 : gI σ 42 < 60 := by have := hv.2.2; lia
            have hl : ¬ 60 ≤ (zVs s).length := by
              rw [hv.1, vlR_l]
              have := nT_lt hv.2.1 h60
              have q : nT (60 : Int32) = 60 := rfl
              omega
            refine Or.inr ⟨rfl, hX27.1, hz27, hl, ⟨fun j h1 h2 => (hS27.1 j h1).trans (by show gI (sI σ 42 _) j = _; rw [gI_sI, nb_ne h2]), (hS27.1 42 (by decide)).trans rfl, ⟨hv.2.1, h60⟩, ⟨(hS27.2 43).trans rfl, (hS27.2 44).trans rfl, (hS27.2 45).trans rfl, (hS27.2 46).trans ?_⟩, fun j hj => (hS27.2 j).trans ((aI_ne (by omega)).trans ((aI_ne (by omega)).trans ((aI_ne (by omega)).trans ((aI_ne (by omega)).trans ((aI_ne (by omega)).trans ((aI_ne (by omega)).trans rfl))))))⟩, (hS27.2 47).trans rfl, (hS27.2 48).trans rfl⟩
            rw [if_pos (Or.inr (by lia))]
            rfl
    · refine hB _ _ _ _ _ (fun m28 hm28 => ?_)
      dsimp only [ugo, uwp, ust, uct, rfd, Bvariable, Nat.beq, lv_args, rlk, rs1, rs2, rdl, rky, rcd, rno, rsw, Value.category, List.filter, List.take, List.drop, List.reverse, List.reverseAux, List.cons_append, List.nil_append, Option.toList, Int.toNat, Int.reduceToNat, if_pos, if_neg, reduceIte, ↓reduceIte, Nat.reduceAdd, Nat.reduceEqDiff, Nat.reduceBEq, beq_self_eq_true, Bool.not_true, Bool.not_false, Bool.and_true, Bool.and_false, Bool.true_and, Bool.false_and, gI_sI, gI_sL, gI_sA, gI_sM, gL_sI, gL_sL, gL_sA, gL_sM, aI_sI, aI_sL, aI_sA, aI_sM, aL_sI, aL_sL, aL_sA, aL_sM, Bvariable_0, Bvariable_9, Bvariable_19, Bvariable_75, Bvariable_82, Bvariable_89, Bvariable_95, oi_1, oi_3, oi_60, oi_m2]; try dsimp only
      refine ⟨trivial, fun w29 τ29 hq29 => ?_⟩
      obtain ⟨rfl, hf29⟩ := hq29 trivial
      dsimp only [Option.toList, List.cons_append, List.nil_append, Nat.beq, gI_sI, gI_sL, gI_sA, gI_sM, gL_sI, gL_sL, gL_sA, gL_sM, aI_sI, aI_sL, aI_sA, aI_sM, aL_sI, aL_sL, aL_sA, aL_sM]
      unfold Qv_variableZ
      try dsimp only
      have e := hf29 hS.1.2
      subst e
      refine Or.inl ⟨rfl, ?_⟩
      rw [dcl_3 hc (by rw [hv.1, vlR_l, show gI σ 42 = 60 by lia]; decide)]
      exact FlR.rai hS (by decide) (by show (3 : Int32).toInt = _; rw [if_neg (by omega)]; rfl) rfl
  next => exact hP.elim
theorem w_variableZ : UMet 40 (fun _ _ => True) Qw_variableZ := fun A1 σ _ w τ h s n hP => v_variableZ s n A1 σ hP w τ h
def Pv_popZ (z : ZS) : UP1 := fun A1 σ => match A1 with
  | [] => PcM id σ z ∧ HdZ z.2.1 ∧ (gI σ 33).toInt + 1 = (gI σ 18).toInt
  | _ => False
def Qv_popZ (z : ZS) : UQ1 := fun A1 σ w τ => match A1 with
  | [] => w = none ∧ ∃ a t : Int32, EmZ σ 21 a 0 t t t τ ∧ a.toInt = acZ (rtM z) ∧ t.toInt = (rtM z).1.2.2.1
  | _ => False
def Qw_popZ : UQ1 := fun A1 σ w τ => ∀ (z : ZS), Pv_popZ z A1 σ → Qv_popZ z A1 σ w τ
theorem op_17 {x : XrZ} (h : x.1.1 ≤ 10) : (opkZ x = 17 ∨ opkZ x = 18 ∨ opkZ x = 4 ∨ opkZ x = 3) ↔ (x.1.1 = 9 ∨ x.1.1 = 6 ∨ x.1.1 = 10) := by
  obtain ⟨o, ho⟩ : ∃ o, o = opkZ x := ⟨_, rfl⟩
  rw [← ho]
  unfold opkZ at ho
  repeat' (split at ho)
  all_goals omega
set_option maxRecDepth 100000 in
set_option maxHeartbeats 4000000 in
theorem v_popZ (z : ZS) : UMet 51 (Pv_popZ z) (Qv_popZ z) := by
  refine UMet.by Bpop [(20, (fun _ _ => True), Qw_emitZ)] rfl (ucc w_emitZ uc0) ?_
  intro A1 σ hP K hB hW
  unfold Pv_popZ at hP
  split at hP
  next =>
    obtain ⟨hP, ⟨x, l, hx, hk⟩, h33⟩ := hP
    have hI := hP.1
    have hn := hP.2
    rw [hx] at hI hn
    have hn : (gI σ 18).toInt.toNat = l.length + 1 := hn
    have hcm : ccZ σ l.length x := hI.1
    unfold ccZ at hcm
    have e33 : (gI σ 33).toNatClampNeg = l.length := nT_i (by omega)
    have hop : (aI σ 19 (gI σ 33).toNatClampNeg).toInt = opkZ x := by rw [e33]; exact hcm.1
    have hfi : (aI σ 23 (gI σ 33).toNatClampNeg).toInt = x.1.2.2.1 := by rw [e33]; exact (hcm.2.1 hk).1
    have hrt : rtM z = x := by unfold rtM; rw [hx]
    intro n0
    refine hB _ _ _ _ _ (fun m1 hm1 => ?_)
    dsimp only [ugo, uwp, ust, uct, rfd, Bpop, Nat.beq, lv_args, rlk, rs1, rs2, rdl, rky, rcd, rno, rsw, Value.category, List.filter, List.take, List.drop, List.reverse, List.reverseAux, List.cons_append, List.nil_append, Option.toList, Int.toNat, Int.reduceToNat, if_pos, if_neg, reduceIte, ↓reduceIte, Nat.reduceAdd, Nat.reduceEqDiff, Nat.reduceBEq, beq_self_eq_true, Bool.not_true, Bool.not_false, Bool.and_true, Bool.and_false, Bool.true_and, Bool.false_and, gI_sI, gI_sL, gI_sA, gI_sM, gL_sI, gL_sL, gL_sA, gL_sM, aI_sI, aI_sL, aI_sA, aI_sM, aL_sI, aL_sL, aL_sA, aL_sM, Bpop_0, Bpop_19, Bpop_25, Bpop_30, Bpop_35, Bpop_39, Bpop_40, oi_0, oi_1, oi_17, oi_18, oi_21, oi_3, oi_4]; try dsimp only
    intro p2
    refine ⟨fun h3 => ?_, fun h3 => ?_⟩
    · refine hB _ _ _ _ _ (fun m4 hm4 => ?_)
      dsimp only [ugo, uwp, ust, uct, rfd, Bpop, Nat.beq, lv_args, rlk, rs1, rs2, rdl, rky, rcd, rno, rsw, Value.category, List.filter, List.take, List.drop, List.reverse, List.reverseAux, List.cons_append, List.nil_append, Option.toList, Int.toNat, Int.reduceToNat, if_pos, if_neg, reduceIte, ↓reduceIte, Nat.reduceAdd, Nat.reduceEqDiff, Nat.reduceBEq, beq_self_eq_true, Bool.not_true, Bool.not_false, Bool.and_true, Bool.and_false, Bool.true_and, Bool.false_and, gI_sI, gI_sL, gI_sA, gI_sM, gL_sI, gL_sL, gL_sA, gL_sM, aI_sI, aI_sL, aI_sA, aI_sM, aL_sI, aL_sL, aL_sA, aL_sM, Bpop_0, Bpop_19, Bpop_25, Bpop_30, Bpop_35, Bpop_39, Bpop_40, oi_0, oi_1, oi_17, oi_18, oi_21, oi_3, oi_4]; try dsimp only
      refine hB _ _ _ _ _ (fun m5 hm5 => ?_)
      dsimp only [ugo, uwp, ust, uct, rfd, Bpop, Nat.beq, lv_args, rlk, rs1, rs2, rdl, rky, rcd, rno, rsw, Value.category, List.filter, List.take, List.drop, List.reverse, List.reverseAux, List.cons_append, List.nil_append, Option.toList, Int.toNat, Int.reduceToNat, if_pos, if_neg, reduceIte, ↓reduceIte, Nat.reduceAdd, Nat.reduceEqDiff, Nat.reduceBEq, beq_self_eq_true, Bool.not_true, Bool.not_false, Bool.and_true, Bool.and_false, Bool.true_and, Bool.false_and, gI_sI, gI_sL, gI_sA, gI_sM, gL_sI, gL_sL, gL_sA, gL_sM, aI_sI, aI_sL, aI_sA, aI_sM, aL_sI, aL_sL, aL_sA, aL_sM, Bpop_0, Bpop_19, Bpop_25, Bpop_30, Bpop_35, Bpop_39, Bpop_40, oi_0, oi_1, oi_17, oi_18, oi_21, oi_3, oi_4]; try dsimp only
      intro p6
      refine ⟨trivial, fun w7 τ7 hq7 => ?_⟩
      obtain ⟨rfl, hE7⟩ := hq7 trivial
      dsimp only [Option.toList, List.cons_append, List.nil_append, Nat.beq, gI_sI, gI_sL, gI_sA, gI_sM, gL_sI, gL_sL, gL_sA, gL_sM, aI_sI, aI_sL, aI_sA, aI_sM, aL_sI, aL_sL, aL_sA, aL_sM]
      unfold Qv_popZ
      try dsimp only
      refine ⟨rfl, _, _, hE7, ?_, by rw [hrt]; exact hfi⟩
      rw [hrt]
      unfold acZ
      have hs : (aI σ 19 (gI σ 33).toNatClampNeg) = 17 ∨ (aI σ 19 (gI σ 33).toNatClampNeg) = 18 ∨ (aI σ 19 (gI σ 33).toNatClampNeg) = 4 ∨ (aI σ 19 (gI σ 33).toNatClampNeg) = 3 := by lia
      rw [if_pos ((op_17 hk).mp (by rw [← hop]; rcases hs with hs | hs | hs | hs <;> rw [hs] <;> decide))]
      rfl
    · refine hB _ _ _ _ _ (fun m8 hm8 => ?_)
      dsimp only [ugo, uwp, ust, uct, rfd, Bpop, Nat.beq, lv_args, rlk, rs1, rs2, rdl, rky, rcd, rno, rsw, Value.category, List.filter, List.take, List.drop, List.reverse, List.reverseAux, List.cons_append, List.nil_append, Option.toList, Int.toNat, Int.reduceToNat, if_pos, if_neg, reduceIte, ↓reduceIte, Nat.reduceAdd, Nat.reduceEqDiff, Nat.reduceBEq, beq_self_eq_true, Bool.not_true, Bool.not_false, Bool.and_true, Bool.and_false, Bool.true_and, Bool.false_and, gI_sI, gI_sL, gI_sA, gI_sM, gL_sI, gL_sL, gL_sA, gL_sM, aI_sI, aI_sL, aI_sA, aI_sM, aL_sI, aL_sL, aL_sA, aL_sM, Bpop_0, Bpop_19, Bpop_25, Bpop_30, Bpop_35, Bpop_39, Bpop_40, oi_0, oi_1, oi_17, oi_18, oi_21, oi_3, oi_4]; try dsimp only
      refine ⟨fun h9 => ?_, fun h9 => ?_⟩
      · refine hB _ _ _ _ _ (fun m10 hm10 => ?_)
        dsimp only [ugo, uwp, ust, uct, rfd, Bpop, Nat.beq, lv_args, rlk, rs1, rs2, rdl, rky, rcd, rno, rsw, Value.category, List.filter, List.take, List.drop, List.reverse, List.reverseAux, List.cons_append, List.nil_append, Option.toList, Int.toNat, Int.reduceToNat, if_pos, if_neg, reduceIte, ↓reduceIte, Nat.reduceAdd, Nat.reduceEqDiff, Nat.reduceBEq, beq_self_eq_true, Bool.not_true, Bool.not_false, Bool.and_true, Bool.and_false, Bool.true_and, Bool.false_and, gI_sI, gI_sL, gI_sA, gI_sM, gL_sI, gL_sL, gL_sA, gL_sM, aI_sI, aI_sL, aI_sA, aI_sM, aL_sI, aL_sL, aL_sA, aL_sM, Bpop_0, Bpop_19, Bpop_25, Bpop_30, Bpop_35, Bpop_39, Bpop_40, oi_0, oi_1, oi_17, oi_18, oi_21, oi_3, oi_4]; try dsimp only
        refine hB _ _ _ _ _ (fun m11 hm11 => ?_)
        dsimp only [ugo, uwp, ust, uct, rfd, Bpop, Nat.beq, lv_args, rlk, rs1, rs2, rdl, rky, rcd, rno, rsw, Value.category, List.filter, List.take, List.drop, List.reverse, List.reverseAux, List.cons_append, List.nil_append, Option.toList, Int.toNat, Int.reduceToNat, if_pos, if_neg, reduceIte, ↓reduceIte, Nat.reduceAdd, Nat.reduceEqDiff, Nat.reduceBEq, beq_self_eq_true, Bool.not_true, Bool.not_false, Bool.and_true, Bool.and_false, Bool.true_and, Bool.false_and, gI_sI, gI_sL, gI_sA, gI_sM, gL_sI, gL_sL, gL_sA, gL_sM, aI_sI, aI_sL, aI_sA, aI_sM, aL_sI, aL_sL, aL_sA, aL_sM, Bpop_0, Bpop_19, Bpop_25, Bpop_30, Bpop_35, Bpop_39, Bpop_40, oi_0, oi_1, oi_17, oi_18, oi_21, oi_3, oi_4]; try dsimp only
        intro p12
        refine ⟨trivial, fun w13 τ13 hq13 => ?_⟩
        obtain ⟨rfl, hE13⟩ := hq13 trivial
        dsimp only [Option.toList, List.cons_append, List.nil_append, Nat.beq, gI_sI, gI_sL, gI_sA, gI_sM, gL_sI, gL_sL, gL_sA, gL_sM, aI_sI, aI_sL, aI_sA, aI_sM, aL_sI, aL_sL, aL_sA, aL_sM]
        unfold Qv_popZ
        try dsimp only
        refine ⟨rfl, _, _, hE13, ?_, by rw [hrt]; exact hfi⟩
        rw [hrt]
        unfold acZ
        have hs : (aI σ 19 (gI σ 33).toNatClampNeg) = 17 ∨ (aI σ 19 (gI σ 33).toNatClampNeg) = 18 ∨ (aI σ 19 (gI σ 33).toNatClampNeg) = 4 ∨ (aI σ 19 (gI σ 33).toNatClampNeg) = 3 := by lia
        rw [if_pos ((op_17 hk).mp (by rw [← hop]; rcases hs with hs | hs | hs | hs <;> rw [hs] <;> decide))]
        rfl
      · refine hB _ _ _ _ _ (fun m14 hm14 => ?_)
        dsimp only [ugo, uwp, ust, uct, rfd, Bpop, Nat.beq, lv_args, rlk, rs1, rs2, rdl, rky, rcd, rno, rsw, Value.category, List.filter, List.take, List.drop, List.reverse, List.reverseAux, List.cons_append, List.nil_append, Option.toList, Int.toNat, Int.reduceToNat, if_pos, if_neg, reduceIte, ↓reduceIte, Nat.reduceAdd, Nat.reduceEqDiff, Nat.reduceBEq, beq_self_eq_true, Bool.not_true, Bool.not_false, Bool.and_true, Bool.and_false, Bool.true_and, Bool.false_and, gI_sI, gI_sL, gI_sA, gI_sM, gL_sI, gL_sL, gL_sA, gL_sM, aI_sI, aI_sL, aI_sA, aI_sM, aL_sI, aL_sL, aL_sA, aL_sM, Bpop_0, Bpop_19, Bpop_25, Bpop_30, Bpop_35, Bpop_39, Bpop_40, oi_0, oi_1, oi_17, oi_18, oi_21, oi_3, oi_4]; try dsimp only
        refine ⟨fun h15 => ?_, fun h15 => ?_⟩
        · refine hB _ _ _ _ _ (fun m16 hm16 => ?_)
          dsimp only [ugo, uwp, ust, uct, rfd, Bpop, Nat.beq, lv_args, rlk, rs1, rs2, rdl, rky, rcd, rno, rsw, Value.category, List.filter, List.take, List.drop, List.reverse, List.reverseAux, List.cons_append, List.nil_append, Option.toList, Int.toNat, Int.reduceToNat, if_pos, if_neg, reduceIte, ↓reduceIte, Nat.reduceAdd, Nat.reduceEqDiff, Nat.reduceBEq, beq_self_eq_true, Bool.not_true, Bool.not_false, Bool.and_true, Bool.and_false, Bool.true_and, Bool.false_and, gI_sI, gI_sL, gI_sA, gI_sM, gL_sI, gL_sL, gL_sA, gL_sM, aI_sI, aI_sL, aI_sA, aI_sM, aL_sI, aL_sL, aL_sA, aL_sM, Bpop_0, Bpop_19, Bpop_25, Bpop_30, Bpop_35, Bpop_39, Bpop_40, oi_0, oi_1, oi_17, oi_18, oi_21, oi_3, oi_4]; try dsimp only
          refine hB _ _ _ _ _ (fun m17 hm17 => ?_)
          dsimp only [ugo, uwp, ust, uct, rfd, Bpop, Nat.beq, lv_args, rlk, rs1, rs2, rdl, rky, rcd, rno, rsw, Value.category, List.filter, List.take, List.drop, List.reverse, List.reverseAux, List.cons_append, List.nil_append, Option.toList, Int.toNat, Int.reduceToNat, if_pos, if_neg, reduceIte, ↓reduceIte, Nat.reduceAdd, Nat.reduceEqDiff, Nat.reduceBEq, beq_self_eq_true, Bool.not_true, Bool.not_false, Bool.and_true, Bool.and_false, Bool.true_and, Bool.false_and, gI_sI, gI_sL, gI_sA, gI_sM, gL_sI, gL_sL, gL_sA, gL_sM, aI_sI, aI_sL, aI_sA, aI_sM, aL_sI, aL_sL, aL_sA, aL_sM, Bpop_0, Bpop_19, Bpop_25, Bpop_30, Bpop_35, Bpop_39, Bpop_40, oi_0, oi_1, oi_17, oi_18, oi_21, oi_3, oi_4]; try dsimp only
          intro p18
          refine ⟨trivial, fun w19 τ19 hq19 => ?_⟩
          obtain ⟨rfl, hE19⟩ := hq19 trivial
          dsimp only [Option.toList, List.cons_append, List.nil_append, Nat.beq, gI_sI, gI_sL, gI_sA, gI_sM, gL_sI, gL_sL, gL_sA, gL_sM, aI_sI, aI_sL, aI_sA, aI_sM, aL_sI, aL_sL, aL_sA, aL_sM]
          unfold Qv_popZ
          try dsimp only
          refine ⟨rfl, _, _, hE19, ?_, by rw [hrt]; exact hfi⟩
          rw [hrt]
          unfold acZ
          have hs : (aI σ 19 (gI σ 33).toNatClampNeg) = 17 ∨ (aI σ 19 (gI σ 33).toNatClampNeg) = 18 ∨ (aI σ 19 (gI σ 33).toNatClampNeg) = 4 ∨ (aI σ 19 (gI σ 33).toNatClampNeg) = 3 := by lia
          rw [if_pos ((op_17 hk).mp (by rw [← hop]; rcases hs with hs | hs | hs | hs <;> rw [hs] <;> decide))]
          rfl
        · refine hB _ _ _ _ _ (fun m20 hm20 => ?_)
          dsimp only [ugo, uwp, ust, uct, rfd, Bpop, Nat.beq, lv_args, rlk, rs1, rs2, rdl, rky, rcd, rno, rsw, Value.category, List.filter, List.take, List.drop, List.reverse, List.reverseAux, List.cons_append, List.nil_append, Option.toList, Int.toNat, Int.reduceToNat, if_pos, if_neg, reduceIte, ↓reduceIte, Nat.reduceAdd, Nat.reduceEqDiff, Nat.reduceBEq, beq_self_eq_true, Bool.not_true, Bool.not_false, Bool.and_true, Bool.and_false, Bool.true_and, Bool.false_and, gI_sI, gI_sL, gI_sA, gI_sM, gL_sI, gL_sL, gL_sA, gL_sM, aI_sI, aI_sL, aI_sA, aI_sM, aL_sI, aL_sL, aL_sA, aL_sM, Bpop_0, Bpop_19, Bpop_25, Bpop_30, Bpop_35, Bpop_39, Bpop_40, oi_0, oi_1, oi_17, oi_18, oi_21, oi_3, oi_4]; try dsimp only
          refine ⟨fun h21 => ?_, fun h21 => ?_⟩
          · refine hB _ _ _ _ _ (fun m22 hm22 => ?_)
            dsimp only [ugo, uwp, ust, uct, rfd, Bpop, Nat.beq, lv_args, rlk, rs1, rs2, rdl, rky, rcd, rno, rsw, Value.category, List.filter, List.take, List.drop, List.reverse, List.reverseAux, List.cons_append, List.nil_append, Option.toList, Int.toNat, Int.reduceToNat, if_pos, if_neg, reduceIte, ↓reduceIte, Nat.reduceAdd, Nat.reduceEqDiff, Nat.reduceBEq, beq_self_eq_true, Bool.not_true, Bool.not_false, Bool.and_true, Bool.and_false, Bool.true_and, Bool.false_and, gI_sI, gI_sL, gI_sA, gI_sM, gL_sI, gL_sL, gL_sA, gL_sM, aI_sI, aI_sL, aI_sA, aI_sM, aL_sI, aL_sL, aL_sA, aL_sM, Bpop_0, Bpop_19, Bpop_25, Bpop_30, Bpop_35, Bpop_39, Bpop_40, oi_0, oi_1, oi_17, oi_18, oi_21, oi_3, oi_4]; try dsimp only
            refine hB _ _ _ _ _ (fun m23 hm23 => ?_)
            dsimp only [ugo, uwp, ust, uct, rfd, Bpop, Nat.beq, lv_args, rlk, rs1, rs2, rdl, rky, rcd, rno, rsw, Value.category, List.filter, List.take, List.drop, List.reverse, List.reverseAux, List.cons_append, List.nil_append, Option.toList, Int.toNat, Int.reduceToNat, if_pos, if_neg, reduceIte, ↓reduceIte, Nat.reduceAdd, Nat.reduceEqDiff, Nat.reduceBEq, beq_self_eq_true, Bool.not_true, Bool.not_false, Bool.and_true, Bool.and_false, Bool.true_and, Bool.false_and, gI_sI, gI_sL, gI_sA, gI_sM, gL_sI, gL_sL, gL_sA, gL_sM, aI_sI, aI_sL, aI_sA, aI_sM, aL_sI, aL_sL, aL_sA, aL_sM, Bpop_0, Bpop_19, Bpop_25, Bpop_30, Bpop_35, Bpop_39, Bpop_40, oi_0, oi_1, oi_17, oi_18, oi_21, oi_3, oi_4]; try dsimp only
            intro p24
            refine ⟨trivial, fun w25 τ25 hq25 => ?_⟩
            obtain ⟨rfl, hE25⟩ := hq25 trivial
            dsimp only [Option.toList, List.cons_append, List.nil_append, Nat.beq, gI_sI, gI_sL, gI_sA, gI_sM, gL_sI, gL_sL, gL_sA, gL_sM, aI_sI, aI_sL, aI_sA, aI_sM, aL_sI, aL_sL, aL_sA, aL_sM]
            unfold Qv_popZ
            try dsimp only
            refine ⟨rfl, _, _, hE25, ?_, by rw [hrt]; exact hfi⟩
            rw [hrt]
            unfold acZ
            have hs : ¬ (aI σ 19 (gI σ 33).toNatClampNeg) = 17 ∧ ¬ (aI σ 19 (gI σ 33).toNatClampNeg) = 18 ∧ ¬ (aI σ 19 (gI σ 33).toNatClampNeg) = 4 ∧ ¬ (aI σ 19 (gI σ 33).toNatClampNeg) = 3 := by lia
            rw [if_neg (fun q => by
              rcases (op_17 hk).mpr q with q | q | q | q <;> rw [← hop] at q
              · exact hs.1 (Int32.toInt_inj.mp q)
              · exact hs.2.1 (Int32.toInt_inj.mp q)
              · exact hs.2.2.1 (Int32.toInt_inj.mp q)
              · exact hs.2.2.2 (Int32.toInt_inj.mp q))]
            rfl
          · refine hB _ _ _ _ _ (fun m26 hm26 => ?_)
            dsimp only [ugo, uwp, ust, uct, rfd, Bpop, Nat.beq, lv_args, rlk, rs1, rs2, rdl, rky, rcd, rno, rsw, Value.category, List.filter, List.take, List.drop, List.reverse, List.reverseAux, List.cons_append, List.nil_append, Option.toList, Int.toNat, Int.reduceToNat, if_pos, if_neg, reduceIte, ↓reduceIte, Nat.reduceAdd, Nat.reduceEqDiff, Nat.reduceBEq, beq_self_eq_true, Bool.not_true, Bool.not_false, Bool.and_true, Bool.and_false, Bool.true_and, Bool.false_and, gI_sI, gI_sL, gI_sA, gI_sM, gL_sI, gL_sL, gL_sA, gL_sM, aI_sI, aI_sL, aI_sA, aI_sM, aL_sI, aL_sL, aL_sA, aL_sM, Bpop_0, Bpop_19, Bpop_25, Bpop_30, Bpop_35, Bpop_39, Bpop_40, oi_0, oi_1, oi_17, oi_18, oi_21, oi_3, oi_4]; try dsimp only
            refine hB _ _ _ _ _ (fun m27 hm27 => ?_)
            dsimp only [ugo, uwp, ust, uct, rfd, Bpop, Nat.beq, lv_args, rlk, rs1, rs2, rdl, rky, rcd, rno, rsw, Value.category, List.filter, List.take, List.drop, List.reverse, List.reverseAux, List.cons_append, List.nil_append, Option.toList, Int.toNat, Int.reduceToNat, if_pos, if_neg, reduceIte, ↓reduceIte, Nat.reduceAdd, Nat.reduceEqDiff, Nat.reduceBEq, beq_self_eq_true, Bool.not_true, Bool.not_false, Bool.and_true, Bool.and_false, Bool.true_and, Bool.false_and, gI_sI, gI_sL, gI_sA, gI_sM, gL_sI, gL_sL, gL_sA, gL_sM, aI_sI, aI_sL, aI_sA, aI_sM, aL_sI, aL_sL, aL_sA, aL_sM, Bpop_0, Bpop_19, Bpop_25, Bpop_30, Bpop_35, Bpop_39, Bpop_40, oi_0, oi_1, oi_17, oi_18, oi_21, oi_3, oi_4]; try dsimp only
            intro p28
            refine ⟨trivial, fun w29 τ29 hq29 => ?_⟩
            obtain ⟨rfl, hE29⟩ := hq29 trivial
            dsimp only [Option.toList, List.cons_append, List.nil_append, Nat.beq, gI_sI, gI_sL, gI_sA, gI_sM, gL_sI, gL_sL, gL_sA, gL_sM, aI_sI, aI_sL, aI_sA, aI_sM, aL_sI, aL_sL, aL_sA, aL_sM]
            unfold Qv_popZ
            try dsimp only
            refine ⟨rfl, _, _, hE29, ?_, by rw [hrt]; exact hfi⟩
            rw [hrt]
            unfold acZ
            have hs : (aI σ 19 (gI σ 33).toNatClampNeg) = 17 ∨ (aI σ 19 (gI σ 33).toNatClampNeg) = 18 ∨ (aI σ 19 (gI σ 33).toNatClampNeg) = 4 ∨ (aI σ 19 (gI σ 33).toNatClampNeg) = 3 := by lia
            rw [if_pos ((op_17 hk).mp (by rw [← hop]; rcases hs with hs | hs | hs | hs <;> rw [hs] <;> decide))]
            rfl
  next => exact hP.elim
theorem w_popZ : UMet 51 (fun _ _ => True) Qw_popZ := fun A1 σ _ w τ h z hP => v_popZ z A1 σ hP w τ h
def Pv_conditionZ (N : Int → Int) (σ0 : RS) (z : ZS) (n : Nat) : UP1 := fun A1 σ => match A1 with
  | [] => XrR σ0 σ z.1 n ∧ n ≤ 21 ∧ PcM id σ z ∧ TlZ σ z.1
  | _ => False
def Qv_conditionZ (N : Int → Int) (σ0 : RS) (z : ZS) (n : Nat) : UQ1 := fun A1 σ w τ => match A1 with
  | [] => (w = some (.int 0) ∧ FlR τ (cndY n z.1)) ∨ (w = some (.int 1) ∧ XrR σ0 τ (cndY n z.1) n ∧ PcM id τ (cdM N 0 n z) ∧ (gI τ 33).toInt + 1 = (gI τ 18).toInt)
  | _ => False
def Qw_conditionZ : UQ1 := fun A1 σ w τ => ∀ (N : Int → Int) (σ0 : RS) (z : ZS) (n : Nat), Pv_conditionZ N σ0 z n A1 σ → Qv_conditionZ N σ0 z n A1 σ w τ
set_option maxRecDepth 100000 in
set_option maxHeartbeats 4000000 in
theorem v_conditionZ (N : Int → Int) (σ0 : RS) (z : ZS) (n : Nat) : UMet 52 (Pv_conditionZ N σ0 z n) (Qv_conditionZ N σ0 z n) := by
  refine UMet.by Bcondition [(27, (fun _ _ => True), Qw_expressionZ), (18, (fun _ _ => True), Qw_want)] rfl (ucc w_expressionZ (ucc w_want uc0)) ?_
  intro A1 σ hP K hB hW
  unfold Pv_conditionZ at hP
  split at hP
  next =>
    obtain ⟨hX, hn, hPc, hTl⟩ := hP
    intro n0_
    refine hB _ _ _ _ _ (fun m1 hm1 => ?_)
    dsimp only [ugo, uwp, ust, uct, rfd, Bcondition, Nat.beq, lv_args, rlk, rs1, rs2, rdl, rky, rcd, rno, rsw, Value.category, List.filter, List.take, List.drop, List.reverse, List.reverseAux, List.cons_append, List.nil_append, Option.toList, Int.toNat, Int.reduceToNat, if_pos, if_neg, reduceIte, ↓reduceIte, Nat.reduceAdd, Nat.reduceEqDiff, Nat.reduceBEq, beq_self_eq_true, Bool.not_true, Bool.not_false, Bool.and_true, Bool.and_false, Bool.true_and, Bool.false_and, gI_sI, gI_sL, gI_sA, gI_sM, gL_sI, gL_sL, gL_sA, gL_sM, aI_sI, aI_sL, aI_sA, aI_sM, aL_sI, aL_sL, aL_sA, aL_sM, Bcondition_0, Bcondition_9, Bcondition_16, Bcondition_25, Bcondition_29, Bcondition_30, oi_0, oi_1, oi_40, oi_41]; try dsimp only
    refine ⟨trivial, fun w2 τ2 hq2 => ?_⟩
    have hq2 := hq2 σ0 z.1 n 0 ⟨(by repeat (first | exact hX | refine XrR.i ?_ (by decide) | refine XrR.up ?_ (by omega) | refine XrR.a ?_ (by decide))), by decide⟩
    rcases hq2 with ⟨rfl, hF2⟩ | ⟨rfl, hc2, hX2, hz2, hS2⟩
    · dsimp only [Option.toList, List.cons_append, List.nil_append, Nat.beq, gI_sI, gI_sL, gI_sA, gI_sM, gL_sI, gL_sL, gL_sA, gL_sM, aI_sI, aI_sL, aI_sA, aI_sM, aL_sI, aL_sL, aL_sA, aL_sM]
      refine ⟨fun h3 => ?_, fun h3 => absurd h3 (by decide)⟩
      clear h3
      refine hB _ _ _ _ _ (fun m4 hm4 => ?_)
      dsimp only [ugo, uwp, ust, uct, rfd, Bcondition, Nat.beq, lv_args, rlk, rs1, rs2, rdl, rky, rcd, rno, rsw, Value.category, List.filter, List.take, List.drop, List.reverse, List.reverseAux, List.cons_append, List.nil_append, Option.toList, Int.toNat, Int.reduceToNat, if_pos, if_neg, reduceIte, ↓reduceIte, Nat.reduceAdd, Nat.reduceEqDiff, Nat.reduceBEq, beq_self_eq_true, Bool.not_true, Bool.not_false, Bool.and_true, Bool.and_false, Bool.true_and, Bool.false_and, gI_sI, gI_sL, gI_sA, gI_sM, gL_sI, gL_sL, gL_sA, gL_sM, aI_sI, aI_sL, aI_sA, aI_sM, aL_sI, aL_sL, aL_sA, aL_sM, Bcondition_0, Bcondition_9, Bcondition_16, Bcondition_25, Bcondition_29, Bcondition_30, oi_0, oi_1, oi_40, oi_41]; try dsimp only
      refine hB _ _ _ _ _ (fun m5 hm5 => ?_)
      dsimp only [ugo, uwp, ust, uct, rfd, Bcondition, Nat.beq, lv_args, rlk, rs1, rs2, rdl, rky, rcd, rno, rsw, Value.category, List.filter, List.take, List.drop, List.reverse, List.reverseAux, List.cons_append, List.nil_append, Option.toList, Int.toNat, Int.reduceToNat, if_pos, if_neg, reduceIte, ↓reduceIte, Nat.reduceAdd, Nat.reduceEqDiff, Nat.reduceBEq, beq_self_eq_true, Bool.not_true, Bool.not_false, Bool.and_true, Bool.and_false, Bool.true_and, Bool.false_and, gI_sI, gI_sL, gI_sA, gI_sM, gL_sI, gL_sL, gL_sA, gL_sM, aI_sI, aI_sL, aI_sA, aI_sM, aL_sI, aL_sL, aL_sA, aL_sM, Bcondition_0, Bcondition_9, Bcondition_16, Bcondition_25, Bcondition_29, Bcondition_30, oi_0, oi_1, oi_40, oi_41]; try dsimp only
      unfold Qv_conditionZ
      try dsimp only
      refine Or.inl ⟨rfl, FlR.g hF2 ?_⟩
      unfold cndY
      exact (by repeat (first | with_reducible exact GpY.rf | with_reducible refine GpY.tr ?_ (gd_fo _) | with_reducible refine GpY.tr ?_ (gd_ef _) | with_reducible refine GpY.tr ?_ (gd_cf _) | with_reducible refine GpY.tr ?_ (gd_wt _) | with_reducible refine GpY.tr ?_ (gd_xp _) | with_reducible refine GpY.tr ?_ (gd_acc _) | with_reducible refine GpY.tr ?_ (gd_rai _) | with_reducible refine GpY.tr ?_ (gd_e _) | with_reducible refine GpY.tr ?_ (gd_o _) | with_reducible refine GpY.tr ?_ (gd_c _) | with_reducible refine GpY.tr ?_ (gd_op _) | with_reducible refine GpY.tr ?_ (gd_clp gd_e _ _) | with_reducible refine GpY.tr ?_ (gd_tl _) | with_reducible refine GpY.tr ?_ (gd_sf _ _ _) | with_reducible refine GpY.tr ?_ (gd_cl _) | with_reducible refine GpY.tr ?_ (gd_pc _) | with_reducible refine GpY.tr ?_ (gd_st _) | with_reducible refine GpY.tr ?_ (gd_rw _) | with_reducible refine GpY.tr ?_ (gd_typ _) | with_reducible refine GpY.tr ?_ (gd_dcl _) | with_reducible refine GpY.tr ?_ (gd_va2 _) | with_reducible refine GpY.tr ?_ (gd_cnd _) | with_reducible refine GpY.tr ?_ (gd_tr1 _) | with_reducible refine GpY.tr ?_ (gd_tr2 (fun _ => gd_rw) _) | with_reducible refine GpY.tr ?_ (gd_tr3 (fun _ => gd_rw) _) | with_reducible refine GpY.tr ?_ (gd_fo1 _) | with_reducible refine GpY.tr ?_ (gd_fo2 _) | with_reducible refine GpY.tr ?_ (gd_fo3 _) | with_reducible refine GpY.tr ?_ (gd_fex _) | with_reducible refine GpY.tr ?_ (pg_var.1) | with_reducible refine GpY.tr ?_ (pg_cas.1) | exact GpY.rf))
    · dsimp only [Option.toList, List.cons_append, List.nil_append, Nat.beq, gI_sI, gI_sL, gI_sA, gI_sM, gL_sI, gL_sL, gL_sA, gL_sM, aI_sI, aI_sL, aI_sA, aI_sM, aL_sI, aL_sL, aL_sA, aL_sM]
      have hO2 := hS2.o (by decide)
      have h34_2 := hS2.1 34 (by decide)
      try dsimp only [Nat.beq, gI_sI, gI_sL, gI_sA, gI_sM, gL_sI, gL_sL, gL_sA, gL_sM, aI_sI, aI_sL, aI_sA, aI_sM, aL_sI, aL_sL, aL_sA, aL_sM] at h34_2
      refine ⟨fun h6 => absurd h6 (by decide), fun h6 => ?_⟩
      clear h6
      refine hB _ _ _ _ _ (fun m7 hm7 => ?_)
      dsimp only [ugo, uwp, ust, uct, rfd, Bcondition, Nat.beq, lv_args, rlk, rs1, rs2, rdl, rky, rcd, rno, rsw, Value.category, List.filter, List.take, List.drop, List.reverse, List.reverseAux, List.cons_append, List.nil_append, Option.toList, Int.toNat, Int.reduceToNat, if_pos, if_neg, reduceIte, ↓reduceIte, Nat.reduceAdd, Nat.reduceEqDiff, Nat.reduceBEq, beq_self_eq_true, Bool.not_true, Bool.not_false, Bool.and_true, Bool.and_false, Bool.true_and, Bool.false_and, gI_sI, gI_sL, gI_sA, gI_sM, gL_sI, gL_sL, gL_sA, gL_sM, aI_sI, aI_sL, aI_sA, aI_sM, aL_sI, aL_sL, aL_sA, aL_sM, Bcondition_0, Bcondition_9, Bcondition_16, Bcondition_25, Bcondition_29, Bcondition_30, oi_0, oi_1, oi_40, oi_41]; try dsimp only
      refine ⟨trivial, fun w8 τ8 hq8 => ?_⟩
      have hxp : (xpM 0 z).1 = accY z.1 := xp_y hc2
      have hq8 := hq8 N id σ0 (xpM 0 z) n ⟨by rw [hxp]; exact hX2, by omega, PcM.z (PcM.s1 hPc hS2 (by decide)) rfl, TlZ.fr hTl hX.2.2 hX2.2.2 (p2_xp _)⟩
      dsimp only [Qv_expressionZ] at hq8
      rw [lf_e, hxp] at hq8
      rcases hq8 with ⟨rfl, hF8⟩ | ⟨rfl, hX8, hP8, h33_8⟩
      · dsimp only [Option.toList, List.cons_append, List.nil_append, Nat.beq, gI_sI, gI_sL, gI_sA, gI_sM, gL_sI, gL_sL, gL_sA, gL_sM, aI_sI, aI_sL, aI_sA, aI_sM, aL_sI, aL_sL, aL_sA, aL_sM]
        refine ⟨fun h9 => ?_, fun h9 => absurd h9 (by decide)⟩
        clear h9
        refine hB _ _ _ _ _ (fun m10 hm10 => ?_)
        dsimp only [ugo, uwp, ust, uct, rfd, Bcondition, Nat.beq, lv_args, rlk, rs1, rs2, rdl, rky, rcd, rno, rsw, Value.category, List.filter, List.take, List.drop, List.reverse, List.reverseAux, List.cons_append, List.nil_append, Option.toList, Int.toNat, Int.reduceToNat, if_pos, if_neg, reduceIte, ↓reduceIte, Nat.reduceAdd, Nat.reduceEqDiff, Nat.reduceBEq, beq_self_eq_true, Bool.not_true, Bool.not_false, Bool.and_true, Bool.and_false, Bool.true_and, Bool.false_and, gI_sI, gI_sL, gI_sA, gI_sM, gL_sI, gL_sL, gL_sA, gL_sM, aI_sI, aI_sL, aI_sA, aI_sM, aL_sI, aL_sL, aL_sA, aL_sM, Bcondition_0, Bcondition_9, Bcondition_16, Bcondition_25, Bcondition_29, Bcondition_30, oi_0, oi_1, oi_40, oi_41]; try dsimp only
        refine hB _ _ _ _ _ (fun m11 hm11 => ?_)
        dsimp only [ugo, uwp, ust, uct, rfd, Bcondition, Nat.beq, lv_args, rlk, rs1, rs2, rdl, rky, rcd, rno, rsw, Value.category, List.filter, List.take, List.drop, List.reverse, List.reverseAux, List.cons_append, List.nil_append, Option.toList, Int.toNat, Int.reduceToNat, if_pos, if_neg, reduceIte, ↓reduceIte, Nat.reduceAdd, Nat.reduceEqDiff, Nat.reduceBEq, beq_self_eq_true, Bool.not_true, Bool.not_false, Bool.and_true, Bool.and_false, Bool.true_and, Bool.false_and, gI_sI, gI_sL, gI_sA, gI_sM, gL_sI, gL_sL, gL_sA, gL_sM, aI_sI, aI_sL, aI_sA, aI_sM, aL_sI, aL_sL, aL_sA, aL_sM, Bcondition_0, Bcondition_9, Bcondition_16, Bcondition_25, Bcondition_29, Bcondition_30, oi_0, oi_1, oi_40, oi_41]; try dsimp only
        unfold Qv_conditionZ
        try dsimp only
        refine Or.inl ⟨rfl, FlR.g hF8 ?_⟩
        unfold cndY
        rw [xp_y hc2]
        exact (by repeat (first | with_reducible exact GpY.rf | with_reducible refine GpY.tr ?_ (gd_fo _) | with_reducible refine GpY.tr ?_ (gd_ef _) | with_reducible refine GpY.tr ?_ (gd_cf _) | with_reducible refine GpY.tr ?_ (gd_wt _) | with_reducible refine GpY.tr ?_ (gd_xp _) | with_reducible refine GpY.tr ?_ (gd_acc _) | with_reducible refine GpY.tr ?_ (gd_rai _) | with_reducible refine GpY.tr ?_ (gd_e _) | with_reducible refine GpY.tr ?_ (gd_o _) | with_reducible refine GpY.tr ?_ (gd_c _) | with_reducible refine GpY.tr ?_ (gd_op _) | with_reducible refine GpY.tr ?_ (gd_clp gd_e _ _) | with_reducible refine GpY.tr ?_ (gd_tl _) | with_reducible refine GpY.tr ?_ (gd_sf _ _ _) | with_reducible refine GpY.tr ?_ (gd_cl _) | with_reducible refine GpY.tr ?_ (gd_pc _) | with_reducible refine GpY.tr ?_ (gd_st _) | with_reducible refine GpY.tr ?_ (gd_rw _) | with_reducible refine GpY.tr ?_ (gd_typ _) | with_reducible refine GpY.tr ?_ (gd_dcl _) | with_reducible refine GpY.tr ?_ (gd_va2 _) | with_reducible refine GpY.tr ?_ (gd_cnd _) | with_reducible refine GpY.tr ?_ (gd_tr1 _) | with_reducible refine GpY.tr ?_ (gd_tr2 (fun _ => gd_rw) _) | with_reducible refine GpY.tr ?_ (gd_tr3 (fun _ => gd_rw) _) | with_reducible refine GpY.tr ?_ (gd_fo1 _) | with_reducible refine GpY.tr ?_ (gd_fo2 _) | with_reducible refine GpY.tr ?_ (gd_fo3 _) | with_reducible refine GpY.tr ?_ (gd_fex _) | with_reducible refine GpY.tr ?_ (pg_var.1) | with_reducible refine GpY.tr ?_ (pg_cas.1) | exact GpY.rf))
      · dsimp only [Option.toList, List.cons_append, List.nil_append, Nat.beq, gI_sI, gI_sL, gI_sA, gI_sM, gL_sI, gL_sL, gL_sA, gL_sM, aI_sI, aI_sL, aI_sA, aI_sM, aL_sI, aL_sL, aL_sA, aL_sM]
        refine ⟨fun h12 => absurd h12 (by decide), fun h12 => ?_⟩
        clear h12
        refine hB _ _ _ _ _ (fun m13 hm13 => ?_)
        dsimp only [ugo, uwp, ust, uct, rfd, Bcondition, Nat.beq, lv_args, rlk, rs1, rs2, rdl, rky, rcd, rno, rsw, Value.category, List.filter, List.take, List.drop, List.reverse, List.reverseAux, List.cons_append, List.nil_append, Option.toList, Int.toNat, Int.reduceToNat, if_pos, if_neg, reduceIte, ↓reduceIte, Nat.reduceAdd, Nat.reduceEqDiff, Nat.reduceBEq, beq_self_eq_true, Bool.not_true, Bool.not_false, Bool.and_true, Bool.and_false, Bool.true_and, Bool.false_and, gI_sI, gI_sL, gI_sA, gI_sM, gL_sI, gL_sL, gL_sA, gL_sM, aI_sI, aI_sL, aI_sA, aI_sM, aL_sI, aL_sL, aL_sA, aL_sM, Bcondition_0, Bcondition_9, Bcondition_16, Bcondition_25, Bcondition_29, Bcondition_30, oi_0, oi_1, oi_40, oi_41]; try dsimp only
        refine ⟨trivial, fun w14 τ14 hq14 => ?_⟩
        have hq14 := hq14 σ0 (eY n (accY z.1)) n 1 ⟨(by repeat (first | exact hX8 | refine XrR.i ?_ (by decide) | refine XrR.up ?_ (by omega) | refine XrR.a ?_ (by decide))), by decide⟩
        rcases hq14 with ⟨rfl, hF14⟩ | ⟨rfl, hc14, hX14, hz14, hS14⟩
        · dsimp only [Option.toList, List.cons_append, List.nil_append, Nat.beq, gI_sI, gI_sL, gI_sA, gI_sM, gL_sI, gL_sL, gL_sA, gL_sM, aI_sI, aI_sL, aI_sA, aI_sM, aL_sI, aL_sL, aL_sA, aL_sM]
          refine ⟨fun h15 => ?_, fun h15 => absurd h15 (by decide)⟩
          clear h15
          refine hB _ _ _ _ _ (fun m16 hm16 => ?_)
          dsimp only [ugo, uwp, ust, uct, rfd, Bcondition, Nat.beq, lv_args, rlk, rs1, rs2, rdl, rky, rcd, rno, rsw, Value.category, List.filter, List.take, List.drop, List.reverse, List.reverseAux, List.cons_append, List.nil_append, Option.toList, Int.toNat, Int.reduceToNat, if_pos, if_neg, reduceIte, ↓reduceIte, Nat.reduceAdd, Nat.reduceEqDiff, Nat.reduceBEq, beq_self_eq_true, Bool.not_true, Bool.not_false, Bool.and_true, Bool.and_false, Bool.true_and, Bool.false_and, gI_sI, gI_sL, gI_sA, gI_sM, gL_sI, gL_sL, gL_sA, gL_sM, aI_sI, aI_sL, aI_sA, aI_sM, aL_sI, aL_sL, aL_sA, aL_sM, Bcondition_0, Bcondition_9, Bcondition_16, Bcondition_25, Bcondition_29, Bcondition_30, oi_0, oi_1, oi_40, oi_41]; try dsimp only
          refine hB _ _ _ _ _ (fun m17 hm17 => ?_)
          dsimp only [ugo, uwp, ust, uct, rfd, Bcondition, Nat.beq, lv_args, rlk, rs1, rs2, rdl, rky, rcd, rno, rsw, Value.category, List.filter, List.take, List.drop, List.reverse, List.reverseAux, List.cons_append, List.nil_append, Option.toList, Int.toNat, Int.reduceToNat, if_pos, if_neg, reduceIte, ↓reduceIte, Nat.reduceAdd, Nat.reduceEqDiff, Nat.reduceBEq, beq_self_eq_true, Bool.not_true, Bool.not_false, Bool.and_true, Bool.and_false, Bool.true_and, Bool.false_and, gI_sI, gI_sL, gI_sA, gI_sM, gL_sI, gL_sL, gL_sA, gL_sM, aI_sI, aI_sL, aI_sA, aI_sM, aL_sI, aL_sL, aL_sA, aL_sM, Bcondition_0, Bcondition_9, Bcondition_16, Bcondition_25, Bcondition_29, Bcondition_30, oi_0, oi_1, oi_40, oi_41]; try dsimp only
          unfold Qv_conditionZ
          try dsimp only
          refine Or.inl ⟨rfl, FlR.g hF14 ?_⟩
          unfold cndY
          rw [xp_y hc2]
          exact (by repeat (first | with_reducible exact GpY.rf | with_reducible refine GpY.tr ?_ (gd_fo _) | with_reducible refine GpY.tr ?_ (gd_ef _) | with_reducible refine GpY.tr ?_ (gd_cf _) | with_reducible refine GpY.tr ?_ (gd_wt _) | with_reducible refine GpY.tr ?_ (gd_xp _) | with_reducible refine GpY.tr ?_ (gd_acc _) | with_reducible refine GpY.tr ?_ (gd_rai _) | with_reducible refine GpY.tr ?_ (gd_e _) | with_reducible refine GpY.tr ?_ (gd_o _) | with_reducible refine GpY.tr ?_ (gd_c _) | with_reducible refine GpY.tr ?_ (gd_op _) | with_reducible refine GpY.tr ?_ (gd_clp gd_e _ _) | with_reducible refine GpY.tr ?_ (gd_tl _) | with_reducible refine GpY.tr ?_ (gd_sf _ _ _) | with_reducible refine GpY.tr ?_ (gd_cl _) | with_reducible refine GpY.tr ?_ (gd_pc _) | with_reducible refine GpY.tr ?_ (gd_st _) | with_reducible refine GpY.tr ?_ (gd_rw _) | with_reducible refine GpY.tr ?_ (gd_typ _) | with_reducible refine GpY.tr ?_ (gd_dcl _) | with_reducible refine GpY.tr ?_ (gd_va2 _) | with_reducible refine GpY.tr ?_ (gd_cnd _) | with_reducible refine GpY.tr ?_ (gd_tr1 _) | with_reducible refine GpY.tr ?_ (gd_tr2 (fun _ => gd_rw) _) | with_reducible refine GpY.tr ?_ (gd_tr3 (fun _ => gd_rw) _) | with_reducible refine GpY.tr ?_ (gd_fo1 _) | with_reducible refine GpY.tr ?_ (gd_fo2 _) | with_reducible refine GpY.tr ?_ (gd_fo3 _) | with_reducible refine GpY.tr ?_ (gd_fex _) | with_reducible refine GpY.tr ?_ (pg_var.1) | with_reducible refine GpY.tr ?_ (pg_cas.1) | exact GpY.rf))
        · dsimp only [Option.toList, List.cons_append, List.nil_append, Nat.beq, gI_sI, gI_sL, gI_sA, gI_sM, gL_sI, gL_sL, gL_sA, gL_sM, aI_sI, aI_sL, aI_sA, aI_sM, aL_sI, aL_sL, aL_sA, aL_sM]
          have hO14 := hS14.o (by decide)
          have h34_14 := hS14.1 34 (by decide)
          try dsimp only [Nat.beq, gI_sI, gI_sL, gI_sA, gI_sM, gL_sI, gL_sL, gL_sA, gL_sM, aI_sI, aI_sL, aI_sA, aI_sM, aL_sI, aL_sL, aL_sA, aL_sM] at h34_14
          refine ⟨fun h18 => absurd h18 (by decide), fun h18 => ?_⟩
          clear h18
          refine hB _ _ _ _ _ (fun m19 hm19 => ?_)
          dsimp only [ugo, uwp, ust, uct, rfd, Bcondition, Nat.beq, lv_args, rlk, rs1, rs2, rdl, rky, rcd, rno, rsw, Value.category, List.filter, List.take, List.drop, List.reverse, List.reverseAux, List.cons_append, List.nil_append, Option.toList, Int.toNat, Int.reduceToNat, if_pos, if_neg, reduceIte, ↓reduceIte, Nat.reduceAdd, Nat.reduceEqDiff, Nat.reduceBEq, beq_self_eq_true, Bool.not_true, Bool.not_false, Bool.and_true, Bool.and_false, Bool.true_and, Bool.false_and, gI_sI, gI_sL, gI_sA, gI_sM, gL_sI, gL_sL, gL_sA, gL_sM, aI_sI, aI_sL, aI_sA, aI_sM, aL_sI, aL_sL, aL_sA, aL_sM, Bcondition_0, Bcondition_9, Bcondition_16, Bcondition_25, Bcondition_29, Bcondition_30, oi_0, oi_1, oi_40, oi_41]; try dsimp only
          refine hB _ _ _ _ _ (fun m20 hm20 => ?_)
          dsimp only [ugo, uwp, ust, uct, rfd, Bcondition, Nat.beq, lv_args, rlk, rs1, rs2, rdl, rky, rcd, rno, rsw, Value.category, List.filter, List.take, List.drop, List.reverse, List.reverseAux, List.cons_append, List.nil_append, Option.toList, Int.toNat, Int.reduceToNat, if_pos, if_neg, reduceIte, ↓reduceIte, Nat.reduceAdd, Nat.reduceEqDiff, Nat.reduceBEq, beq_self_eq_true, Bool.not_true, Bool.not_false, Bool.and_true, Bool.and_false, Bool.true_and, Bool.false_and, gI_sI, gI_sL, gI_sA, gI_sM, gL_sI, gL_sL, gL_sA, gL_sM, aI_sI, aI_sL, aI_sA, aI_sM, aL_sI, aL_sL, aL_sA, aL_sM, Bcondition_0, Bcondition_9, Bcondition_16, Bcondition_25, Bcondition_29, Bcondition_30, oi_0, oi_1, oi_40, oi_41]; try dsimp only
          unfold Qv_conditionZ
          try dsimp only
          refine Or.inr ⟨rfl, ?_, PcM.z (PcM.s1 hP8 hS14 (by decide)) rfl, ?_⟩
          · unfold cndY
            rw [xp_y hc2, xp_y hc14]
            exact hX14
          · rw [hS14.1 33 (by decide), hS14.1 18 (by decide)]
            exact h33_8
  next => exact hP.elim
theorem w_conditionZ : UMet 52 (fun _ _ => True) Qw_conditionZ := fun A1 σ _ w τ h N σ0 z n hP => v_conditionZ N σ0 z n A1 σ hP w τ h
