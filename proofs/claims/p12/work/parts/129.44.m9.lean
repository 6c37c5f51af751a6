def pI (k : Nat) : Bool := (14 ≤ k && k ≤ 18) || k == 29 || (31 ≤ k && k ≤ 35) || k == 42 || k == 49 || k == 62
def pA (k : Nat) : Bool := (19 ≤ k && k ≤ 28) || k == 30 || (37 ≤ k && k ≤ 41) || (43 ≤ k && k ≤ 48) || (50 ≤ k && k ≤ 61) || (63 ≤ k && k ≤ 65)
def Fp (σ τ : RS) : Prop := (∀ k, pI k = false → gI τ k = gI σ k) ∧ (∀ k, gL τ k = gL σ k) ∧ (∀ k, pA k = false → aI τ k = aI σ k) ∧ (∀ k, aL τ k = aL σ k) ∧ (GZ σ → GZ τ)
def pB (k : Nat) : Bool := pA k && !(k == 38) && !(k == 44)
theorem pBA {k : Nat} (h : pB k = true) : pA k = true ∧ k ≠ 6 ∧ k ≠ 38 ∧ k ≠ 44 := by
  unfold pB at h
  simp only [Bool.and_eq_true, Bool.not_eq_true', beq_eq_false_iff_ne] at h
  refine ⟨h.1.1, ?_, h.1.2, h.2⟩
  intro q
  subst q
  exact absurd h.1.1 (by decide)
theorem Fp.rf {σ : RS} : Fp σ σ := ⟨fun _ _ => rfl, fun _ => rfl, fun _ _ => rfl, fun _ => rfl, fun g => g⟩
theorem Fp.tr {σ τ υ : RS} (h1 : Fp σ τ) (h2 : Fp τ υ) : Fp σ υ := ⟨fun k hk => (h2.1 k hk).trans (h1.1 k hk), fun k => (h2.2.1 k).trans (h1.2.1 k), fun k hk => (h2.2.2.1 k hk).trans (h1.2.2.1 k hk), fun k => (h2.2.2.2.1 k).trans (h1.2.2.2.1 k), fun g => h2.2.2.2.2 (h1.2.2.2.2 g)⟩
theorem Fp.i {σ τ : RS} (h : Fp σ τ) {k : Nat} {v : Int32} (hk : pI k = true) : Fp σ (sI τ k v) := ⟨fun j hj => by
  rw [gI_sI, nb_ne (fun q => by subst q; rw [hk] at hj; cases hj)]
  exact h.1 j hj, h.2.1, h.2.2.1, h.2.2.2.1, fun g => (h.2.2.2.2 g).same rfl rfl rfl⟩
theorem Fp.a {σ τ : RS} (h : Fp σ τ) {k : Nat} {f : Nat → Int32} (hk : pB k = true) : Fp σ (sA τ k f) := ⟨h.1, h.2.1, fun j hj => by
  rw [aI_sA, nb_ne (fun q => by subst q; rw [(pBA hk).1] at hj; cases hj)]
  exact h.2.2.1 j hj, h.2.2.2.1, fun g => (h.2.2.2.2 g).same (by rw [aI_sA, nb_ne (fun q => (pBA hk).2.1 q.symm)]) (by rw [aI_sA, nb_ne (fun q => (pBA hk).2.2.1 q.symm)]) (by rw [aI_sA, nb_ne (fun q => (pBA hk).2.2.2 q.symm)])⟩
theorem Fp.y {σ τ : RS} (h : Fp σ τ) {f : Nat → Int32} {i : Nat} {v : Int32} (hf : f = upd (aI τ 44) i v) (hv : 0 ≤ v ∧ v ≤ 4) : Fp σ (sA τ 44 f) := ⟨h.1, h.2.1, fun j hj => by
  rw [aI_sA, nb_ne (fun q => by subst q; cases hj)]
  exact h.2.2.1 j hj, h.2.2.2.1, fun g => by
  have g2 := h.2.2.2.2 g
  refine ⟨g2.1, fun j => ?_, g2.2.2⟩
  show 0 ≤ f j ∧ f j ≤ 4
  rw [hf]
  by_cases q : j = i
  · subst q; rw [upd_eq]; exact hv
  · rw [upd_ne q]; exact g2.2.1 j⟩
theorem xpI {k : Nat} (h : pI k = false) : xI k = false := by
  unfold pI at h
  unfold xI
  simp only [Bool.or_eq_false_iff, Bool.and_eq_false_imp, decide_eq_true_eq, decide_eq_false_iff_not, beq_eq_false_iff_ne] at h ⊢
  omega
theorem xpA {k : Nat} (h : pA k = false) : xA k = false := by
  unfold pA at h
  unfold xA
  simp only [Bool.or_eq_false_iff, Bool.and_eq_false_imp, decide_eq_true_eq, decide_eq_false_iff_not, beq_eq_false_iff_ne] at h ⊢
  omega
theorem Fx.p {σ τ : RS} (h : Fx σ τ) : Fp σ τ := ⟨fun k hk => h.1 k (xpI hk), h.2.1, fun k hk => h.2.2.1 k (xpA hk), h.2.2.2, fun g => g.same (h.2.2.1 6 rfl) (h.2.2.1 38 rfl) (h.2.2.1 44 rfl)⟩
def fo (σ : RS) (s k p : Int32) : RS := sI (sI (sA (sA (sA σ 63 (upd (aI σ 63) (gI σ 62).toNatClampNeg s)) 64 (upd (aI σ 64) (gI σ 62).toNatClampNeg k)) 65 (upd (aI σ 65) (gI σ 62).toNatClampNeg p)) 62 (gI σ 62 + 1)) 17 (gI σ 17 + 1)
def va (σ : RS) (ty fx m k : Int32) : RS := sI (sA (sA (sA (sA (sA (sA (sI σ 42 (gI σ 42 + 1)) 43 (upd (aI σ 43) (gI σ 42).toNatClampNeg (gI σ 14))) 44 (upd (aI σ 44) (gI σ 42).toNatClampNeg ty)) 45 (upd (aI σ 45) (gI σ 42).toNatClampNeg fx)) 46 (upd (aI σ 46) (gI σ 42).toNatClampNeg m)) 47 (upd (aI σ 47) (gI σ 42).toNatClampNeg k)) 48 (upd (aI σ 48) (gI σ 42).toNatClampNeg (-2))) 14 (gI σ 14 + 1)
theorem Fp.vr {σ X : RS} {ty fx m k : Int32} (h : Fp σ X) (ht : 0 ≤ ty ∧ ty ≤ 4) : Fp σ (va X ty fx m k) := by
  unfold va
  exact (((((((h.i rfl).a rfl).y rfl ht).a rfl).a rfl).a rfl).a rfl).i rfl
theorem mlt6 {x : Int32} {n : Nat} (hn : (60 - x.toInt).toNat = n) (h0 : 0 ≤ x) (h : x < 60) : (60 - (x + 1).toInt).toNat < n := by
  have h1 : x.toInt < 60 := Int32.lt_iff_toInt_lt.mp h
  have h2 := t_0 h0
  have u : (x + 1).toInt = x.toInt + 1 := t_add1 (by omega)
  omega
theorem sA_id {σ : RS} {k : Nat} : sA σ k (aI σ k) = σ := Prod.ext rfl (Prod.ext rfl (Prod.ext (funext fun j => by by_cases h : j = k <;> simp [sA, aI, h, nb_eq, nb_ne]) rfl))
theorem sA_sA {σ : RS} {k : Nat} {f g : Nat → Int32} : sA (sA σ k f) k g = sA σ k g := Prod.ext rfl (Prod.ext rfl (Prod.ext (funext fun j => by by_cases h : j = k <;> simp [sA, h, nb_eq, nb_ne]) rfl))
def P_thing : RP := fun As σ => match As with
  | [.int s, .int t] => (0 ≤ (gI σ 49) ∧ (gI σ 49) < 600)
  | _ => False
def Q_thing : RQ := fun As σ w τ => match As with
  | [.int s, .int t] => w = some (.int (gI σ 49)) ∧ τ = th σ s t
  | _ => False
set_option maxRecDepth 100000 in
set_option maxHeartbeats 4000000 in
theorem b_thing : Bod Bthing [] P_thing Q_thing := by
  · intro As σ hP G hB hW
    unfold P_thing at hP
    split at hP
    next s t => 
      unfold Q_thing at hB
      dsimp only at hB
      repeat' first
        | apply And.intro
        | refine in_50 ?_ ?_
        | refine in_51 ?_ ?_
        | refine in_52 ?_ ?_
        | refine in_53 ?_ ?_
        | refine in_54 ?_ ?_
        | refine in_55 ?_ ?_
        | refine in_56 ?_ ?_
        | refine in_57 ?_ ?_
        | refine in_58 ?_ ?_
        | refine in_59 ?_ ?_
        | refine in_60 ?_ ?_
        | refine in_61 ?_ ?_
        | (rintro w τ ⟨r, rfl, hq, rfl⟩; dsimp only [Option.toList, List.cons_append, List.nil_append])
        | (rintro w τ ⟨rfl, rfl⟩; dsimp only [Option.toList, List.cons_append, List.nil_append])
        | (rintro w τ ⟨r, rfl, hq⟩; dsimp only [Option.toList, List.cons_append, List.nil_append])
        | (rintro w τ ⟨rfl, hq⟩; dsimp only [Option.toList, List.nil_append])
        | intro _
        | rfl
        | trivial
        | (apply hB; dsimp only [rgo, rfd, Bthing, Nat.beq, rwp, rst, lv_args, rlk, rs1, rs2, rdl, rky, rct, rcs, rcd, rno, rsw, Value.category, List.filter, List.take, List.drop, List.reverse, List.reverseAux, List.cons_append, List.nil_append, Option.toList, Int.toNat, Int.reduceToNat, if_pos, if_neg, reduceIte, ↓reduceIte, Nat.reduceAdd, Nat.reduceEqDiff, Nat.reduceBEq, beq_self_eq_true, Bool.not_true, Bool.not_false, Bool.and_true, Bool.and_false, Bool.true_and, Bool.false_and, gI_sI, gI_sL, gI_sA, gI_sM, gL_sI, gL_sL, gL_sA, gL_sM, aI_sI, aI_sL, aI_sA, aI_sM, aL_sI, aL_sL, aL_sA, aL_sM, Bthing_0, oi_1, oi_m2]; try dsimp only)
        | exact Or.inl rfl
        | exact Or.inr rfl
        | decide
        | (first | (show (_ : Int32) ≤ _; lia) | (show (_ : Int32) < _; lia))
    next => exact hP.elim
theorem m_thing (l : Launch) : RMet l 1 35 P_thing Q_thing := by
  refine RMet.by Bthing [] rothing okBthing ct0 ?_ b_thing
  · intro As σ hP
    unfold P_thing at hP
    split at hP
    next => exact Nat.le_of_ble_eq_true rfl
    next => exact hP.elim
set_option maxRecDepth 100000 in
theorem e_thing (l : Launch) : RMetE l 1 35 P_thing Q_thing := by
  refine RMetE.by Bthing [] rfl rfl rothing okBthing ctE0 ?_ b_thing
  · intro As σ hP
    unfold P_thing at hP
    split at hP
    next => exact Nat.le_of_ble_eq_true rfl
    next => exact hP.elim
def P_isRow : RP := fun As σ => match As with
  | [.int s] => True
  | _ => False
def Q_isRow : RQ := fun As σ w τ => match As with
  | [.int s] => ∃ r : Int32, w = some (.int r) ∧ ((r = 0 ∧ ¬ s = 0 ∧ ¬ s = 1 ∧ s < 9) ∨ (r = 1 ∧ (s = 0 ∨ s = 1 ∨ 9 ≤ s))) ∧ τ = σ
  | _ => False
set_option maxRecDepth 100000 in
set_option maxHeartbeats 4000000 in
theorem b_isRow : Bod BisRow [] P_isRow Q_isRow := by
  · intro As σ hP G hB hW
    unfold P_isRow at hP
    split at hP
    next s => 
      unfold Q_isRow at hB
      dsimp only at hB
      apply hB
      dsimp only [rgo, rfd, BisRow, Nat.beq, rwp, rst, lv_args, rlk, rs1, rs2, rdl, rky, rct, rcs, rcd, rno, rsw, Value.category, List.filter, List.take, List.drop, List.reverse, List.reverseAux, List.cons_append, List.nil_append, Option.toList, Int.toNat, Int.reduceToNat, if_pos, if_neg, reduceIte, ↓reduceIte, Nat.reduceAdd, Nat.reduceEqDiff, Nat.reduceBEq, beq_self_eq_true, Bool.not_true, Bool.not_false, Bool.and_true, Bool.and_false, Bool.true_and, Bool.false_and, gI_sI, gI_sL, gI_sA, gI_sM, gL_sI, gL_sL, gL_sA, gL_sM, aI_sI, aI_sL, aI_sA, aI_sM, aL_sI, aL_sL, aL_sA, aL_sM, BisRow_0, BisRow_4, BisRow_9, BisRow_15, BisRow_19, BisRow_20, oi_0, oi_1, oi_9]; try dsimp only
      refine ⟨fun h1 => ?_, fun h1 => ?_⟩
      · apply hB
        dsimp only [rgo, rfd, BisRow, Nat.beq, rwp, rst, lv_args, rlk, rs1, rs2, rdl, rky, rct, rcs, rcd, rno, rsw, Value.category, List.filter, List.take, List.drop, List.reverse, List.reverseAux, List.cons_append, List.nil_append, Option.toList, Int.toNat, Int.reduceToNat, if_pos, if_neg, reduceIte, ↓reduceIte, Nat.reduceAdd, Nat.reduceEqDiff, Nat.reduceBEq, beq_self_eq_true, Bool.not_true, Bool.not_false, Bool.and_true, Bool.and_false, Bool.true_and, Bool.false_and, gI_sI, gI_sL, gI_sA, gI_sM, gL_sI, gL_sL, gL_sA, gL_sM, aI_sI, aI_sL, aI_sA, aI_sM, aL_sI, aL_sL, aL_sA, aL_sM, BisRow_0, BisRow_4, BisRow_9, BisRow_15, BisRow_19, BisRow_20, oi_0, oi_1, oi_9]; try dsimp only
        apply hB
        dsimp only [rgo, rfd, BisRow, Nat.beq, rwp, rst, lv_args, rlk, rs1, rs2, rdl, rky, rct, rcs, rcd, rno, rsw, Value.category, List.filter, List.take, List.drop, List.reverse, List.reverseAux, List.cons_append, List.nil_append, Option.toList, Int.toNat, Int.reduceToNat, if_pos, if_neg, reduceIte, ↓reduceIte, Nat.reduceAdd, Nat.reduceEqDiff, Nat.reduceBEq, beq_self_eq_true, Bool.not_true, Bool.not_false, Bool.and_true, Bool.and_false, Bool.true_and, Bool.false_and, gI_sI, gI_sL, gI_sA, gI_sM, gL_sI, gL_sL, gL_sA, gL_sM, aI_sI, aI_sL, aI_sA, aI_sM, aL_sI, aL_sL, aL_sA, aL_sM, BisRow_0, BisRow_4, BisRow_9, BisRow_15, BisRow_19, BisRow_20, oi_0, oi_1, oi_9]; try dsimp only
        refine ⟨Or.inr rfl, ?_⟩
        exact ⟨_, rfl, by lia, rfl⟩
      · apply hB
        dsimp only [rgo, rfd, BisRow, Nat.beq, rwp, rst, lv_args, rlk, rs1, rs2, rdl, rky, rct, rcs, rcd, rno, rsw, Value.category, List.filter, List.take, List.drop, List.reverse, List.reverseAux, List.cons_append, List.nil_append, Option.toList, Int.toNat, Int.reduceToNat, if_pos, if_neg, reduceIte, ↓reduceIte, Nat.reduceAdd, Nat.reduceEqDiff, Nat.reduceBEq, beq_self_eq_true, Bool.not_true, Bool.not_false, Bool.and_true, Bool.and_false, Bool.true_and, Bool.false_and, gI_sI, gI_sL, gI_sA, gI_sM, gL_sI, gL_sL, gL_sA, gL_sM, aI_sI, aI_sL, aI_sA, aI_sM, aL_sI, aL_sL, aL_sA, aL_sM, BisRow_0, BisRow_4, BisRow_9, BisRow_15, BisRow_19, BisRow_20, oi_0, oi_1, oi_9]; try dsimp only
        refine ⟨fun h2 => ?_, fun h2 => ?_⟩
        · apply hB
          dsimp only [rgo, rfd, BisRow, Nat.beq, rwp, rst, lv_args, rlk, rs1, rs2, rdl, rky, rct, rcs, rcd, rno, rsw, Value.category, List.filter, List.take, List.drop, List.reverse, List.reverseAux, List.cons_append, List.nil_append, Option.toList, Int.toNat, Int.reduceToNat, if_pos, if_neg, reduceIte, ↓reduceIte, Nat.reduceAdd, Nat.reduceEqDiff, Nat.reduceBEq, beq_self_eq_true, Bool.not_true, Bool.not_false, Bool.and_true, Bool.and_false, Bool.true_and, Bool.false_and, gI_sI, gI_sL, gI_sA, gI_sM, gL_sI, gL_sL, gL_sA, gL_sM, aI_sI, aI_sL, aI_sA, aI_sM, aL_sI, aL_sL, aL_sA, aL_sM, BisRow_0, BisRow_4, BisRow_9, BisRow_15, BisRow_19, BisRow_20, oi_0, oi_1, oi_9]; try dsimp only
          apply hB
          dsimp only [rgo, rfd, BisRow, Nat.beq, rwp, rst, lv_args, rlk, rs1, rs2, rdl, rky, rct, rcs, rcd, rno, rsw, Value.category, List.filter, List.take, List.drop, List.reverse, List.reverseAux, List.cons_append, List.nil_append, Option.toList, Int.toNat, Int.reduceToNat, if_pos, if_neg, reduceIte, ↓reduceIte, Nat.reduceAdd, Nat.reduceEqDiff, Nat.reduceBEq, beq_self_eq_true, Bool.not_true, Bool.not_false, Bool.and_true, Bool.and_false, Bool.true_and, Bool.false_and, gI_sI, gI_sL, gI_sA, gI_sM, gL_sI, gL_sL, gL_sA, gL_sM, aI_sI, aI_sL, aI_sA, aI_sM, aL_sI, aL_sL, aL_sA, aL_sM, BisRow_0, BisRow_4, BisRow_9, BisRow_15, BisRow_19, BisRow_20, oi_0, oi_1, oi_9]; try dsimp only
          refine ⟨Or.inr rfl, ?_⟩
          exact ⟨_, rfl, by lia, rfl⟩
        · apply hB
          dsimp only [rgo, rfd, BisRow, Nat.beq, rwp, rst, lv_args, rlk, rs1, rs2, rdl, rky, rct, rcs, rcd, rno, rsw, Value.category, List.filter, List.take, List.drop, List.reverse, List.reverseAux, List.cons_append, List.nil_append, Option.toList, Int.toNat, Int.reduceToNat, if_pos, if_neg, reduceIte, ↓reduceIte, Nat.reduceAdd, Nat.reduceEqDiff, Nat.reduceBEq, beq_self_eq_true, Bool.not_true, Bool.not_false, Bool.and_true, Bool.and_false, Bool.true_and, Bool.false_and, gI_sI, gI_sL, gI_sA, gI_sM, gL_sI, gL_sL, gL_sA, gL_sM, aI_sI, aI_sL, aI_sA, aI_sM, aL_sI, aL_sL, aL_sA, aL_sM, BisRow_0, BisRow_4, BisRow_9, BisRow_15, BisRow_19, BisRow_20, oi_0, oi_1, oi_9]; try dsimp only
          refine ⟨fun h3 => ?_, fun h3 => ?_⟩
          · apply hB
            dsimp only [rgo, rfd, BisRow, Nat.beq, rwp, rst, lv_args, rlk, rs1, rs2, rdl, rky, rct, rcs, rcd, rno, rsw, Value.category, List.filter, List.take, List.drop, List.reverse, List.reverseAux, List.cons_append, List.nil_append, Option.toList, Int.toNat, Int.reduceToNat, if_pos, if_neg, reduceIte, ↓reduceIte, Nat.reduceAdd, Nat.reduceEqDiff, Nat.reduceBEq, beq_self_eq_true, Bool.not_true, Bool.not_false, Bool.and_true, Bool.and_false, Bool.true_and, Bool.false_and, gI_sI, gI_sL, gI_sA, gI_sM, gL_sI, gL_sL, gL_sA, gL_sM, aI_sI, aI_sL, aI_sA, aI_sM, aL_sI, aL_sL, aL_sA, aL_sM, BisRow_0, BisRow_4, BisRow_9, BisRow_15, BisRow_19, BisRow_20, oi_0, oi_1, oi_9]; try dsimp only
            apply hB
            dsimp only [rgo, rfd, BisRow, Nat.beq, rwp, rst, lv_args, rlk, rs1, rs2, rdl, rky, rct, rcs, rcd, rno, rsw, Value.category, List.filter, List.take, List.drop, List.reverse, List.reverseAux, List.cons_append, List.nil_append, Option.toList, Int.toNat, Int.reduceToNat, if_pos, if_neg, reduceIte, ↓reduceIte, Nat.reduceAdd, Nat.reduceEqDiff, Nat.reduceBEq, beq_self_eq_true, Bool.not_true, Bool.not_false, Bool.and_true, Bool.and_false, Bool.true_and, Bool.false_and, gI_sI, gI_sL, gI_sA, gI_sM, gL_sI, gL_sL, gL_sA, gL_sM, aI_sI, aI_sL, aI_sA, aI_sM, aL_sI, aL_sL, aL_sA, aL_sM, BisRow_0, BisRow_4, BisRow_9, BisRow_15, BisRow_19, BisRow_20, oi_0, oi_1, oi_9]; try dsimp only
            refine ⟨Or.inl rfl, ?_⟩
            exact ⟨_, rfl, by lia, rfl⟩
          · apply hB
            dsimp only [rgo, rfd, BisRow, Nat.beq, rwp, rst, lv_args, rlk, rs1, rs2, rdl, rky, rct, rcs, rcd, rno, rsw, Value.category, List.filter, List.take, List.drop, List.reverse, List.reverseAux, List.cons_append, List.nil_append, Option.toList, Int.toNat, Int.reduceToNat, if_pos, if_neg, reduceIte, ↓reduceIte, Nat.reduceAdd, Nat.reduceEqDiff, Nat.reduceBEq, beq_self_eq_true, Bool.not_true, Bool.not_false, Bool.and_true, Bool.and_false, Bool.true_and, Bool.false_and, gI_sI, gI_sL, gI_sA, gI_sM, gL_sI, gL_sL, gL_sA, gL_sM, aI_sI, aI_sL, aI_sA, aI_sM, aL_sI, aL_sL, aL_sA, aL_sM, BisRow_0, BisRow_4, BisRow_9, BisRow_15, BisRow_19, BisRow_20, oi_0, oi_1, oi_9]; try dsimp only
            apply hB
            dsimp only [rgo, rfd, BisRow, Nat.beq, rwp, rst, lv_args, rlk, rs1, rs2, rdl, rky, rct, rcs, rcd, rno, rsw, Value.category, List.filter, List.take, List.drop, List.reverse, List.reverseAux, List.cons_append, List.nil_append, Option.toList, Int.toNat, Int.reduceToNat, if_pos, if_neg, reduceIte, ↓reduceIte, Nat.reduceAdd, Nat.reduceEqDiff, Nat.reduceBEq, beq_self_eq_true, Bool.not_true, Bool.not_false, Bool.and_true, Bool.and_false, Bool.true_and, Bool.false_and, gI_sI, gI_sL, gI_sA, gI_sM, gL_sI, gL_sL, gL_sA, gL_sM, aI_sI, aI_sL, aI_sA, aI_sM, aL_sI, aL_sL, aL_sA, aL_sM, BisRow_0, BisRow_4, BisRow_9, BisRow_15, BisRow_19, BisRow_20, oi_0, oi_1, oi_9]; try dsimp only
            refine ⟨Or.inr rfl, ?_⟩
            exact ⟨_, rfl, by lia, rfl⟩
    next => exact hP.elim
theorem m_isRow (l : Launch) : RMet l 1 43 P_isRow Q_isRow := by
  refine RMet.by BisRow [] roisRow okBisRow ct0 ?_ b_isRow
  · intro As σ hP
    unfold P_isRow at hP
    split at hP
    next => exact Nat.le_of_ble_eq_true rfl
    next => exact hP.elim
set_option maxRecDepth 100000 in
theorem e_isRow (l : Launch) : RMetE l 1 43 P_isRow Q_isRow := by
  refine RMetE.by BisRow [] rfl rfl roisRow okBisRow ctE0 ?_ b_isRow
  · intro As σ hP
    unfold P_isRow at hP
    split at hP
    next => exact Nat.le_of_ble_eq_true rfl
    next => exact hP.elim
def P_isTold : RP := fun As σ => match As with
  | [] => 0 ≤ (gI σ 14) ∧ (gI σ 14) ≤ 500
  | _ => False
def Q_isTold : RQ := fun As σ w τ => match As with
  | [] => ∃ r : Int32, w = some (.int r) ∧ (r = 0 ∨ r = 1) ∧ τ = σ
  | _ => False
set_option maxRecDepth 100000 in
set_option maxHeartbeats 4000000 in
theorem b_isTold : Bod BisTold [(23, P_isType, Q_isType), (15, P_isWord, Q_isWord)] P_isTold Q_isTold := by
  · intro As σ hP G hB hW
    unfold P_isTold at hP
    split at hP
    next => 
      unfold Q_isTold at hB
      dsimp only at hB
      apply hB
      dsimp only [rgo, rfd, BisTold, Nat.beq, rwp, rst, lv_args, rlk, rs1, rs2, rdl, rky, rct, rcs, rcd, rno, rsw, Value.category, List.filter, List.take, List.drop, List.reverse, List.reverseAux, List.cons_append, List.nil_append, Option.toList, Int.toNat, Int.reduceToNat, if_pos, if_neg, reduceIte, ↓reduceIte, Nat.reduceAdd, Nat.reduceEqDiff, Nat.reduceBEq, beq_self_eq_true, Bool.not_true, Bool.not_false, Bool.and_true, Bool.and_false, Bool.true_and, Bool.false_and, gI_sI, gI_sL, gI_sA, gI_sM, gL_sI, gL_sL, gL_sA, gL_sM, aI_sI, aI_sL, aI_sA, aI_sM, aL_sI, aL_sL, aL_sA, aL_sM, BisTold_0, BisTold_9, BisTold_20, BisTold_24, BisTold_25, oi_0, oi_1, oi_21, P_isType, P_isWord]; try dsimp only
      refine ⟨rfl, (by decide), (⟨by lia, by lia⟩), fun w1 τ1 hq1 => ?_⟩
      obtain ⟨r1, rfl, hr1, e1⟩ := hq1
      obtain rfl := e1.symm
      rcases hr1 with rfl | rfl
      · dsimp only [Option.toList, List.cons_append, List.nil_append, Nat.beq, gI_sI, gI_sL, gI_sA, gI_sM, gL_sI, gL_sL, gL_sA, gL_sM, aI_sI, aI_sL, aI_sA, aI_sM, aL_sI, aL_sL, aL_sA, aL_sM]
        refine ⟨fun h2 => absurd h2 (by decide), fun h2 => ?_⟩
        clear h2
        apply hB
        dsimp only [rgo, rfd, BisTold, Nat.beq, rwp, rst, lv_args, rlk, rs1, rs2, rdl, rky, rct, rcs, rcd, rno, rsw, Value.category, List.filter, List.take, List.drop, List.reverse, List.reverseAux, List.cons_append, List.nil_append, Option.toList, Int.toNat, Int.reduceToNat, if_pos, if_neg, reduceIte, ↓reduceIte, Nat.reduceAdd, Nat.reduceEqDiff, Nat.reduceBEq, beq_self_eq_true, Bool.not_true, Bool.not_false, Bool.and_true, Bool.and_false, Bool.true_and, Bool.false_and, gI_sI, gI_sL, gI_sA, gI_sM, gL_sI, gL_sL, gL_sA, gL_sM, aI_sI, aI_sL, aI_sA, aI_sM, aL_sI, aL_sL, aL_sA, aL_sM, BisTold_0, BisTold_9, BisTold_20, BisTold_24, BisTold_25, oi_0, oi_1, oi_21, P_isType, P_isWord]; try dsimp only
        refine ⟨rfl, rfl, (by decide), (⟨by lia, by lia⟩), fun w3 τ3 hq3 => ?_⟩
        obtain ⟨r3, rfl, hr3, e3⟩ := hq3
        obtain rfl := e3.symm
        rcases hr3 with rfl | ⟨rfl, hw3⟩
        · dsimp only [Option.toList, List.cons_append, List.nil_append, Nat.beq, gI_sI, gI_sL, gI_sA, gI_sM, gL_sI, gL_sL, gL_sA, gL_sM, aI_sI, aI_sL, aI_sA, aI_sM, aL_sI, aL_sL, aL_sA, aL_sM]
          refine ⟨fun h4 => ?_, fun h4 => absurd h4 (by decide)⟩
          clear h4
          apply hB
          dsimp only [rgo, rfd, BisTold, Nat.beq, rwp, rst, lv_args, rlk, rs1, rs2, rdl, rky, rct, rcs, rcd, rno, rsw, Value.category, List.filter, List.take, List.drop, List.reverse, List.reverseAux, List.cons_append, List.nil_append, Option.toList, Int.toNat, Int.reduceToNat, if_pos, if_neg, reduceIte, ↓reduceIte, Nat.reduceAdd, Nat.reduceEqDiff, Nat.reduceBEq, beq_self_eq_true, Bool.not_true, Bool.not_false, Bool.and_true, Bool.and_false, Bool.true_and, Bool.false_and, gI_sI, gI_sL, gI_sA, gI_sM, gL_sI, gL_sL, gL_sA, gL_sM, aI_sI, aI_sL, aI_sA, aI_sM, aL_sI, aL_sL, aL_sA, aL_sM, BisTold_0, BisTold_9, BisTold_20, BisTold_24, BisTold_25, oi_0, oi_1, oi_21, P_isType, P_isWord]; try dsimp only
          apply hB
          dsimp only [rgo, rfd, BisTold, Nat.beq, rwp, rst, lv_args, rlk, rs1, rs2, rdl, rky, rct, rcs, rcd, rno, rsw, Value.category, List.filter, List.take, List.drop, List.reverse, List.reverseAux, List.cons_append, List.nil_append, Option.toList, Int.toNat, Int.reduceToNat, if_pos, if_neg, reduceIte, ↓reduceIte, Nat.reduceAdd, Nat.reduceEqDiff, Nat.reduceBEq, beq_self_eq_true, Bool.not_true, Bool.not_false, Bool.and_true, Bool.and_false, Bool.true_and, Bool.false_and, gI_sI, gI_sL, gI_sA, gI_sM, gL_sI, gL_sL, gL_sA, gL_sM, aI_sI, aI_sL, aI_sA, aI_sM, aL_sI, aL_sL, aL_sA, aL_sM, BisTold_0, BisTold_9, BisTold_20, BisTold_24, BisTold_25, oi_0, oi_1, oi_21, P_isType, P_isWord]; try dsimp only
          refine ⟨Or.inl rfl, ?_⟩
          exact ⟨_, rfl, Or.inl rfl, rfl⟩
        · dsimp only [Option.toList, List.cons_append, List.nil_append, Nat.beq, gI_sI, gI_sL, gI_sA, gI_sM, gL_sI, gL_sL, gL_sA, gL_sM, aI_sI, aI_sL, aI_sA, aI_sM, aL_sI, aL_sL, aL_sA, aL_sM]
          refine ⟨fun h5 => absurd h5 (by decide), fun h5 => ?_⟩
          clear h5
          apply hB
          dsimp only [rgo, rfd, BisTold, Nat.beq, rwp, rst, lv_args, rlk, rs1, rs2, rdl, rky, rct, rcs, rcd, rno, rsw, Value.category, List.filter, List.take, List.drop, List.reverse, List.reverseAux, List.cons_append, List.nil_append, Option.toList, Int.toNat, Int.reduceToNat, if_pos, if_neg, reduceIte, ↓reduceIte, Nat.reduceAdd, Nat.reduceEqDiff, Nat.reduceBEq, beq_self_eq_true, Bool.not_true, Bool.not_false, Bool.and_true, Bool.and_false, Bool.true_and, Bool.false_and, gI_sI, gI_sL, gI_sA, gI_sM, gL_sI, gL_sL, gL_sA, gL_sM, aI_sI, aI_sL, aI_sA, aI_sM, aL_sI, aL_sL, aL_sA, aL_sM, BisTold_0, BisTold_9, BisTold_20, BisTold_24, BisTold_25, oi_0, oi_1, oi_21, P_isType, P_isWord]; try dsimp only
          apply hB
          dsimp only [rgo, rfd, BisTold, Nat.beq, rwp, rst, lv_args, rlk, rs1, rs2, rdl, rky, rct, rcs, rcd, rno, rsw, Value.category, List.filter, List.take, List.drop, List.reverse, List.reverseAux, List.cons_append, List.nil_append, Option.toList, Int.toNat, Int.reduceToNat, if_pos, if_neg, reduceIte, ↓reduceIte, Nat.reduceAdd, Nat.reduceEqDiff, Nat.reduceBEq, beq_self_eq_true, Bool.not_true, Bool.not_false, Bool.and_true, Bool.and_false, Bool.true_and, Bool.false_and, gI_sI, gI_sL, gI_sA, gI_sM, gL_sI, gL_sL, gL_sA, gL_sM, aI_sI, aI_sL, aI_sA, aI_sM, aL_sI, aL_sL, aL_sA, aL_sM, BisTold_0, BisTold_9, BisTold_20, BisTold_24, BisTold_25, oi_0, oi_1, oi_21, P_isType, P_isWord]; try dsimp only
          refine ⟨Or.inr rfl, ?_⟩
          exact ⟨_, rfl, Or.inr rfl, rfl⟩
      · dsimp only [Option.toList, List.cons_append, List.nil_append, Nat.beq, gI_sI, gI_sL, gI_sA, gI_sM, gL_sI, gL_sL, gL_sA, gL_sM, aI_sI, aI_sL, aI_sA, aI_sM, aL_sI, aL_sL, aL_sA, aL_sM]
        refine ⟨fun h6 => ?_, fun h6 => absurd h6 (by decide)⟩
        clear h6
        apply hB
        dsimp only [rgo, rfd, BisTold, Nat.beq, rwp, rst, lv_args, rlk, rs1, rs2, rdl, rky, rct, rcs, rcd, rno, rsw, Value.category, List.filter, List.take, List.drop, List.reverse, List.reverseAux, List.cons_append, List.nil_append, Option.toList, Int.toNat, Int.reduceToNat, if_pos, if_neg, reduceIte, ↓reduceIte, Nat.reduceAdd, Nat.reduceEqDiff, Nat.reduceBEq, beq_self_eq_true, Bool.not_true, Bool.not_false, Bool.and_true, Bool.and_false, Bool.true_and, Bool.false_and, gI_sI, gI_sL, gI_sA, gI_sM, gL_sI, gL_sL, gL_sA, gL_sM, aI_sI, aI_sL, aI_sA, aI_sM, aL_sI, aL_sL, aL_sA, aL_sM, BisTold_0, BisTold_9, BisTold_20, BisTold_24, BisTold_25, oi_0, oi_1, oi_21, P_isType, P_isWord]; try dsimp only
        apply hB
        dsimp only [rgo, rfd, BisTold, Nat.beq, rwp, rst, lv_args, rlk, rs1, rs2, rdl, rky, rct, rcs, rcd, rno, rsw, Value.category, List.filter, List.take, List.drop, List.reverse, List.reverseAux, List.cons_append, List.nil_append, Option.toList, Int.toNat, Int.reduceToNat, if_pos, if_neg, reduceIte, ↓reduceIte, Nat.reduceAdd, Nat.reduceEqDiff, Nat.reduceBEq, beq_self_eq_true, Bool.not_true, Bool.not_false, Bool.and_true, Bool.and_false, Bool.true_and, Bool.false_and, gI_sI, gI_sL, gI_sA, gI_sM, gL_sI, gL_sL, gL_sA, gL_sM, aI_sI, aI_sL, aI_sA, aI_sM, aL_sI, aL_sL, aL_sA, aL_sM, BisTold_0, BisTold_9, BisTold_20, BisTold_24, BisTold_25, oi_0, oi_1, oi_21, P_isType, P_isWord]; try dsimp only
        refine ⟨Or.inr rfl, ?_⟩
        exact ⟨_, rfl, Or.inr rfl, rfl⟩
    next => exact hP.elim
theorem m_isTold (l : Launch) : RMet l 2 46 P_isTold Q_isTold := by
  refine RMet.by BisTold [(23, P_isType, Q_isType), (15, P_isWord, Q_isWord)] roisTold okBisTold (ctc (m_isType l) (by decide) (ctc (m_isWord l) (by decide) ct0)) ?_ b_isTold
  · intro As σ hP
    unfold P_isTold at hP
    split at hP
    next => exact Nat.le_of_ble_eq_true rfl
    next => exact hP.elim
set_option maxRecDepth 100000 in
theorem e_isTold (l : Launch) : RMetE l 2 46 P_isTold Q_isTold := by
  refine RMetE.by BisTold [(23, P_isType, Q_isType), (15, P_isWord, Q_isWord)] rfl rfl roisTold okBisTold (ctEc (e_isType l) (by decide) (ctEc (e_isWord l) (by decide) ctE0)) ?_ b_isTold
  · intro As σ hP
    unfold P_isTold at hP
    split at hP
    next => exact Nat.le_of_ble_eq_true rfl
    next => exact hP.elim
def P_sameName : RP := fun As σ => match As with
  | [.int t, .int u] => (0 ≤ t ∧ t ≤ 2000) ∧ (0 ≤ u ∧ u ≤ 2000)
  | _ => False
def Q_sameName : RQ := fun As σ w τ => match As with
  | [.int t, .int u] => ∃ r : Int32, w = some (.int r) ∧ (r = 0 ∨ r = 1) ∧ τ = σ
  | _ => False
set_option maxRecDepth 100000 in
set_option maxHeartbeats 4000000 in
theorem b_sameName : Bod BsameName [] P_sameName Q_sameName := by
  · intro As σ hP G hB hW
    unfold P_sameName at hP
    split at hP
    next t u => 
      unfold Q_sameName at hB
      dsimp only at hB
      apply hB
      dsimp only [rgo, rfd, BsameName, Nat.beq, rwp, rst, lv_args, rlk, rs1, rs2, rdl, rky, rct, rcs, rcd, rno, rsw, Value.category, List.filter, List.take, List.drop, List.reverse, List.reverseAux, List.cons_append, List.nil_append, Option.toList, Int.toNat, Int.reduceToNat, if_pos, if_neg, reduceIte, ↓reduceIte, Nat.reduceAdd, Nat.reduceEqDiff, Nat.reduceBEq, beq_self_eq_true, Bool.not_true, Bool.not_false, Bool.and_true, Bool.and_false, Bool.true_and, Bool.false_and, gI_sI, gI_sL, gI_sA, gI_sM, gL_sI, gL_sL, gL_sA, gL_sM, aI_sI, aI_sL, aI_sA, aI_sM, aL_sI, aL_sL, aL_sA, aL_sM, BsameName_0, BsameName_16, BsameName_31, BsameName_46, BsameName_50, BsameName_51, oi_0, oi_1]; try dsimp only
      refine ⟨rfl, rfl, (in_7 (by lia) (by lia)), rfl, rfl, (in_7 (by lia) (by lia)), fun h1 => ?_, fun h1 => ?_⟩
      · apply hB
        dsimp only [rgo, rfd, BsameName, Nat.beq, rwp, rst, lv_args, rlk, rs1, rs2, rdl, rky, rct, rcs, rcd, rno, rsw, Value.category, List.filter, List.take, List.drop, List.reverse, List.reverseAux, List.cons_append, List.nil_append, Option.toList, Int.toNat, Int.reduceToNat, if_pos, if_neg, reduceIte, ↓reduceIte, Nat.reduceAdd, Nat.reduceEqDiff, Nat.reduceBEq, beq_self_eq_true, Bool.not_true, Bool.not_false, Bool.and_true, Bool.and_false, Bool.true_and, Bool.false_and, gI_sI, gI_sL, gI_sA, gI_sM, gL_sI, gL_sL, gL_sA, gL_sM, aI_sI, aI_sL, aI_sA, aI_sM, aL_sI, aL_sL, aL_sA, aL_sM, BsameName_0, BsameName_16, BsameName_31, BsameName_46, BsameName_50, BsameName_51, oi_0, oi_1]; try dsimp only
        apply hB
        dsimp only [rgo, rfd, BsameName, Nat.beq, rwp, rst, lv_args, rlk, rs1, rs2, rdl, rky, rct, rcs, rcd, rno, rsw, Value.category, List.filter, List.take, List.drop, List.reverse, List.reverseAux, List.cons_append, List.nil_append, Option.toList, Int.toNat, Int.reduceToNat, if_pos, if_neg, reduceIte, ↓reduceIte, Nat.reduceAdd, Nat.reduceEqDiff, Nat.reduceBEq, beq_self_eq_true, Bool.not_true, Bool.not_false, Bool.and_true, Bool.and_false, Bool.true_and, Bool.false_and, gI_sI, gI_sL, gI_sA, gI_sM, gL_sI, gL_sL, gL_sA, gL_sM, aI_sI, aI_sL, aI_sA, aI_sM, aL_sI, aL_sL, aL_sA, aL_sM, BsameName_0, BsameName_16, BsameName_31, BsameName_46, BsameName_50, BsameName_51, oi_0, oi_1]; try dsimp only
        refine ⟨Or.inl rfl, ?_⟩
        exact ⟨_, rfl, Or.inl rfl, rfl⟩
      · apply hB
        dsimp only [rgo, rfd, BsameName, Nat.beq, rwp, rst, lv_args, rlk, rs1, rs2, rdl, rky, rct, rcs, rcd, rno, rsw, Value.category, List.filter, List.take, List.drop, List.reverse, List.reverseAux, List.cons_append, List.nil_append, Option.toList, Int.toNat, Int.reduceToNat, if_pos, if_neg, reduceIte, ↓reduceIte, Nat.reduceAdd, Nat.reduceEqDiff, Nat.reduceBEq, beq_self_eq_true, Bool.not_true, Bool.not_false, Bool.and_true, Bool.and_false, Bool.true_and, Bool.false_and, gI_sI, gI_sL, gI_sA, gI_sM, gL_sI, gL_sL, gL_sA, gL_sM, aI_sI, aI_sL, aI_sA, aI_sM, aL_sI, aL_sL, aL_sA, aL_sM, BsameName_0, BsameName_16, BsameName_31, BsameName_46, BsameName_50, BsameName_51, oi_0, oi_1]; try dsimp only
        refine ⟨rfl, rfl, (in_8 (by lia) (by lia)), rfl, rfl, (in_8 (by lia) (by lia)), fun h2 => ?_, fun h2 => ?_⟩
        · apply hB
          dsimp only [rgo, rfd, BsameName, Nat.beq, rwp, rst, lv_args, rlk, rs1, rs2, rdl, rky, rct, rcs, rcd, rno, rsw, Value.category, List.filter, List.take, List.drop, List.reverse, List.reverseAux, List.cons_append, List.nil_append, Option.toList, Int.toNat, Int.reduceToNat, if_pos, if_neg, reduceIte, ↓reduceIte, Nat.reduceAdd, Nat.reduceEqDiff, Nat.reduceBEq, beq_self_eq_true, Bool.not_true, Bool.not_false, Bool.and_true, Bool.and_false, Bool.true_and, Bool.false_and, gI_sI, gI_sL, gI_sA, gI_sM, gL_sI, gL_sL, gL_sA, gL_sM, aI_sI, aI_sL, aI_sA, aI_sM, aL_sI, aL_sL, aL_sA, aL_sM, BsameName_0, BsameName_16, BsameName_31, BsameName_46, BsameName_50, BsameName_51, oi_0, oi_1]; try dsimp only
          apply hB
          dsimp only [rgo, rfd, BsameName, Nat.beq, rwp, rst, lv_args, rlk, rs1, rs2, rdl, rky, rct, rcs, rcd, rno, rsw, Value.category, List.filter, List.take, List.drop, List.reverse, List.reverseAux, List.cons_append, List.nil_append, Option.toList, Int.toNat, Int.reduceToNat, if_pos, if_neg, reduceIte, ↓reduceIte, Nat.reduceAdd, Nat.reduceEqDiff, Nat.reduceBEq, beq_self_eq_true, Bool.not_true, Bool.not_false, Bool.and_true, Bool.and_false, Bool.true_and, Bool.false_and, gI_sI, gI_sL, gI_sA, gI_sM, gL_sI, gL_sL, gL_sA, gL_sM, aI_sI, aI_sL, aI_sA, aI_sM, aL_sI, aL_sL, aL_sA, aL_sM, BsameName_0, BsameName_16, BsameName_31, BsameName_46, BsameName_50, BsameName_51, oi_0, oi_1]; try dsimp only
          refine ⟨Or.inl rfl, ?_⟩
          exact ⟨_, rfl, Or.inl rfl, rfl⟩
        · apply hB
          dsimp only [rgo, rfd, BsameName, Nat.beq, rwp, rst, lv_args, rlk, rs1, rs2, rdl, rky, rct, rcs, rcd, rno, rsw, Value.category, List.filter, List.take, List.drop, List.reverse, List.reverseAux, List.cons_append, List.nil_append, Option.toList, Int.toNat, Int.reduceToNat, if_pos, if_neg, reduceIte, ↓reduceIte, Nat.reduceAdd, Nat.reduceEqDiff, Nat.reduceBEq, beq_self_eq_true, Bool.not_true, Bool.not_false, Bool.and_true, Bool.and_false, Bool.true_and, Bool.false_and, gI_sI, gI_sL, gI_sA, gI_sM, gL_sI, gL_sL, gL_sA, gL_sM, aI_sI, aI_sL, aI_sA, aI_sM, aL_sI, aL_sL, aL_sA, aL_sM, BsameName_0, BsameName_16, BsameName_31, BsameName_46, BsameName_50, BsameName_51, oi_0, oi_1]; try dsimp only
          refine ⟨rfl, rfl, (in_5 (by lia) (by lia)), rfl, rfl, (in_5 (by lia) (by lia)), fun h3 => ?_, fun h3 => ?_⟩
          · apply hB
            dsimp only [rgo, rfd, BsameName, Nat.beq, rwp, rst, lv_args, rlk, rs1, rs2, rdl, rky, rct, rcs, rcd, rno, rsw, Value.category, List.filter, List.take, List.drop, List.reverse, List.reverseAux, List.cons_append, List.nil_append, Option.toList, Int.toNat, Int.reduceToNat, if_pos, if_neg, reduceIte, ↓reduceIte, Nat.reduceAdd, Nat.reduceEqDiff, Nat.reduceBEq, beq_self_eq_true, Bool.not_true, Bool.not_false, Bool.and_true, Bool.and_false, Bool.true_and, Bool.false_and, gI_sI, gI_sL, gI_sA, gI_sM, gL_sI, gL_sL, gL_sA, gL_sM, aI_sI, aI_sL, aI_sA, aI_sM, aL_sI, aL_sL, aL_sA, aL_sM, BsameName_0, BsameName_16, BsameName_31, BsameName_46, BsameName_50, BsameName_51, oi_0, oi_1]; try dsimp only
            apply hB
            dsimp only [rgo, rfd, BsameName, Nat.beq, rwp, rst, lv_args, rlk, rs1, rs2, rdl, rky, rct, rcs, rcd, rno, rsw, Value.category, List.filter, List.take, List.drop, List.reverse, List.reverseAux, List.cons_append, List.nil_append, Option.toList, Int.toNat, Int.reduceToNat, if_pos, if_neg, reduceIte, ↓reduceIte, Nat.reduceAdd, Nat.reduceEqDiff, Nat.reduceBEq, beq_self_eq_true, Bool.not_true, Bool.not_false, Bool.and_true, Bool.and_false, Bool.true_and, Bool.false_and, gI_sI, gI_sL, gI_sA, gI_sM, gL_sI, gL_sL, gL_sA, gL_sM, aI_sI, aI_sL, aI_sA, aI_sM, aL_sI, aL_sL, aL_sA, aL_sM, BsameName_0, BsameName_16, BsameName_31, BsameName_46, BsameName_50, BsameName_51, oi_0, oi_1]; try dsimp only
            refine ⟨Or.inl rfl, ?_⟩
            exact ⟨_, rfl, Or.inl rfl, rfl⟩
          · apply hB
            dsimp only [rgo, rfd, BsameName, Nat.beq, rwp, rst, lv_args, rlk, rs1, rs2, rdl, rky, rct, rcs, rcd, rno, rsw, Value.category, List.filter, List.take, List.drop, List.reverse, List.reverseAux, List.cons_append, List.nil_append, Option.toList, Int.toNat, Int.reduceToNat, if_pos, if_neg, reduceIte, ↓reduceIte, Nat.reduceAdd, Nat.reduceEqDiff, Nat.reduceBEq, beq_self_eq_true, Bool.not_true, Bool.not_false, Bool.and_true, Bool.and_false, Bool.true_and, Bool.false_and, gI_sI, gI_sL, gI_sA, gI_sM, gL_sI, gL_sL, gL_sA, gL_sM, aI_sI, aI_sL, aI_sA, aI_sM, aL_sI, aL_sL, aL_sA, aL_sM, BsameName_0, BsameName_16, BsameName_31, BsameName_46, BsameName_50, BsameName_51, oi_0, oi_1]; try dsimp only
            apply hB
            dsimp only [rgo, rfd, BsameName, Nat.beq, rwp, rst, lv_args, rlk, rs1, rs2, rdl, rky, rct, rcs, rcd, rno, rsw, Value.category, List.filter, List.take, List.drop, List.reverse, List.reverseAux, List.cons_append, List.nil_append, Option.toList, Int.toNat, Int.reduceToNat, if_pos, if_neg, reduceIte, ↓reduceIte, Nat.reduceAdd, Nat.reduceEqDiff, Nat.reduceBEq, beq_self_eq_true, Bool.not_true, Bool.not_false, Bool.and_true, Bool.and_false, Bool.true_and, Bool.false_and, gI_sI, gI_sL, gI_sA, gI_sM, gL_sI, gL_sL, gL_sA, gL_sM, aI_sI, aI_sL, aI_sA, aI_sM, aL_sI, aL_sL, aL_sA, aL_sM, BsameName_0, BsameName_16, BsameName_31, BsameName_46, BsameName_50, BsameName_51, oi_0, oi_1]; try dsimp only
            refine ⟨Or.inr rfl, ?_⟩
            exact ⟨_, rfl, Or.inr rfl, rfl⟩
    next => exact hP.elim
theorem m_sameName (l : Launch) : RMet l 1 63 P_sameName Q_sameName := by
  refine RMet.by BsameName [] rosameName okBsameName ct0 ?_ b_sameName
  · intro As σ hP
    unfold P_sameName at hP
    split at hP
    next => exact Nat.le_of_ble_eq_true rfl
    next => exact hP.elim
set_option maxRecDepth 100000 in
theorem e_sameName (l : Launch) : RMetE l 1 63 P_sameName Q_sameName := by
  refine RMetE.by BsameName [] rfl rfl rosameName okBsameName ctE0 ?_ b_sameName
  · intro As σ hP
    unfold P_sameName at hP
    split at hP
    next => exact Nat.le_of_ble_eq_true rfl
    next => exact hP.elim
def P_open : RP := fun As σ => match As with
  | [.int s, .int k, .int p] => (0 ≤ (gI σ 62) ∧ (gI σ 62) ≤ 70) ∧ (0 ≤ (gI σ 14) ∧ (gI σ 14) ≤ 500) ∧ (0 ≤ (gI σ 17) ∧ (gI σ 17) ≤ 100)
  | _ => False
def Q_open : RQ := fun As σ w τ => match As with
  | [.int s, .int k, .int p] => ∃ r : Int32, w = some (.int r) ∧ ((r = 1 ∧ (gI σ 17) < 20 ∧ τ = fo σ s k p) ∨ (r = 0 ∧ Fp σ τ))
  | _ => False
set_option maxRecDepth 100000 in
set_option maxHeartbeats 4000000 in
theorem b_open : Bod Bopen [(19, P_enter, Q_enter)] P_open Q_open := by
  · intro As σ hP G hB hW
    unfold P_open at hP
    split at hP
    next s k p => 
      unfold Q_open at hB
      dsimp only at hB
      apply hB
      dsimp only [rgo, rfd, Bopen, Nat.beq, rwp, rst, lv_args, rlk, rs1, rs2, rdl, rky, rct, rcs, rcd, rno, rsw, Value.category, List.filter, List.take, List.drop, List.reverse, List.reverseAux, List.cons_append, List.nil_append, Option.toList, Int.toNat, Int.reduceToNat, if_pos, if_neg, reduceIte, ↓reduceIte, Nat.reduceAdd, Nat.reduceEqDiff, Nat.reduceBEq, beq_self_eq_true, Bool.not_true, Bool.not_false, Bool.and_true, Bool.and_false, Bool.true_and, Bool.false_and, gI_sI, gI_sL, gI_sA, gI_sM, gL_sI, gL_sL, gL_sA, gL_sM, aI_sI, aI_sL, aI_sA, aI_sM, aL_sI, aL_sL, aL_sA, aL_sM, Bopen_0, oi_1, P_enter]; try dsimp only
      refine ⟨rfl, rfl, rfl, (in_63 (by lia) (by lia)), rfl, rfl, rfl, (in_64 (by lia) (by lia)), rfl, rfl, rfl, (in_65 (by lia) (by lia)), rfl, rfl, rfl, (by decide), (⟨by lia, by lia, by lia, by lia⟩), fun w1 τ1 hq1 => ?_⟩
      obtain ⟨r1, rfl, hq1⟩ := hq1
      rcases hq1 with ⟨rfl, hd1, rfl⟩ | ⟨rfl, fa1, fb1, fc1, rfl⟩
      · dsimp only [Option.toList, List.cons_append, List.nil_append, Nat.beq, gI_sI, gI_sL, gI_sA, gI_sM, gL_sI, gL_sL, gL_sA, gL_sM, aI_sI, aI_sL, aI_sA, aI_sM, aL_sI, aL_sL, aL_sA, aL_sM]
        try dsimp only [Option.toList, List.cons_append, List.nil_append, Nat.beq, gI_sI, gI_sL, gI_sA, gI_sM, gL_sI, gL_sL, gL_sA, gL_sM, aI_sI, aI_sL, aI_sA, aI_sM, aL_sI, aL_sL, aL_sA, aL_sM] at hd1
        refine ⟨Or.inr rfl, ?_⟩
        exact ⟨_, rfl, Or.inl ⟨rfl, by assumption, rfl⟩⟩
      · dsimp only [Option.toList, List.cons_append, List.nil_append, Nat.beq, gI_sI, gI_sL, gI_sA, gI_sM, gL_sI, gL_sL, gL_sA, gL_sM, aI_sI, aI_sL, aI_sA, aI_sM, aL_sI, aL_sL, aL_sA, aL_sM]
        refine ⟨Or.inl rfl, ?_⟩
        exact ⟨_, rfl, Or.inr ⟨rfl, by repeat (first | exact Fp.rf | (with_reducible refine Fp.vr ?_ ?_) | refine Fp.a ?_ rfl | refine Fp.i ?_ rfl | refine Fp.y ?_ rfl ⟨by lia, by lia⟩ | exact ⟨by lia, by lia⟩)⟩⟩
    next => exact hP.elim
theorem m_open (l : Launch) : RMet l 3 36 P_open Q_open := by
  refine RMet.by Bopen [(19, P_enter, Q_enter)] roopen okBopen (ctc (m_enter l) (by decide) ct0) ?_ b_open
  · intro As σ hP
    unfold P_open at hP
    split at hP
    next => exact Nat.le_of_ble_eq_true rfl
    next => exact hP.elim
set_option maxRecDepth 100000 in
theorem e_open (l : Launch) : RMetE l 3 36 P_open Q_open := by
  refine RMetE.by Bopen [(19, P_enter, Q_enter)] rfl rfl roopen okBopen (ctEc (e_enter l) (by decide) ctE0) ?_ b_open
  · intro As σ hP
    unfold P_open at hP
    split at hP
    next => exact Nat.le_of_ble_eq_true rfl
    next => exact hP.elim
def P_variable : RP := fun As σ => match As with
  | [.int ty, .int fx, .int k] => (0 ≤ (gI σ 42) ∧ (gI σ 42) ≤ 60) ∧ (0 ≤ (gI σ 14) ∧ (gI σ 14) ≤ 500) ∧ (fx = 0 ∨ fx = 1) ∧ (0 ≤ ty ∧ ty ≤ 4)
  | _ => False
def Q_variable : RQ := fun As σ w τ => match As with
  | [.int ty, .int fx, .int k] => ∃ r : Int32, w = some (.int r) ∧ ((r = 1 ∧ (gI σ 42) < 60 ∧ (gI σ 14) < 500 ∧ ∃ m : Int32, τ = va σ ty fx m k) ∨ (r = 0 ∧ Fp σ τ))
  | _ => False
set_option maxRecDepth 100000 in
set_option maxHeartbeats 4000000 in
theorem b_variable : Bod Bvariable [(17, P_take, Q_take), (12, P_wrong, Q_wrong)] P_variable Q_variable := by
  · intro As σ hP G hB hW
    unfold P_variable at hP
    split at hP
    next ty fx k => 
      unfold Q_variable at hB
      dsimp only at hB
      apply hB
      dsimp only [rgo, rfd, Bvariable, Nat.beq, rwp, rst, lv_args, rlk, rs1, rs2, rdl, rky, rct, rcs, rcd, rno, rsw, Value.category, List.filter, List.take, List.drop, List.reverse, List.reverseAux, List.cons_append, List.nil_append, Option.toList, Int.toNat, Int.reduceToNat, if_pos, if_neg, reduceIte, ↓reduceIte, Nat.reduceAdd, Nat.reduceEqDiff, Nat.reduceBEq, beq_self_eq_true, Bool.not_true, Bool.not_false, Bool.and_true, Bool.and_false, Bool.true_and, Bool.false_and, gI_sI, gI_sL, gI_sA, gI_sM, gL_sI, gL_sL, gL_sA, gL_sM, aI_sI, aI_sL, aI_sA, aI_sM, aL_sI, aL_sL, aL_sA, aL_sM, Bvariable_0, Bvariable_9, Bvariable_19, Bvariable_75, Bvariable_82, Bvariable_89, Bvariable_95, oi_1, oi_3, oi_60, oi_m2, P_take, P_wrong]; try dsimp only
      refine ⟨rfl, fun h1 => ?_, fun h1 => ?_⟩
      · apply hB
        dsimp only [rgo, rfd, Bvariable, Nat.beq, rwp, rst, lv_args, rlk, rs1, rs2, rdl, rky, rct, rcs, rcd, rno, rsw, Value.category, List.filter, List.take, List.drop, List.reverse, List.reverseAux, List.cons_append, List.nil_append, Option.toList, Int.toNat, Int.reduceToNat, if_pos, if_neg, reduceIte, ↓reduceIte, Nat.reduceAdd, Nat.reduceEqDiff, Nat.reduceBEq, beq_self_eq_true, Bool.not_true, Bool.not_false, Bool.and_true, Bool.and_false, Bool.true_and, Bool.false_and, gI_sI, gI_sL, gI_sA, gI_sM, gL_sI, gL_sL, gL_sA, gL_sM, aI_sI, aI_sL, aI_sA, aI_sM, aL_sI, aL_sL, aL_sA, aL_sM, Bvariable_0, Bvariable_9, Bvariable_19, Bvariable_75, Bvariable_82, Bvariable_89, Bvariable_95, oi_1, oi_3, oi_60, oi_m2, P_take, P_wrong]; try dsimp only
        refine ⟨rfl, rfl, rfl, rfl, rfl, rfl, (in_43 (by lia) (by lia)), rfl, rfl, (in_44 (by lia) (by lia)), rfl, rfl, (in_45 (by lia) (by lia)), (by lia), rfl, rfl, fun h2 => ?_, fun h2 => ?_⟩
        · apply hB
          dsimp only [rgo, rfd, Bvariable, Nat.beq, rwp, rst, lv_args, rlk, rs1, rs2, rdl, rky, rct, rcs, rcd, rno, rsw, Value.category, List.filter, List.take, List.drop, List.reverse, List.reverseAux, List.cons_append, List.nil_append, Option.toList, Int.toNat, Int.reduceToNat, if_pos, if_neg, reduceIte, ↓reduceIte, Nat.reduceAdd, Nat.reduceEqDiff, Nat.reduceBEq, beq_self_eq_true, Bool.not_true, Bool.not_false, Bool.and_true, Bool.and_false, Bool.true_and, Bool.false_and, gI_sI, gI_sL, gI_sA, gI_sM, gL_sI, gL_sL, gL_sA, gL_sM, aI_sI, aI_sL, aI_sA, aI_sM, aL_sI, aL_sL, aL_sA, aL_sM, Bvariable_0, Bvariable_9, Bvariable_19, Bvariable_75, Bvariable_82, Bvariable_89, Bvariable_95, oi_1, oi_3, oi_60, oi_m2, P_take, P_wrong]; try dsimp only
          refine ⟨rfl, ?_⟩
          apply hB
          dsimp only [rgo, rfd, Bvariable, Nat.beq, rwp, rst, lv_args, rlk, rs1, rs2, rdl, rky, rct, rcs, rcd, rno, rsw, Value.category, List.filter, List.take, List.drop, List.reverse, List.reverseAux, List.cons_append, List.nil_append, Option.toList, Int.toNat, Int.reduceToNat, if_pos, if_neg, reduceIte, ↓reduceIte, Nat.reduceAdd, Nat.reduceEqDiff, Nat.reduceBEq, beq_self_eq_true, Bool.not_true, Bool.not_false, Bool.and_true, Bool.and_false, Bool.true_and, Bool.false_and, gI_sI, gI_sL, gI_sA, gI_sM, gL_sI, gL_sL, gL_sA, gL_sM, aI_sI, aI_sL, aI_sA, aI_sM, aL_sI, aL_sL, aL_sA, aL_sM, Bvariable_0, Bvariable_9, Bvariable_19, Bvariable_75, Bvariable_82, Bvariable_89, Bvariable_95, oi_1, oi_3, oi_60, oi_m2, P_take, P_wrong]; try dsimp only
          refine ⟨rfl, (in_46 (by lia) (by lia)), rfl, rfl, (in_47 (by lia) (by lia)), rfl, rfl, (in_48 (by lia) (by lia)), rfl, (by decide), (⟨by lia, by lia⟩), fun w3 τ3 hq3 => ?_⟩
          obtain ⟨r3, rfl, hq3⟩ := hq3
          rcases hq3 with ⟨rfl, hp3, rfl⟩ | ⟨rfl, fa3, fb3, rfl⟩
          · dsimp only [Option.toList, List.cons_append, List.nil_append, Nat.beq, gI_sI, gI_sL, gI_sA, gI_sM, gL_sI, gL_sL, gL_sA, gL_sM, aI_sI, aI_sL, aI_sA, aI_sM, aL_sI, aL_sL, aL_sA, aL_sM]
            try dsimp only [Option.toList, List.cons_append, List.nil_append, Nat.beq, gI_sI, gI_sL, gI_sA, gI_sM, gL_sI, gL_sL, gL_sA, gL_sM, aI_sI, aI_sL, aI_sA, aI_sM, aL_sI, aL_sL, aL_sA, aL_sM] at hp3
            refine ⟨Or.inr rfl, ?_⟩
            exact ⟨_, rfl, Or.inl ⟨rfl, by lia, by assumption, _, rfl⟩⟩
          · dsimp only [Option.toList, List.cons_append, List.nil_append, Nat.beq, gI_sI, gI_sL, gI_sA, gI_sM, gL_sI, gL_sL, gL_sA, gL_sM, aI_sI, aI_sL, aI_sA, aI_sM, aL_sI, aL_sL, aL_sA, aL_sM]
            refine ⟨Or.inl rfl, ?_⟩
            exact ⟨_, rfl, Or.inr ⟨rfl, by repeat (first | exact Fp.rf | (with_reducible refine Fp.vr ?_ ?_) | refine Fp.a ?_ rfl | refine Fp.i ?_ rfl | refine Fp.y ?_ rfl ⟨by lia, by lia⟩ | exact ⟨by lia, by lia⟩)⟩⟩
        · apply hB
          dsimp only [rgo, rfd, Bvariable, Nat.beq, rwp, rst, lv_args, rlk, rs1, rs2, rdl, rky, rct, rcs, rcd, rno, rsw, Value.category, List.filter, List.take, List.drop, List.reverse, List.reverseAux, List.cons_append, List.nil_append, Option.toList, Int.toNat, Int.reduceToNat, if_pos, if_neg, reduceIte, ↓reduceIte, Nat.reduceAdd, Nat.reduceEqDiff, Nat.reduceBEq, beq_self_eq_true, Bool.not_true, Bool.not_false, Bool.and_true, Bool.and_false, Bool.true_and, Bool.false_and, gI_sI, gI_sL, gI_sA, gI_sM, gL_sI, gL_sL, gL_sA, gL_sM, aI_sI, aI_sL, aI_sA, aI_sM, aL_sI, aL_sL, aL_sA, aL_sM, Bvariable_0, Bvariable_9, Bvariable_19, Bvariable_75, Bvariable_82, Bvariable_89, Bvariable_95, oi_1, oi_3, oi_60, oi_m2, P_take, P_wrong]; try dsimp only
          refine ⟨rfl, fun h4 => ?_, fun h4 => ?_⟩
          · apply hB
            dsimp only [rgo, rfd, Bvariable, Nat.beq, rwp, rst, lv_args, rlk, rs1, rs2, rdl, rky, rct, rcs, rcd, rno, rsw, Value.category, List.filter, List.take, List.drop, List.reverse, List.reverseAux, List.cons_append, List.nil_append, Option.toList, Int.toNat, Int.reduceToNat, if_pos, if_neg, reduceIte, ↓reduceIte, Nat.reduceAdd, Nat.reduceEqDiff, Nat.reduceBEq, beq_self_eq_true, Bool.not_true, Bool.not_false, Bool.and_true, Bool.and_false, Bool.true_and, Bool.false_and, gI_sI, gI_sL, gI_sA, gI_sM, gL_sI, gL_sL, gL_sA, gL_sM, aI_sI, aI_sL, aI_sA, aI_sM, aL_sI, aL_sL, aL_sA, aL_sM, Bvariable_0, Bvariable_9, Bvariable_19, Bvariable_75, Bvariable_82, Bvariable_89, Bvariable_95, oi_1, oi_3, oi_60, oi_m2, P_take, P_wrong]; try dsimp only
            refine ⟨rfl, ?_⟩
            apply hB
            dsimp only [rgo, rfd, Bvariable, Nat.beq, rwp, rst, lv_args, rlk, rs1, rs2, rdl, rky, rct, rcs, rcd, rno, rsw, Value.category, List.filter, List.take, List.drop, List.reverse, List.reverseAux, List.cons_append, List.nil_append, Option.toList, Int.toNat, Int.reduceToNat, if_pos, if_neg, reduceIte, ↓reduceIte, Nat.reduceAdd, Nat.reduceEqDiff, Nat.reduceBEq, beq_self_eq_true, Bool.not_true, Bool.not_false, Bool.and_true, Bool.and_false, Bool.true_and, Bool.false_and, gI_sI, gI_sL, gI_sA, gI_sM, gL_sI, gL_sL, gL_sA, gL_sM, aI_sI, aI_sL, aI_sA, aI_sM, aL_sI, aL_sL, aL_sA, aL_sM, Bvariable_0, Bvariable_9, Bvariable_19, Bvariable_75, Bvariable_82, Bvariable_89, Bvariable_95, oi_1, oi_3, oi_60, oi_m2, P_take, P_wrong]; try dsimp only
            refine ⟨rfl, (in_46 (by lia) (by lia)), rfl, rfl, (in_47 (by lia) (by lia)), rfl, rfl, (in_48 (by lia) (by lia)), rfl, (by decide), (⟨by lia, by lia⟩), fun w5 τ5 hq5 => ?_⟩
            obtain ⟨r5, rfl, hq5⟩ := hq5
            rcases hq5 with ⟨rfl, hp5, rfl⟩ | ⟨rfl, fa5, fb5, rfl⟩
            · dsimp only [Option.toList, List.cons_append, List.nil_append, Nat.beq, gI_sI, gI_sL, gI_sA, gI_sM, gL_sI, gL_sL, gL_sA, gL_sM, aI_sI, aI_sL, aI_sA, aI_sM, aL_sI, aL_sL, aL_sA, aL_sM]
              try dsimp only [Option.toList, List.cons_append, List.nil_append, Nat.beq, gI_sI, gI_sL, gI_sA, gI_sM, gL_sI, gL_sL, gL_sA, gL_sM, aI_sI, aI_sL, aI_sA, aI_sM, aL_sI, aL_sL, aL_sA, aL_sM] at hp5
              refine ⟨Or.inr rfl, ?_⟩
              exact ⟨_, rfl, Or.inl ⟨rfl, by lia, by assumption, _, rfl⟩⟩
            · dsimp only [Option.toList, List.cons_append, List.nil_append, Nat.beq, gI_sI, gI_sL, gI_sA, gI_sM, gL_sI, gL_sL, gL_sA, gL_sM, aI_sI, aI_sL, aI_sA, aI_sM, aL_sI, aL_sL, aL_sA, aL_sM]
              refine ⟨Or.inl rfl, ?_⟩
              exact ⟨_, rfl, Or.inr ⟨rfl, by repeat (first | exact Fp.rf | (with_reducible refine Fp.vr ?_ ?_) | refine Fp.a ?_ rfl | refine Fp.i ?_ rfl | refine Fp.y ?_ rfl ⟨by lia, by lia⟩ | exact ⟨by lia, by lia⟩)⟩⟩
          · apply hB
            dsimp only [rgo, rfd, Bvariable, Nat.beq, rwp, rst, lv_args, rlk, rs1, rs2, rdl, rky, rct, rcs, rcd, rno, rsw, Value.category, List.filter, List.take, List.drop, List.reverse, List.reverseAux, List.cons_append, List.nil_append, Option.toList, Int.toNat, Int.reduceToNat, if_pos, if_neg, reduceIte, ↓reduceIte, Nat.reduceAdd, Nat.reduceEqDiff, Nat.reduceBEq, beq_self_eq_true, Bool.not_true, Bool.not_false, Bool.and_true, Bool.and_false, Bool.true_and, Bool.false_and, gI_sI, gI_sL, gI_sA, gI_sM, gL_sI, gL_sL, gL_sA, gL_sM, aI_sI, aI_sL, aI_sA, aI_sM, aL_sI, aL_sL, aL_sA, aL_sM, Bvariable_0, Bvariable_9, Bvariable_19, Bvariable_75, Bvariable_82, Bvariable_89, Bvariable_95, oi_1, oi_3, oi_60, oi_m2, P_take, P_wrong]; try dsimp only
            refine ⟨rfl, ?_⟩
            apply hB
            dsimp only [rgo, rfd, Bvariable, Nat.beq, rwp, rst, lv_args, rlk, rs1, rs2, rdl, rky, rct, rcs, rcd, rno, rsw, Value.category, List.filter, List.take, List.drop, List.reverse, List.reverseAux, List.cons_append, List.nil_append, Option.toList, Int.toNat, Int.reduceToNat, if_pos, if_neg, reduceIte, ↓reduceIte, Nat.reduceAdd, Nat.reduceEqDiff, Nat.reduceBEq, beq_self_eq_true, Bool.not_true, Bool.not_false, Bool.and_true, Bool.and_false, Bool.true_and, Bool.false_and, gI_sI, gI_sL, gI_sA, gI_sM, gL_sI, gL_sL, gL_sA, gL_sM, aI_sI, aI_sL, aI_sA, aI_sM, aL_sI, aL_sL, aL_sA, aL_sM, Bvariable_0, Bvariable_9, Bvariable_19, Bvariable_75, Bvariable_82, Bvariable_89, Bvariable_95, oi_1, oi_3, oi_60, oi_m2, P_take, P_wrong]; try dsimp only
            refine ⟨rfl, (in_46 (by lia) (by lia)), rfl, rfl, (in_47 (by lia) (by lia)), rfl, rfl, (in_48 (by lia) (by lia)), rfl, (by decide), (⟨by lia, by lia⟩), fun w6 τ6 hq6 => ?_⟩
            obtain ⟨r6, rfl, hq6⟩ := hq6
            rcases hq6 with ⟨rfl, hp6, rfl⟩ | ⟨rfl, fa6, fb6, rfl⟩
            · dsimp only [Option.toList, List.cons_append, List.nil_append, Nat.beq, gI_sI, gI_sL, gI_sA, gI_sM, gL_sI, gL_sL, gL_sA, gL_sM, aI_sI, aI_sL, aI_sA, aI_sM, aL_sI, aL_sL, aL_sA, aL_sM]
              try dsimp only [Option.toList, List.cons_append, List.nil_append, Nat.beq, gI_sI, gI_sL, gI_sA, gI_sM, gL_sI, gL_sL, gL_sA, gL_sM, aI_sI, aI_sL, aI_sA, aI_sM, aL_sI, aL_sL, aL_sA, aL_sM] at hp6
              refine ⟨Or.inr rfl, ?_⟩
              exact ⟨_, rfl, Or.inl ⟨rfl, by lia, by assumption, _, rfl⟩⟩
            · dsimp only [Option.toList, List.cons_append, List.nil_append, Nat.beq, gI_sI, gI_sL, gI_sA, gI_sM, gL_sI, gL_sL, gL_sA, gL_sM, aI_sI, aI_sL, aI_sA, aI_sM, aL_sI, aL_sL, aL_sA, aL_sM]
              refine ⟨Or.inl rfl, ?_⟩
              exact ⟨_, rfl, Or.inr ⟨rfl, by repeat (first | exact Fp.rf | (with_reducible refine Fp.vr ?_ ?_) | refine Fp.a ?_ rfl | refine Fp.i ?_ rfl | refine Fp.y ?_ rfl ⟨by lia, by lia⟩ | exact ⟨by lia, by lia⟩)⟩⟩
      · apply hB
        dsimp only [rgo, rfd, Bvariable, Nat.beq, rwp, rst, lv_args, rlk, rs1, rs2, rdl, rky, rct, rcs, rcd, rno, rsw, Value.category, List.filter, List.take, List.drop, List.reverse, List.reverseAux, List.cons_append, List.nil_append, Option.toList, Int.toNat, Int.reduceToNat, if_pos, if_neg, reduceIte, ↓reduceIte, Nat.reduceAdd, Nat.reduceEqDiff, Nat.reduceBEq, beq_self_eq_true, Bool.not_true, Bool.not_false, Bool.and_true, Bool.and_false, Bool.true_and, Bool.false_and, gI_sI, gI_sL, gI_sA, gI_sM, gL_sI, gL_sL, gL_sA, gL_sM, aI_sI, aI_sL, aI_sA, aI_sM, aL_sI, aL_sL, aL_sA, aL_sM, Bvariable_0, Bvariable_9, Bvariable_19, Bvariable_75, Bvariable_82, Bvariable_89, Bvariable_95, oi_1, oi_3, oi_60, oi_m2, P_take, P_wrong]; try dsimp only
        refine ⟨rfl, rfl, (by decide), (⟨by lia, by lia⟩), fun w7 τ7 hq7 => ?_⟩
        obtain ⟨r7, rfl, rfl, fa7, fb7, rfl⟩ := hq7
        dsimp only [Option.toList, List.cons_append, List.nil_append, Nat.beq, gI_sI, gI_sL, gI_sA, gI_sM, gL_sI, gL_sL, gL_sA, gL_sM, aI_sI, aI_sL, aI_sA, aI_sM, aL_sI, aL_sL, aL_sA, aL_sM]
        refine ⟨Or.inl rfl, ?_⟩
        exact ⟨_, rfl, Or.inr ⟨rfl, by repeat (first | exact Fp.rf | (with_reducible refine Fp.vr ?_ ?_) | refine Fp.a ?_ rfl | refine Fp.i ?_ rfl | refine Fp.y ?_ rfl ⟨by lia, by lia⟩ | exact ⟨by lia, by lia⟩)⟩⟩
    next => exact hP.elim
theorem m_variable (l : Launch) : RMet l 3 40 P_variable Q_variable := by
  refine RMet.by Bvariable [(17, P_take, Q_take), (12, P_wrong, Q_wrong)] rovariable okBvariable (ctc (m_take l) (by decide) (ctc (m_wrong l) (by decide) ct0)) ?_ b_variable
  · intro As σ hP
    unfold P_variable at hP
    split at hP
    next => exact Nat.le_of_ble_eq_true rfl
    next => exact hP.elim
set_option maxRecDepth 100000 in
theorem e_variable (l : Launch) : RMetE l 3 40 P_variable Q_variable := by
  refine RMetE.by Bvariable [(17, P_take, Q_take), (12, P_wrong, Q_wrong)] rfl rfl rovariable okBvariable (ctEc (e_take l) (by decide) (ctEc (e_wrong l) (by decide) ctE0)) ?_ b_variable
  · intro As σ hP
    unfold P_variable at hP
    split at hP
    next => exact Nat.le_of_ble_eq_true rfl
    next => exact hP.elim
def P_pop : RP := fun As σ => match As with
  | [] => (0 ≤ (gI σ 33) ∧ (gI σ 33) < 4000) ∧ (0 ≤ (gI σ 18) ∧ (gI σ 18) < 4000)
  | _ => False
def Q_pop : RQ := fun As σ w τ => match As with
  | [] => w = none ∧ ∃ a : Int32, τ = em σ 21 a (aI σ 23 (gI σ 33).toNatClampNeg)
  | _ => False
set_option maxRecDepth 100000 in
set_option maxHeartbeats 4000000 in
theorem b_pop : Bod Bpop [(20, P_emit, Q_emit)] P_pop Q_pop := by
  · intro As σ hP G hB hW
    unfold P_pop at hP
    split at hP
    next => 
      unfold Q_pop at hB
      dsimp only at hB
      apply hB
      dsimp only [rgo, rfd, Bpop, Nat.beq, rwp, rst, lv_args, rlk, rs1, rs2, rdl, rky, rct, rcs, rcd, rno, rsw, Value.category, List.filter, List.take, List.drop, List.reverse, List.reverseAux, List.cons_append, List.nil_append, Option.toList, Int.toNat, Int.reduceToNat, if_pos, if_neg, reduceIte, ↓reduceIte, Nat.reduceAdd, Nat.reduceEqDiff, Nat.reduceBEq, beq_self_eq_true, Bool.not_true, Bool.not_false, Bool.and_true, Bool.and_false, Bool.true_and, Bool.false_and, gI_sI, gI_sL, gI_sA, gI_sM, gL_sI, gL_sL, gL_sA, gL_sM, aI_sI, aI_sL, aI_sA, aI_sM, aL_sI, aL_sL, aL_sA, aL_sM, Bpop_0, Bpop_19, Bpop_25, Bpop_30, Bpop_35, Bpop_39, Bpop_40, oi_0, oi_1, oi_17, oi_18, oi_21, oi_3, oi_4, P_emit]; try dsimp only
      refine ⟨rfl, rfl, rfl, (in_19 (by lia) (by lia)), fun h1 => ?_, fun h1 => ?_⟩
      · apply hB
        dsimp only [rgo, rfd, Bpop, Nat.beq, rwp, rst, lv_args, rlk, rs1, rs2, rdl, rky, rct, rcs, rcd, rno, rsw, Value.category, List.filter, List.take, List.drop, List.reverse, List.reverseAux, List.cons_append, List.nil_append, Option.toList, Int.toNat, Int.reduceToNat, if_pos, if_neg, reduceIte, ↓reduceIte, Nat.reduceAdd, Nat.reduceEqDiff, Nat.reduceBEq, beq_self_eq_true, Bool.not_true, Bool.not_false, Bool.and_true, Bool.and_false, Bool.true_and, Bool.false_and, gI_sI, gI_sL, gI_sA, gI_sM, gL_sI, gL_sL, gL_sA, gL_sM, aI_sI, aI_sL, aI_sA, aI_sM, aL_sI, aL_sL, aL_sA, aL_sM, Bpop_0, Bpop_19, Bpop_25, Bpop_30, Bpop_35, Bpop_39, Bpop_40, oi_0, oi_1, oi_17, oi_18, oi_21, oi_3, oi_4, P_emit]; try dsimp only
        apply hB
        dsimp only [rgo, rfd, Bpop, Nat.beq, rwp, rst, lv_args, rlk, rs1, rs2, rdl, rky, rct, rcs, rcd, rno, rsw, Value.category, List.filter, List.take, List.drop, List.reverse, List.reverseAux, List.cons_append, List.nil_append, Option.toList, Int.toNat, Int.reduceToNat, if_pos, if_neg, reduceIte, ↓reduceIte, Nat.reduceAdd, Nat.reduceEqDiff, Nat.reduceBEq, beq_self_eq_true, Bool.not_true, Bool.not_false, Bool.and_true, Bool.and_false, Bool.true_and, Bool.false_and, gI_sI, gI_sL, gI_sA, gI_sM, gL_sI, gL_sL, gL_sA, gL_sM, aI_sI, aI_sL, aI_sA, aI_sM, aL_sI, aL_sL, aL_sA, aL_sM, Bpop_0, Bpop_19, Bpop_25, Bpop_30, Bpop_35, Bpop_39, Bpop_40, oi_0, oi_1, oi_17, oi_18, oi_21, oi_3, oi_4, P_emit]; try dsimp only
        refine ⟨rfl, rfl, rfl, (in_23 (by lia) (by lia)), rfl, (by decide), (⟨by lia, by lia⟩), fun w2 τ2 hq2 => ?_⟩
        obtain ⟨rfl, rfl⟩ := hq2
        dsimp only [Option.toList, List.cons_append, List.nil_append, Nat.beq, gI_sI, gI_sL, gI_sA, gI_sM, gL_sI, gL_sL, gL_sA, gL_sM, aI_sI, aI_sL, aI_sA, aI_sM, aL_sI, aL_sL, aL_sA, aL_sM]
        exact ⟨rfl, _, rfl⟩
      · apply hB
        dsimp only [rgo, rfd, Bpop, Nat.beq, rwp, rst, lv_args, rlk, rs1, rs2, rdl, rky, rct, rcs, rcd, rno, rsw, Value.category, List.filter, List.take, List.drop, List.reverse, List.reverseAux, List.cons_append, List.nil_append, Option.toList, Int.toNat, Int.reduceToNat, if_pos, if_neg, reduceIte, ↓reduceIte, Nat.reduceAdd, Nat.reduceEqDiff, Nat.reduceBEq, beq_self_eq_true, Bool.not_true, Bool.not_false, Bool.and_true, Bool.and_false, Bool.true_and, Bool.false_and, gI_sI, gI_sL, gI_sA, gI_sM, gL_sI, gL_sL, gL_sA, gL_sM, aI_sI, aI_sL, aI_sA, aI_sM, aL_sI, aL_sL, aL_sA, aL_sM, Bpop_0, Bpop_19, Bpop_25, Bpop_30, Bpop_35, Bpop_39, Bpop_40, oi_0, oi_1, oi_17, oi_18, oi_21, oi_3, oi_4, P_emit]; try dsimp only
        refine ⟨fun h3 => ?_, fun h3 => ?_⟩
        · apply hB
          dsimp only [rgo, rfd, Bpop, Nat.beq, rwp, rst, lv_args, rlk, rs1, rs2, rdl, rky, rct, rcs, rcd, rno, rsw, Value.category, List.filter, List.take, List.drop, List.reverse, List.reverseAux, List.cons_append, List.nil_append, Option.toList, Int.toNat, Int.reduceToNat, if_pos, if_neg, reduceIte, ↓reduceIte, Nat.reduceAdd, Nat.reduceEqDiff, Nat.reduceBEq, beq_self_eq_true, Bool.not_true, Bool.not_false, Bool.and_true, Bool.and_false, Bool.true_and, Bool.false_and, gI_sI, gI_sL, gI_sA, gI_sM, gL_sI, gL_sL, gL_sA, gL_sM, aI_sI, aI_sL, aI_sA, aI_sM, aL_sI, aL_sL, aL_sA, aL_sM, Bpop_0, Bpop_19, Bpop_25, Bpop_30, Bpop_35, Bpop_39, Bpop_40, oi_0, oi_1, oi_17, oi_18, oi_21, oi_3, oi_4, P_emit]; try dsimp only
          apply hB
          dsimp only [rgo, rfd, Bpop, Nat.beq, rwp, rst, lv_args, rlk, rs1, rs2, rdl, rky, rct, rcs, rcd, rno, rsw, Value.category, List.filter, List.take, List.drop, List.reverse, List.reverseAux, List.cons_append, List.nil_append, Option.toList, Int.toNat, Int.reduceToNat, if_pos, if_neg, reduceIte, ↓reduceIte, Nat.reduceAdd, Nat.reduceEqDiff, Nat.reduceBEq, beq_self_eq_true, Bool.not_true, Bool.not_false, Bool.and_true, Bool.and_false, Bool.true_and, Bool.false_and, gI_sI, gI_sL, gI_sA, gI_sM, gL_sI, gL_sL, gL_sA, gL_sM, aI_sI, aI_sL, aI_sA, aI_sM, aL_sI, aL_sL, aL_sA, aL_sM, Bpop_0, Bpop_19, Bpop_25, Bpop_30, Bpop_35, Bpop_39, Bpop_40, oi_0, oi_1, oi_17, oi_18, oi_21, oi_3, oi_4, P_emit]; try dsimp only
          refine ⟨rfl, rfl, rfl, (in_23 (by lia) (by lia)), rfl, (by decide), (⟨by lia, by lia⟩), fun w4 τ4 hq4 => ?_⟩
          obtain ⟨rfl, rfl⟩ := hq4
          dsimp only [Option.toList, List.cons_append, List.nil_append, Nat.beq, gI_sI, gI_sL, gI_sA, gI_sM, gL_sI, gL_sL, gL_sA, gL_sM, aI_sI, aI_sL, aI_sA, aI_sM, aL_sI, aL_sL, aL_sA, aL_sM]
          exact ⟨rfl, _, rfl⟩
        · apply hB
          dsimp only [rgo, rfd, Bpop, Nat.beq, rwp, rst, lv_args, rlk, rs1, rs2, rdl, rky, rct, rcs, rcd, rno, rsw, Value.category, List.filter, List.take, List.drop, List.reverse, List.reverseAux, List.cons_append, List.nil_append, Option.toList, Int.toNat, Int.reduceToNat, if_pos, if_neg, reduceIte, ↓reduceIte, Nat.reduceAdd, Nat.reduceEqDiff, Nat.reduceBEq, beq_self_eq_true, Bool.not_true, Bool.not_false, Bool.and_true, Bool.and_false, Bool.true_and, Bool.false_and, gI_sI, gI_sL, gI_sA, gI_sM, gL_sI, gL_sL, gL_sA, gL_sM, aI_sI, aI_sL, aI_sA, aI_sM, aL_sI, aL_sL, aL_sA, aL_sM, Bpop_0, Bpop_19, Bpop_25, Bpop_30, Bpop_35, Bpop_39, Bpop_40, oi_0, oi_1, oi_17, oi_18, oi_21, oi_3, oi_4, P_emit]; try dsimp only
          refine ⟨fun h5 => ?_, fun h5 => ?_⟩
          · apply hB
            dsimp only [rgo, rfd, Bpop, Nat.beq, rwp, rst, lv_args, rlk, rs1, rs2, rdl, rky, rct, rcs, rcd, rno, rsw, Value.category, List.filter, List.take, List.drop, List.reverse, List.reverseAux, List.cons_append, List.nil_append, Option.toList, Int.toNat, Int.reduceToNat, if_pos, if_neg, reduceIte, ↓reduceIte, Nat.reduceAdd, Nat.reduceEqDiff, Nat.reduceBEq, beq_self_eq_true, Bool.not_true, Bool.not_false, Bool.and_true, Bool.and_false, Bool.true_and, Bool.false_and, gI_sI, gI_sL, gI_sA, gI_sM, gL_sI, gL_sL, gL_sA, gL_sM, aI_sI, aI_sL, aI_sA, aI_sM, aL_sI, aL_sL, aL_sA, aL_sM, Bpop_0, Bpop_19, Bpop_25, Bpop_30, Bpop_35, Bpop_39, Bpop_40, oi_0, oi_1, oi_17, oi_18, oi_21, oi_3, oi_4, P_emit]; try dsimp only
            apply hB
            dsimp only [rgo, rfd, Bpop, Nat.beq, rwp, rst, lv_args, rlk, rs1, rs2, rdl, rky, rct, rcs, rcd, rno, rsw, Value.category, List.filter, List.take, List.drop, List.reverse, List.reverseAux, List.cons_append, List.nil_append, Option.toList, Int.toNat, Int.reduceToNat, if_pos, if_neg, reduceIte, ↓reduceIte, Nat.reduceAdd, Nat.reduceEqDiff, Nat.reduceBEq, beq_self_eq_true, Bool.not_true, Bool.not_false, Bool.and_true, Bool.and_false, Bool.true_and, Bool.false_and, gI_sI, gI_sL, gI_sA, gI_sM, gL_sI, gL_sL, gL_sA, gL_sM, aI_sI, aI_sL, aI_sA, aI_sM, aL_sI, aL_sL, aL_sA, aL_sM, Bpop_0, Bpop_19, Bpop_25, Bpop_30, Bpop_35, Bpop_39, Bpop_40, oi_0, oi_1, oi_17, oi_18, oi_21, oi_3, oi_4, P_emit]; try dsimp only
            refine ⟨rfl, rfl, rfl, (in_23 (by lia) (by lia)), rfl, (by decide), (⟨by lia, by lia⟩), fun w6 τ6 hq6 => ?_⟩
            obtain ⟨rfl, rfl⟩ := hq6
            dsimp only [Option.toList, List.cons_append, List.nil_append, Nat.beq, gI_sI, gI_sL, gI_sA, gI_sM, gL_sI, gL_sL, gL_sA, gL_sM, aI_sI, aI_sL, aI_sA, aI_sM, aL_sI, aL_sL, aL_sA, aL_sM]
            exact ⟨rfl, _, rfl⟩
          · apply hB
            dsimp only [rgo, rfd, Bpop, Nat.beq, rwp, rst, lv_args, rlk, rs1, rs2, rdl, rky, rct, rcs, rcd, rno, rsw, Value.category, List.filter, List.take, List.drop, List.reverse, List.reverseAux, List.cons_append, List.nil_append, Option.toList, Int.toNat, Int.reduceToNat, if_pos, if_neg, reduceIte, ↓reduceIte, Nat.reduceAdd, Nat.reduceEqDiff, Nat.reduceBEq, beq_self_eq_true, Bool.not_true, Bool.not_false, Bool.and_true, Bool.and_false, Bool.true_and, Bool.false_and, gI_sI, gI_sL, gI_sA, gI_sM, gL_sI, gL_sL, gL_sA, gL_sM, aI_sI, aI_sL, aI_sA, aI_sM, aL_sI, aL_sL, aL_sA, aL_sM, Bpop_0, Bpop_19, Bpop_25, Bpop_30, Bpop_35, Bpop_39, Bpop_40, oi_0, oi_1, oi_17, oi_18, oi_21, oi_3, oi_4, P_emit]; try dsimp only
            refine ⟨fun h7 => ?_, fun h7 => ?_⟩
            · apply hB
              dsimp only [rgo, rfd, Bpop, Nat.beq, rwp, rst, lv_args, rlk, rs1, rs2, rdl, rky, rct, rcs, rcd, rno, rsw, Value.category, List.filter, List.take, List.drop, List.reverse, List.reverseAux, List.cons_append, List.nil_append, Option.toList, Int.toNat, Int.reduceToNat, if_pos, if_neg, reduceIte, ↓reduceIte, Nat.reduceAdd, Nat.reduceEqDiff, Nat.reduceBEq, beq_self_eq_true, Bool.not_true, Bool.not_false, Bool.and_true, Bool.and_false, Bool.true_and, Bool.false_and, gI_sI, gI_sL, gI_sA, gI_sM, gL_sI, gL_sL, gL_sA, gL_sM, aI_sI, aI_sL, aI_sA, aI_sM, aL_sI, aL_sL, aL_sA, aL_sM, Bpop_0, Bpop_19, Bpop_25, Bpop_30, Bpop_35, Bpop_39, Bpop_40, oi_0, oi_1, oi_17, oi_18, oi_21, oi_3, oi_4, P_emit]; try dsimp only
              apply hB
              dsimp only [rgo, rfd, Bpop, Nat.beq, rwp, rst, lv_args, rlk, rs1, rs2, rdl, rky, rct, rcs, rcd, rno, rsw, Value.category, List.filter, List.take, List.drop, List.reverse, List.reverseAux, List.cons_append, List.nil_append, Option.toList, Int.toNat, Int.reduceToNat, if_pos, if_neg, reduceIte, ↓reduceIte, Nat.reduceAdd, Nat.reduceEqDiff, Nat.reduceBEq, beq_self_eq_true, Bool.not_true, Bool.not_false, Bool.and_true, Bool.and_false, Bool.true_and, Bool.false_and, gI_sI, gI_sL, gI_sA, gI_sM, gL_sI, gL_sL, gL_sA, gL_sM, aI_sI, aI_sL, aI_sA, aI_sM, aL_sI, aL_sL, aL_sA, aL_sM, Bpop_0, Bpop_19, Bpop_25, Bpop_30, Bpop_35, Bpop_39, Bpop_40, oi_0, oi_1, oi_17, oi_18, oi_21, oi_3, oi_4, P_emit]; try dsimp only
              refine ⟨rfl, rfl, rfl, (in_23 (by lia) (by lia)), rfl, (by decide), (⟨by lia, by lia⟩), fun w8 τ8 hq8 => ?_⟩
              obtain ⟨rfl, rfl⟩ := hq8
              dsimp only [Option.toList, List.cons_append, List.nil_append, Nat.beq, gI_sI, gI_sL, gI_sA, gI_sM, gL_sI, gL_sL, gL_sA, gL_sM, aI_sI, aI_sL, aI_sA, aI_sM, aL_sI, aL_sL, aL_sA, aL_sM]
              exact ⟨rfl, _, rfl⟩
            · apply hB
              dsimp only [rgo, rfd, Bpop, Nat.beq, rwp, rst, lv_args, rlk, rs1, rs2, rdl, rky, rct, rcs, rcd, rno, rsw, Value.category, List.filter, List.take, List.drop, List.reverse, List.reverseAux, List.cons_append, List.nil_append, Option.toList, Int.toNat, Int.reduceToNat, if_pos, if_neg, reduceIte, ↓reduceIte, Nat.reduceAdd, Nat.reduceEqDiff, Nat.reduceBEq, beq_self_eq_true, Bool.not_true, Bool.not_false, Bool.and_true, Bool.and_false, Bool.true_and, Bool.false_and, gI_sI, gI_sL, gI_sA, gI_sM, gL_sI, gL_sL, gL_sA, gL_sM, aI_sI, aI_sL, aI_sA, aI_sM, aL_sI, aL_sL, aL_sA, aL_sM, Bpop_0, Bpop_19, Bpop_25, Bpop_30, Bpop_35, Bpop_39, Bpop_40, oi_0, oi_1, oi_17, oi_18, oi_21, oi_3, oi_4, P_emit]; try dsimp only
              apply hB
              dsimp only [rgo, rfd, Bpop, Nat.beq, rwp, rst, lv_args, rlk, rs1, rs2, rdl, rky, rct, rcs, rcd, rno, rsw, Value.category, List.filter, List.take, List.drop, List.reverse, List.reverseAux, List.cons_append, List.nil_append, Option.toList, Int.toNat, Int.reduceToNat, if_pos, if_neg, reduceIte, ↓reduceIte, Nat.reduceAdd, Nat.reduceEqDiff, Nat.reduceBEq, beq_self_eq_true, Bool.not_true, Bool.not_false, Bool.and_true, Bool.and_false, Bool.true_and, Bool.false_and, gI_sI, gI_sL, gI_sA, gI_sM, gL_sI, gL_sL, gL_sA, gL_sM, aI_sI, aI_sL, aI_sA, aI_sM, aL_sI, aL_sL, aL_sA, aL_sM, Bpop_0, Bpop_19, Bpop_25, Bpop_30, Bpop_35, Bpop_39, Bpop_40, oi_0, oi_1, oi_17, oi_18, oi_21, oi_3, oi_4, P_emit]; try dsimp only
              refine ⟨rfl, rfl, rfl, (in_23 (by lia) (by lia)), rfl, (by decide), (⟨by lia, by lia⟩), fun w9 τ9 hq9 => ?_⟩
              obtain ⟨rfl, rfl⟩ := hq9
              dsimp only [Option.toList, List.cons_append, List.nil_append, Nat.beq, gI_sI, gI_sL, gI_sA, gI_sM, gL_sI, gL_sL, gL_sA, gL_sM, aI_sI, aI_sL, aI_sA, aI_sM, aL_sI, aL_sL, aL_sA, aL_sM]
              exact ⟨rfl, _, rfl⟩
    next => exact hP.elim
theorem m_pop (l : Launch) : RMet l 2 51 P_pop Q_pop := by
  refine RMet.by Bpop [(20, P_emit, Q_emit)] ropop okBpop (ctc (m_emit l) (by decide) ct0) ?_ b_pop
  · intro As σ hP
    unfold P_pop at hP
    split at hP
    next => exact Nat.le_of_ble_eq_true rfl
    next => exact hP.elim
set_option maxRecDepth 100000 in
theorem e_pop (l : Launch) : RMetE l 2 51 P_pop Q_pop := by
  refine RMetE.by Bpop [(20, P_emit, Q_emit)] rfl rfl ropop okBpop (ctEc (e_emit l) (by decide) ctE0) ?_ b_pop
  · intro As σ hP
    unfold P_pop at hP
    split at hP
    next => exact Nat.le_of_ble_eq_true rfl
    next => exact hP.elim
def P_scope : RP := fun As σ => match As with
  | [] => (0 < (gI σ 62) ∧ (gI σ 62) ≤ 40) ∧ (aI σ 63 (gI σ 62 - 1).toNatClampNeg = 0 ∨ aI σ 63 (gI σ 62 - 1).toNatClampNeg = 1 ∨ aI σ 63 (gI σ 62 - 1).toNatClampNeg = 8 ∨ 9 ≤ aI σ 63 (gI σ 62 - 1).toNatClampNeg)
  | _ => False
def Q_scope : RQ := fun As σ w τ => match As with
  | [] => ∃ r : Int32, w = some (.int r) ∧ τ = σ
  | _ => False
set_option maxRecDepth 100000 in
set_option maxHeartbeats 4000000 in
theorem b_scope : Bod Bscope [] P_scope Q_scope := by
  · intro As σ hP G hB hW
    unfold P_scope at hP
    split at hP
    next => 
      unfold Q_scope at hB
      dsimp only at hB
      apply hB
      dsimp only [rgo, rfd, Bscope, Nat.beq, rwp, rst, lv_args, rlk, rs1, rs2, rdl, rky, rct, rcs, rcd, rno, rsw, Value.category, List.filter, List.take, List.drop, List.reverse, List.reverseAux, List.cons_append, List.nil_append, Option.toList, Int.toNat, Int.reduceToNat, if_pos, if_neg, reduceIte, ↓reduceIte, Nat.reduceAdd, Nat.reduceEqDiff, Nat.reduceBEq, beq_self_eq_true, Bool.not_true, Bool.not_false, Bool.and_true, Bool.and_false, Bool.true_and, Bool.false_and, gI_sI, gI_sL, gI_sA, gI_sM, gL_sI, gL_sL, gL_sA, gL_sM, aI_sI, aI_sL, aI_sA, aI_sM, aL_sI, aL_sL, aL_sA, aL_sM, Bscope_0, Bscope_7, Bscope_16, Bscope_26, Bscope_37, Bscope_48, Bscope_54, Bscope_65, Bscope_90, Bscope_96, oi_1, oi_1000, oi_3, oi_8, oi_9, oi_m1]; try dsimp only
      refine ⟨rfl, ?_⟩
      apply hB
      dsimp only [rgo, rfd, Bscope, Nat.beq, rwp, rst, lv_args, rlk, rs1, rs2, rdl, rky, rct, rcs, rcd, rno, rsw, Value.category, List.filter, List.take, List.drop, List.reverse, List.reverseAux, List.cons_append, List.nil_append, Option.toList, Int.toNat, Int.reduceToNat, if_pos, if_neg, reduceIte, ↓reduceIte, Nat.reduceAdd, Nat.reduceEqDiff, Nat.reduceBEq, beq_self_eq_true, Bool.not_true, Bool.not_false, Bool.and_true, Bool.and_false, Bool.true_and, Bool.false_and, gI_sI, gI_sL, gI_sA, gI_sM, gL_sI, gL_sL, gL_sA, gL_sM, aI_sI, aI_sL, aI_sA, aI_sM, aL_sI, aL_sL, aL_sA, aL_sM, Bscope_0, Bscope_7, Bscope_16, Bscope_26, Bscope_37, Bscope_48, Bscope_54, Bscope_65, Bscope_90, Bscope_96, oi_1, oi_1000, oi_3, oi_8, oi_9, oi_m1]; try dsimp only
      refine ⟨rfl, rfl, (in_63 (by lia) (by lia)), fun h1 => ?_, fun h1 => ?_⟩
      · apply hB
        dsimp only [rgo, rfd, Bscope, Nat.beq, rwp, rst, lv_args, rlk, rs1, rs2, rdl, rky, rct, rcs, rcd, rno, rsw, Value.category, List.filter, List.take, List.drop, List.reverse, List.reverseAux, List.cons_append, List.nil_append, Option.toList, Int.toNat, Int.reduceToNat, if_pos, if_neg, reduceIte, ↓reduceIte, Nat.reduceAdd, Nat.reduceEqDiff, Nat.reduceBEq, beq_self_eq_true, Bool.not_true, Bool.not_false, Bool.and_true, Bool.and_false, Bool.true_and, Bool.false_and, gI_sI, gI_sL, gI_sA, gI_sM, gL_sI, gL_sL, gL_sA, gL_sM, aI_sI, aI_sL, aI_sA, aI_sM, aL_sI, aL_sL, aL_sA, aL_sM, Bscope_0, Bscope_7, Bscope_16, Bscope_26, Bscope_37, Bscope_48, Bscope_54, Bscope_65, Bscope_90, Bscope_96, oi_1, oi_1000, oi_3, oi_8, oi_9, oi_m1]; try dsimp only
        refine ⟨rfl, rfl, (in_63 (by lia) (by lia)), fun h2 => ?_, fun h2 => ?_⟩
        · apply hB
          dsimp only [rgo, rfd, Bscope, Nat.beq, rwp, rst, lv_args, rlk, rs1, rs2, rdl, rky, rct, rcs, rcd, rno, rsw, Value.category, List.filter, List.take, List.drop, List.reverse, List.reverseAux, List.cons_append, List.nil_append, Option.toList, Int.toNat, Int.reduceToNat, if_pos, if_neg, reduceIte, ↓reduceIte, Nat.reduceAdd, Nat.reduceEqDiff, Nat.reduceBEq, beq_self_eq_true, Bool.not_true, Bool.not_false, Bool.and_true, Bool.and_false, Bool.true_and, Bool.false_and, gI_sI, gI_sL, gI_sA, gI_sM, gL_sI, gL_sL, gL_sA, gL_sM, aI_sI, aI_sL, aI_sA, aI_sM, aL_sI, aL_sL, aL_sA, aL_sM, Bscope_0, Bscope_7, Bscope_16, Bscope_26, Bscope_37, Bscope_48, Bscope_54, Bscope_65, Bscope_90, Bscope_96, oi_1, oi_1000, oi_3, oi_8, oi_9, oi_m1]; try dsimp only
          refine ⟨rfl, rfl, (in_64 (by lia) (by lia)), ?_⟩
          apply hB
          dsimp only [rgo, rfd, Bscope, Nat.beq, rwp, rst, lv_args, rlk, rs1, rs2, rdl, rky, rct, rcs, rcd, rno, rsw, Value.category, List.filter, List.take, List.drop, List.reverse, List.reverseAux, List.cons_append, List.nil_append, Option.toList, Int.toNat, Int.reduceToNat, if_pos, if_neg, reduceIte, ↓reduceIte, Nat.reduceAdd, Nat.reduceEqDiff, Nat.reduceBEq, beq_self_eq_true, Bool.not_true, Bool.not_false, Bool.and_true, Bool.and_false, Bool.true_and, Bool.false_and, gI_sI, gI_sL, gI_sA, gI_sM, gL_sI, gL_sL, gL_sA, gL_sM, aI_sI, aI_sL, aI_sA, aI_sM, aL_sI, aL_sL, aL_sA, aL_sM, Bscope_0, Bscope_7, Bscope_16, Bscope_26, Bscope_37, Bscope_48, Bscope_54, Bscope_65, Bscope_90, Bscope_96, oi_1, oi_1000, oi_3, oi_8, oi_9, oi_m1]; try dsimp only
          refine ⟨trivial, ?_⟩
          exact ⟨_, rfl, rfl⟩
        · apply hB
          dsimp only [rgo, rfd, Bscope, Nat.beq, rwp, rst, lv_args, rlk, rs1, rs2, rdl, rky, rct, rcs, rcd, rno, rsw, Value.category, List.filter, List.take, List.drop, List.reverse, List.reverseAux, List.cons_append, List.nil_append, Option.toList, Int.toNat, Int.reduceToNat, if_pos, if_neg, reduceIte, ↓reduceIte, Nat.reduceAdd, Nat.reduceEqDiff, Nat.reduceBEq, beq_self_eq_true, Bool.not_true, Bool.not_false, Bool.and_true, Bool.and_false, Bool.true_and, Bool.false_and, gI_sI, gI_sL, gI_sA, gI_sM, gL_sI, gL_sL, gL_sA, gL_sM, aI_sI, aI_sL, aI_sA, aI_sM, aL_sI, aL_sL, aL_sA, aL_sM, Bscope_0, Bscope_7, Bscope_16, Bscope_26, Bscope_37, Bscope_48, Bscope_54, Bscope_65, Bscope_90, Bscope_96, oi_1, oi_1000, oi_3, oi_8, oi_9, oi_m1]; try dsimp only
          refine ⟨rfl, rfl, (in_64 (by lia) (by lia)), rfl, rfl, (in_63 (by lia) (by lia)), ?_⟩
          apply hB
          dsimp only [rgo, rfd, Bscope, Nat.beq, rwp, rst, lv_args, rlk, rs1, rs2, rdl, rky, rct, rcs, rcd, rno, rsw, Value.category, List.filter, List.take, List.drop, List.reverse, List.reverseAux, List.cons_append, List.nil_append, Option.toList, Int.toNat, Int.reduceToNat, if_pos, if_neg, reduceIte, ↓reduceIte, Nat.reduceAdd, Nat.reduceEqDiff, Nat.reduceBEq, beq_self_eq_true, Bool.not_true, Bool.not_false, Bool.and_true, Bool.and_false, Bool.true_and, Bool.false_and, gI_sI, gI_sL, gI_sA, gI_sM, gL_sI, gL_sL, gL_sA, gL_sM, aI_sI, aI_sL, aI_sA, aI_sM, aL_sI, aL_sL, aL_sA, aL_sM, Bscope_0, Bscope_7, Bscope_16, Bscope_26, Bscope_37, Bscope_48, Bscope_54, Bscope_65, Bscope_90, Bscope_96, oi_1, oi_1000, oi_3, oi_8, oi_9, oi_m1]; try dsimp only
          refine ⟨trivial, ?_⟩
          exact ⟨_, rfl, rfl⟩
      · apply hB
        dsimp only [rgo, rfd, Bscope, Nat.beq, rwp, rst, lv_args, rlk, rs1, rs2, rdl, rky, rct, rcs, rcd, rno, rsw, Value.category, List.filter, List.take, List.drop, List.reverse, List.reverseAux, List.cons_append, List.nil_append, Option.toList, Int.toNat, Int.reduceToNat, if_pos, if_neg, reduceIte, ↓reduceIte, Nat.reduceAdd, Nat.reduceEqDiff, Nat.reduceBEq, beq_self_eq_true, Bool.not_true, Bool.not_false, Bool.and_true, Bool.and_false, Bool.true_and, Bool.false_and, gI_sI, gI_sL, gI_sA, gI_sM, gL_sI, gL_sL, gL_sA, gL_sM, aI_sI, aI_sL, aI_sA, aI_sM, aL_sI, aL_sL, aL_sA, aL_sM, Bscope_0, Bscope_7, Bscope_16, Bscope_26, Bscope_37, Bscope_48, Bscope_54, Bscope_65, Bscope_90, Bscope_96, oi_1, oi_1000, oi_3, oi_8, oi_9, oi_m1]; try dsimp only
        refine ⟨rfl, rfl, (in_63 (by lia) (by lia)), fun h3 => ?_, fun h3 => ?_⟩
        · apply hB
          dsimp only [rgo, rfd, Bscope, Nat.beq, rwp, rst, lv_args, rlk, rs1, rs2, rdl, rky, rct, rcs, rcd, rno, rsw, Value.category, List.filter, List.take, List.drop, List.reverse, List.reverseAux, List.cons_append, List.nil_append, Option.toList, Int.toNat, Int.reduceToNat, if_pos, if_neg, reduceIte, ↓reduceIte, Nat.reduceAdd, Nat.reduceEqDiff, Nat.reduceBEq, beq_self_eq_true, Bool.not_true, Bool.not_false, Bool.and_true, Bool.and_false, Bool.true_and, Bool.false_and, gI_sI, gI_sL, gI_sA, gI_sM, gL_sI, gL_sL, gL_sA, gL_sM, aI_sI, aI_sL, aI_sA, aI_sM, aL_sI, aL_sL, aL_sA, aL_sM, Bscope_0, Bscope_7, Bscope_16, Bscope_26, Bscope_37, Bscope_48, Bscope_54, Bscope_65, Bscope_90, Bscope_96, oi_1, oi_1000, oi_3, oi_8, oi_9, oi_m1]; try dsimp only
          refine ⟨rfl, rfl, (in_63 (by lia) (by lia)), fun h4 => ?_, fun h4 => ?_⟩
          · apply hB
            dsimp only [rgo, rfd, Bscope, Nat.beq, rwp, rst, lv_args, rlk, rs1, rs2, rdl, rky, rct, rcs, rcd, rno, rsw, Value.category, List.filter, List.take, List.drop, List.reverse, List.reverseAux, List.cons_append, List.nil_append, Option.toList, Int.toNat, Int.reduceToNat, if_pos, if_neg, reduceIte, ↓reduceIte, Nat.reduceAdd, Nat.reduceEqDiff, Nat.reduceBEq, beq_self_eq_true, Bool.not_true, Bool.not_false, Bool.and_true, Bool.and_false, Bool.true_and, Bool.false_and, gI_sI, gI_sL, gI_sA, gI_sM, gL_sI, gL_sL, gL_sA, gL_sM, aI_sI, aI_sL, aI_sA, aI_sM, aL_sI, aL_sL, aL_sA, aL_sM, Bscope_0, Bscope_7, Bscope_16, Bscope_26, Bscope_37, Bscope_48, Bscope_54, Bscope_65, Bscope_90, Bscope_96, oi_1, oi_1000, oi_3, oi_8, oi_9, oi_m1]; try dsimp only
            refine ⟨rfl, rfl, (in_64 (by lia) (by lia)), ?_⟩
            apply hB
            dsimp only [rgo, rfd, Bscope, Nat.beq, rwp, rst, lv_args, rlk, rs1, rs2, rdl, rky, rct, rcs, rcd, rno, rsw, Value.category, List.filter, List.take, List.drop, List.reverse, List.reverseAux, List.cons_append, List.nil_append, Option.toList, Int.toNat, Int.reduceToNat, if_pos, if_neg, reduceIte, ↓reduceIte, Nat.reduceAdd, Nat.reduceEqDiff, Nat.reduceBEq, beq_self_eq_true, Bool.not_true, Bool.not_false, Bool.and_true, Bool.and_false, Bool.true_and, Bool.false_and, gI_sI, gI_sL, gI_sA, gI_sM, gL_sI, gL_sL, gL_sA, gL_sM, aI_sI, aI_sL, aI_sA, aI_sM, aL_sI, aL_sL, aL_sA, aL_sM, Bscope_0, Bscope_7, Bscope_16, Bscope_26, Bscope_37, Bscope_48, Bscope_54, Bscope_65, Bscope_90, Bscope_96, oi_1, oi_1000, oi_3, oi_8, oi_9, oi_m1]; try dsimp only
            refine ⟨trivial, ?_⟩
            exact ⟨_, rfl, rfl⟩
          · apply hB
            dsimp only [rgo, rfd, Bscope, Nat.beq, rwp, rst, lv_args, rlk, rs1, rs2, rdl, rky, rct, rcs, rcd, rno, rsw, Value.category, List.filter, List.take, List.drop, List.reverse, List.reverseAux, List.cons_append, List.nil_append, Option.toList, Int.toNat, Int.reduceToNat, if_pos, if_neg, reduceIte, ↓reduceIte, Nat.reduceAdd, Nat.reduceEqDiff, Nat.reduceBEq, beq_self_eq_true, Bool.not_true, Bool.not_false, Bool.and_true, Bool.and_false, Bool.true_and, Bool.false_and, gI_sI, gI_sL, gI_sA, gI_sM, gL_sI, gL_sL, gL_sA, gL_sM, aI_sI, aI_sL, aI_sA, aI_sM, aL_sI, aL_sL, aL_sA, aL_sM, Bscope_0, Bscope_7, Bscope_16, Bscope_26, Bscope_37, Bscope_48, Bscope_54, Bscope_65, Bscope_90, Bscope_96, oi_1, oi_1000, oi_3, oi_8, oi_9, oi_m1]; try dsimp only
            refine ⟨rfl, rfl, (in_64 (by lia) (by lia)), rfl, rfl, (in_63 (by lia) (by lia)), ?_⟩
            apply hB
            dsimp only [rgo, rfd, Bscope, Nat.beq, rwp, rst, lv_args, rlk, rs1, rs2, rdl, rky, rct, rcs, rcd, rno, rsw, Value.category, List.filter, List.take, List.drop, List.reverse, List.reverseAux, List.cons_append, List.nil_append, Option.toList, Int.toNat, Int.reduceToNat, if_pos, if_neg, reduceIte, ↓reduceIte, Nat.reduceAdd, Nat.reduceEqDiff, Nat.reduceBEq, beq_self_eq_true, Bool.not_true, Bool.not_false, Bool.and_true, Bool.and_false, Bool.true_and, Bool.false_and, gI_sI, gI_sL, gI_sA, gI_sM, gL_sI, gL_sL, gL_sA, gL_sM, aI_sI, aI_sL, aI_sA, aI_sM, aL_sI, aL_sL, aL_sA, aL_sM, Bscope_0, Bscope_7, Bscope_16, Bscope_26, Bscope_37, Bscope_48, Bscope_54, Bscope_65, Bscope_90, Bscope_96, oi_1, oi_1000, oi_3, oi_8, oi_9, oi_m1]; try dsimp only
            refine ⟨trivial, ?_⟩
            exact ⟨_, rfl, rfl⟩
        · apply hB
          dsimp only [rgo, rfd, Bscope, Nat.beq, rwp, rst, lv_args, rlk, rs1, rs2, rdl, rky, rct, rcs, rcd, rno, rsw, Value.category, List.filter, List.take, List.drop, List.reverse, List.reverseAux, List.cons_append, List.nil_append, Option.toList, Int.toNat, Int.reduceToNat, if_pos, if_neg, reduceIte, ↓reduceIte, Nat.reduceAdd, Nat.reduceEqDiff, Nat.reduceBEq, beq_self_eq_true, Bool.not_true, Bool.not_false, Bool.and_true, Bool.and_false, Bool.true_and, Bool.false_and, gI_sI, gI_sL, gI_sA, gI_sM, gL_sI, gL_sL, gL_sA, gL_sM, aI_sI, aI_sL, aI_sA, aI_sM, aL_sI, aL_sL, aL_sA, aL_sM, Bscope_0, Bscope_7, Bscope_16, Bscope_26, Bscope_37, Bscope_48, Bscope_54, Bscope_65, Bscope_90, Bscope_96, oi_1, oi_1000, oi_3, oi_8, oi_9, oi_m1]; try dsimp only
          refine ⟨rfl, rfl, (in_63 (by lia) (by lia)), fun h5 => ?_, fun h5 => ?_⟩
          · apply hB
            dsimp only [rgo, rfd, Bscope, Nat.beq, rwp, rst, lv_args, rlk, rs1, rs2, rdl, rky, rct, rcs, rcd, rno, rsw, Value.category, List.filter, List.take, List.drop, List.reverse, List.reverseAux, List.cons_append, List.nil_append, Option.toList, Int.toNat, Int.reduceToNat, if_pos, if_neg, reduceIte, ↓reduceIte, Nat.reduceAdd, Nat.reduceEqDiff, Nat.reduceBEq, beq_self_eq_true, Bool.not_true, Bool.not_false, Bool.and_true, Bool.and_false, Bool.true_and, Bool.false_and, gI_sI, gI_sL, gI_sA, gI_sM, gL_sI, gL_sL, gL_sA, gL_sM, aI_sI, aI_sL, aI_sA, aI_sM, aL_sI, aL_sL, aL_sA, aL_sM, Bscope_0, Bscope_7, Bscope_16, Bscope_26, Bscope_37, Bscope_48, Bscope_54, Bscope_65, Bscope_90, Bscope_96, oi_1, oi_1000, oi_3, oi_8, oi_9, oi_m1]; try dsimp only
            refine ⟨rfl, rfl, (in_63 (by lia) (by lia)), fun h6 => ?_, fun h6 => ?_⟩
            · apply hB
              dsimp only [rgo, rfd, Bscope, Nat.beq, rwp, rst, lv_args, rlk, rs1, rs2, rdl, rky, rct, rcs, rcd, rno, rsw, Value.category, List.filter, List.take, List.drop, List.reverse, List.reverseAux, List.cons_append, List.nil_append, Option.toList, Int.toNat, Int.reduceToNat, if_pos, if_neg, reduceIte, ↓reduceIte, Nat.reduceAdd, Nat.reduceEqDiff, Nat.reduceBEq, beq_self_eq_true, Bool.not_true, Bool.not_false, Bool.and_true, Bool.and_false, Bool.true_and, Bool.false_and, gI_sI, gI_sL, gI_sA, gI_sM, gL_sI, gL_sL, gL_sA, gL_sM, aI_sI, aI_sL, aI_sA, aI_sM, aL_sI, aL_sL, aL_sA, aL_sM, Bscope_0, Bscope_7, Bscope_16, Bscope_26, Bscope_37, Bscope_48, Bscope_54, Bscope_65, Bscope_90, Bscope_96, oi_1, oi_1000, oi_3, oi_8, oi_9, oi_m1]; try dsimp only
              refine ⟨rfl, rfl, (in_64 (by lia) (by lia)), ?_⟩
              apply hB
              dsimp only [rgo, rfd, Bscope, Nat.beq, rwp, rst, lv_args, rlk, rs1, rs2, rdl, rky, rct, rcs, rcd, rno, rsw, Value.category, List.filter, List.take, List.drop, List.reverse, List.reverseAux, List.cons_append, List.nil_append, Option.toList, Int.toNat, Int.reduceToNat, if_pos, if_neg, reduceIte, ↓reduceIte, Nat.reduceAdd, Nat.reduceEqDiff, Nat.reduceBEq, beq_self_eq_true, Bool.not_true, Bool.not_false, Bool.and_true, Bool.and_false, Bool.true_and, Bool.false_and, gI_sI, gI_sL, gI_sA, gI_sM, gL_sI, gL_sL, gL_sA, gL_sM, aI_sI, aI_sL, aI_sA, aI_sM, aL_sI, aL_sL, aL_sA, aL_sM, Bscope_0, Bscope_7, Bscope_16, Bscope_26, Bscope_37, Bscope_48, Bscope_54, Bscope_65, Bscope_90, Bscope_96, oi_1, oi_1000, oi_3, oi_8, oi_9, oi_m1]; try dsimp only
              refine ⟨trivial, ?_⟩
              exact ⟨_, rfl, rfl⟩
            · apply hB
              dsimp only [rgo, rfd, Bscope, Nat.beq, rwp, rst, lv_args, rlk, rs1, rs2, rdl, rky, rct, rcs, rcd, rno, rsw, Value.category, List.filter, List.take, List.drop, List.reverse, List.reverseAux, List.cons_append, List.nil_append, Option.toList, Int.toNat, Int.reduceToNat, if_pos, if_neg, reduceIte, ↓reduceIte, Nat.reduceAdd, Nat.reduceEqDiff, Nat.reduceBEq, beq_self_eq_true, Bool.not_true, Bool.not_false, Bool.and_true, Bool.and_false, Bool.true_and, Bool.false_and, gI_sI, gI_sL, gI_sA, gI_sM, gL_sI, gL_sL, gL_sA, gL_sM, aI_sI, aI_sL, aI_sA, aI_sM, aL_sI, aL_sL, aL_sA, aL_sM, Bscope_0, Bscope_7, Bscope_16, Bscope_26, Bscope_37, Bscope_48, Bscope_54, Bscope_65, Bscope_90, Bscope_96, oi_1, oi_1000, oi_3, oi_8, oi_9, oi_m1]; try dsimp only
              refine ⟨rfl, rfl, (in_64 (by lia) (by lia)), rfl, rfl, (in_63 (by lia) (by lia)), ?_⟩
              apply hB
              dsimp only [rgo, rfd, Bscope, Nat.beq, rwp, rst, lv_args, rlk, rs1, rs2, rdl, rky, rct, rcs, rcd, rno, rsw, Value.category, List.filter, List.take, List.drop, List.reverse, List.reverseAux, List.cons_append, List.nil_append, Option.toList, Int.toNat, Int.reduceToNat, if_pos, if_neg, reduceIte, ↓reduceIte, Nat.reduceAdd, Nat.reduceEqDiff, Nat.reduceBEq, beq_self_eq_true, Bool.not_true, Bool.not_false, Bool.and_true, Bool.and_false, Bool.true_and, Bool.false_and, gI_sI, gI_sL, gI_sA, gI_sM, gL_sI, gL_sL, gL_sA, gL_sM, aI_sI, aI_sL, aI_sA, aI_sM, aL_sI, aL_sL, aL_sA, aL_sM, Bscope_0, Bscope_7, Bscope_16, Bscope_26, Bscope_37, Bscope_48, Bscope_54, Bscope_65, Bscope_90, Bscope_96, oi_1, oi_1000, oi_3, oi_8, oi_9, oi_m1]; try dsimp only
              refine ⟨trivial, ?_⟩
              exact ⟨_, rfl, rfl⟩
          · apply hB
            dsimp only [rgo, rfd, Bscope, Nat.beq, rwp, rst, lv_args, rlk, rs1, rs2, rdl, rky, rct, rcs, rcd, rno, rsw, Value.category, List.filter, List.take, List.drop, List.reverse, List.reverseAux, List.cons_append, List.nil_append, Option.toList, Int.toNat, Int.reduceToNat, if_pos, if_neg, reduceIte, ↓reduceIte, Nat.reduceAdd, Nat.reduceEqDiff, Nat.reduceBEq, beq_self_eq_true, Bool.not_true, Bool.not_false, Bool.and_true, Bool.and_false, Bool.true_and, Bool.false_and, gI_sI, gI_sL, gI_sA, gI_sM, gL_sI, gL_sL, gL_sA, gL_sM, aI_sI, aI_sL, aI_sA, aI_sM, aL_sI, aL_sL, aL_sA, aL_sM, Bscope_0, Bscope_7, Bscope_16, Bscope_26, Bscope_37, Bscope_48, Bscope_54, Bscope_65, Bscope_90, Bscope_96, oi_1, oi_1000, oi_3, oi_8, oi_9, oi_m1]; try dsimp only
            refine ⟨rfl, rfl, (in_63 (by lia) (by lia)), fun h7 => ?_, fun h7 => ?_⟩
            · apply hB
              dsimp only [rgo, rfd, Bscope, Nat.beq, rwp, rst, lv_args, rlk, rs1, rs2, rdl, rky, rct, rcs, rcd, rno, rsw, Value.category, List.filter, List.take, List.drop, List.reverse, List.reverseAux, List.cons_append, List.nil_append, Option.toList, Int.toNat, Int.reduceToNat, if_pos, if_neg, reduceIte, ↓reduceIte, Nat.reduceAdd, Nat.reduceEqDiff, Nat.reduceBEq, beq_self_eq_true, Bool.not_true, Bool.not_false, Bool.and_true, Bool.and_false, Bool.true_and, Bool.false_and, gI_sI, gI_sL, gI_sA, gI_sM, gL_sI, gL_sL, gL_sA, gL_sM, aI_sI, aI_sL, aI_sA, aI_sM, aL_sI, aL_sL, aL_sA, aL_sM, Bscope_0, Bscope_7, Bscope_16, Bscope_26, Bscope_37, Bscope_48, Bscope_54, Bscope_65, Bscope_90, Bscope_96, oi_1, oi_1000, oi_3, oi_8, oi_9, oi_m1]; try dsimp only
              refine ⟨rfl, rfl, (in_63 (by lia) (by lia)), fun h8 => ?_, fun h8 => ?_⟩
              · apply hB
                dsimp only [rgo, rfd, Bscope, Nat.beq, rwp, rst, lv_args, rlk, rs1, rs2, rdl, rky, rct, rcs, rcd, rno, rsw, Value.category, List.filter, List.take, List.drop, List.reverse, List.reverseAux, List.cons_append, List.nil_append, Option.toList, Int.toNat, Int.reduceToNat, if_pos, if_neg, reduceIte, ↓reduceIte, Nat.reduceAdd, Nat.reduceEqDiff, Nat.reduceBEq, beq_self_eq_true, Bool.not_true, Bool.not_false, Bool.and_true, Bool.and_false, Bool.true_and, Bool.false_and, gI_sI, gI_sL, gI_sA, gI_sM, gL_sI, gL_sL, gL_sA, gL_sM, aI_sI, aI_sL, aI_sA, aI_sM, aL_sI, aL_sL, aL_sA, aL_sM, Bscope_0, Bscope_7, Bscope_16, Bscope_26, Bscope_37, Bscope_48, Bscope_54, Bscope_65, Bscope_90, Bscope_96, oi_1, oi_1000, oi_3, oi_8, oi_9, oi_m1]; try dsimp only
                refine ⟨rfl, rfl, (in_64 (by lia) (by lia)), ?_⟩
                apply hB
                dsimp only [rgo, rfd, Bscope, Nat.beq, rwp, rst, lv_args, rlk, rs1, rs2, rdl, rky, rct, rcs, rcd, rno, rsw, Value.category, List.filter, List.take, List.drop, List.reverse, List.reverseAux, List.cons_append, List.nil_append, Option.toList, Int.toNat, Int.reduceToNat, if_pos, if_neg, reduceIte, ↓reduceIte, Nat.reduceAdd, Nat.reduceEqDiff, Nat.reduceBEq, beq_self_eq_true, Bool.not_true, Bool.not_false, Bool.and_true, Bool.and_false, Bool.true_and, Bool.false_and, gI_sI, gI_sL, gI_sA, gI_sM, gL_sI, gL_sL, gL_sA, gL_sM, aI_sI, aI_sL, aI_sA, aI_sM, aL_sI, aL_sL, aL_sA, aL_sM, Bscope_0, Bscope_7, Bscope_16, Bscope_26, Bscope_37, Bscope_48, Bscope_54, Bscope_65, Bscope_90, Bscope_96, oi_1, oi_1000, oi_3, oi_8, oi_9, oi_m1]; try dsimp only
                refine ⟨trivial, ?_⟩
                exact ⟨_, rfl, rfl⟩
              · apply hB
                dsimp only [rgo, rfd, Bscope, Nat.beq, rwp, rst, lv_args, rlk, rs1, rs2, rdl, rky, rct, rcs, rcd, rno, rsw, Value.category, List.filter, List.take, List.drop, List.reverse, List.reverseAux, List.cons_append, List.nil_append, Option.toList, Int.toNat, Int.reduceToNat, if_pos, if_neg, reduceIte, ↓reduceIte, Nat.reduceAdd, Nat.reduceEqDiff, Nat.reduceBEq, beq_self_eq_true, Bool.not_true, Bool.not_false, Bool.and_true, Bool.and_false, Bool.true_and, Bool.false_and, gI_sI, gI_sL, gI_sA, gI_sM, gL_sI, gL_sL, gL_sA, gL_sM, aI_sI, aI_sL, aI_sA, aI_sM, aL_sI, aL_sL, aL_sA, aL_sM, Bscope_0, Bscope_7, Bscope_16, Bscope_26, Bscope_37, Bscope_48, Bscope_54, Bscope_65, Bscope_90, Bscope_96, oi_1, oi_1000, oi_3, oi_8, oi_9, oi_m1]; try dsimp only
                refine ⟨rfl, rfl, (in_64 (by lia) (by lia)), rfl, rfl, (in_63 (by lia) (by lia)), ?_⟩
                apply hB
                dsimp only [rgo, rfd, Bscope, Nat.beq, rwp, rst, lv_args, rlk, rs1, rs2, rdl, rky, rct, rcs, rcd, rno, rsw, Value.category, List.filter, List.take, List.drop, List.reverse, List.reverseAux, List.cons_append, List.nil_append, Option.toList, Int.toNat, Int.reduceToNat, if_pos, if_neg, reduceIte, ↓reduceIte, Nat.reduceAdd, Nat.reduceEqDiff, Nat.reduceBEq, beq_self_eq_true, Bool.not_true, Bool.not_false, Bool.and_true, Bool.and_false, Bool.true_and, Bool.false_and, gI_sI, gI_sL, gI_sA, gI_sM, gL_sI, gL_sL, gL_sA, gL_sM, aI_sI, aI_sL, aI_sA, aI_sM, aL_sI, aL_sL, aL_sA, aL_sM, Bscope_0, Bscope_7, Bscope_16, Bscope_26, Bscope_37, Bscope_48, Bscope_54, Bscope_65, Bscope_90, Bscope_96, oi_1, oi_1000, oi_3, oi_8, oi_9, oi_m1]; try dsimp only
                refine ⟨trivial, ?_⟩
                exact ⟨_, rfl, rfl⟩
            · apply hB
              dsimp only [rgo, rfd, Bscope, Nat.beq, rwp, rst, lv_args, rlk, rs1, rs2, rdl, rky, rct, rcs, rcd, rno, rsw, Value.category, List.filter, List.take, List.drop, List.reverse, List.reverseAux, List.cons_append, List.nil_append, Option.toList, Int.toNat, Int.reduceToNat, if_pos, if_neg, reduceIte, ↓reduceIte, Nat.reduceAdd, Nat.reduceEqDiff, Nat.reduceBEq, beq_self_eq_true, Bool.not_true, Bool.not_false, Bool.and_true, Bool.and_false, Bool.true_and, Bool.false_and, gI_sI, gI_sL, gI_sA, gI_sM, gL_sI, gL_sL, gL_sA, gL_sM, aI_sI, aI_sL, aI_sA, aI_sM, aL_sI, aL_sL, aL_sA, aL_sM, Bscope_0, Bscope_7, Bscope_16, Bscope_26, Bscope_37, Bscope_48, Bscope_54, Bscope_65, Bscope_90, Bscope_96, oi_1, oi_1000, oi_3, oi_8, oi_9, oi_m1]; try dsimp only
              exfalso
              lia
    next => exact hP.elim
theorem m_scope (l : Launch) : RMet l 1 41 P_scope Q_scope := by
  refine RMet.by Bscope [] roscope okBscope ct0 ?_ b_scope
  · intro As σ hP
    unfold P_scope at hP
    split at hP
    next => exact Nat.le_of_ble_eq_true rfl
    next => exact hP.elim
set_option maxRecDepth 100000 in
theorem e_scope (l : Launch) : RMetE l 1 41 P_scope Q_scope := by
  refine RMetE.by Bscope [] rfl rfl roscope okBscope ctE0 ?_ b_scope
  · intro As σ hP
    unfold P_scope at hP
    split at hP
    next => exact Nat.le_of_ble_eq_true rfl
    next => exact hP.elim
def P_leave : RP := fun As σ => match As with
  | [.int k, .int t] => 0 ≤ (gI σ 42) ∧ (gI σ 42) ≤ 60
  | _ => False
def Q_leave : RQ := fun As σ w τ => match As with
  | [.int k, .int t] => w = none ∧ ∃ f : Nat → Int32, τ = sA σ 48 f
  | _ => False
set_option maxRecDepth 100000 in
set_option maxHeartbeats 4000000 in
theorem b_leave : Bod Bleave [] P_leave Q_leave := by
  · intro As σ hP G hB hW
    unfold P_leave at hP
    split at hP
    next k t => 
      unfold Q_leave at hB
      dsimp only at hB
      have loop : ∀ n : Nat, ∀ (i : Int32) (τ : RS), (60 - i.toInt).toNat = n → (0 ≤ i ∧ i ≤ gI σ 42) → (∃ f : Nat → Int32, τ = sA σ 48 f) → G 2 [(0, .ref 1000), (1, .int k), (2, .int t), (3, .int i)] [] τ := by
        intro n
        induction n using Nat.strongRecOn with
        | ind n ih =>
          rintro i τ hn hi ⟨f0, rfl⟩
          apply hB
          dsimp only [rgo, rfd, Bleave, Nat.beq, rwp, rst, lv_args, rlk, rs1, rs2, rdl, rky, rct, rcs, rcd, rno, rsw, Value.category, List.filter, List.take, List.drop, List.reverse, List.reverseAux, List.cons_append, List.nil_append, Option.toList, Int.toNat, Int.reduceToNat, if_pos, if_neg, reduceIte, ↓reduceIte, Nat.reduceAdd, Nat.reduceEqDiff, Nat.reduceBEq, beq_self_eq_true, Bool.not_true, Bool.not_false, Bool.and_true, Bool.and_false, Bool.true_and, Bool.false_and, gI_sI, gI_sL, gI_sA, gI_sM, gL_sI, gL_sL, gL_sA, gL_sM, aI_sI, aI_sL, aI_sA, aI_sM, aL_sI, aL_sL, aL_sA, aL_sM, Bleave_0, Bleave_2, Bleave_10, Bleave_20, Bleave_29, Bleave_36, Bleave_42, oi_0, oi_1]; try dsimp only
          refine ⟨rfl, fun h1 => ?_, fun h1 => ?_⟩
          · apply hB
            dsimp only [rgo, rfd, Bleave, Nat.beq, rwp, rst, lv_args, rlk, rs1, rs2, rdl, rky, rct, rcs, rcd, rno, rsw, Value.category, List.filter, List.take, List.drop, List.reverse, List.reverseAux, List.cons_append, List.nil_append, Option.toList, Int.toNat, Int.reduceToNat, if_pos, if_neg, reduceIte, ↓reduceIte, Nat.reduceAdd, Nat.reduceEqDiff, Nat.reduceBEq, beq_self_eq_true, Bool.not_true, Bool.not_false, Bool.and_true, Bool.and_false, Bool.true_and, Bool.false_and, gI_sI, gI_sL, gI_sA, gI_sM, gL_sI, gL_sL, gL_sA, gL_sM, aI_sI, aI_sL, aI_sA, aI_sM, aL_sI, aL_sL, aL_sA, aL_sM, Bleave_0, Bleave_2, Bleave_10, Bleave_20, Bleave_29, Bleave_36, Bleave_42, oi_0, oi_1]; try dsimp only
            exact ⟨rfl, _, rfl⟩
          · apply hB
            dsimp only [rgo, rfd, Bleave, Nat.beq, rwp, rst, lv_args, rlk, rs1, rs2, rdl, rky, rct, rcs, rcd, rno, rsw, Value.category, List.filter, List.take, List.drop, List.reverse, List.reverseAux, List.cons_append, List.nil_append, Option.toList, Int.toNat, Int.reduceToNat, if_pos, if_neg, reduceIte, ↓reduceIte, Nat.reduceAdd, Nat.reduceEqDiff, Nat.reduceBEq, beq_self_eq_true, Bool.not_true, Bool.not_false, Bool.and_true, Bool.and_false, Bool.true_and, Bool.false_and, gI_sI, gI_sL, gI_sA, gI_sM, gL_sI, gL_sL, gL_sA, gL_sM, aI_sI, aI_sL, aI_sA, aI_sM, aL_sI, aL_sL, aL_sA, aL_sM, Bleave_0, Bleave_2, Bleave_10, Bleave_20, Bleave_29, Bleave_36, Bleave_42, oi_0, oi_1]; try dsimp only
            refine ⟨rfl, rfl, (in_47 (by lia) (by lia)), fun h2 => ?_, fun h2 => ?_⟩
            · apply hB
              dsimp only [rgo, rfd, Bleave, Nat.beq, rwp, rst, lv_args, rlk, rs1, rs2, rdl, rky, rct, rcs, rcd, rno, rsw, Value.category, List.filter, List.take, List.drop, List.reverse, List.reverseAux, List.cons_append, List.nil_append, Option.toList, Int.toNat, Int.reduceToNat, if_pos, if_neg, reduceIte, ↓reduceIte, Nat.reduceAdd, Nat.reduceEqDiff, Nat.reduceBEq, beq_self_eq_true, Bool.not_true, Bool.not_false, Bool.and_true, Bool.and_false, Bool.true_and, Bool.false_and, gI_sI, gI_sL, gI_sA, gI_sM, gL_sI, gL_sL, gL_sA, gL_sM, aI_sI, aI_sL, aI_sA, aI_sM, aL_sI, aL_sL, aL_sA, aL_sM, Bleave_0, Bleave_2, Bleave_10, Bleave_20, Bleave_29, Bleave_36, Bleave_42, oi_0, oi_1]; try dsimp only
              refine hW 2 [(0, .ref 1000), (1, .int k), (2, .int t), (3, .int (i + 1))] _ _ _ (by simp) (ih _ ?_ _ _ rfl ?_ ?_)
              · show (60 - (i + 1).toInt).toNat < n
                exact mlt6 hn (by lia) (by lia)
              · exact ⟨by lia, by show i + 1 ≤ gI σ 42; lia⟩
              · first | exact ⟨_, rfl⟩ | exact ⟨_, sA_sA⟩
            · apply hB
              dsimp only [rgo, rfd, Bleave, Nat.beq, rwp, rst, lv_args, rlk, rs1, rs2, rdl, rky, rct, rcs, rcd, rno, rsw, Value.category, List.filter, List.take, List.drop, List.reverse, List.reverseAux, List.cons_append, List.nil_append, Option.toList, Int.toNat, Int.reduceToNat, if_pos, if_neg, reduceIte, ↓reduceIte, Nat.reduceAdd, Nat.reduceEqDiff, Nat.reduceBEq, beq_self_eq_true, Bool.not_true, Bool.not_false, Bool.and_true, Bool.and_false, Bool.true_and, Bool.false_and, gI_sI, gI_sL, gI_sA, gI_sM, gL_sI, gL_sL, gL_sA, gL_sM, aI_sI, aI_sL, aI_sA, aI_sM, aL_sI, aL_sL, aL_sA, aL_sM, Bleave_0, Bleave_2, Bleave_10, Bleave_20, Bleave_29, Bleave_36, Bleave_42, oi_0, oi_1]; try dsimp only
              refine ⟨rfl, rfl, (in_48 (by lia) (by lia)), fun h3 => ?_, fun h3 => ?_⟩
              · apply hB
                dsimp only [rgo, rfd, Bleave, Nat.beq, rwp, rst, lv_args, rlk, rs1, rs2, rdl, rky, rct, rcs, rcd, rno, rsw, Value.category, List.filter, List.take, List.drop, List.reverse, List.reverseAux, List.cons_append, List.nil_append, Option.toList, Int.toNat, Int.reduceToNat, if_pos, if_neg, reduceIte, ↓reduceIte, Nat.reduceAdd, Nat.reduceEqDiff, Nat.reduceBEq, beq_self_eq_true, Bool.not_true, Bool.not_false, Bool.and_true, Bool.and_false, Bool.true_and, Bool.false_and, gI_sI, gI_sL, gI_sA, gI_sM, gL_sI, gL_sL, gL_sA, gL_sM, aI_sI, aI_sL, aI_sA, aI_sM, aL_sI, aL_sL, aL_sA, aL_sM, Bleave_0, Bleave_2, Bleave_10, Bleave_20, Bleave_29, Bleave_36, Bleave_42, oi_0, oi_1]; try dsimp only
                refine hW 2 [(0, .ref 1000), (1, .int k), (2, .int t), (3, .int (i + 1))] _ _ _ (by simp) (ih _ ?_ _ _ rfl ?_ ?_)
                · show (60 - (i + 1).toInt).toNat < n
                  exact mlt6 hn (by lia) (by lia)
                · exact ⟨by lia, by show i + 1 ≤ gI σ 42; lia⟩
                · first | exact ⟨_, rfl⟩ | exact ⟨_, sA_sA⟩
              · apply hB
                dsimp only [rgo, rfd, Bleave, Nat.beq, rwp, rst, lv_args, rlk, rs1, rs2, rdl, rky, rct, rcs, rcd, rno, rsw, Value.category, List.filter, List.take, List.drop, List.reverse, List.reverseAux, List.cons_append, List.nil_append, Option.toList, Int.toNat, Int.reduceToNat, if_pos, if_neg, reduceIte, ↓reduceIte, Nat.reduceAdd, Nat.reduceEqDiff, Nat.reduceBEq, beq_self_eq_true, Bool.not_true, Bool.not_false, Bool.and_true, Bool.and_false, Bool.true_and, Bool.false_and, gI_sI, gI_sL, gI_sA, gI_sM, gL_sI, gL_sL, gL_sA, gL_sM, aI_sI, aI_sL, aI_sA, aI_sM, aL_sI, aL_sL, aL_sA, aL_sM, Bleave_0, Bleave_2, Bleave_10, Bleave_20, Bleave_29, Bleave_36, Bleave_42, oi_0, oi_1]; try dsimp only
                refine ⟨rfl, rfl, (in_48 (by lia) (by lia)), ?_⟩
                apply hB
                dsimp only [rgo, rfd, Bleave, Nat.beq, rwp, rst, lv_args, rlk, rs1, rs2, rdl, rky, rct, rcs, rcd, rno, rsw, Value.category, List.filter, List.take, List.drop, List.reverse, List.reverseAux, List.cons_append, List.nil_append, Option.toList, Int.toNat, Int.reduceToNat, if_pos, if_neg, reduceIte, ↓reduceIte, Nat.reduceAdd, Nat.reduceEqDiff, Nat.reduceBEq, beq_self_eq_true, Bool.not_true, Bool.not_false, Bool.and_true, Bool.and_false, Bool.true_and, Bool.false_and, gI_sI, gI_sL, gI_sA, gI_sM, gL_sI, gL_sL, gL_sA, gL_sM, aI_sI, aI_sL, aI_sA, aI_sM, aL_sI, aL_sL, aL_sA, aL_sM, Bleave_0, Bleave_2, Bleave_10, Bleave_20, Bleave_29, Bleave_36, Bleave_42, oi_0, oi_1]; try dsimp only
                refine hW 2 [(0, .ref 1000), (1, .int k), (2, .int t), (3, .int (i + 1))] _ _ _ (by simp) (ih _ ?_ _ _ rfl ?_ ?_)
                · show (60 - (i + 1).toInt).toNat < n
                  exact mlt6 hn (by lia) (by lia)
                · exact ⟨by lia, by show i + 1 ≤ gI σ 42; lia⟩
                · first | exact ⟨_, rfl⟩ | exact ⟨_, sA_sA⟩
      apply hB
      dsimp only [rgo, rfd, Bleave, Nat.beq, rwp, rst, lv_args, rlk, rs1, rs2, rdl, rky, rct, rcs, rcd, rno, rsw, Value.category, List.filter, List.take, List.drop, List.reverse, List.reverseAux, List.cons_append, List.nil_append, Option.toList, Int.toNat, Int.reduceToNat, if_pos, if_neg, reduceIte, ↓reduceIte, Nat.reduceAdd, Nat.reduceEqDiff, Nat.reduceBEq, beq_self_eq_true, Bool.not_true, Bool.not_false, Bool.and_true, Bool.and_false, Bool.true_and, Bool.false_and, gI_sI, gI_sL, gI_sA, gI_sM, gL_sI, gL_sL, gL_sA, gL_sM, aI_sI, aI_sL, aI_sA, aI_sM, aL_sI, aL_sL, aL_sA, aL_sM, Bleave_0, Bleave_2, Bleave_10, Bleave_20, Bleave_29, Bleave_36, Bleave_42, oi_0, oi_1]; try dsimp only
      refine hW 2 [(0, .ref 1000), (1, .int k), (2, .int t), (3, .int 0)] _ _ _ (by simp) (loop _ 0 σ rfl ⟨by decide, hP.1⟩ ⟨_, sA_id.symm⟩)
    next => exact hP.elim
theorem m_leave (l : Launch) : RMet l 1 42 P_leave Q_leave := by
  refine RMet.by Bleave [] roleave okBleave ct0 ?_ b_leave
  · intro As σ hP
    unfold P_leave at hP
    split at hP
    next => exact Nat.le_of_ble_eq_true rfl
    next => exact hP.elim
set_option maxRecDepth 100000 in
theorem e_leave (l : Launch) : RMetE l 1 42 P_leave Q_leave := by
  refine RMetE.by Bleave [] rfl rfl roleave okBleave ctE0 ?_ b_leave
  · intro As σ hP
    unfold P_leave at hP
    split at hP
    next => exact Nat.le_of_ble_eq_true rfl
    next => exact hP.elim
