def iFe (k : Nat) : Bool := k == 66 || k == 67 || k == 69 || k == 74
def aFe (k : Nat) : Bool := (70 ≤ k && k ≤ 73) || (75 ≤ k && k ≤ 78) || (80 ≤ k && k ≤ 84)
def lFe (k : Nat) : Bool := k == 72 || k == 79 || k == 85
def Fe (σ τ : RS) : Prop := (∀ k, iFe k = false → gI τ k = gI σ k) ∧ (∀ k, gL τ k = gL σ k) ∧ (∀ k, aFe k = false → aI τ k = aI σ k) ∧ ∀ k, lFe k = false → aL τ k = aL σ k
theorem Fe.rf {σ : RS} : Fe σ σ := ⟨fun _ _ => rfl, fun _ => rfl, fun _ _ => rfl, fun _ _ => rfl⟩
theorem Fe.tr {σ τ υ : RS} (h1 : Fe σ τ) (h2 : Fe τ υ) : Fe σ υ := ⟨fun k hk => (h2.1 k hk).trans (h1.1 k hk), fun k => (h2.2.1 k).trans (h1.2.1 k), fun k hk => (h2.2.2.1 k hk).trans (h1.2.2.1 k hk), fun k hk => (h2.2.2.2 k hk).trans (h1.2.2.2 k hk)⟩
theorem Fe.i {σ τ : RS} (h : Fe σ τ) {k : Nat} {v : Int32} (hk : iFe k = true) : Fe σ (sI τ k v) := ⟨fun j hj => by
  rw [gI_sI, nb_ne (fun q => by subst q; rw [hk] at hj; cases hj)]
  exact h.1 j hj, h.2.1, h.2.2.1, h.2.2.2⟩
theorem Fe.a {σ τ : RS} (h : Fe σ τ) {k : Nat} {f : Nat → Int32} (hk : aFe k = true) : Fe σ (sA τ k f) := ⟨h.1, h.2.1, fun j hj => by
  rw [aI_sA, nb_ne (fun q => by subst q; rw [hk] at hj; cases hj)]
  exact h.2.2.1 j hj, h.2.2.2⟩
theorem Fe.m {σ τ : RS} (h : Fe σ τ) {k : Nat} {f : Nat → Int64} (hk : lFe k = true) : Fe σ (sM τ k f) := ⟨h.1, h.2.1, h.2.2.1, fun j hj => by
  rw [aL_sM, nb_ne (fun q => by subst q; rw [hk] at hj; cases hj)]
  exact h.2.2.2 j hj⟩
def iFj (k : Nat) : Bool := k == 66 || k == 67 || k == 69 || k == 74 || k == 89 || k == 91
def aFj (k : Nat) : Bool := k == 59 || (70 ≤ k && k ≤ 73) || (75 ≤ k && k ≤ 78) || (80 ≤ k && k ≤ 84) || k == 86 || k == 88 || k == 90
def lFj (k : Nat) : Bool := k == 72 || k == 79 || k == 85 || k == 87
def Fj (σ τ : RS) : Prop := (∀ k, iFj k = false → gI τ k = gI σ k) ∧ (∀ k, gL τ k = gL σ k) ∧ (∀ k, aFj k = false → aI τ k = aI σ k) ∧ ∀ k, lFj k = false → aL τ k = aL σ k
theorem Fj.rf {σ : RS} : Fj σ σ := ⟨fun _ _ => rfl, fun _ => rfl, fun _ _ => rfl, fun _ _ => rfl⟩
theorem Fj.tr {σ τ υ : RS} (h1 : Fj σ τ) (h2 : Fj τ υ) : Fj σ υ := ⟨fun k hk => (h2.1 k hk).trans (h1.1 k hk), fun k => (h2.2.1 k).trans (h1.2.1 k), fun k hk => (h2.2.2.1 k hk).trans (h1.2.2.1 k hk), fun k hk => (h2.2.2.2 k hk).trans (h1.2.2.2 k hk)⟩
theorem Fj.i {σ τ : RS} (h : Fj σ τ) {k : Nat} {v : Int32} (hk : iFj k = true) : Fj σ (sI τ k v) := ⟨fun j hj => by
  rw [gI_sI, nb_ne (fun q => by subst q; rw [hk] at hj; cases hj)]
  exact h.1 j hj, h.2.1, h.2.2.1, h.2.2.2⟩
theorem Fj.a {σ τ : RS} (h : Fj σ τ) {k : Nat} {f : Nat → Int32} (hk : aFj k = true) : Fj σ (sA τ k f) := ⟨h.1, h.2.1, fun j hj => by
  rw [aI_sA, nb_ne (fun q => by subst q; rw [hk] at hj; cases hj)]
  exact h.2.2.1 j hj, h.2.2.2⟩
theorem Fj.m {σ τ : RS} (h : Fj σ τ) {k : Nat} {f : Nat → Int64} (hk : lFj k = true) : Fj σ (sM τ k f) := ⟨h.1, h.2.1, h.2.2.1, fun j hj => by
  rw [aL_sM, nb_ne (fun q => by subst q; rw [hk] at hj; cases hj)]
  exact h.2.2.2 j hj⟩
theorem Fe.j {σ τ : RS} (h : Fe σ τ) : Fj σ τ := by
  refine ⟨fun k hk => h.1 k ?_, h.2.1, fun k hk => h.2.2.1 k ?_, fun k hk => h.2.2.2 k ?_⟩
  · unfold iFj at hk
    unfold iFe
    simp only [Bool.or_eq_false_iff, beq_eq_false_iff_ne] at hk ⊢
    omega
  · unfold aFj at hk
    unfold aFe
    simp only [Bool.or_eq_false_iff, Bool.and_eq_false_imp, decide_eq_true_eq, decide_eq_false_iff_not, beq_eq_false_iff_ne] at hk ⊢
    omega
  · unfold lFj at hk
    unfold lFe
    simp only [Bool.or_eq_false_iff, beq_eq_false_iff_ne] at hk ⊢
    omega
/-- one value more on the judge's pile, of the code c -/
def ly (σ : RS) (c ty su : Int32) (v : Int64) : RS := sI (sM (sA (sA (sA (sA (sM (sA (sA (sI (sA (sM (sA (sA (σ) 70 (upd (aI σ 70) (gI σ 69).toNatClampNeg ty)) 71 (upd (aI σ 71) (gI σ 69).toNatClampNeg su)) 72 (vp_updL (aL σ 72) (gI σ 69).toNatClampNeg v)) 73 (upd (aI σ 73) (gI σ 69).toNatClampNeg (aI σ 23 c.toNatClampNeg))) 69 (gI σ 69 + 1)) 81 (upd (aI σ 81) c.toNatClampNeg ty)) 84 (upd (aI σ 84) c.toNatClampNeg su)) 85 (vp_updL (aL σ 85) c.toNatClampNeg v)) 75 (upd (aI σ 75) (gI σ 74).toNatClampNeg (aI σ 23 c.toNatClampNeg))) 76 (upd (aI σ 76) (gI σ 74).toNatClampNeg (aI σ 24 c.toNatClampNeg))) 77 (upd (aI σ 77) (gI σ 74).toNatClampNeg ty)) 78 (upd (aI σ 78) (gI σ 74).toNatClampNeg su)) 79 (vp_updL (aL σ 79) (gI σ 74).toNatClampNeg v)) 74 (gI σ 74 + 1)
theorem gI_ly {σ : RS} {c ty su : Int32} {v : Int64} {k : Nat} : gI (ly σ c ty su v) k = match Nat.beq k 74 with
  | true => gI σ 74 + 1
  | false => match Nat.beq k 69 with
    | true => gI σ 69 + 1
    | false => gI σ k := rfl
theorem ly70 {σ : RS} {c ty su : Int32} {v : Int64} : aI (ly σ c ty su v) 70 = upd (aI σ 70) (nT (gI σ 69)) ty := rfl
theorem ly71 {σ : RS} {c ty su : Int32} {v : Int64} : aI (ly σ c ty su v) 71 = upd (aI σ 71) (nT (gI σ 69)) su := rfl
theorem ly73 {σ : RS} {c ty su : Int32} {v : Int64} : aI (ly σ c ty su v) 73 = upd (aI σ 73) (nT (gI σ 69)) (aI σ 23 (nT c)) := rfl
theorem ly81 {σ : RS} {c ty su : Int32} {v : Int64} : aI (ly σ c ty su v) 81 = upd (aI σ 81) (nT c) ty := rfl
theorem ly80 {σ : RS} {c ty su : Int32} {v : Int64} : aI (ly σ c ty su v) 80 = aI σ 80 := rfl
theorem ly82 {σ : RS} {c ty su : Int32} {v : Int64} : aI (ly σ c ty su v) 82 = aI σ 82 := rfl
theorem ly83 {σ : RS} {c ty su : Int32} {v : Int64} : aI (ly σ c ty su v) 83 = aI σ 83 := rfl
theorem Fe.lyf {σ : RS} {c ty su : Int32} {v : Int64} : Fe σ (ly σ c ty su v) := by
  unfold ly
  repeat (first | exact Fe.rf | refine Fe.a ?_ rfl | refine Fe.i ?_ rfl | refine Fe.m ?_ rfl)
def P_lie : RP := fun As σ => match As with
  | [.int c, .int ty, .int su, .long v] => (0 ≤ (gI σ 69) ∧ (gI σ 69) < 700) ∧ (0 ≤ (gI σ 74) ∧ (gI σ 74) < 2000) ∧ (0 ≤ c ∧ c < 4000) ∧ (su = 0 ∨ su = 1)
  | _ => False
def Q_lie : RQ := fun As σ w τ => match As with
  | [.int c, .int ty, .int su, .long v] => w = none ∧ τ = ly σ c ty su v
  | _ => False
set_option maxRecDepth 100000 in
set_option maxHeartbeats 4000000 in
theorem b_lie : Bod Blie [] P_lie Q_lie := by
  · intro As σ hP G hB hW
    unfold P_lie at hP
    split at hP
    next c ty su v => 
      unfold Q_lie at hB
      dsimp only at hB
      apply hB
      dsimp only [rgo, rfd, Blie, Nat.beq, rwp, rst, lv_args, rlk, rs1, rs2, rdl, rky, rct, rcs, rcd, rno, rsw, Value.category, List.filter, List.take, List.drop, List.reverse, List.reverseAux, List.cons_append, List.nil_append, Option.toList, Int.toNat, Int.reduceToNat, if_pos, if_neg, reduceIte, ↓reduceIte, Nat.reduceAdd, Nat.reduceEqDiff, Nat.reduceBEq, beq_self_eq_true, Bool.not_true, Bool.not_false, Bool.and_true, Bool.and_false, Bool.true_and, Bool.false_and, gI_sI, gI_sL, gI_sA, gI_sM, gL_sI, gL_sL, gL_sA, gL_sM, aI_sI, aI_sL, aI_sA, aI_sM, aL_sI, aL_sL, aL_sA, aL_sM, Blie_0, oi_1]; try dsimp only
      refine ⟨rfl, rfl, rfl, (in_70 (by lia) (by lia)), rfl, rfl, rfl, (in_71 (by lia) (by lia)), (by lia), rfl, rfl, rfl, (in_72 (by lia) (by lia)), rfl, rfl, rfl, rfl, (in_23 (by lia) (by lia)), rfl, (in_73 (by lia) (by lia)), rfl, rfl, rfl, rfl, (in_81 (by lia) (by lia)), rfl, rfl, (in_84 (by lia) (by lia)), (by lia), rfl, rfl, (in_85 (by lia) (by lia)), rfl, rfl, rfl, rfl, (in_23 (by lia) (by lia)), rfl, (in_75 (by lia) (by lia)), rfl, rfl, rfl, rfl, (in_24 (by lia) (by lia)), rfl, (in_76 (by lia) (by lia)), rfl, rfl, rfl, (in_77 (by lia) (by lia)), rfl, rfl, rfl, (in_78 (by lia) (by lia)), (by lia), rfl, rfl, rfl, (in_79 (by lia) (by lia)), rfl, rfl, ?_⟩
      exact ⟨rfl, rfl⟩
    next => exact hP.elim
theorem m_lie (l : Launch) : RMet l 1 77 P_lie Q_lie := by
  refine RMet.by Blie [] rolie okBlie ct0 ?_ b_lie
  · intro As σ hP
    unfold P_lie at hP
    split at hP
    next => exact Nat.le_of_ble_eq_true rfl
    next => exact hP.elim
set_option maxRecDepth 100000 in
theorem e_lie (l : Launch) : RMetE l 1 77 P_lie Q_lie := by
  refine RMetE.by Blie [] rfl rfl rolie okBlie ctE0 ?_ b_lie
  · intro As σ hP
    unfold P_lie at hP
    split at hP
    next => exact Nat.le_of_ble_eq_true rfl
    next => exact hP.elim
def P_none : RP := fun As σ => match As with
  | [.int c] => (0 ≤ (gI σ 69) ∧ (gI σ 69) < 700) ∧ (0 ≤ (gI σ 74) ∧ (gI σ 74) < 2000) ∧ (0 ≤ c ∧ c < 4000)
  | _ => False
def Q_none : RQ := fun As σ w τ => match As with
  | [.int c] => w = none ∧ τ = ly σ c (-2) 0 0
  | _ => False
set_option maxRecDepth 100000 in
set_option maxHeartbeats 4000000 in
theorem b_none : Bod Bnone [(77, P_lie, Q_lie)] P_none Q_none := by
  · intro As σ hP G hB hW
    unfold P_none at hP
    split at hP
    next c => 
      unfold Q_none at hB
      dsimp only at hB
      apply hB
      dsimp only [rgo, rfd, Bnone, Nat.beq, rwp, rst, lv_args, rlk, rs1, rs2, rdl, rky, rct, rcs, rcd, rno, rsw, Value.category, List.filter, List.take, List.drop, List.reverse, List.reverseAux, List.cons_append, List.nil_append, Option.toList, Int.toNat, Int.reduceToNat, if_pos, if_neg, reduceIte, ↓reduceIte, Nat.reduceAdd, Nat.reduceEqDiff, Nat.reduceBEq, beq_self_eq_true, Bool.not_true, Bool.not_false, Bool.and_true, Bool.and_false, Bool.true_and, Bool.false_and, gI_sI, gI_sL, gI_sA, gI_sM, gL_sI, gL_sL, gL_sA, gL_sM, aI_sI, aI_sL, aI_sA, aI_sM, aL_sI, aL_sL, aL_sA, aL_sM, Bnone_0, oi_0, oi_m2, P_lie]; try dsimp only
      refine ⟨rfl, (by decide), (⟨by lia, by lia, by lia, by decide⟩), fun w1 τ1 hq1 => ?_⟩
      obtain ⟨rfl, rfl⟩ := hq1
      dsimp only [Option.toList, List.cons_append, List.nil_append, Nat.beq, gI_sI, gI_sL, gI_sA, gI_sM, gL_sI, gL_sL, gL_sA, gL_sM, aI_sI, aI_sL, aI_sA, aI_sM, aL_sI, aL_sL, aL_sA, aL_sM]
      exact ⟨rfl, rfl⟩
    next => exact hP.elim
theorem m_none (l : Launch) : RMet l 2 78 P_none Q_none := by
  refine RMet.by Bnone [(77, P_lie, Q_lie)] ronone okBnone (ctc (m_lie l) (by decide) ct0) ?_ b_none
  · intro As σ hP
    unfold P_none at hP
    split at hP
    next => exact Nat.le_of_ble_eq_true rfl
    next => exact hP.elim
set_option maxRecDepth 100000 in
theorem e_none (l : Launch) : RMetE l 2 78 P_none Q_none := by
  refine RMetE.by Bnone [(77, P_lie, Q_lie)] rfl rfl ronone okBnone (ctEc (e_lie l) (by decide) ctE0) ?_ b_none
  · intro As σ hP
    unfold P_none at hP
    split at hP
    next => exact Nat.le_of_ble_eq_true rfl
    next => exact hP.elim
