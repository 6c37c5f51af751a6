/-! frames: what the reading of an exp may change -/
def xI (k : Nat) : Bool := (14 ≤ k && k ≤ 18) || k == 29 || (31 ≤ k && k ≤ 35)
def xA (k : Nat) : Bool := (19 ≤ k && k ≤ 28) || k == 30
def Fx (σ τ : RS) : Prop := (∀ k, xI k = false → gI τ k = gI σ k) ∧ (∀ k, gL τ k = gL σ k) ∧ (∀ k, xA k = false → aI τ k = aI σ k) ∧ ∀ k, aL τ k = aL σ k
theorem Fx.rf {σ : RS} : Fx σ σ := ⟨fun _ _ => rfl, fun _ => rfl, fun _ _ => rfl, fun _ => rfl⟩
theorem Fx.tr {σ τ υ : RS} (h1 : Fx σ τ) (h2 : Fx τ υ) : Fx σ υ := ⟨fun k hk => (h2.1 k hk).trans (h1.1 k hk), fun k => (h2.2.1 k).trans (h1.2.1 k), fun k hk => (h2.2.2.1 k hk).trans (h1.2.2.1 k hk), fun k => (h2.2.2.2 k).trans (h1.2.2.2 k)⟩
theorem Fx.i {σ τ : RS} (h : Fx σ τ) {k : Nat} {v : Int32} (hk : xI k = true) : Fx σ (sI τ k v) := ⟨fun j hj => by
  rw [gI_sI, nb_ne (fun q => by subst q; rw [hk] at hj; cases hj)]
  exact h.1 j hj, h.2.1, h.2.2.1, h.2.2.2⟩
theorem Fx.a {σ τ : RS} (h : Fx σ τ) {k : Nat} {f : Nat → Int32} (hk : xA k = true) : Fx σ (sA τ k f) := ⟨h.1, h.2.1, fun j hj => by
  rw [aI_sA, nb_ne (fun q => by subst q; rw [hk] at hj; cases hj)]
  exact h.2.2.1 j hj, h.2.2.2⟩
/-- emit, push, whole -/
def em (σ : RS) (o a t : Int32) : RS := sA (sA (sA (sA (sA (sA (sI σ 18 (gI σ 18 + 1)) 19 (upd (aI σ 19) (gI σ 18).toNatClampNeg o)) 20 (upd (aI σ 20) (gI σ 18).toNatClampNeg a)) 21 (upd (aI σ 21) (gI σ 18).toNatClampNeg 0)) 22 (upd (aI σ 22) (gI σ 18).toNatClampNeg t)) 23 (upd (aI σ 23) (gI σ 18).toNatClampNeg t)) 24 (upd (aI σ 24) (gI σ 18).toNatClampNeg t)
def pu (σ : RS) (s g t : Int32) : RS := sI (sA (sA (sA (sA σ 25 (upd (aI σ 25) (gI σ 29).toNatClampNeg s)) 26 (upd (aI σ 26) (gI σ 29).toNatClampNeg g)) 27 (upd (aI σ 27) (gI σ 29).toNatClampNeg t)) 28 (upd (aI σ 28) (gI σ 29).toNatClampNeg 0)) 29 (gI σ 29 + 1)
def wh (σ : RS) (t : Int32) : RS := sI (sA σ 30 (upd (aI σ 30) (gI σ 31).toNatClampNeg t)) 31 (gI σ 31 + 1)
theorem upd_upd {f : Nat → Int32} {k : Nat} {x y : Int32} : upd (upd f k x) k y = upd f k y := funext fun j => by by_cases h : j = k <;> simp [upd, h]
def emx (σ : RS) (o a t f l : Int32) : RS := sA (sA (em σ o a t) 23 (upd (aI σ 23) (gI σ 18).toNatClampNeg f)) 24 (upd (aI σ 24) (gI σ 18).toNatClampNeg l)
theorem emx_eq {σ : RS} {o a t f l : Int32} : sA (sA (em σ o a t) 23 (upd (aI (em σ o a t) 23) (gI σ 18).toNatClampNeg f)) 24 (upd (aI (em σ o a t) 24) (gI σ 18).toNatClampNeg l) = emx σ o a t f l := by
  show sA (sA (em σ o a t) 23 (upd (upd (aI σ 23) (gI σ 18).toNatClampNeg t) (gI σ 18).toNatClampNeg f)) 24 (upd (upd (aI σ 24) (gI σ 18).toNatClampNeg t) (gI σ 18).toNatClampNeg l) = _
  rw [upd_upd, upd_upd]
  rfl
theorem gI_em {σ : RS} {o a t : Int32} {k : Nat} : gI (em σ o a t) k = match Nat.beq k 18 with
  | true => gI σ 18 + 1
  | false => gI σ k := rfl
theorem gI_emx {σ : RS} {o a t f l : Int32} {k : Nat} : gI (emx σ o a t f l) k = match Nat.beq k 18 with
  | true => gI σ 18 + 1
  | false => gI σ k := rfl
theorem gI_pu {σ : RS} {s g t : Int32} {k : Nat} : gI (pu σ s g t) k = match Nat.beq k 29 with
  | true => gI σ 29 + 1
  | false => gI σ k := rfl
theorem gI_wh {σ : RS} {t : Int32} {k : Nat} : gI (wh σ t) k = match Nat.beq k 31 with
  | true => gI σ 31 + 1
  | false => gI σ k := rfl
def P_want : RP := fun As σ => match As with
  | [.int s] => 0 ≤ (gI σ 14) ∧ (gI σ 14) ≤ 500
  | _ => False
def Q_want : RQ := fun As σ w τ => match As with
  | [.int s] => ∃ r : Int32, w = some (.int r) ∧ ((r = 1 ∧ (gI σ 14) < 500 ∧ aI σ 6 ((gI σ 14)).toNatClampNeg = s ∧ τ = sI σ 14 ((gI σ 14) + 1)) ∨ (r = 0 ∧ ∃ a b : Int32, τ = sI (sI σ 15 a) 16 b))
  | _ => False
set_option maxRecDepth 100000 in
set_option maxHeartbeats 4000000 in
theorem b_want : Bod Bwant [(13, P_cant, Q_cant), (14, P_isSign, Q_isSign), (17, P_take, Q_take)] P_want Q_want := by
  · intro As σ hP G hB hW
    unfold P_want at hP
    split at hP
    next s => 
      unfold Q_want at hB
      dsimp only at hB
      have nn := hP
      apply hB
      dsimp only [rgo, rfd, Bwant, Nat.beq, rwp, rst, lv_args, rlk, rs1, rs2, rdl, rky, rct, rcs, rcd, rno, rsw, Value.category, List.filter, List.take, List.drop, List.reverse, List.reverseAux, List.cons_append, List.nil_append, Option.toList, Int.toNat, Int.reduceToNat, if_pos, if_neg, reduceIte, ↓reduceIte, Nat.reduceAdd, Nat.reduceEqDiff, Nat.reduceBEq, beq_self_eq_true, Bool.not_true, Bool.not_false, Bool.and_true, Bool.and_false, Bool.true_and, Bool.false_and, gI_sI, gI_sL, gI_sA, gI_sM, gL_sI, gL_sL, gL_sA, gL_sM, aI_sI, aI_sL, aI_sA, aI_sM, aL_sI, aL_sL, aL_sA, aL_sM, Bwant_0, Bwant_8, Bwant_15, Bwant_19, P_cant, P_isSign, P_take]; try dsimp only
      refine ⟨rfl, (by decide), (⟨by lia, by lia⟩), fun w1 τ1 hq1 => ?_⟩
      obtain ⟨r1, rfl, hr1, e1⟩ := hq1
      obtain rfl := e1.symm
      rcases hr1 with rfl | ⟨rfl, hw1⟩
      · dsimp only [Option.toList, List.cons_append, List.nil_append, Nat.beq, gI_sI, gI_sL, gI_sA, gI_sM, gL_sI, gL_sL, gL_sA, gL_sM, aI_sI, aI_sL, aI_sA, aI_sM, aL_sI, aL_sL, aL_sA, aL_sM]
        refine ⟨fun h2 => ?_, fun h2 => absurd h2 (by decide)⟩
        clear h2
        apply hB
        dsimp only [rgo, rfd, Bwant, Nat.beq, rwp, rst, lv_args, rlk, rs1, rs2, rdl, rky, rct, rcs, rcd, rno, rsw, Value.category, List.filter, List.take, List.drop, List.reverse, List.reverseAux, List.cons_append, List.nil_append, Option.toList, Int.toNat, Int.reduceToNat, if_pos, if_neg, reduceIte, ↓reduceIte, Nat.reduceAdd, Nat.reduceEqDiff, Nat.reduceBEq, beq_self_eq_true, Bool.not_true, Bool.not_false, Bool.and_true, Bool.and_false, Bool.true_and, Bool.false_and, gI_sI, gI_sL, gI_sA, gI_sM, gL_sI, gL_sL, gL_sA, gL_sM, aI_sI, aI_sL, aI_sA, aI_sM, aL_sI, aL_sL, aL_sA, aL_sM, Bwant_0, Bwant_8, Bwant_15, Bwant_19, P_cant, P_isSign, P_take]; try dsimp only
        refine ⟨rfl, (by decide), (⟨by lia, by lia⟩), fun w3 τ3 hq3 => ?_⟩
        obtain ⟨r3, rfl, rfl, fa3, fb3, rfl⟩ := hq3
        dsimp only [Option.toList, List.cons_append, List.nil_append, Nat.beq, gI_sI, gI_sL, gI_sA, gI_sM, gL_sI, gL_sL, gL_sA, gL_sM, aI_sI, aI_sL, aI_sA, aI_sM, aL_sI, aL_sL, aL_sA, aL_sM]
        apply hB
        dsimp only [rgo, rfd, Bwant, Nat.beq, rwp, rst, lv_args, rlk, rs1, rs2, rdl, rky, rct, rcs, rcd, rno, rsw, Value.category, List.filter, List.take, List.drop, List.reverse, List.reverseAux, List.cons_append, List.nil_append, Option.toList, Int.toNat, Int.reduceToNat, if_pos, if_neg, reduceIte, ↓reduceIte, Nat.reduceAdd, Nat.reduceEqDiff, Nat.reduceBEq, beq_self_eq_true, Bool.not_true, Bool.not_false, Bool.and_true, Bool.and_false, Bool.true_and, Bool.false_and, gI_sI, gI_sL, gI_sA, gI_sM, gL_sI, gL_sL, gL_sA, gL_sM, aI_sI, aI_sL, aI_sA, aI_sM, aL_sI, aL_sL, aL_sA, aL_sM, Bwant_0, Bwant_8, Bwant_15, Bwant_19, P_cant, P_isSign, P_take]; try dsimp only
        refine ⟨Or.inl rfl, ?_⟩
        exact ⟨_, rfl, Or.inr ⟨rfl, _, _, rfl⟩⟩
      · dsimp only [Option.toList, List.cons_append, List.nil_append, Nat.beq, gI_sI, gI_sL, gI_sA, gI_sM, gL_sI, gL_sL, gL_sA, gL_sM, aI_sI, aI_sL, aI_sA, aI_sM, aL_sI, aL_sL, aL_sA, aL_sM]
        refine ⟨fun h4 => absurd h4 (by decide), fun h4 => ?_⟩
        clear h4
        apply hB
        dsimp only [rgo, rfd, Bwant, Nat.beq, rwp, rst, lv_args, rlk, rs1, rs2, rdl, rky, rct, rcs, rcd, rno, rsw, Value.category, List.filter, List.take, List.drop, List.reverse, List.reverseAux, List.cons_append, List.nil_append, Option.toList, Int.toNat, Int.reduceToNat, if_pos, if_neg, reduceIte, ↓reduceIte, Nat.reduceAdd, Nat.reduceEqDiff, Nat.reduceBEq, beq_self_eq_true, Bool.not_true, Bool.not_false, Bool.and_true, Bool.and_false, Bool.true_and, Bool.false_and, gI_sI, gI_sL, gI_sA, gI_sM, gL_sI, gL_sL, gL_sA, gL_sM, aI_sI, aI_sL, aI_sA, aI_sM, aL_sI, aL_sL, aL_sA, aL_sM, Bwant_0, Bwant_8, Bwant_15, Bwant_19, P_cant, P_isSign, P_take]; try dsimp only
        refine ⟨rfl, (by decide), (⟨by lia, by lia⟩), fun w5 τ5 hq5 => ?_⟩
        obtain ⟨r5, rfl, hq5⟩ := hq5
        rcases hq5 with ⟨rfl, hp5, rfl⟩ | ⟨rfl, fa5, fb5, rfl⟩
        · dsimp only [Option.toList, List.cons_append, List.nil_append, Nat.beq, gI_sI, gI_sL, gI_sA, gI_sM, gL_sI, gL_sL, gL_sA, gL_sM, aI_sI, aI_sL, aI_sA, aI_sM, aL_sI, aL_sL, aL_sA, aL_sM]
          try dsimp only [Option.toList, List.cons_append, List.nil_append, Nat.beq, gI_sI, gI_sL, gI_sA, gI_sM, gL_sI, gL_sL, gL_sA, gL_sM, aI_sI, aI_sL, aI_sA, aI_sM, aL_sI, aL_sL, aL_sA, aL_sM] at hp5
          apply hB
          dsimp only [rgo, rfd, Bwant, Nat.beq, rwp, rst, lv_args, rlk, rs1, rs2, rdl, rky, rct, rcs, rcd, rno, rsw, Value.category, List.filter, List.take, List.drop, List.reverse, List.reverseAux, List.cons_append, List.nil_append, Option.toList, Int.toNat, Int.reduceToNat, if_pos, if_neg, reduceIte, ↓reduceIte, Nat.reduceAdd, Nat.reduceEqDiff, Nat.reduceBEq, beq_self_eq_true, Bool.not_true, Bool.not_false, Bool.and_true, Bool.and_false, Bool.true_and, Bool.false_and, gI_sI, gI_sL, gI_sA, gI_sM, gL_sI, gL_sL, gL_sA, gL_sM, aI_sI, aI_sL, aI_sA, aI_sM, aL_sI, aL_sL, aL_sA, aL_sM, Bwant_0, Bwant_8, Bwant_15, Bwant_19, P_cant, P_isSign, P_take]; try dsimp only
          refine ⟨Or.inr rfl, ?_⟩
          exact ⟨_, rfl, Or.inl ⟨rfl, by assumption, by assumption, rfl⟩⟩
        · dsimp only [Option.toList, List.cons_append, List.nil_append, Nat.beq, gI_sI, gI_sL, gI_sA, gI_sM, gL_sI, gL_sL, gL_sA, gL_sM, aI_sI, aI_sL, aI_sA, aI_sM, aL_sI, aL_sL, aL_sA, aL_sM]
          apply hB
          dsimp only [rgo, rfd, Bwant, Nat.beq, rwp, rst, lv_args, rlk, rs1, rs2, rdl, rky, rct, rcs, rcd, rno, rsw, Value.category, List.filter, List.take, List.drop, List.reverse, List.reverseAux, List.cons_append, List.nil_append, Option.toList, Int.toNat, Int.reduceToNat, if_pos, if_neg, reduceIte, ↓reduceIte, Nat.reduceAdd, Nat.reduceEqDiff, Nat.reduceBEq, beq_self_eq_true, Bool.not_true, Bool.not_false, Bool.and_true, Bool.and_false, Bool.true_and, Bool.false_and, gI_sI, gI_sL, gI_sA, gI_sM, gL_sI, gL_sL, gL_sA, gL_sM, aI_sI, aI_sL, aI_sA, aI_sM, aL_sI, aL_sL, aL_sA, aL_sM, Bwant_0, Bwant_8, Bwant_15, Bwant_19, P_cant, P_isSign, P_take]; try dsimp only
          refine ⟨Or.inl rfl, ?_⟩
          exact ⟨_, rfl, Or.inr ⟨rfl, _, _, rfl⟩⟩
    next => exact hP.elim
theorem m_want (l : Launch) : RMet l 3 18 P_want Q_want := by
  refine RMet.by Bwant [(13, P_cant, Q_cant), (14, P_isSign, Q_isSign), (17, P_take, Q_take)] rowant okBwant (ctc (m_cant l) (by decide) (ctc (m_isSign l) (by decide) (ctc (m_take l) (by decide) ct0))) ?_ b_want
  · intro As σ hP
    unfold P_want at hP
    split at hP
    next => exact Nat.le_of_ble_eq_true rfl
    next => exact hP.elim
set_option maxRecDepth 100000 in
theorem e_want (l : Launch) : RMetE l 3 18 P_want Q_want := by
  refine RMetE.by Bwant [(13, P_cant, Q_cant), (14, P_isSign, Q_isSign), (17, P_take, Q_take)] rfl rfl rowant okBwant (ctEc (e_cant l) (by decide) (ctEc (e_isSign l) (by decide) (ctEc (e_take l) (by decide) ctE0))) ?_ b_want
  · intro As σ hP
    unfold P_want at hP
    split at hP
    next => exact Nat.le_of_ble_eq_true rfl
    next => exact hP.elim
def P_enter : RP := fun As σ => match As with
  | [] => 0 ≤ (gI σ 14) ∧ (gI σ 14) ≤ 500 ∧ 0 ≤ (gI σ 17) ∧ (gI σ 17) ≤ 100
  | _ => False
def Q_enter : RQ := fun As σ w τ => match As with
  | [] => ∃ r : Int32, w = some (.int r) ∧ ((r = 1 ∧ (gI σ 17) < 20 ∧ τ = sI σ 17 ((gI σ 17) + 1)) ∨ (r = 0 ∧ ∃ a b c : Int32, τ = sI (sI (sI σ 17 a) 15 b) 16 c))
  | _ => False
set_option maxRecDepth 100000 in
set_option maxHeartbeats 4000000 in
theorem b_enter : Bod Benter [(12, P_wrong, Q_wrong)] P_enter Q_enter := by
  · intro As σ hP G hB hW
    unfold P_enter at hP
    split at hP
    next => 
      unfold Q_enter at hB
      dsimp only at hB
      repeat' first
        | apply And.intro
        | refine in_3 ?_ ?_
        | (rintro w τ ⟨r, rfl, hq, rfl⟩; dsimp only [Option.toList, List.cons_append, List.nil_append])
        | (rintro w τ ⟨rfl, rfl⟩; dsimp only [Option.toList, List.cons_append, List.nil_append])
        | (rintro w τ ⟨r, rfl, hq⟩; dsimp only [Option.toList, List.cons_append, List.nil_append])
        | (rintro w τ ⟨rfl, hq⟩; dsimp only [Option.toList, List.nil_append])
        | intro _
        | rfl
        | trivial
        | (apply hB; dsimp only [rgo, rfd, Benter, Nat.beq, rwp, rst, lv_args, rlk, rs1, rs2, rdl, rky, rct, rcs, rcd, rno, rsw, Value.category, List.filter, List.take, List.drop, List.reverse, List.reverseAux, List.cons_append, List.nil_append, Option.toList, Int.toNat, Int.reduceToNat, if_pos, if_neg, reduceIte, ↓reduceIte, Nat.reduceAdd, Nat.reduceEqDiff, Nat.reduceBEq, beq_self_eq_true, Bool.not_true, Bool.not_false, Bool.and_true, Bool.and_false, Bool.true_and, Bool.false_and, gI_sI, gI_sL, gI_sA, gI_sM, gL_sI, gL_sL, gL_sA, gL_sM, aI_sI, aI_sL, aI_sA, aI_sM, aL_sI, aL_sL, aL_sA, aL_sM, Benter_0, Benter_19, Benter_34, Benter_38, Benter_39, Benter_47, oi_1, oi_20, oi_3, oi_6, P_wrong]; try dsimp only)
        | exact Or.inl rfl
        | exact Or.inr rfl
        | decide
        | (first | lia | exact ⟨_, rfl, Or.inl ⟨rfl, by lia, rfl⟩⟩ | exact ⟨_, rfl, Or.inr ⟨hq.1, _, hq.2⟩⟩)
    next => exact hP.elim
theorem m_enter (l : Launch) : RMet l 2 19 P_enter Q_enter := by
  refine RMet.by Benter [(12, P_wrong, Q_wrong)] roenter okBenter (ctc (m_wrong l) (by decide) ct0) ?_ b_enter
  · intro As σ hP
    unfold P_enter at hP
    split at hP
    next => exact Nat.le_of_ble_eq_true rfl
    next => exact hP.elim
set_option maxRecDepth 100000 in
theorem e_enter (l : Launch) : RMetE l 2 19 P_enter Q_enter := by
  refine RMetE.by Benter [(12, P_wrong, Q_wrong)] rfl rfl roenter okBenter (ctEc (e_wrong l) (by decide) ctE0) ?_ b_enter
  · intro As σ hP
    unfold P_enter at hP
    split at hP
    next => exact Nat.le_of_ble_eq_true rfl
    next => exact hP.elim
def P_emit : RP := fun As σ => match As with
  | [.int o, .int a, .int t] => 0 ≤ (gI σ 18) ∧ (gI σ 18) < 4000
  | _ => False
def Q_emit : RQ := fun As σ w τ => match As with
  | [.int o, .int a, .int t] => w = some (.int (gI σ 18)) ∧ τ = em σ o a t
  | _ => False
set_option maxRecDepth 100000 in
set_option maxHeartbeats 4000000 in
theorem b_emit : Bod Bemit [] P_emit Q_emit := by
  · intro As σ hP G hB hW
    unfold P_emit at hP
    split at hP
    next o a t => 
      unfold Q_emit at hB
      dsimp only at hB
      repeat' first
        | apply And.intro
        | refine in_19 ?_ ?_
        | refine in_20 ?_ ?_
        | refine in_21 ?_ ?_
        | refine in_22 ?_ ?_
        | refine in_23 ?_ ?_
        | refine in_24 ?_ ?_
        | (rintro w τ ⟨r, rfl, hq, rfl⟩; dsimp only [Option.toList, List.cons_append, List.nil_append])
        | (rintro w τ ⟨rfl, rfl⟩; dsimp only [Option.toList, List.cons_append, List.nil_append])
        | (rintro w τ ⟨r, rfl, hq⟩; dsimp only [Option.toList, List.cons_append, List.nil_append])
        | (rintro w τ ⟨rfl, hq⟩; dsimp only [Option.toList, List.nil_append])
        | intro _
        | rfl
        | trivial
        | (apply hB; dsimp only [rgo, rfd, Bemit, Nat.beq, rwp, rst, lv_args, rlk, rs1, rs2, rdl, rky, rct, rcs, rcd, rno, rsw, Value.category, List.filter, List.take, List.drop, List.reverse, List.reverseAux, List.cons_append, List.nil_append, Option.toList, Int.toNat, Int.reduceToNat, if_pos, if_neg, reduceIte, ↓reduceIte, Nat.reduceAdd, Nat.reduceEqDiff, Nat.reduceBEq, beq_self_eq_true, Bool.not_true, Bool.not_false, Bool.and_true, Bool.and_false, Bool.true_and, Bool.false_and, gI_sI, gI_sL, gI_sA, gI_sM, gL_sI, gL_sL, gL_sA, gL_sM, aI_sI, aI_sL, aI_sA, aI_sM, aL_sI, aL_sL, aL_sA, aL_sM, Bemit_0, oi_0, oi_1]; try dsimp only)
        | exact Or.inl rfl
        | exact Or.inr rfl
        | decide
        | (first | lia | exact ⟨rfl, rfl⟩)
    next => exact hP.elim
theorem m_emit (l : Launch) : RMet l 1 20 P_emit Q_emit := by
  refine RMet.by Bemit [] roemit okBemit ct0 ?_ b_emit
  · intro As σ hP
    unfold P_emit at hP
    split at hP
    next => exact Nat.le_of_ble_eq_true rfl
    next => exact hP.elim
set_option maxRecDepth 100000 in
theorem e_emit (l : Launch) : RMetE l 1 20 P_emit Q_emit := by
  refine RMetE.by Bemit [] rfl rfl roemit okBemit ctE0 ?_ b_emit
  · intro As σ hP
    unfold P_emit at hP
    split at hP
    next => exact Nat.le_of_ble_eq_true rfl
    next => exact hP.elim
def P_emitExp : RP := fun As σ => match As with
  | [.int o, .int a, .int t, .int f, .int m] => 0 ≤ (gI σ 18) ∧ (gI σ 18) < 4000
  | _ => False
def Q_emitExp : RQ := fun As σ w τ => match As with
  | [.int o, .int a, .int t, .int f, .int m] => w = some (.int (gI σ 18)) ∧ τ = emx σ o a t f m
  | _ => False
set_option maxRecDepth 100000 in
set_option maxHeartbeats 4000000 in
theorem b_emitExp : Bod BemitExp [(20, P_emit, Q_emit)] P_emitExp Q_emitExp := by
  · intro As σ hP G hB hW
    unfold P_emitExp at hP
    split at hP
    next o a t f m => 
      unfold Q_emitExp at hB
      dsimp only at hB
      repeat' first
        | apply And.intro
        | refine in_23 ?_ ?_
        | refine in_24 ?_ ?_
        | (rintro w τ ⟨r, rfl, hq, rfl⟩; dsimp only [Option.toList, List.cons_append, List.nil_append])
        | (rintro w τ ⟨rfl, rfl⟩; dsimp only [Option.toList, List.cons_append, List.nil_append])
        | (rintro w τ ⟨r, rfl, hq⟩; dsimp only [Option.toList, List.cons_append, List.nil_append])
        | (rintro w τ ⟨rfl, hq⟩; dsimp only [Option.toList, List.nil_append])
        | intro _
        | rfl
        | trivial
        | (apply hB; dsimp only [rgo, rfd, BemitExp, Nat.beq, rwp, rst, lv_args, rlk, rs1, rs2, rdl, rky, rct, rcs, rcd, rno, rsw, Value.category, List.filter, List.take, List.drop, List.reverse, List.reverseAux, List.cons_append, List.nil_append, Option.toList, Int.toNat, Int.reduceToNat, if_pos, if_neg, reduceIte, ↓reduceIte, Nat.reduceAdd, Nat.reduceEqDiff, Nat.reduceBEq, beq_self_eq_true, Bool.not_true, Bool.not_false, Bool.and_true, Bool.and_false, Bool.true_and, Bool.false_and, gI_sI, gI_sL, gI_sA, gI_sM, gL_sI, gL_sL, gL_sA, gL_sM, aI_sI, aI_sL, aI_sA, aI_sM, aL_sI, aL_sL, aL_sA, aL_sM, BemitExp_0, P_emit]; try dsimp only)
        | exact Or.inl rfl
        | exact Or.inr rfl
        | decide
        | (first | lia | exact emx_eq)
    next => exact hP.elim
theorem m_emitExp (l : Launch) : RMet l 2 21 P_emitExp Q_emitExp := by
  refine RMet.by BemitExp [(20, P_emit, Q_emit)] roemitExp okBemitExp (ctc (m_emit l) (by decide) ct0) ?_ b_emitExp
  · intro As σ hP
    unfold P_emitExp at hP
    split at hP
    next => exact Nat.le_of_ble_eq_true rfl
    next => exact hP.elim
set_option maxRecDepth 100000 in
theorem e_emitExp (l : Launch) : RMetE l 2 21 P_emitExp Q_emitExp := by
  refine RMetE.by BemitExp [(20, P_emit, Q_emit)] rfl rfl roemitExp okBemitExp (ctEc (e_emit l) (by decide) ctE0) ?_ b_emitExp
  · intro As σ hP
    unfold P_emitExp at hP
    split at hP
    next => exact Nat.le_of_ble_eq_true rfl
    next => exact hP.elim
def P_push : RP := fun As σ => match As with
  | [.int s, .int g, .int t] => 0 ≤ (gI σ 29) ∧ (gI σ 29) < 600
  | _ => False
def Q_push : RQ := fun As σ w τ => match As with
  | [.int s, .int g, .int t] => w = some (.int 1) ∧ τ = pu σ s g t
  | _ => False
set_option maxRecDepth 100000 in
set_option maxHeartbeats 4000000 in
theorem b_push : Bod Bpush [] P_push Q_push := by
  · intro As σ hP G hB hW
    unfold P_push at hP
    split at hP
    next s g t => 
      unfold Q_push at hB
      dsimp only at hB
      repeat' first
        | apply And.intro
        | refine in_25 ?_ ?_
        | refine in_26 ?_ ?_
        | refine in_27 ?_ ?_
        | refine in_28 ?_ ?_
        | (rintro w τ ⟨r, rfl, hq, rfl⟩; dsimp only [Option.toList, List.cons_append, List.nil_append])
        | (rintro w τ ⟨rfl, rfl⟩; dsimp only [Option.toList, List.cons_append, List.nil_append])
        | (rintro w τ ⟨r, rfl, hq⟩; dsimp only [Option.toList, List.cons_append, List.nil_append])
        | (rintro w τ ⟨rfl, hq⟩; dsimp only [Option.toList, List.nil_append])
        | intro _
        | rfl
        | trivial
        | (apply hB; dsimp only [rgo, rfd, Bpush, Nat.beq, rwp, rst, lv_args, rlk, rs1, rs2, rdl, rky, rct, rcs, rcd, rno, rsw, Value.category, List.filter, List.take, List.drop, List.reverse, List.reverseAux, List.cons_append, List.nil_append, Option.toList, Int.toNat, Int.reduceToNat, if_pos, if_neg, reduceIte, ↓reduceIte, Nat.reduceAdd, Nat.reduceEqDiff, Nat.reduceBEq, beq_self_eq_true, Bool.not_true, Bool.not_false, Bool.and_true, Bool.and_false, Bool.true_and, Bool.false_and, gI_sI, gI_sL, gI_sA, gI_sM, gL_sI, gL_sL, gL_sA, gL_sM, aI_sI, aI_sL, aI_sA, aI_sM, aL_sI, aL_sL, aL_sA, aL_sM, Bpush_0, oi_0, oi_1]; try dsimp only)
        | exact Or.inl rfl
        | exact Or.inr rfl
        | decide
        | (first | lia | exact ⟨rfl, rfl⟩)
    next => exact hP.elim
theorem m_push (l : Launch) : RMet l 1 25 P_push Q_push := by
  refine RMet.by Bpush [] ropush okBpush ct0 ?_ b_push
  · intro As σ hP
    unfold P_push at hP
    split at hP
    next => exact Nat.le_of_ble_eq_true rfl
    next => exact hP.elim
set_option maxRecDepth 100000 in
theorem e_push (l : Launch) : RMetE l 1 25 P_push Q_push := by
  refine RMetE.by Bpush [] rfl rfl ropush okBpush ctE0 ?_ b_push
  · intro As σ hP
    unfold P_push at hP
    split at hP
    next => exact Nat.le_of_ble_eq_true rfl
    next => exact hP.elim
def P_whole : RP := fun As σ => match As with
  | [.int t] => 0 ≤ (gI σ 31) ∧ (gI σ 31) < 600
  | _ => False
def Q_whole : RQ := fun As σ w τ => match As with
  | [.int t] => w = none ∧ τ = wh σ t
  | _ => False
set_option maxRecDepth 100000 in
set_option maxHeartbeats 4000000 in
theorem b_whole : Bod Bwhole [] P_whole Q_whole := by
  · intro As σ hP G hB hW
    unfold P_whole at hP
    split at hP
    next t => 
      unfold Q_whole at hB
      dsimp only at hB
      repeat' first
        | apply And.intro
        | refine in_30 ?_ ?_
        | (rintro w τ ⟨r, rfl, hq, rfl⟩; dsimp only [Option.toList, List.cons_append, List.nil_append])
        | (rintro w τ ⟨rfl, rfl⟩; dsimp only [Option.toList, List.cons_append, List.nil_append])
        | (rintro w τ ⟨r, rfl, hq⟩; dsimp only [Option.toList, List.cons_append, List.nil_append])
        | (rintro w τ ⟨rfl, hq⟩; dsimp only [Option.toList, List.nil_append])
        | intro _
        | rfl
        | trivial
        | (apply hB; dsimp only [rgo, rfd, Bwhole, Nat.beq, rwp, rst, lv_args, rlk, rs1, rs2, rdl, rky, rct, rcs, rcd, rno, rsw, Value.category, List.filter, List.take, List.drop, List.reverse, List.reverseAux, List.cons_append, List.nil_append, Option.toList, Int.toNat, Int.reduceToNat, if_pos, if_neg, reduceIte, ↓reduceIte, Nat.reduceAdd, Nat.reduceEqDiff, Nat.reduceBEq, beq_self_eq_true, Bool.not_true, Bool.not_false, Bool.and_true, Bool.and_false, Bool.true_and, Bool.false_and, gI_sI, gI_sL, gI_sA, gI_sM, gL_sI, gL_sL, gL_sA, gL_sM, aI_sI, aI_sL, aI_sA, aI_sM, aL_sI, aL_sL, aL_sA, aL_sM, Bwhole_0, oi_1]; try dsimp only)
        | exact Or.inl rfl
        | exact Or.inr rfl
        | decide
        | (first | lia | exact ⟨rfl, rfl⟩)
    next => exact hP.elim
theorem m_whole (l : Launch) : RMet l 1 26 P_whole Q_whole := by
  refine RMet.by Bwhole [] rowhole okBwhole ct0 ?_ b_whole
  · intro As σ hP
    unfold P_whole at hP
    split at hP
    next => exact Nat.le_of_ble_eq_true rfl
    next => exact hP.elim
set_option maxRecDepth 100000 in
theorem e_whole (l : Launch) : RMetE l 1 26 P_whole Q_whole := by
  refine RMetE.by Bwhole [] rfl rfl rowhole okBwhole ctE0 ?_ b_whole
  · intro As σ hP
    unfold P_whole at hP
    split at hP
    next => exact Nat.le_of_ble_eq_true rfl
    next => exact hP.elim
def P_wait : RP := fun As σ => match As with
  | [.int b] => b = 0 ∨ b = 1
  | _ => False
def Q_wait : RQ := fun As σ w τ => match As with
  | [.int b] => w = some (.int 1) ∧ τ = sI (sI σ 34 1) 35 b
  | _ => False
set_option maxRecDepth 100000 in
set_option maxHeartbeats 4000000 in
theorem b_wait : Bod Bwait [] P_wait Q_wait := by
  · intro As σ hP G hB hW
    unfold P_wait at hP
    split at hP
    next b => 
      unfold Q_wait at hB
      dsimp only at hB
      repeat' first
        | apply And.intro
        | (rintro w τ ⟨r, rfl, hq, rfl⟩; dsimp only [Option.toList, List.cons_append, List.nil_append])
        | (rintro w τ ⟨rfl, rfl⟩; dsimp only [Option.toList, List.cons_append, List.nil_append])
        | (rintro w τ ⟨r, rfl, hq⟩; dsimp only [Option.toList, List.cons_append, List.nil_append])
        | (rintro w τ ⟨rfl, hq⟩; dsimp only [Option.toList, List.nil_append])
        | intro _
        | rfl
        | trivial
        | (apply hB; dsimp only [rgo, rfd, Bwait, Nat.beq, rwp, rst, lv_args, rlk, rs1, rs2, rdl, rky, rct, rcs, rcd, rno, rsw, Value.category, List.filter, List.take, List.drop, List.reverse, List.reverseAux, List.cons_append, List.nil_append, Option.toList, Int.toNat, Int.reduceToNat, if_pos, if_neg, reduceIte, ↓reduceIte, Nat.reduceAdd, Nat.reduceEqDiff, Nat.reduceBEq, beq_self_eq_true, Bool.not_true, Bool.not_false, Bool.and_true, Bool.and_false, Bool.true_and, Bool.false_and, gI_sI, gI_sL, gI_sA, gI_sM, gL_sI, gL_sL, gL_sA, gL_sM, aI_sI, aI_sL, aI_sA, aI_sM, aL_sI, aL_sL, aL_sA, aL_sM, Bwait_0, oi_1]; try dsimp only)
        | exact Or.inl rfl
        | exact Or.inr rfl
        | decide
        | (first | exact hP | lia | exact ⟨rfl, rfl⟩)
    next => exact hP.elim
theorem m_wait (l : Launch) : RMet l 1 28 P_wait Q_wait := by
  refine RMet.by Bwait [] rowait okBwait ct0 ?_ b_wait
  · intro As σ hP
    unfold P_wait at hP
    split at hP
    next => exact Nat.le_of_ble_eq_true rfl
    next => exact hP.elim
set_option maxRecDepth 100000 in
theorem e_wait (l : Launch) : RMetE l 1 28 P_wait Q_wait := by
  refine RMetE.by Bwait [] rfl rfl rowait okBwait ctE0 ?_ b_wait
  · intro As σ hP
    unfold P_wait at hP
    split at hP
    next => exact Nat.le_of_ble_eq_true rfl
    next => exact hP.elim
