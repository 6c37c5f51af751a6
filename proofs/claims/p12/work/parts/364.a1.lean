theorem cI {v u : Int32} {X Y : Int} (h : v.toInt = X) (g : u.toInt = Y) : (v = u ↔ X = Y) ∧ (v < u ↔ X < Y) ∧ (v ≤ u ↔ X ≤ Y) ∧ (u < v ↔ Y < X) ∧ (u ≤ v ↔ Y ≤ X) := by
  subst h
  subst g
  exact ⟨Int32.toInt_inj.symm, Int32.lt_iff_toInt_lt, Int32.le_iff_toInt_le, Int32.lt_iff_toInt_lt, Int32.le_iff_toInt_le⟩
theorem cL {a b : Int64} : (lg_cmp b a = 0 ↔ b = a) ∧ (lg_cmp b a < 0 ↔ b.toInt < a.toInt) ∧ (0 < lg_cmp b a ↔ a.toInt < b.toInt) ∧ (lg_cmp b a ≤ 0 ↔ b.toInt ≤ a.toInt) ∧ (0 ≤ lg_cmp b a ↔ a.toInt ≤ b.toInt) := by
  rcases lg_t b a with ⟨h1, h2, h3, h4⟩ | ⟨h1, h2⟩ | ⟨h1, h2, h3, h4⟩
  · refine ⟨⟨fun q => absurd q h2, fun q => by rw [q] at h4; omega⟩, ⟨fun _ => h4, fun _ => h1⟩, ⟨fun q => absurd q h3, fun q => by omega⟩, ⟨fun _ => by omega, fun _ => Int32.le_of_lt h1⟩, ⟨fun q => ?_, fun q => by omega⟩⟩
    exact absurd h1 (Int32.not_lt.mpr q)
  · refine ⟨⟨fun _ => Int64.toInt_inj.mp h2, fun _ => h1⟩, ⟨fun q => ?_, fun q => by omega⟩, ⟨fun q => ?_, fun q => by omega⟩, ⟨fun _ => by omega, fun _ => ?_⟩, ⟨fun _ => by omega, fun _ => ?_⟩⟩
    · rw [h1] at q; exact absurd q (by decide)
    · rw [h1] at q; exact absurd q (by decide)
    · rw [h1]; decide
    · rw [h1]; decide
  · refine ⟨⟨fun q => absurd q h2, fun q => by rw [q] at h4; omega⟩, ⟨fun q => absurd q h3, fun q => by omega⟩, ⟨fun _ => h4, fun _ => h1⟩, ⟨fun q => ?_, fun q => by omega⟩, ⟨fun _ => by omega, fun _ => Int32.le_of_lt h1⟩⟩
    exact absurd h1 (Int32.not_lt.mpr q)
/-! the reference judges -/
def VaT (e : TvT) : Prop := (0 ≤ e.1 ∧ e.1 ≤ 5) ∧ (¬ e.2.1 = 0 → nrT e.1 e.2.2.1 = e.2.2.1 ∧ (e.1 = 0 → e.2.2.1 = 0 ∨ e.2.2.1 = 1))
/-- place i of its pile shows e -/
def TeR (σ : RS) (i : Nat) (e : TvT) : Prop := (aI σ 70 i).toInt = e.1 ∧ (¬ aI σ 71 i = 0 ↔ ¬ e.2.1 = 0) ∧ (¬ e.2.1 = 0 → aL σ 72 i = e.2.2.1) ∧ VaT e
def ShT (ty su : Int32) (v : Int64) (e : TvT) : Prop := ty.toInt = e.1 ∧ (¬ su = 0 ↔ ¬ e.2.1 = 0) ∧ (¬ e.2.1 = 0 → v = e.2.2.1)
/-- what lies then -/
def lieS (σ : RS) (c ty su : Int32) (v : Int64) : RS :=
  sI (sM (sA (sA (sA (sA (sM (sA (sA (sI (sA (sM (sA (sA σ 70 (upd (aI σ 70) (gI σ 69).toNatClampNeg ty)) 71 (upd (aI σ 71) (gI σ 69).toNatClampNeg su)) 72 (vp_updL (aL σ 72) (gI σ 69).toNatClampNeg v)) 73 (upd (aI σ 73) (gI σ 69).toNatClampNeg (aI σ 23 c.toNatClampNeg))) 69 (gI σ 69 + 1))
    81 (upd (aI σ 81) c.toNatClampNeg ty)) 84 (upd (aI σ 84) c.toNatClampNeg su)) 85 (vp_updL (aL σ 85) c.toNatClampNeg v))
    75 (upd (aI σ 75) (gI σ 74).toNatClampNeg (aI σ 23 c.toNatClampNeg))) 76 (upd (aI σ 76) (gI σ 74).toNatClampNeg (aI σ 24 c.toNatClampNeg))) 77 (upd (aI σ 77) (gI σ 74).toNatClampNeg ty)) 78 (upd (aI σ 78) (gI σ 74).toNatClampNeg su)) 79 (vp_updL (aL σ 79) (gI σ 74).toNatClampNeg v)) 74 (gI σ 74 + 1)
theorem lie_66 {σ : RS} {c ty su : Int32} {v : Int64} : gI (lieS σ c ty su v) 66 = gI σ 66 := rfl
def caT (t : Int) (v : Int64) : Int64 := if t = 0 then (if v = 0 then 0 else 1) else nrT t v
def hvT (t : Int) (v : Int64) : Prop := if t = 1 then -128 ≤ v.toInt ∧ v.toInt ≤ 127 else if t = 2 then 0 ≤ v.toInt ∧ v.toInt ≤ 65535 else True
def ndT (want : Int32) (e : TvT) : Prop := (want = 0 ∧ e.1 = 0) ∨ (¬ want = 0 ∧ nuT e.1)
def prT (ei : Int32) (e : TvT) : Prop := (¬ ei = 0 ∧ e.1 = 0) ∨ nuT e.1
theorem TeR.nb {σ : RS} {i : Nat} {e : TvT} (h : TeR σ i e) : ¬ aI σ 70 i = -2 := by
  intro q
  have a := h.1
  rw [q] at a
  have b := h.2.2.2.1.1
  rw [← a] at b
  exact absurd b (by decide)
theorem b01 {P : Prop} (h : P) : ¬ (1 : Int32) = 0 ↔ P := ⟨fun _ => h, fun _ => by decide⟩
theorem b00 {P : Prop} (h : ¬ P) : ¬ (0 : Int32) = 0 ↔ P := ⟨fun q => absurd rfl q, fun q => absurd q h⟩
theorem nr_1 {v : Int64} : nrT 1 v = v ↔ -128 ≤ v.toInt ∧ v.toInt ≤ 127 := by
  have e : nrT 1 v = v.toInt32.toInt8.toInt32.toInt64 := rfl
  rw [e]
  have b1 := v.toInt32.toInt8.toInt_lt
  have b2 := v.toInt32.toInt8.le_toInt
  constructor
  · intro h
    rw [← h, Int32.toInt_toInt64, Int8.toInt_toInt32]
    omega
  · intro h
    rw [← Int64.toInt_inj, Int32.toInt_toInt64, Int8.toInt_toInt32, Int32.toInt_toInt8, Int64.toInt_toInt32]
    rw [show v.toInt.bmod (2 ^ 32) = v.toInt from Int.bmod_eq_of_le (by omega) (by omega)]
    exact Int.bmod_eq_of_le (by omega) (by omega)
theorem nr_2 {v : Int64} : nrT 2 v = v ↔ 0 ≤ v.toInt ∧ v.toInt ≤ 65535 := by
  have e : nrT 2 v = (v.toInt32.toUInt32 % 65536).toInt32.toInt64 := rfl
  rw [e]
  have m : ((v.toInt32.toUInt32 % 65536).toInt32).toInt = (v.toInt32.toUInt32.toNat % 65536 : Nat) := by
    have q : (v.toInt32.toUInt32 % 65536).toNat = v.toInt32.toUInt32.toNat % 65536 := UInt32.toNat_mod _ _
    have r : (v.toInt32.toUInt32 % 65536).toInt32.toInt = ((v.toInt32.toUInt32 % 65536).toNat : Int) := by
      have z : (v.toInt32.toUInt32 % 65536).toInt32.toBitVec.toNat = (v.toInt32.toUInt32 % 65536).toNat := rfl
      show (v.toInt32.toUInt32 % 65536).toInt32.toBitVec.toInt = _
      rw [BitVec.toInt_eq_toNat_cond, z, if_pos (by omega)]
    rw [r, q]
  have tn : (v.toInt32.toUInt32.toNat : Int) = v.toInt % 4294967296 := by
    have a : (v.toInt32.toUInt32.toNat : Int) = v.toInt32.toBitVec.toNat := rfl
    have b : v.toInt32.toBitVec.toInt = v.toInt.bmod (2 ^ 32) := Int64.toInt_toInt32 v
    rw [BitVec.toInt_eq_toNat_cond] at b
    have l := v.toInt32.toBitVec.isLt
    rw [a]
    have bm := Int.bmod_def v.toInt (2 ^ 32)
    rw [bm] at b
    split at b <;> split at b <;> omega
  constructor
  · intro h
    rw [← h, Int32.toInt_toInt64, m]
    omega
  · intro h
    rw [← Int64.toInt_inj, Int32.toInt_toInt64, m]
    omega
theorem hv_nr {t : Int} {v : Int64} (h : smT t) : hvT t v ↔ nrT t v = v := by
  rcases h with rfl | rfl
  · rw [nr_1]; exact Iff.rfl
  · rw [nr_2]; exact Iff.rfl
theorem ft_hv {σ : RS} {i : Nat} {e : TvT} {t : Int} (h : TeR σ i e) (ht : smT t) : (¬ aI σ 71 i = 0 ∧ hvT t (aL σ 72 i)) ↔ hlT e t = true := by
  rw [hl_iff, h.2.1, hv_nr ht]
  constructor
  · intro q
    rw [h.2.2.1 q.1] at q
    exact q
  · intro q
    rw [h.2.2.1 q.1]
    exact q
def Pv_err : UP1 := fun A1 σ => match A1 with
  | [.int what, .int token] => ¬ what = 0
  | _ => False
def Qv_err : UQ1 := fun A1 σ w τ => match A1 with
  | [.int what, .int token] => w = none ∧ ¬ gI τ 66 = 0
  | _ => False
def Qw_err : UQ1 := fun A1 σ w τ => Pv_err A1 σ → Qv_err A1 σ w τ
set_option maxRecDepth 100000 in
set_option maxHeartbeats 4000000 in
theorem v_err : UMet 70 (Pv_err) (Qv_err) := by
  refine UMet.by Berr [] rfl uc0 ?_
  intro A1 σ hP K hB hW
  unfold Pv_err at hP
  split at hP
  next what token =>
    intro n0
    refine hB _ _ _ _ _ (fun m1 hm1 => ?_)
    dsimp only [ugo, uwp, ust, uct, rfd, Berr, Berr_0, Nat.beq, lv_args, rlk, rs1, rs2, rdl, rky, rcd, rno, rsw, Value.category, List.filter, List.take, List.drop, List.reverse, List.reverseAux, List.cons_append, List.nil_append, Option.toList, Int.toNat, Int.reduceToNat, if_pos, if_neg, reduceIte, ↓reduceIte, Nat.reduceAdd, Nat.reduceEqDiff, Nat.reduceBEq, beq_self_eq_true, Bool.not_true, Bool.not_false, Bool.and_true, Bool.and_false, Bool.true_and, Bool.false_and, gI_sI, gI_sL, gI_sA, gI_sM, gL_sI, gL_sL, gL_sA, gL_sM, aI_sI, aI_sL, aI_sA, aI_sM, aL_sI, aL_sL, aL_sA, aL_sM]; try dsimp only
    intro p2
    refine ⟨fun h3 => ?_, fun h3 => ?_⟩
    · refine hB _ _ _ _ _ (fun m4 hm4 => ?_)
      dsimp only [ugo, uwp, ust, uct, rfd, Berr, Berr_39, Nat.beq, lv_args, rlk, rs1, rs2, rdl, rky, rcd, rno, rsw, Value.category, List.filter, List.take, List.drop, List.reverse, List.reverseAux, List.cons_append, List.nil_append, Option.toList, Int.toNat, Int.reduceToNat, if_pos, if_neg, reduceIte, ↓reduceIte, Nat.reduceAdd, Nat.reduceEqDiff, Nat.reduceBEq, beq_self_eq_true, Bool.not_true, Bool.not_false, Bool.and_true, Bool.and_false, Bool.true_and, Bool.false_and, gI_sI, gI_sL, gI_sA, gI_sM, gL_sI, gL_sL, gL_sA, gL_sM, aI_sI, aI_sL, aI_sA, aI_sM, aL_sI, aL_sL, aL_sA, aL_sM]; try dsimp only
      unfold Qv_err
      try dsimp only
      exact ⟨rfl, hP⟩
    · refine hB _ _ _ _ _ (fun m5 hm5 => ?_)
      dsimp only [ugo, uwp, ust, uct, rfd, Berr, Berr_14, Nat.beq, lv_args, rlk, rs1, rs2, rdl, rky, rcd, rno, rsw, Value.category, List.filter, List.take, List.drop, List.reverse, List.reverseAux, List.cons_append, List.nil_append, Option.toList, Int.toNat, Int.reduceToNat, if_pos, if_neg, reduceIte, ↓reduceIte, Nat.reduceAdd, Nat.reduceEqDiff, Nat.reduceBEq, beq_self_eq_true, Bool.not_true, Bool.not_false, Bool.and_true, Bool.and_false, Bool.true_and, Bool.false_and, gI_sI, gI_sL, gI_sA, gI_sM, gL_sI, gL_sL, gL_sA, gL_sM, aI_sI, aI_sL, aI_sA, aI_sM, aL_sI, aL_sL, aL_sA, aL_sM]; try dsimp only
      refine ⟨fun h6 => ?_, fun h6 => ?_⟩
      · refine hB _ _ _ _ _ (fun m7 hm7 => ?_)
        dsimp only [ugo, uwp, ust, uct, rfd, Berr, Berr_38, Nat.beq, lv_args, rlk, rs1, rs2, rdl, rky, rcd, rno, rsw, Value.category, List.filter, List.take, List.drop, List.reverse, List.reverseAux, List.cons_append, List.nil_append, Option.toList, Int.toNat, Int.reduceToNat, if_pos, if_neg, reduceIte, ↓reduceIte, Nat.reduceAdd, Nat.reduceEqDiff, Nat.reduceBEq, beq_self_eq_true, Bool.not_true, Bool.not_false, Bool.and_true, Bool.and_false, Bool.true_and, Bool.false_and, gI_sI, gI_sL, gI_sA, gI_sM, gL_sI, gL_sL, gL_sA, gL_sM, aI_sI, aI_sL, aI_sA, aI_sM, aL_sI, aL_sL, aL_sA, aL_sM]; try dsimp only
        unfold Qv_err
        try dsimp only
        exact ⟨rfl, (by assumption)⟩
      · refine hB _ _ _ _ _ (fun m8 hm8 => ?_)
        dsimp only [ugo, uwp, ust, uct, rfd, Berr, Berr_22, Nat.beq, lv_args, rlk, rs1, rs2, rdl, rky, rcd, rno, rsw, Value.category, List.filter, List.take, List.drop, List.reverse, List.reverseAux, List.cons_append, List.nil_append, Option.toList, Int.toNat, Int.reduceToNat, if_pos, if_neg, reduceIte, ↓reduceIte, Nat.reduceAdd, Nat.reduceEqDiff, Nat.reduceBEq, beq_self_eq_true, Bool.not_true, Bool.not_false, Bool.and_true, Bool.and_false, Bool.true_and, Bool.false_and, gI_sI, gI_sL, gI_sA, gI_sM, gL_sI, gL_sL, gL_sA, gL_sM, aI_sI, aI_sL, aI_sA, aI_sM, aL_sI, aL_sL, aL_sA, aL_sM]; try dsimp only
        refine ⟨fun h9 => ?_, fun h9 => ?_⟩
        · refine hB _ _ _ _ _ (fun m10 hm10 => ?_)
          dsimp only [ugo, uwp, ust, uct, rfd, Berr, Berr_39, Nat.beq, lv_args, rlk, rs1, rs2, rdl, rky, rcd, rno, rsw, Value.category, List.filter, List.take, List.drop, List.reverse, List.reverseAux, List.cons_append, List.nil_append, Option.toList, Int.toNat, Int.reduceToNat, if_pos, if_neg, reduceIte, ↓reduceIte, Nat.reduceAdd, Nat.reduceEqDiff, Nat.reduceBEq, beq_self_eq_true, Bool.not_true, Bool.not_false, Bool.and_true, Bool.and_false, Bool.true_and, Bool.false_and, gI_sI, gI_sL, gI_sA, gI_sM, gL_sI, gL_sL, gL_sA, gL_sM, aI_sI, aI_sL, aI_sA, aI_sM, aL_sI, aL_sL, aL_sA, aL_sM]; try dsimp only
          unfold Qv_err
          try dsimp only
          exact ⟨rfl, hP⟩
        · refine hB _ _ _ _ _ (fun m11 hm11 => ?_)
          dsimp only [ugo, uwp, ust, uct, rfd, Berr, Berr_30, Nat.beq, lv_args, rlk, rs1, rs2, rdl, rky, rcd, rno, rsw, Value.category, List.filter, List.take, List.drop, List.reverse, List.reverseAux, List.cons_append, List.nil_append, Option.toList, Int.toNat, Int.reduceToNat, if_pos, if_neg, reduceIte, ↓reduceIte, Nat.reduceAdd, Nat.reduceEqDiff, Nat.reduceBEq, beq_self_eq_true, Bool.not_true, Bool.not_false, Bool.and_true, Bool.and_false, Bool.true_and, Bool.false_and, gI_sI, gI_sL, gI_sA, gI_sM, gL_sI, gL_sL, gL_sA, gL_sM, aI_sI, aI_sL, aI_sA, aI_sM, aL_sI, aL_sL, aL_sA, aL_sM]; try dsimp only
          refine ⟨fun h12 => ?_, fun h12 => ?_⟩
          · refine hB _ _ _ _ _ (fun m13 hm13 => ?_)
            dsimp only [ugo, uwp, ust, uct, rfd, Berr, Berr_39, Nat.beq, lv_args, rlk, rs1, rs2, rdl, rky, rcd, rno, rsw, Value.category, List.filter, List.take, List.drop, List.reverse, List.reverseAux, List.cons_append, List.nil_append, Option.toList, Int.toNat, Int.reduceToNat, if_pos, if_neg, reduceIte, ↓reduceIte, Nat.reduceAdd, Nat.reduceEqDiff, Nat.reduceBEq, beq_self_eq_true, Bool.not_true, Bool.not_false, Bool.and_true, Bool.and_false, Bool.true_and, Bool.false_and, gI_sI, gI_sL, gI_sA, gI_sM, gL_sI, gL_sL, gL_sA, gL_sM, aI_sI, aI_sL, aI_sA, aI_sM, aL_sI, aL_sL, aL_sA, aL_sM]; try dsimp only
            unfold Qv_err
            try dsimp only
            exact ⟨rfl, hP⟩
          · refine hB _ _ _ _ _ (fun m14 hm14 => ?_)
            dsimp only [ugo, uwp, ust, uct, rfd, Berr, Berr_38, Nat.beq, lv_args, rlk, rs1, rs2, rdl, rky, rcd, rno, rsw, Value.category, List.filter, List.take, List.drop, List.reverse, List.reverseAux, List.cons_append, List.nil_append, Option.toList, Int.toNat, Int.reduceToNat, if_pos, if_neg, reduceIte, ↓reduceIte, Nat.reduceAdd, Nat.reduceEqDiff, Nat.reduceBEq, beq_self_eq_true, Bool.not_true, Bool.not_false, Bool.and_true, Bool.and_false, Bool.true_and, Bool.false_and, gI_sI, gI_sL, gI_sA, gI_sM, gL_sI, gL_sL, gL_sA, gL_sM, aI_sI, aI_sL, aI_sA, aI_sM, aL_sI, aL_sL, aL_sA, aL_sM]; try dsimp only
            unfold Qv_err
            try dsimp only
            exact ⟨rfl, (by assumption)⟩
  next => exact hP.elim
theorem w_err : UMet 70 (fun _ _ => True) Qw_err := fun A1 σ _ w τ h hP => v_err A1 σ hP w τ h
def Pv_isNumber : UP1 := fun A1 σ => match A1 with
  | [.int type] => True
  | _ => False
def Qv_isNumber : UQ1 := fun A1 σ w τ => match A1 with
  | [.int type] => σ = τ ∧ ∃ b : Int32, w = some (.int b) ∧ (¬ b = 0 ↔ nuT type.toInt)
  | _ => False
def Qw_isNumber : UQ1 := fun A1 σ w τ => Pv_isNumber A1 σ → Qv_isNumber A1 σ w τ
set_option maxRecDepth 100000 in
set_option maxHeartbeats 4000000 in
theorem v_isNumber : UMet 72 (Pv_isNumber) (Qv_isNumber) := by
  refine UMet.by BisNumber [] rfl uc0 ?_
  intro A1 σ hP K hB hW
  unfold Pv_isNumber at hP
  split at hP
  next type =>
    intro n0
    refine hB _ _ _ _ _ (fun m1 hm1 => ?_)
    dsimp only [ugo, uwp, ust, uct, rfd, BisNumber, BisNumber_0, Nat.beq, lv_args, rlk, rs1, rs2, rdl, rky, rcd, rno, rsw, Value.category, List.filter, List.take, List.drop, List.reverse, List.reverseAux, List.cons_append, List.nil_append, Option.toList, Int.toNat, Int.reduceToNat, if_pos, if_neg, reduceIte, ↓reduceIte, Nat.reduceAdd, Nat.reduceEqDiff, Nat.reduceBEq, beq_self_eq_true, Bool.not_true, Bool.not_false, Bool.and_true, Bool.and_false, Bool.true_and, Bool.false_and, gI_sI, gI_sL, gI_sA, gI_sM, gL_sI, gL_sL, gL_sA, gL_sM, aI_sI, aI_sL, aI_sA, aI_sM, aL_sI, aL_sL, aL_sA, aL_sM, oi_1]; try dsimp only
    refine ⟨fun h2 => ?_, fun h2 => ?_⟩
    · have c2 : (type).toInt < 1 := (cI (rfl : (type).toInt = (type).toInt) (rfl : (1 : Int32).toInt = 1)).2.1.mp h2
      refine hB _ _ _ _ _ (fun m3 hm3 => ?_)
      dsimp only [ugo, uwp, ust, uct, rfd, BisNumber, BisNumber_14, Nat.beq, lv_args, rlk, rs1, rs2, rdl, rky, rcd, rno, rsw, Value.category, List.filter, List.take, List.drop, List.reverse, List.reverseAux, List.cons_append, List.nil_append, Option.toList, Int.toNat, Int.reduceToNat, if_pos, if_neg, reduceIte, ↓reduceIte, Nat.reduceAdd, Nat.reduceEqDiff, Nat.reduceBEq, beq_self_eq_true, Bool.not_true, Bool.not_false, Bool.and_true, Bool.and_false, Bool.true_and, Bool.false_and, gI_sI, gI_sL, gI_sA, gI_sM, gL_sI, gL_sL, gL_sA, gL_sM, aI_sI, aI_sL, aI_sA, aI_sM, aL_sI, aL_sL, aL_sA, aL_sM, oi_0]; try dsimp only
      refine hB _ _ _ _ _ (fun m4 hm4 => ?_)
      dsimp only [ugo, uwp, ust, uct, rfd, BisNumber, BisNumber_15, Nat.beq, lv_args, rlk, rs1, rs2, rdl, rky, rcd, rno, rsw, Value.category, List.filter, List.take, List.drop, List.reverse, List.reverseAux, List.cons_append, List.nil_append, Option.toList, Int.toNat, Int.reduceToNat, if_pos, if_neg, reduceIte, ↓reduceIte, Nat.reduceAdd, Nat.reduceEqDiff, Nat.reduceBEq, beq_self_eq_true, Bool.not_true, Bool.not_false, Bool.and_true, Bool.and_false, Bool.true_and, Bool.false_and, gI_sI, gI_sL, gI_sA, gI_sM, gL_sI, gL_sL, gL_sA, gL_sM, aI_sI, aI_sL, aI_sA, aI_sM, aL_sI, aL_sL, aL_sA, aL_sM]; try dsimp only
      unfold Qv_isNumber
      try dsimp only
      exact ⟨rfl, 0, rfl, b00 (by omega)⟩
    · have c2 : 1 ≤ (type).toInt := (cI (rfl : (type).toInt = (type).toInt) (rfl : (1 : Int32).toInt = 1)).2.2.2.2.mp (by first | exact h2 | exact Int32.not_lt.mp h2 | exact Int32.not_le.mp h2)
      refine hB _ _ _ _ _ (fun m5 hm5 => ?_)
      dsimp only [ugo, uwp, ust, uct, rfd, BisNumber, BisNumber_5, Nat.beq, lv_args, rlk, rs1, rs2, rdl, rky, rcd, rno, rsw, Value.category, List.filter, List.take, List.drop, List.reverse, List.reverseAux, List.cons_append, List.nil_append, Option.toList, Int.toNat, Int.reduceToNat, if_pos, if_neg, reduceIte, ↓reduceIte, Nat.reduceAdd, Nat.reduceEqDiff, Nat.reduceBEq, beq_self_eq_true, Bool.not_true, Bool.not_false, Bool.and_true, Bool.and_false, Bool.true_and, Bool.false_and, gI_sI, gI_sL, gI_sA, gI_sM, gL_sI, gL_sL, gL_sA, gL_sM, aI_sI, aI_sL, aI_sA, aI_sM, aL_sI, aL_sL, aL_sA, aL_sM, oi_4]; try dsimp only
      refine ⟨fun h6 => ?_, fun h6 => ?_⟩
      · have c6 : 4 < (type).toInt := (cI (rfl : (type).toInt = (type).toInt) (rfl : (4 : Int32).toInt = 4)).2.2.2.1.mp h6
        refine hB _ _ _ _ _ (fun m7 hm7 => ?_)
        dsimp only [ugo, uwp, ust, uct, rfd, BisNumber, BisNumber_14, Nat.beq, lv_args, rlk, rs1, rs2, rdl, rky, rcd, rno, rsw, Value.category, List.filter, List.take, List.drop, List.reverse, List.reverseAux, List.cons_append, List.nil_append, Option.toList, Int.toNat, Int.reduceToNat, if_pos, if_neg, reduceIte, ↓reduceIte, Nat.reduceAdd, Nat.reduceEqDiff, Nat.reduceBEq, beq_self_eq_true, Bool.not_true, Bool.not_false, Bool.and_true, Bool.and_false, Bool.true_and, Bool.false_and, gI_sI, gI_sL, gI_sA, gI_sM, gL_sI, gL_sL, gL_sA, gL_sM, aI_sI, aI_sL, aI_sA, aI_sM, aL_sI, aL_sL, aL_sA, aL_sM, oi_0]; try dsimp only
        refine hB _ _ _ _ _ (fun m8 hm8 => ?_)
        dsimp only [ugo, uwp, ust, uct, rfd, BisNumber, BisNumber_15, Nat.beq, lv_args, rlk, rs1, rs2, rdl, rky, rcd, rno, rsw, Value.category, List.filter, List.take, List.drop, List.reverse, List.reverseAux, List.cons_append, List.nil_append, Option.toList, Int.toNat, Int.reduceToNat, if_pos, if_neg, reduceIte, ↓reduceIte, Nat.reduceAdd, Nat.reduceEqDiff, Nat.reduceBEq, beq_self_eq_true, Bool.not_true, Bool.not_false, Bool.and_true, Bool.and_false, Bool.true_and, Bool.false_and, gI_sI, gI_sL, gI_sA, gI_sM, gL_sI, gL_sL, gL_sA, gL_sM, aI_sI, aI_sL, aI_sA, aI_sM, aL_sI, aL_sL, aL_sA, aL_sM]; try dsimp only
        unfold Qv_isNumber
        try dsimp only
        exact ⟨rfl, 0, rfl, b00 (by omega)⟩
      · have c6 : (type).toInt ≤ 4 := (cI (rfl : (type).toInt = (type).toInt) (rfl : (4 : Int32).toInt = 4)).2.2.1.mp (by first | exact h6 | exact Int32.not_lt.mp h6 | exact Int32.not_le.mp h6)
        refine hB _ _ _ _ _ (fun m9 hm9 => ?_)
        dsimp only [ugo, uwp, ust, uct, rfd, BisNumber, BisNumber_10, Nat.beq, lv_args, rlk, rs1, rs2, rdl, rky, rcd, rno, rsw, Value.category, List.filter, List.take, List.drop, List.reverse, List.reverseAux, List.cons_append, List.nil_append, Option.toList, Int.toNat, Int.reduceToNat, if_pos, if_neg, reduceIte, ↓reduceIte, Nat.reduceAdd, Nat.reduceEqDiff, Nat.reduceBEq, beq_self_eq_true, Bool.not_true, Bool.not_false, Bool.and_true, Bool.and_false, Bool.true_and, Bool.false_and, gI_sI, gI_sL, gI_sA, gI_sM, gL_sI, gL_sL, gL_sA, gL_sM, aI_sI, aI_sL, aI_sA, aI_sM, aL_sI, aL_sL, aL_sA, aL_sM, oi_1]; try dsimp only
        refine hB _ _ _ _ _ (fun m10 hm10 => ?_)
        dsimp only [ugo, uwp, ust, uct, rfd, BisNumber, BisNumber_15, Nat.beq, lv_args, rlk, rs1, rs2, rdl, rky, rcd, rno, rsw, Value.category, List.filter, List.take, List.drop, List.reverse, List.reverseAux, List.cons_append, List.nil_append, Option.toList, Int.toNat, Int.reduceToNat, if_pos, if_neg, reduceIte, ↓reduceIte, Nat.reduceAdd, Nat.reduceEqDiff, Nat.reduceBEq, beq_self_eq_true, Bool.not_true, Bool.not_false, Bool.and_true, Bool.and_false, Bool.true_and, Bool.false_and, gI_sI, gI_sL, gI_sA, gI_sM, gL_sI, gL_sL, gL_sA, gL_sM, aI_sI, aI_sL, aI_sA, aI_sM, aL_sI, aL_sL, aL_sA, aL_sM]; try dsimp only
        unfold Qv_isNumber
        try dsimp only
        exact ⟨rfl, 1, rfl, b01 (by omega)⟩
  next => exact hP.elim
theorem w_isNumber : UMet 72 (fun _ _ => True) Qw_isNumber := fun A1 σ _ w τ h hP => v_isNumber A1 σ hP w τ h
def Pv_widens : UP1 := fun A1 σ => match A1 with
  | [.int a, .int b] => True
  | _ => False
def Qv_widens : UQ1 := fun A1 σ w τ => match A1 with
  | [.int a, .int b] => σ = τ ∧ ∃ r : Int32, w = some (.int r) ∧ (¬ r = 0 ↔ wdT a.toInt b.toInt)
  | _ => False
def Qw_widens : UQ1 := fun A1 σ w τ => Pv_widens A1 σ → Qv_widens A1 σ w τ
set_option maxRecDepth 100000 in
set_option maxHeartbeats 4000000 in
theorem v_widens : UMet 73 (Pv_widens) (Qv_widens) := by
  refine UMet.by Bwidens [] rfl uc0 ?_
  intro A1 σ hP K hB hW
  unfold Pv_widens at hP
  split at hP
  next a b =>
    intro n0
    refine hB _ _ _ _ _ (fun m1 hm1 => ?_)
    dsimp only [ugo, uwp, ust, uct, rfd, Bwidens, Bwidens_0, Nat.beq, lv_args, rlk, rs1, rs2, rdl, rky, rcd, rno, rsw, Value.category, List.filter, List.take, List.drop, List.reverse, List.reverseAux, List.cons_append, List.nil_append, Option.toList, Int.toNat, Int.reduceToNat, if_pos, if_neg, reduceIte, ↓reduceIte, Nat.reduceAdd, Nat.reduceEqDiff, Nat.reduceBEq, beq_self_eq_true, Bool.not_true, Bool.not_false, Bool.and_true, Bool.and_false, Bool.true_and, Bool.false_and, gI_sI, gI_sL, gI_sA, gI_sM, gL_sI, gL_sL, gL_sA, gL_sM, aI_sI, aI_sL, aI_sA, aI_sM, aL_sI, aL_sL, aL_sA, aL_sM]; try dsimp only
    refine ⟨fun h2 => ?_, fun h2 => ?_⟩
    · have c2 : ¬ (a).toInt = (b).toInt := fun q => h2 ((cI (rfl : (a).toInt = (a).toInt) (rfl : (b).toInt = (b).toInt)).1.mpr q)
      refine hB _ _ _ _ _ (fun m3 hm3 => ?_)
      dsimp only [ugo, uwp, ust, uct, rfd, Bwidens, Bwidens_7, Nat.beq, lv_args, rlk, rs1, rs2, rdl, rky, rcd, rno, rsw, Value.category, List.filter, List.take, List.drop, List.reverse, List.reverseAux, List.cons_append, List.nil_append, Option.toList, Int.toNat, Int.reduceToNat, if_pos, if_neg, reduceIte, ↓reduceIte, Nat.reduceAdd, Nat.reduceEqDiff, Nat.reduceBEq, beq_self_eq_true, Bool.not_true, Bool.not_false, Bool.and_true, Bool.and_false, Bool.true_and, Bool.false_and, gI_sI, gI_sL, gI_sA, gI_sM, gL_sI, gL_sL, gL_sA, gL_sM, aI_sI, aI_sL, aI_sA, aI_sM, aL_sI, aL_sL, aL_sA, aL_sM, oi_3]; try dsimp only
      refine ⟨fun h4 => ?_, fun h4 => ?_⟩
      · have c4 : ¬ (b).toInt = 3 := fun q => h4 ((cI (rfl : (b).toInt = (b).toInt) (rfl : (3 : Int32).toInt = 3)).1.mpr q)
        refine hB _ _ _ _ _ (fun m5 hm5 => ?_)
        dsimp only [ugo, uwp, ust, uct, rfd, Bwidens, Bwidens_22, Nat.beq, lv_args, rlk, rs1, rs2, rdl, rky, rcd, rno, rsw, Value.category, List.filter, List.take, List.drop, List.reverse, List.reverseAux, List.cons_append, List.nil_append, Option.toList, Int.toNat, Int.reduceToNat, if_pos, if_neg, reduceIte, ↓reduceIte, Nat.reduceAdd, Nat.reduceEqDiff, Nat.reduceBEq, beq_self_eq_true, Bool.not_true, Bool.not_false, Bool.and_true, Bool.and_false, Bool.true_and, Bool.false_and, gI_sI, gI_sL, gI_sA, gI_sM, gL_sI, gL_sL, gL_sA, gL_sM, aI_sI, aI_sL, aI_sA, aI_sM, aL_sI, aL_sL, aL_sA, aL_sM, oi_4]; try dsimp only
        refine ⟨fun h6 => ?_, fun h6 => ?_⟩
        · have c6 : ¬ (b).toInt = 4 := fun q => h6 ((cI (rfl : (b).toInt = (b).toInt) (rfl : (4 : Int32).toInt = 4)).1.mpr q)
          refine hB _ _ _ _ _ (fun m7 hm7 => ?_)
          dsimp only [ugo, uwp, ust, uct, rfd, Bwidens, Bwidens_41, Nat.beq, lv_args, rlk, rs1, rs2, rdl, rky, rcd, rno, rsw, Value.category, List.filter, List.take, List.drop, List.reverse, List.reverseAux, List.cons_append, List.nil_append, Option.toList, Int.toNat, Int.reduceToNat, if_pos, if_neg, reduceIte, ↓reduceIte, Nat.reduceAdd, Nat.reduceEqDiff, Nat.reduceBEq, beq_self_eq_true, Bool.not_true, Bool.not_false, Bool.and_true, Bool.and_false, Bool.true_and, Bool.false_and, gI_sI, gI_sL, gI_sA, gI_sM, gL_sI, gL_sL, gL_sA, gL_sM, aI_sI, aI_sL, aI_sA, aI_sM, aL_sI, aL_sL, aL_sA, aL_sM, oi_0]; try dsimp only
          refine hB _ _ _ _ _ (fun m8 hm8 => ?_)
          dsimp only [ugo, uwp, ust, uct, rfd, Bwidens, Bwidens_42, Nat.beq, lv_args, rlk, rs1, rs2, rdl, rky, rcd, rno, rsw, Value.category, List.filter, List.take, List.drop, List.reverse, List.reverseAux, List.cons_append, List.nil_append, Option.toList, Int.toNat, Int.reduceToNat, if_pos, if_neg, reduceIte, ↓reduceIte, Nat.reduceAdd, Nat.reduceEqDiff, Nat.reduceBEq, beq_self_eq_true, Bool.not_true, Bool.not_false, Bool.and_true, Bool.and_false, Bool.true_and, Bool.false_and, gI_sI, gI_sL, gI_sA, gI_sM, gL_sI, gL_sL, gL_sA, gL_sM, aI_sI, aI_sL, aI_sA, aI_sM, aL_sI, aL_sL, aL_sA, aL_sM]; try dsimp only
          unfold Qv_widens
          try dsimp only
          exact ⟨rfl, 0, rfl, b00 (by omega)⟩
        · have c6 : (b).toInt = 4 := (cI (rfl : (b).toInt = (b).toInt) (rfl : (4 : Int32).toInt = 4)).1.mp h6
          refine hB _ _ _ _ _ (fun m9 hm9 => ?_)
          dsimp only [ugo, uwp, ust, uct, rfd, Bwidens, Bwidens_27, Nat.beq, lv_args, rlk, rs1, rs2, rdl, rky, rcd, rno, rsw, Value.category, List.filter, List.take, List.drop, List.reverse, List.reverseAux, List.cons_append, List.nil_append, Option.toList, Int.toNat, Int.reduceToNat, if_pos, if_neg, reduceIte, ↓reduceIte, Nat.reduceAdd, Nat.reduceEqDiff, Nat.reduceBEq, beq_self_eq_true, Bool.not_true, Bool.not_false, Bool.and_true, Bool.and_false, Bool.true_and, Bool.false_and, gI_sI, gI_sL, gI_sA, gI_sM, gL_sI, gL_sL, gL_sA, gL_sM, aI_sI, aI_sL, aI_sA, aI_sM, aL_sI, aL_sL, aL_sA, aL_sM, oi_1]; try dsimp only
          refine ⟨fun h10 => ?_, fun h10 => ?_⟩
          · have c10 : (a).toInt < 1 := (cI (rfl : (a).toInt = (a).toInt) (rfl : (1 : Int32).toInt = 1)).2.1.mp h10
            refine hB _ _ _ _ _ (fun m11 hm11 => ?_)
            dsimp only [ugo, uwp, ust, uct, rfd, Bwidens, Bwidens_41, Nat.beq, lv_args, rlk, rs1, rs2, rdl, rky, rcd, rno, rsw, Value.category, List.filter, List.take, List.drop, List.reverse, List.reverseAux, List.cons_append, List.nil_append, Option.toList, Int.toNat, Int.reduceToNat, if_pos, if_neg, reduceIte, ↓reduceIte, Nat.reduceAdd, Nat.reduceEqDiff, Nat.reduceBEq, beq_self_eq_true, Bool.not_true, Bool.not_false, Bool.and_true, Bool.and_false, Bool.true_and, Bool.false_and, gI_sI, gI_sL, gI_sA, gI_sM, gL_sI, gL_sL, gL_sA, gL_sM, aI_sI, aI_sL, aI_sA, aI_sM, aL_sI, aL_sL, aL_sA, aL_sM, oi_0]; try dsimp only
            refine hB _ _ _ _ _ (fun m12 hm12 => ?_)
            dsimp only [ugo, uwp, ust, uct, rfd, Bwidens, Bwidens_42, Nat.beq, lv_args, rlk, rs1, rs2, rdl, rky, rcd, rno, rsw, Value.category, List.filter, List.take, List.drop, List.reverse, List.reverseAux, List.cons_append, List.nil_append, Option.toList, Int.toNat, Int.reduceToNat, if_pos, if_neg, reduceIte, ↓reduceIte, Nat.reduceAdd, Nat.reduceEqDiff, Nat.reduceBEq, beq_self_eq_true, Bool.not_true, Bool.not_false, Bool.and_true, Bool.and_false, Bool.true_and, Bool.false_and, gI_sI, gI_sL, gI_sA, gI_sM, gL_sI, gL_sL, gL_sA, gL_sM, aI_sI, aI_sL, aI_sA, aI_sM, aL_sI, aL_sL, aL_sA, aL_sM]; try dsimp only
            unfold Qv_widens
            try dsimp only
            exact ⟨rfl, 0, rfl, b00 (by omega)⟩
          · have c10 : 1 ≤ (a).toInt := (cI (rfl : (a).toInt = (a).toInt) (rfl : (1 : Int32).toInt = 1)).2.2.2.2.mp (by first | exact h10 | exact Int32.not_lt.mp h10 | exact Int32.not_le.mp h10)
            refine hB _ _ _ _ _ (fun m13 hm13 => ?_)
            dsimp only [ugo, uwp, ust, uct, rfd, Bwidens, Bwidens_32, Nat.beq, lv_args, rlk, rs1, rs2, rdl, rky, rcd, rno, rsw, Value.category, List.filter, List.take, List.drop, List.reverse, List.reverseAux, List.cons_append, List.nil_append, Option.toList, Int.toNat, Int.reduceToNat, if_pos, if_neg, reduceIte, ↓reduceIte, Nat.reduceAdd, Nat.reduceEqDiff, Nat.reduceBEq, beq_self_eq_true, Bool.not_true, Bool.not_false, Bool.and_true, Bool.and_false, Bool.true_and, Bool.false_and, gI_sI, gI_sL, gI_sA, gI_sM, gL_sI, gL_sL, gL_sA, gL_sM, aI_sI, aI_sL, aI_sA, aI_sM, aL_sI, aL_sL, aL_sA, aL_sM, oi_3]; try dsimp only
            refine ⟨fun h14 => ?_, fun h14 => ?_⟩
            · have c14 : 3 < (a).toInt := (cI (rfl : (a).toInt = (a).toInt) (rfl : (3 : Int32).toInt = 3)).2.2.2.1.mp h14
              refine hB _ _ _ _ _ (fun m15 hm15 => ?_)
              dsimp only [ugo, uwp, ust, uct, rfd, Bwidens, Bwidens_41, Nat.beq, lv_args, rlk, rs1, rs2, rdl, rky, rcd, rno, rsw, Value.category, List.filter, List.take, List.drop, List.reverse, List.reverseAux, List.cons_append, List.nil_append, Option.toList, Int.toNat, Int.reduceToNat, if_pos, if_neg, reduceIte, ↓reduceIte, Nat.reduceAdd, Nat.reduceEqDiff, Nat.reduceBEq, beq_self_eq_true, Bool.not_true, Bool.not_false, Bool.and_true, Bool.and_false, Bool.true_and, Bool.false_and, gI_sI, gI_sL, gI_sA, gI_sM, gL_sI, gL_sL, gL_sA, gL_sM, aI_sI, aI_sL, aI_sA, aI_sM, aL_sI, aL_sL, aL_sA, aL_sM, oi_0]; try dsimp only
              refine hB _ _ _ _ _ (fun m16 hm16 => ?_)
              dsimp only [ugo, uwp, ust, uct, rfd, Bwidens, Bwidens_42, Nat.beq, lv_args, rlk, rs1, rs2, rdl, rky, rcd, rno, rsw, Value.category, List.filter, List.take, List.drop, List.reverse, List.reverseAux, List.cons_append, List.nil_append, Option.toList, Int.toNat, Int.reduceToNat, if_pos, if_neg, reduceIte, ↓reduceIte, Nat.reduceAdd, Nat.reduceEqDiff, Nat.reduceBEq, beq_self_eq_true, Bool.not_true, Bool.not_false, Bool.and_true, Bool.and_false, Bool.true_and, Bool.false_and, gI_sI, gI_sL, gI_sA, gI_sM, gL_sI, gL_sL, gL_sA, gL_sM, aI_sI, aI_sL, aI_sA, aI_sM, aL_sI, aL_sL, aL_sA, aL_sM]; try dsimp only
              unfold Qv_widens
              try dsimp only
              exact ⟨rfl, 0, rfl, b00 (by omega)⟩
            · have c14 : (a).toInt ≤ 3 := (cI (rfl : (a).toInt = (a).toInt) (rfl : (3 : Int32).toInt = 3)).2.2.1.mp (by first | exact h14 | exact Int32.not_lt.mp h14 | exact Int32.not_le.mp h14)
              refine hB _ _ _ _ _ (fun m17 hm17 => ?_)
              dsimp only [ugo, uwp, ust, uct, rfd, Bwidens, Bwidens_37, Nat.beq, lv_args, rlk, rs1, rs2, rdl, rky, rcd, rno, rsw, Value.category, List.filter, List.take, List.drop, List.reverse, List.reverseAux, List.cons_append, List.nil_append, Option.toList, Int.toNat, Int.reduceToNat, if_pos, if_neg, reduceIte, ↓reduceIte, Nat.reduceAdd, Nat.reduceEqDiff, Nat.reduceBEq, beq_self_eq_true, Bool.not_true, Bool.not_false, Bool.and_true, Bool.and_false, Bool.true_and, Bool.false_and, gI_sI, gI_sL, gI_sA, gI_sM, gL_sI, gL_sL, gL_sA, gL_sM, aI_sI, aI_sL, aI_sA, aI_sM, aL_sI, aL_sL, aL_sA, aL_sM, oi_1]; try dsimp only
              refine hB _ _ _ _ _ (fun m18 hm18 => ?_)
              dsimp only [ugo, uwp, ust, uct, rfd, Bwidens, Bwidens_42, Nat.beq, lv_args, rlk, rs1, rs2, rdl, rky, rcd, rno, rsw, Value.category, List.filter, List.take, List.drop, List.reverse, List.reverseAux, List.cons_append, List.nil_append, Option.toList, Int.toNat, Int.reduceToNat, if_pos, if_neg, reduceIte, ↓reduceIte, Nat.reduceAdd, Nat.reduceEqDiff, Nat.reduceBEq, beq_self_eq_true, Bool.not_true, Bool.not_false, Bool.and_true, Bool.and_false, Bool.true_and, Bool.false_and, gI_sI, gI_sL, gI_sA, gI_sM, gL_sI, gL_sL, gL_sA, gL_sM, aI_sI, aI_sL, aI_sA, aI_sM, aL_sI, aL_sL, aL_sA, aL_sM]; try dsimp only
              unfold Qv_widens
              try dsimp only
              exact ⟨rfl, 1, rfl, b01 (by omega)⟩
      · have c4 : (b).toInt = 3 := (cI (rfl : (b).toInt = (b).toInt) (rfl : (3 : Int32).toInt = 3)).1.mp h4
        refine hB _ _ _ _ _ (fun m19 hm19 => ?_)
        dsimp only [ugo, uwp, ust, uct, rfd, Bwidens, Bwidens_12, Nat.beq, lv_args, rlk, rs1, rs2, rdl, rky, rcd, rno, rsw, Value.category, List.filter, List.take, List.drop, List.reverse, List.reverseAux, List.cons_append, List.nil_append, Option.toList, Int.toNat, Int.reduceToNat, if_pos, if_neg, reduceIte, ↓reduceIte, Nat.reduceAdd, Nat.reduceEqDiff, Nat.reduceBEq, beq_self_eq_true, Bool.not_true, Bool.not_false, Bool.and_true, Bool.and_false, Bool.true_and, Bool.false_and, gI_sI, gI_sL, gI_sA, gI_sM, gL_sI, gL_sL, gL_sA, gL_sM, aI_sI, aI_sL, aI_sA, aI_sM, aL_sI, aL_sL, aL_sA, aL_sM, oi_1]; try dsimp only
        refine ⟨fun h20 => ?_, fun h20 => ?_⟩
        · have c20 : (a).toInt = 1 := (cI (rfl : (a).toInt = (a).toInt) (rfl : (1 : Int32).toInt = 1)).1.mp h20
          refine hB _ _ _ _ _ (fun m21 hm21 => ?_)
          dsimp only [ugo, uwp, ust, uct, rfd, Bwidens, Bwidens_37, Nat.beq, lv_args, rlk, rs1, rs2, rdl, rky, rcd, rno, rsw, Value.category, List.filter, List.take, List.drop, List.reverse, List.reverseAux, List.cons_append, List.nil_append, Option.toList, Int.toNat, Int.reduceToNat, if_pos, if_neg, reduceIte, ↓reduceIte, Nat.reduceAdd, Nat.reduceEqDiff, Nat.reduceBEq, beq_self_eq_true, Bool.not_true, Bool.not_false, Bool.and_true, Bool.and_false, Bool.true_and, Bool.false_and, gI_sI, gI_sL, gI_sA, gI_sM, gL_sI, gL_sL, gL_sA, gL_sM, aI_sI, aI_sL, aI_sA, aI_sM, aL_sI, aL_sL, aL_sA, aL_sM, oi_1]; try dsimp only
          refine hB _ _ _ _ _ (fun m22 hm22 => ?_)
          dsimp only [ugo, uwp, ust, uct, rfd, Bwidens, Bwidens_42, Nat.beq, lv_args, rlk, rs1, rs2, rdl, rky, rcd, rno, rsw, Value.category, List.filter, List.take, List.drop, List.reverse, List.reverseAux, List.cons_append, List.nil_append, Option.toList, Int.toNat, Int.reduceToNat, if_pos, if_neg, reduceIte, ↓reduceIte, Nat.reduceAdd, Nat.reduceEqDiff, Nat.reduceBEq, beq_self_eq_true, Bool.not_true, Bool.not_false, Bool.and_true, Bool.and_false, Bool.true_and, Bool.false_and, gI_sI, gI_sL, gI_sA, gI_sM, gL_sI, gL_sL, gL_sA, gL_sM, aI_sI, aI_sL, aI_sA, aI_sM, aL_sI, aL_sL, aL_sA, aL_sM]; try dsimp only
          unfold Qv_widens
          try dsimp only
          exact ⟨rfl, 1, rfl, b01 (by omega)⟩
        · have c20 : ¬ (a).toInt = 1 := fun q => h20 ((cI (rfl : (a).toInt = (a).toInt) (rfl : (1 : Int32).toInt = 1)).1.mpr q)
          refine hB _ _ _ _ _ (fun m23 hm23 => ?_)
          dsimp only [ugo, uwp, ust, uct, rfd, Bwidens, Bwidens_17, Nat.beq, lv_args, rlk, rs1, rs2, rdl, rky, rcd, rno, rsw, Value.category, List.filter, List.take, List.drop, List.reverse, List.reverseAux, List.cons_append, List.nil_append, Option.toList, Int.toNat, Int.reduceToNat, if_pos, if_neg, reduceIte, ↓reduceIte, Nat.reduceAdd, Nat.reduceEqDiff, Nat.reduceBEq, beq_self_eq_true, Bool.not_true, Bool.not_false, Bool.and_true, Bool.and_false, Bool.true_and, Bool.false_and, gI_sI, gI_sL, gI_sA, gI_sM, gL_sI, gL_sL, gL_sA, gL_sM, aI_sI, aI_sL, aI_sA, aI_sM, aL_sI, aL_sL, aL_sA, aL_sM, oi_2]; try dsimp only
          refine ⟨fun h24 => ?_, fun h24 => ?_⟩
          · have c24 : (a).toInt = 2 := (cI (rfl : (a).toInt = (a).toInt) (rfl : (2 : Int32).toInt = 2)).1.mp h24
            refine hB _ _ _ _ _ (fun m25 hm25 => ?_)
            dsimp only [ugo, uwp, ust, uct, rfd, Bwidens, Bwidens_37, Nat.beq, lv_args, rlk, rs1, rs2, rdl, rky, rcd, rno, rsw, Value.category, List.filter, List.take, List.drop, List.reverse, List.reverseAux, List.cons_append, List.nil_append, Option.toList, Int.toNat, Int.reduceToNat, if_pos, if_neg, reduceIte, ↓reduceIte, Nat.reduceAdd, Nat.reduceEqDiff, Nat.reduceBEq, beq_self_eq_true, Bool.not_true, Bool.not_false, Bool.and_true, Bool.and_false, Bool.true_and, Bool.false_and, gI_sI, gI_sL, gI_sA, gI_sM, gL_sI, gL_sL, gL_sA, gL_sM, aI_sI, aI_sL, aI_sA, aI_sM, aL_sI, aL_sL, aL_sA, aL_sM, oi_1]; try dsimp only
            refine hB _ _ _ _ _ (fun m26 hm26 => ?_)
            dsimp only [ugo, uwp, ust, uct, rfd, Bwidens, Bwidens_42, Nat.beq, lv_args, rlk, rs1, rs2, rdl, rky, rcd, rno, rsw, Value.category, List.filter, List.take, List.drop, List.reverse, List.reverseAux, List.cons_append, List.nil_append, Option.toList, Int.toNat, Int.reduceToNat, if_pos, if_neg, reduceIte, ↓reduceIte, Nat.reduceAdd, Nat.reduceEqDiff, Nat.reduceBEq, beq_self_eq_true, Bool.not_true, Bool.not_false, Bool.and_true, Bool.and_false, Bool.true_and, Bool.false_and, gI_sI, gI_sL, gI_sA, gI_sM, gL_sI, gL_sL, gL_sA, gL_sM, aI_sI, aI_sL, aI_sA, aI_sM, aL_sI, aL_sL, aL_sA, aL_sM]; try dsimp only
            unfold Qv_widens
            try dsimp only
            exact ⟨rfl, 1, rfl, b01 (by omega)⟩
          · have c24 : ¬ (a).toInt = 2 := fun q => h24 ((cI (rfl : (a).toInt = (a).toInt) (rfl : (2 : Int32).toInt = 2)).1.mpr q)
            refine hB _ _ _ _ _ (fun m27 hm27 => ?_)
            dsimp only [ugo, uwp, ust, uct, rfd, Bwidens, Bwidens_22, Nat.beq, lv_args, rlk, rs1, rs2, rdl, rky, rcd, rno, rsw, Value.category, List.filter, List.take, List.drop, List.reverse, List.reverseAux, List.cons_append, List.nil_append, Option.toList, Int.toNat, Int.reduceToNat, if_pos, if_neg, reduceIte, ↓reduceIte, Nat.reduceAdd, Nat.reduceEqDiff, Nat.reduceBEq, beq_self_eq_true, Bool.not_true, Bool.not_false, Bool.and_true, Bool.and_false, Bool.true_and, Bool.false_and, gI_sI, gI_sL, gI_sA, gI_sM, gL_sI, gL_sL, gL_sA, gL_sM, aI_sI, aI_sL, aI_sA, aI_sM, aL_sI, aL_sL, aL_sA, aL_sM, oi_4]; try dsimp only
            refine ⟨fun h28 => ?_, fun h28 => ?_⟩
            · have c28 : ¬ (b).toInt = 4 := fun q => h28 ((cI (rfl : (b).toInt = (b).toInt) (rfl : (4 : Int32).toInt = 4)).1.mpr q)
              refine hB _ _ _ _ _ (fun m29 hm29 => ?_)
              dsimp only [ugo, uwp, ust, uct, rfd, Bwidens, Bwidens_41, Nat.beq, lv_args, rlk, rs1, rs2, rdl, rky, rcd, rno, rsw, Value.category, List.filter, List.take, List.drop, List.reverse, List.reverseAux, List.cons_append, List.nil_append, Option.toList, Int.toNat, Int.reduceToNat, if_pos, if_neg, reduceIte, ↓reduceIte, Nat.reduceAdd, Nat.reduceEqDiff, Nat.reduceBEq, beq_self_eq_true, Bool.not_true, Bool.not_false, Bool.and_true, Bool.and_false, Bool.true_and, Bool.false_and, gI_sI, gI_sL, gI_sA, gI_sM, gL_sI, gL_sL, gL_sA, gL_sM, aI_sI, aI_sL, aI_sA, aI_sM, aL_sI, aL_sL, aL_sA, aL_sM, oi_0]; try dsimp only
              refine hB _ _ _ _ _ (fun m30 hm30 => ?_)
              dsimp only [ugo, uwp, ust, uct, rfd, Bwidens, Bwidens_42, Nat.beq, lv_args, rlk, rs1, rs2, rdl, rky, rcd, rno, rsw, Value.category, List.filter, List.take, List.drop, List.reverse, List.reverseAux, List.cons_append, List.nil_append, Option.toList, Int.toNat, Int.reduceToNat, if_pos, if_neg, reduceIte, ↓reduceIte, Nat.reduceAdd, Nat.reduceEqDiff, Nat.reduceBEq, beq_self_eq_true, Bool.not_true, Bool.not_false, Bool.and_true, Bool.and_false, Bool.true_and, Bool.false_and, gI_sI, gI_sL, gI_sA, gI_sM, gL_sI, gL_sL, gL_sA, gL_sM, aI_sI, aI_sL, aI_sA, aI_sM, aL_sI, aL_sL, aL_sA, aL_sM]; try dsimp only
              unfold Qv_widens
              try dsimp only
              exact ⟨rfl, 0, rfl, b00 (by omega)⟩
            · have c28 : (b).toInt = 4 := (cI (rfl : (b).toInt = (b).toInt) (rfl : (4 : Int32).toInt = 4)).1.mp h28
              refine hB _ _ _ _ _ (fun m31 hm31 => ?_)
              dsimp only [ugo, uwp, ust, uct, rfd, Bwidens, Bwidens_27, Nat.beq, lv_args, rlk, rs1, rs2, rdl, rky, rcd, rno, rsw, Value.category, List.filter, List.take, List.drop, List.reverse, List.reverseAux, List.cons_append, List.nil_append, Option.toList, Int.toNat, Int.reduceToNat, if_pos, if_neg, reduceIte, ↓reduceIte, Nat.reduceAdd, Nat.reduceEqDiff, Nat.reduceBEq, beq_self_eq_true, Bool.not_true, Bool.not_false, Bool.and_true, Bool.and_false, Bool.true_and, Bool.false_and, gI_sI, gI_sL, gI_sA, gI_sM, gL_sI, gL_sL, gL_sA, gL_sM, aI_sI, aI_sL, aI_sA, aI_sM, aL_sI, aL_sL, aL_sA, aL_sM, oi_1]; try dsimp only
              refine ⟨fun h32 => ?_, fun h32 => ?_⟩
              · have c32 : (a).toInt < 1 := (cI (rfl : (a).toInt = (a).toInt) (rfl : (1 : Int32).toInt = 1)).2.1.mp h32
                refine hB _ _ _ _ _ (fun m33 hm33 => ?_)
                dsimp only [ugo, uwp, ust, uct, rfd, Bwidens, Bwidens_41, Nat.beq, lv_args, rlk, rs1, rs2, rdl, rky, rcd, rno, rsw, Value.category, List.filter, List.take, List.drop, List.reverse, List.reverseAux, List.cons_append, List.nil_append, Option.toList, Int.toNat, Int.reduceToNat, if_pos, if_neg, reduceIte, ↓reduceIte, Nat.reduceAdd, Nat.reduceEqDiff, Nat.reduceBEq, beq_self_eq_true, Bool.not_true, Bool.not_false, Bool.and_true, Bool.and_false, Bool.true_and, Bool.false_and, gI_sI, gI_sL, gI_sA, gI_sM, gL_sI, gL_sL, gL_sA, gL_sM, aI_sI, aI_sL, aI_sA, aI_sM, aL_sI, aL_sL, aL_sA, aL_sM, oi_0]; try dsimp only
                refine hB _ _ _ _ _ (fun m34 hm34 => ?_)
                dsimp only [ugo, uwp, ust, uct, rfd, Bwidens, Bwidens_42, Nat.beq, lv_args, rlk, rs1, rs2, rdl, rky, rcd, rno, rsw, Value.category, List.filter, List.take, List.drop, List.reverse, List.reverseAux, List.cons_append, List.nil_append, Option.toList, Int.toNat, Int.reduceToNat, if_pos, if_neg, reduceIte, ↓reduceIte, Nat.reduceAdd, Nat.reduceEqDiff, Nat.reduceBEq, beq_self_eq_true, Bool.not_true, Bool.not_false, Bool.and_true, Bool.and_false, Bool.true_and, Bool.false_and, gI_sI, gI_sL, gI_sA, gI_sM, gL_sI, gL_sL, gL_sA, gL_sM, aI_sI, aI_sL, aI_sA, aI_sM, aL_sI, aL_sL, aL_sA, aL_sM]; try dsimp only
                unfold Qv_widens
                try dsimp only
                exact ⟨rfl, 0, rfl, b00 (by omega)⟩
              · have c32 : 1 ≤ (a).toInt := (cI (rfl : (a).toInt = (a).toInt) (rfl : (1 : Int32).toInt = 1)).2.2.2.2.mp (by first | exact h32 | exact Int32.not_lt.mp h32 | exact Int32.not_le.mp h32)
                refine hB _ _ _ _ _ (fun m35 hm35 => ?_)
                dsimp only [ugo, uwp, ust, uct, rfd, Bwidens, Bwidens_32, Nat.beq, lv_args, rlk, rs1, rs2, rdl, rky, rcd, rno, rsw, Value.category, List.filter, List.take, List.drop, List.reverse, List.reverseAux, List.cons_append, List.nil_append, Option.toList, Int.toNat, Int.reduceToNat, if_pos, if_neg, reduceIte, ↓reduceIte, Nat.reduceAdd, Nat.reduceEqDiff, Nat.reduceBEq, beq_self_eq_true, Bool.not_true, Bool.not_false, Bool.and_true, Bool.and_false, Bool.true_and, Bool.false_and, gI_sI, gI_sL, gI_sA, gI_sM, gL_sI, gL_sL, gL_sA, gL_sM, aI_sI, aI_sL, aI_sA, aI_sM, aL_sI, aL_sL, aL_sA, aL_sM, oi_3]; try dsimp only
                refine ⟨fun h36 => ?_, fun h36 => ?_⟩
                · have c36 : 3 < (a).toInt := (cI (rfl : (a).toInt = (a).toInt) (rfl : (3 : Int32).toInt = 3)).2.2.2.1.mp h36
                  refine hB _ _ _ _ _ (fun m37 hm37 => ?_)
                  dsimp only [ugo, uwp, ust, uct, rfd, Bwidens, Bwidens_41, Nat.beq, lv_args, rlk, rs1, rs2, rdl, rky, rcd, rno, rsw, Value.category, List.filter, List.take, List.drop, List.reverse, List.reverseAux, List.cons_append, List.nil_append, Option.toList, Int.toNat, Int.reduceToNat, if_pos, if_neg, reduceIte, ↓reduceIte, Nat.reduceAdd, Nat.reduceEqDiff, Nat.reduceBEq, beq_self_eq_true, Bool.not_true, Bool.not_false, Bool.and_true, Bool.and_false, Bool.true_and, Bool.false_and, gI_sI, gI_sL, gI_sA, gI_sM, gL_sI, gL_sL, gL_sA, gL_sM, aI_sI, aI_sL, aI_sA, aI_sM, aL_sI, aL_sL, aL_sA, aL_sM, oi_0]; try dsimp only
                  refine hB _ _ _ _ _ (fun m38 hm38 => ?_)
                  dsimp only [ugo, uwp, ust, uct, rfd, Bwidens, Bwidens_42, Nat.beq, lv_args, rlk, rs1, rs2, rdl, rky, rcd, rno, rsw, Value.category, List.filter, List.take, List.drop, List.reverse, List.reverseAux, List.cons_append, List.nil_append, Option.toList, Int.toNat, Int.reduceToNat, if_pos, if_neg, reduceIte, ↓reduceIte, Nat.reduceAdd, Nat.reduceEqDiff, Nat.reduceBEq, beq_self_eq_true, Bool.not_true, Bool.not_false, Bool.and_true, Bool.and_false, Bool.true_and, Bool.false_and, gI_sI, gI_sL, gI_sA, gI_sM, gL_sI, gL_sL, gL_sA, gL_sM, aI_sI, aI_sL, aI_sA, aI_sM, aL_sI, aL_sL, aL_sA, aL_sM]; try dsimp only
                  unfold Qv_widens
                  try dsimp only
                  exact ⟨rfl, 0, rfl, b00 (by omega)⟩
                · have c36 : (a).toInt ≤ 3 := (cI (rfl : (a).toInt = (a).toInt) (rfl : (3 : Int32).toInt = 3)).2.2.1.mp (by first | exact h36 | exact Int32.not_lt.mp h36 | exact Int32.not_le.mp h36)
                  refine hB _ _ _ _ _ (fun m39 hm39 => ?_)
                  dsimp only [ugo, uwp, ust, uct, rfd, Bwidens, Bwidens_37, Nat.beq, lv_args, rlk, rs1, rs2, rdl, rky, rcd, rno, rsw, Value.category, List.filter, List.take, List.drop, List.reverse, List.reverseAux, List.cons_append, List.nil_append, Option.toList, Int.toNat, Int.reduceToNat, if_pos, if_neg, reduceIte, ↓reduceIte, Nat.reduceAdd, Nat.reduceEqDiff, Nat.reduceBEq, beq_self_eq_true, Bool.not_true, Bool.not_false, Bool.and_true, Bool.and_false, Bool.true_and, Bool.false_and, gI_sI, gI_sL, gI_sA, gI_sM, gL_sI, gL_sL, gL_sA, gL_sM, aI_sI, aI_sL, aI_sA, aI_sM, aL_sI, aL_sL, aL_sA, aL_sM, oi_1]; try dsimp only
                  refine hB _ _ _ _ _ (fun m40 hm40 => ?_)
                  dsimp only [ugo, uwp, ust, uct, rfd, Bwidens, Bwidens_42, Nat.beq, lv_args, rlk, rs1, rs2, rdl, rky, rcd, rno, rsw, Value.category, List.filter, List.take, List.drop, List.reverse, List.reverseAux, List.cons_append, List.nil_append, Option.toList, Int.toNat, Int.reduceToNat, if_pos, if_neg, reduceIte, ↓reduceIte, Nat.reduceAdd, Nat.reduceEqDiff, Nat.reduceBEq, beq_self_eq_true, Bool.not_true, Bool.not_false, Bool.and_true, Bool.and_false, Bool.true_and, Bool.false_and, gI_sI, gI_sL, gI_sA, gI_sM, gL_sI, gL_sL, gL_sA, gL_sM, aI_sI, aI_sL, aI_sA, aI_sM, aL_sI, aL_sL, aL_sA, aL_sM]; try dsimp only
                  unfold Qv_widens
                  try dsimp only
                  exact ⟨rfl, 1, rfl, b01 (by omega)⟩
    · have c2 : (a).toInt = (b).toInt := (cI (rfl : (a).toInt = (a).toInt) (rfl : (b).toInt = (b).toInt)).1.mp h2
      refine hB _ _ _ _ _ (fun m41 hm41 => ?_)
      dsimp only [ugo, uwp, ust, uct, rfd, Bwidens, Bwidens_5, Nat.beq, lv_args, rlk, rs1, rs2, rdl, rky, rcd, rno, rsw, Value.category, List.filter, List.take, List.drop, List.reverse, List.reverseAux, List.cons_append, List.nil_append, Option.toList, Int.toNat, Int.reduceToNat, if_pos, if_neg, reduceIte, ↓reduceIte, Nat.reduceAdd, Nat.reduceEqDiff, Nat.reduceBEq, beq_self_eq_true, Bool.not_true, Bool.not_false, Bool.and_true, Bool.and_false, Bool.true_and, Bool.false_and, gI_sI, gI_sL, gI_sA, gI_sM, gL_sI, gL_sL, gL_sA, gL_sM, aI_sI, aI_sL, aI_sA, aI_sM, aL_sI, aL_sL, aL_sA, aL_sM, oi_1]; try dsimp only
      unfold Qv_widens
      try dsimp only
      exact ⟨rfl, 1, rfl, b01 (by omega)⟩
  next => exact hP.elim
theorem w_widens : UMet 73 (fun _ _ => True) Qw_widens := fun A1 σ _ w τ h hP => v_widens A1 σ hP w τ h
def Pv_holdsValue : UP1 := fun A1 σ => match A1 with
  | [.int type, .long v] => True
  | _ => False
def Qv_holdsValue : UQ1 := fun A1 σ w τ => match A1 with
  | [.int type, .long v] => σ = τ ∧ ∃ b : Int32, w = some (.int b) ∧ (¬ b = 0 ↔ hvT type.toInt v)
  | _ => False
def Qw_holdsValue : UQ1 := fun A1 σ w τ => Pv_holdsValue A1 σ → Qv_holdsValue A1 σ w τ
set_option maxRecDepth 100000 in
set_option maxHeartbeats 4000000 in
theorem v_holdsValue : UMet 74 (Pv_holdsValue) (Qv_holdsValue) := by
  refine UMet.by BholdsValue [] rfl uc0 ?_
  intro A1 σ hP K hB hW
  unfold Pv_holdsValue at hP
  split at hP
  next type v =>
    intro n0
    refine hB _ _ _ _ _ (fun m1 hm1 => ?_)
    dsimp only [ugo, uwp, ust, uct, rfd, BholdsValue, BholdsValue_0, Nat.beq, lv_args, rlk, rs1, rs2, rdl, rky, rcd, rno, rsw, Value.category, List.filter, List.take, List.drop, List.reverse, List.reverseAux, List.cons_append, List.nil_append, Option.toList, Int.toNat, Int.reduceToNat, if_pos, if_neg, reduceIte, ↓reduceIte, Nat.reduceAdd, Nat.reduceEqDiff, Nat.reduceBEq, beq_self_eq_true, Bool.not_true, Bool.not_false, Bool.and_true, Bool.and_false, Bool.true_and, Bool.false_and, gI_sI, gI_sL, gI_sA, gI_sM, gL_sI, gL_sL, gL_sA, gL_sM, aI_sI, aI_sL, aI_sA, aI_sM, aL_sI, aL_sL, aL_sA, aL_sM, oi_1]; try dsimp only
    refine ⟨fun h2 => ?_, fun h2 => ?_⟩
    · have c2 : ¬ (type).toInt = 1 := fun q => h2 ((cI (rfl : (type).toInt = (type).toInt) (rfl : (1 : Int32).toInt = 1)).1.mpr q)
      refine hB _ _ _ _ _ (fun m3 hm3 => ?_)
      dsimp only [ugo, uwp, ust, uct, rfd, BholdsValue, BholdsValue_29, Nat.beq, lv_args, rlk, rs1, rs2, rdl, rky, rcd, rno, rsw, Value.category, List.filter, List.take, List.drop, List.reverse, List.reverseAux, List.cons_append, List.nil_append, Option.toList, Int.toNat, Int.reduceToNat, if_pos, if_neg, reduceIte, ↓reduceIte, Nat.reduceAdd, Nat.reduceEqDiff, Nat.reduceBEq, beq_self_eq_true, Bool.not_true, Bool.not_false, Bool.and_true, Bool.and_false, Bool.true_and, Bool.false_and, gI_sI, gI_sL, gI_sA, gI_sM, gL_sI, gL_sL, gL_sA, gL_sM, aI_sI, aI_sL, aI_sA, aI_sM, aL_sI, aL_sL, aL_sA, aL_sM, oi_2]; try dsimp only
      refine ⟨fun h4 => ?_, fun h4 => ?_⟩
      · have c4 : ¬ (type).toInt = 2 := fun q => h4 ((cI (rfl : (type).toInt = (type).toInt) (rfl : (2 : Int32).toInt = 2)).1.mpr q)
        refine hB _ _ _ _ _ (fun m5 hm5 => ?_)
        dsimp only [ugo, uwp, ust, uct, rfd, BholdsValue, BholdsValue_56, Nat.beq, lv_args, rlk, rs1, rs2, rdl, rky, rcd, rno, rsw, Value.category, List.filter, List.take, List.drop, List.reverse, List.reverseAux, List.cons_append, List.nil_append, Option.toList, Int.toNat, Int.reduceToNat, if_pos, if_neg, reduceIte, ↓reduceIte, Nat.reduceAdd, Nat.reduceEqDiff, Nat.reduceBEq, beq_self_eq_true, Bool.not_true, Bool.not_false, Bool.and_true, Bool.and_false, Bool.true_and, Bool.false_and, gI_sI, gI_sL, gI_sA, gI_sM, gL_sI, gL_sL, gL_sA, gL_sM, aI_sI, aI_sL, aI_sA, aI_sM, aL_sI, aL_sL, aL_sA, aL_sM, oi_1]; try dsimp only
        refine hB _ _ _ _ _ (fun m6 hm6 => ?_)
        dsimp only [ugo, uwp, ust, uct, rfd, BholdsValue, BholdsValue_57, Nat.beq, lv_args, rlk, rs1, rs2, rdl, rky, rcd, rno, rsw, Value.category, List.filter, List.take, List.drop, List.reverse, List.reverseAux, List.cons_append, List.nil_append, Option.toList, Int.toNat, Int.reduceToNat, if_pos, if_neg, reduceIte, ↓reduceIte, Nat.reduceAdd, Nat.reduceEqDiff, Nat.reduceBEq, beq_self_eq_true, Bool.not_true, Bool.not_false, Bool.and_true, Bool.and_false, Bool.true_and, Bool.false_and, gI_sI, gI_sL, gI_sA, gI_sM, gL_sI, gL_sL, gL_sA, gL_sM, aI_sI, aI_sL, aI_sA, aI_sM, aL_sI, aL_sL, aL_sA, aL_sM]; try dsimp only
        unfold Qv_holdsValue
        try dsimp only
        exact ⟨rfl, 1, rfl, b01 (by unfold hvT; have e1 : (Int64.ofInt (-128)).toInt = -128 := rfl; have e2 : (Int64.ofInt 127).toInt = 127 := rfl; have e3 : (Int64.ofInt 65535).toInt = 65535 := rfl; have e4 : (0 : Int64).toInt = 0 := rfl; split <;> (try split) <;> first | trivial | omega)⟩
      · have c4 : (type).toInt = 2 := (cI (rfl : (type).toInt = (type).toInt) (rfl : (2 : Int32).toInt = 2)).1.mp h4
        refine hB _ _ _ _ _ (fun m7 hm7 => ?_)
        dsimp only [ugo, uwp, ust, uct, rfd, BholdsValue, BholdsValue_34, Nat.beq, lv_args, rlk, rs1, rs2, rdl, rky, rcd, rno, rsw, Value.category, List.filter, List.take, List.drop, List.reverse, List.reverseAux, List.cons_append, List.nil_append, Option.toList, Int.toNat, Int.reduceToNat, if_pos, if_neg, reduceIte, ↓reduceIte, Nat.reduceAdd, Nat.reduceEqDiff, Nat.reduceBEq, beq_self_eq_true, Bool.not_true, Bool.not_false, Bool.and_true, Bool.and_false, Bool.true_and, Bool.false_and, gI_sI, gI_sL, gI_sA, gI_sM, gL_sI, gL_sL, gL_sA, gL_sM, aI_sI, aI_sL, aI_sA, aI_sM, aL_sI, aL_sL, aL_sA, aL_sM]; try dsimp only
        refine ⟨fun h8 => ?_, fun h8 => ?_⟩
        · have c8 : (v).toInt < ((0 : Int64)).toInt := (cL (a := (0 : Int64)) (b := v)).2.1.mp h8
          refine hB _ _ _ _ _ (fun m9 hm9 => ?_)
          dsimp only [ugo, uwp, ust, uct, rfd, BholdsValue, BholdsValue_52, Nat.beq, lv_args, rlk, rs1, rs2, rdl, rky, rcd, rno, rsw, Value.category, List.filter, List.take, List.drop, List.reverse, List.reverseAux, List.cons_append, List.nil_append, Option.toList, Int.toNat, Int.reduceToNat, if_pos, if_neg, reduceIte, ↓reduceIte, Nat.reduceAdd, Nat.reduceEqDiff, Nat.reduceBEq, beq_self_eq_true, Bool.not_true, Bool.not_false, Bool.and_true, Bool.and_false, Bool.true_and, Bool.false_and, gI_sI, gI_sL, gI_sA, gI_sM, gL_sI, gL_sL, gL_sA, gL_sM, aI_sI, aI_sL, aI_sA, aI_sM, aL_sI, aL_sL, aL_sA, aL_sM, oi_0]; try dsimp only
          refine hB _ _ _ _ _ (fun m10 hm10 => ?_)
          dsimp only [ugo, uwp, ust, uct, rfd, BholdsValue, BholdsValue_57, Nat.beq, lv_args, rlk, rs1, rs2, rdl, rky, rcd, rno, rsw, Value.category, List.filter, List.take, List.drop, List.reverse, List.reverseAux, List.cons_append, List.nil_append, Option.toList, Int.toNat, Int.reduceToNat, if_pos, if_neg, reduceIte, ↓reduceIte, Nat.reduceAdd, Nat.reduceEqDiff, Nat.reduceBEq, beq_self_eq_true, Bool.not_true, Bool.not_false, Bool.and_true, Bool.and_false, Bool.true_and, Bool.false_and, gI_sI, gI_sL, gI_sA, gI_sM, gL_sI, gL_sL, gL_sA, gL_sM, aI_sI, aI_sL, aI_sA, aI_sM, aL_sI, aL_sL, aL_sA, aL_sM]; try dsimp only
          unfold Qv_holdsValue
          try dsimp only
          exact ⟨rfl, 0, rfl, b00 (by unfold hvT; have e1 : (Int64.ofInt (-128)).toInt = -128 := rfl; have e2 : (Int64.ofInt 127).toInt = 127 := rfl; have e3 : (Int64.ofInt 65535).toInt = 65535 := rfl; have e4 : (0 : Int64).toInt = 0 := rfl; split <;> (try split) <;> first | trivial | omega)⟩
        · have c8 : ((0 : Int64)).toInt ≤ (v).toInt := (cL (a := (0 : Int64)) (b := v)).2.2.2.2.mp (by first | exact h8 | exact Int32.not_lt.mp h8 | exact Int32.not_le.mp h8)
          refine hB _ _ _ _ _ (fun m11 hm11 => ?_)
          dsimp only [ugo, uwp, ust, uct, rfd, BholdsValue, BholdsValue_40, Nat.beq, lv_args, rlk, rs1, rs2, rdl, rky, rcd, rno, rsw, Value.category, List.filter, List.take, List.drop, List.reverse, List.reverseAux, List.cons_append, List.nil_append, Option.toList, Int.toNat, Int.reduceToNat, if_pos, if_neg, reduceIte, ↓reduceIte, Nat.reduceAdd, Nat.reduceEqDiff, Nat.reduceBEq, beq_self_eq_true, Bool.not_true, Bool.not_false, Bool.and_true, Bool.and_false, Bool.true_and, Bool.false_and, gI_sI, gI_sL, gI_sA, gI_sM, gL_sI, gL_sL, gL_sA, gL_sM, aI_sI, aI_sL, aI_sA, aI_sM, aL_sI, aL_sL, aL_sA, aL_sM]; try dsimp only
          refine ⟨fun h12 => ?_, fun h12 => ?_⟩
          · have c12 : ((Int64.ofInt 65535)).toInt < (v).toInt := (cL (a := (Int64.ofInt 65535)) (b := v)).2.2.1.mp h12
            refine hB _ _ _ _ _ (fun m13 hm13 => ?_)
            dsimp only [ugo, uwp, ust, uct, rfd, BholdsValue, BholdsValue_52, Nat.beq, lv_args, rlk, rs1, rs2, rdl, rky, rcd, rno, rsw, Value.category, List.filter, List.take, List.drop, List.reverse, List.reverseAux, List.cons_append, List.nil_append, Option.toList, Int.toNat, Int.reduceToNat, if_pos, if_neg, reduceIte, ↓reduceIte, Nat.reduceAdd, Nat.reduceEqDiff, Nat.reduceBEq, beq_self_eq_true, Bool.not_true, Bool.not_false, Bool.and_true, Bool.and_false, Bool.true_and, Bool.false_and, gI_sI, gI_sL, gI_sA, gI_sM, gL_sI, gL_sL, gL_sA, gL_sM, aI_sI, aI_sL, aI_sA, aI_sM, aL_sI, aL_sL, aL_sA, aL_sM, oi_0]; try dsimp only
            refine hB _ _ _ _ _ (fun m14 hm14 => ?_)
            dsimp only [ugo, uwp, ust, uct, rfd, BholdsValue, BholdsValue_57, Nat.beq, lv_args, rlk, rs1, rs2, rdl, rky, rcd, rno, rsw, Value.category, List.filter, List.take, List.drop, List.reverse, List.reverseAux, List.cons_append, List.nil_append, Option.toList, Int.toNat, Int.reduceToNat, if_pos, if_neg, reduceIte, ↓reduceIte, Nat.reduceAdd, Nat.reduceEqDiff, Nat.reduceBEq, beq_self_eq_true, Bool.not_true, Bool.not_false, Bool.and_true, Bool.and_false, Bool.true_and, Bool.false_and, gI_sI, gI_sL, gI_sA, gI_sM, gL_sI, gL_sL, gL_sA, gL_sM, aI_sI, aI_sL, aI_sA, aI_sM, aL_sI, aL_sL, aL_sA, aL_sM]; try dsimp only
            unfold Qv_holdsValue
            try dsimp only
            exact ⟨rfl, 0, rfl, b00 (by unfold hvT; have e1 : (Int64.ofInt (-128)).toInt = -128 := rfl; have e2 : (Int64.ofInt 127).toInt = 127 := rfl; have e3 : (Int64.ofInt 65535).toInt = 65535 := rfl; have e4 : (0 : Int64).toInt = 0 := rfl; split <;> (try split) <;> first | trivial | omega)⟩
          · have c12 : (v).toInt ≤ ((Int64.ofInt 65535)).toInt := (cL (a := (Int64.ofInt 65535)) (b := v)).2.2.2.1.mp (by first | exact h12 | exact Int32.not_lt.mp h12 | exact Int32.not_le.mp h12)
            refine hB _ _ _ _ _ (fun m15 hm15 => ?_)
            dsimp only [ugo, uwp, ust, uct, rfd, BholdsValue, BholdsValue_48, Nat.beq, lv_args, rlk, rs1, rs2, rdl, rky, rcd, rno, rsw, Value.category, List.filter, List.take, List.drop, List.reverse, List.reverseAux, List.cons_append, List.nil_append, Option.toList, Int.toNat, Int.reduceToNat, if_pos, if_neg, reduceIte, ↓reduceIte, Nat.reduceAdd, Nat.reduceEqDiff, Nat.reduceBEq, beq_self_eq_true, Bool.not_true, Bool.not_false, Bool.and_true, Bool.and_false, Bool.true_and, Bool.false_and, gI_sI, gI_sL, gI_sA, gI_sM, gL_sI, gL_sL, gL_sA, gL_sM, aI_sI, aI_sL, aI_sA, aI_sM, aL_sI, aL_sL, aL_sA, aL_sM, oi_1]; try dsimp only
            refine hB _ _ _ _ _ (fun m16 hm16 => ?_)
            dsimp only [ugo, uwp, ust, uct, rfd, BholdsValue, BholdsValue_57, Nat.beq, lv_args, rlk, rs1, rs2, rdl, rky, rcd, rno, rsw, Value.category, List.filter, List.take, List.drop, List.reverse, List.reverseAux, List.cons_append, List.nil_append, Option.toList, Int.toNat, Int.reduceToNat, if_pos, if_neg, reduceIte, ↓reduceIte, Nat.reduceAdd, Nat.reduceEqDiff, Nat.reduceBEq, beq_self_eq_true, Bool.not_true, Bool.not_false, Bool.and_true, Bool.and_false, Bool.true_and, Bool.false_and, gI_sI, gI_sL, gI_sA, gI_sM, gL_sI, gL_sL, gL_sA, gL_sM, aI_sI, aI_sL, aI_sA, aI_sM, aL_sI, aL_sL, aL_sA, aL_sM]; try dsimp only
            unfold Qv_holdsValue
            try dsimp only
            exact ⟨rfl, 1, rfl, b01 (by unfold hvT; have e1 : (Int64.ofInt (-128)).toInt = -128 := rfl; have e2 : (Int64.ofInt 127).toInt = 127 := rfl; have e3 : (Int64.ofInt 65535).toInt = 65535 := rfl; have e4 : (0 : Int64).toInt = 0 := rfl; split <;> (try split) <;> first | trivial | omega)⟩
    · have c2 : (type).toInt = 1 := (cI (rfl : (type).toInt = (type).toInt) (rfl : (1 : Int32).toInt = 1)).1.mp h2
      refine hB _ _ _ _ _ (fun m17 hm17 => ?_)
      dsimp only [ugo, uwp, ust, uct, rfd, BholdsValue, BholdsValue_5, Nat.beq, lv_args, rlk, rs1, rs2, rdl, rky, rcd, rno, rsw, Value.category, List.filter, List.take, List.drop, List.reverse, List.reverseAux, List.cons_append, List.nil_append, Option.toList, Int.toNat, Int.reduceToNat, if_pos, if_neg, reduceIte, ↓reduceIte, Nat.reduceAdd, Nat.reduceEqDiff, Nat.reduceBEq, beq_self_eq_true, Bool.not_true, Bool.not_false, Bool.and_true, Bool.and_false, Bool.true_and, Bool.false_and, gI_sI, gI_sL, gI_sA, gI_sM, gL_sI, gL_sL, gL_sA, gL_sM, aI_sI, aI_sL, aI_sA, aI_sM, aL_sI, aL_sL, aL_sA, aL_sM]; try dsimp only
      refine ⟨fun h18 => ?_, fun h18 => ?_⟩
      · have c18 : (v).toInt < ((Int64.ofInt (-128))).toInt := (cL (a := (Int64.ofInt (-128))) (b := v)).2.1.mp h18
        refine hB _ _ _ _ _ (fun m19 hm19 => ?_)
        dsimp only [ugo, uwp, ust, uct, rfd, BholdsValue, BholdsValue_25, Nat.beq, lv_args, rlk, rs1, rs2, rdl, rky, rcd, rno, rsw, Value.category, List.filter, List.take, List.drop, List.reverse, List.reverseAux, List.cons_append, List.nil_append, Option.toList, Int.toNat, Int.reduceToNat, if_pos, if_neg, reduceIte, ↓reduceIte, Nat.reduceAdd, Nat.reduceEqDiff, Nat.reduceBEq, beq_self_eq_true, Bool.not_true, Bool.not_false, Bool.and_true, Bool.and_false, Bool.true_and, Bool.false_and, gI_sI, gI_sL, gI_sA, gI_sM, gL_sI, gL_sL, gL_sA, gL_sM, aI_sI, aI_sL, aI_sA, aI_sM, aL_sI, aL_sL, aL_sA, aL_sM, oi_0]; try dsimp only
        refine hB _ _ _ _ _ (fun m20 hm20 => ?_)
        dsimp only [ugo, uwp, ust, uct, rfd, BholdsValue, BholdsValue_57, Nat.beq, lv_args, rlk, rs1, rs2, rdl, rky, rcd, rno, rsw, Value.category, List.filter, List.take, List.drop, List.reverse, List.reverseAux, List.cons_append, List.nil_append, Option.toList, Int.toNat, Int.reduceToNat, if_pos, if_neg, reduceIte, ↓reduceIte, Nat.reduceAdd, Nat.reduceEqDiff, Nat.reduceBEq, beq_self_eq_true, Bool.not_true, Bool.not_false, Bool.and_true, Bool.and_false, Bool.true_and, Bool.false_and, gI_sI, gI_sL, gI_sA, gI_sM, gL_sI, gL_sL, gL_sA, gL_sM, aI_sI, aI_sL, aI_sA, aI_sM, aL_sI, aL_sL, aL_sA, aL_sM]; try dsimp only
        unfold Qv_holdsValue
        try dsimp only
        exact ⟨rfl, 0, rfl, b00 (by unfold hvT; have e1 : (Int64.ofInt (-128)).toInt = -128 := rfl; have e2 : (Int64.ofInt 127).toInt = 127 := rfl; have e3 : (Int64.ofInt 65535).toInt = 65535 := rfl; have e4 : (0 : Int64).toInt = 0 := rfl; split <;> (try split) <;> first | trivial | omega)⟩
      · have c18 : ((Int64.ofInt (-128))).toInt ≤ (v).toInt := (cL (a := (Int64.ofInt (-128))) (b := v)).2.2.2.2.mp (by first | exact h18 | exact Int32.not_lt.mp h18 | exact Int32.not_le.mp h18)
        refine hB _ _ _ _ _ (fun m21 hm21 => ?_)
        dsimp only [ugo, uwp, ust, uct, rfd, BholdsValue, BholdsValue_13, Nat.beq, lv_args, rlk, rs1, rs2, rdl, rky, rcd, rno, rsw, Value.category, List.filter, List.take, List.drop, List.reverse, List.reverseAux, List.cons_append, List.nil_append, Option.toList, Int.toNat, Int.reduceToNat, if_pos, if_neg, reduceIte, ↓reduceIte, Nat.reduceAdd, Nat.reduceEqDiff, Nat.reduceBEq, beq_self_eq_true, Bool.not_true, Bool.not_false, Bool.and_true, Bool.and_false, Bool.true_and, Bool.false_and, gI_sI, gI_sL, gI_sA, gI_sM, gL_sI, gL_sL, gL_sA, gL_sM, aI_sI, aI_sL, aI_sA, aI_sM, aL_sI, aL_sL, aL_sA, aL_sM]; try dsimp only
        refine ⟨fun h22 => ?_, fun h22 => ?_⟩
        · have c22 : ((Int64.ofInt 127)).toInt < (v).toInt := (cL (a := (Int64.ofInt 127)) (b := v)).2.2.1.mp h22
          refine hB _ _ _ _ _ (fun m23 hm23 => ?_)
          dsimp only [ugo, uwp, ust, uct, rfd, BholdsValue, BholdsValue_25, Nat.beq, lv_args, rlk, rs1, rs2, rdl, rky, rcd, rno, rsw, Value.category, List.filter, List.take, List.drop, List.reverse, List.reverseAux, List.cons_append, List.nil_append, Option.toList, Int.toNat, Int.reduceToNat, if_pos, if_neg, reduceIte, ↓reduceIte, Nat.reduceAdd, Nat.reduceEqDiff, Nat.reduceBEq, beq_self_eq_true, Bool.not_true, Bool.not_false, Bool.and_true, Bool.and_false, Bool.true_and, Bool.false_and, gI_sI, gI_sL, gI_sA, gI_sM, gL_sI, gL_sL, gL_sA, gL_sM, aI_sI, aI_sL, aI_sA, aI_sM, aL_sI, aL_sL, aL_sA, aL_sM, oi_0]; try dsimp only
          refine hB _ _ _ _ _ (fun m24 hm24 => ?_)
          dsimp only [ugo, uwp, ust, uct, rfd, BholdsValue, BholdsValue_57, Nat.beq, lv_args, rlk, rs1, rs2, rdl, rky, rcd, rno, rsw, Value.category, List.filter, List.take, List.drop, List.reverse, List.reverseAux, List.cons_append, List.nil_append, Option.toList, Int.toNat, Int.reduceToNat, if_pos, if_neg, reduceIte, ↓reduceIte, Nat.reduceAdd, Nat.reduceEqDiff, Nat.reduceBEq, beq_self_eq_true, Bool.not_true, Bool.not_false, Bool.and_true, Bool.and_false, Bool.true_and, Bool.false_and, gI_sI, gI_sL, gI_sA, gI_sM, gL_sI, gL_sL, gL_sA, gL_sM, aI_sI, aI_sL, aI_sA, aI_sM, aL_sI, aL_sL, aL_sA, aL_sM]; try dsimp only
          unfold Qv_holdsValue
          try dsimp only
          exact ⟨rfl, 0, rfl, b00 (by unfold hvT; have e1 : (Int64.ofInt (-128)).toInt = -128 := rfl; have e2 : (Int64.ofInt 127).toInt = 127 := rfl; have e3 : (Int64.ofInt 65535).toInt = 65535 := rfl; have e4 : (0 : Int64).toInt = 0 := rfl; split <;> (try split) <;> first | trivial | omega)⟩
        · have c22 : (v).toInt ≤ ((Int64.ofInt 127)).toInt := (cL (a := (Int64.ofInt 127)) (b := v)).2.2.2.1.mp (by first | exact h22 | exact Int32.not_lt.mp h22 | exact Int32.not_le.mp h22)
          refine hB _ _ _ _ _ (fun m25 hm25 => ?_)
          dsimp only [ugo, uwp, ust, uct, rfd, BholdsValue, BholdsValue_21, Nat.beq, lv_args, rlk, rs1, rs2, rdl, rky, rcd, rno, rsw, Value.category, List.filter, List.take, List.drop, List.reverse, List.reverseAux, List.cons_append, List.nil_append, Option.toList, Int.toNat, Int.reduceToNat, if_pos, if_neg, reduceIte, ↓reduceIte, Nat.reduceAdd, Nat.reduceEqDiff, Nat.reduceBEq, beq_self_eq_true, Bool.not_true, Bool.not_false, Bool.and_true, Bool.and_false, Bool.true_and, Bool.false_and, gI_sI, gI_sL, gI_sA, gI_sM, gL_sI, gL_sL, gL_sA, gL_sM, aI_sI, aI_sL, aI_sA, aI_sM, aL_sI, aL_sL, aL_sA, aL_sM, oi_1]; try dsimp only
          refine hB _ _ _ _ _ (fun m26 hm26 => ?_)
          dsimp only [ugo, uwp, ust, uct, rfd, BholdsValue, BholdsValue_57, Nat.beq, lv_args, rlk, rs1, rs2, rdl, rky, rcd, rno, rsw, Value.category, List.filter, List.take, List.drop, List.reverse, List.reverseAux, List.cons_append, List.nil_append, Option.toList, Int.toNat, Int.reduceToNat, if_pos, if_neg, reduceIte, ↓reduceIte, Nat.reduceAdd, Nat.reduceEqDiff, Nat.reduceBEq, beq_self_eq_true, Bool.not_true, Bool.not_false, Bool.and_true, Bool.and_false, Bool.true_and, Bool.false_and, gI_sI, gI_sL, gI_sA, gI_sM, gL_sI, gL_sL, gL_sA, gL_sM, aI_sI, aI_sL, aI_sA, aI_sM, aL_sI, aL_sL, aL_sA, aL_sM]; try dsimp only
          unfold Qv_holdsValue
          try dsimp only
          exact ⟨rfl, 1, rfl, b01 (by unfold hvT; have e1 : (Int64.ofInt (-128)).toInt = -128 := rfl; have e2 : (Int64.ofInt 127).toInt = 127 := rfl; have e3 : (Int64.ofInt 65535).toInt = 65535 := rfl; have e4 : (0 : Int64).toInt = 0 := rfl; split <;> (try split) <;> first | trivial | omega)⟩
  next => exact hP.elim
theorem w_holdsValue : UMet 74 (fun _ _ => True) Qw_holdsValue := fun A1 σ _ w τ h hP => v_holdsValue A1 σ hP w τ h
def Pv_cast : UP1 := fun A1 σ => match A1 with
  | [.int type, .long v] => True
  | _ => False
def Qv_cast : UQ1 := fun A1 σ w τ => match A1 with
  | [.int type, .long v] => σ = τ ∧ w = some (.long (caT type.toInt v))
  | _ => False
def Qw_cast : UQ1 := fun A1 σ w τ => Pv_cast A1 σ → Qv_cast A1 σ w τ
set_option maxRecDepth 100000 in
set_option maxHeartbeats 4000000 in
theorem v_cast : UMet 76 (Pv_cast) (Qv_cast) := by
  refine UMet.by Bcast [] rfl uc0 ?_
  intro A1 σ hP K hB hW
  unfold Pv_cast at hP
  split at hP
  next type v =>
    intro n0
    refine hB _ _ _ _ _ (fun m1 hm1 => ?_)
    dsimp only [ugo, uwp, ust, uct, rfd, Bcast, Bcast_0, Nat.beq, lv_args, rlk, rs1, rs2, rdl, rky, rcd, rno, rsw, Value.category, List.filter, List.take, List.drop, List.reverse, List.reverseAux, List.cons_append, List.nil_append, Option.toList, Int.toNat, Int.reduceToNat, if_pos, if_neg, reduceIte, ↓reduceIte, Nat.reduceAdd, Nat.reduceEqDiff, Nat.reduceBEq, beq_self_eq_true, Bool.not_true, Bool.not_false, Bool.and_true, Bool.and_false, Bool.true_and, Bool.false_and, gI_sI, gI_sL, gI_sA, gI_sM, gL_sI, gL_sL, gL_sA, gL_sM, aI_sI, aI_sL, aI_sA, aI_sM, aL_sI, aL_sL, aL_sA, aL_sM]; try dsimp only
    refine ⟨fun h2 => ?_, fun h2 => ?_⟩
    · have c2 : (type).toInt = 0 := (rfl : (type).toInt = (type).toInt).symm.trans h2
      refine hB _ _ _ _ _ (fun m3 hm3 => ?_)
      dsimp only [ugo, uwp, ust, uct, rfd, Bcast, Bcast_32, Nat.beq, lv_args, rlk, rs1, rs2, rdl, rky, rcd, rno, rsw, Value.category, List.filter, List.take, List.drop, List.reverse, List.reverseAux, List.cons_append, List.nil_append, Option.toList, Int.toNat, Int.reduceToNat, if_pos, if_neg, reduceIte, ↓reduceIte, Nat.reduceAdd, Nat.reduceEqDiff, Nat.reduceBEq, beq_self_eq_true, Bool.not_true, Bool.not_false, Bool.and_true, Bool.and_false, Bool.true_and, Bool.false_and, gI_sI, gI_sL, gI_sA, gI_sM, gL_sI, gL_sL, gL_sA, gL_sM, aI_sI, aI_sL, aI_sA, aI_sM, aL_sI, aL_sL, aL_sA, aL_sM]; try dsimp only
      refine ⟨fun h4 => ?_, fun h4 => ?_⟩
      · have c4 : v = (0 : Int64) := (cL (a := (0 : Int64)) (b := v)).1.mp h4
        refine hB _ _ _ _ _ (fun m5 hm5 => ?_)
        dsimp only [ugo, uwp, ust, uct, rfd, Bcast, Bcast_42, Nat.beq, lv_args, rlk, rs1, rs2, rdl, rky, rcd, rno, rsw, Value.category, List.filter, List.take, List.drop, List.reverse, List.reverseAux, List.cons_append, List.nil_append, Option.toList, Int.toNat, Int.reduceToNat, if_pos, if_neg, reduceIte, ↓reduceIte, Nat.reduceAdd, Nat.reduceEqDiff, Nat.reduceBEq, beq_self_eq_true, Bool.not_true, Bool.not_false, Bool.and_true, Bool.and_false, Bool.true_and, Bool.false_and, gI_sI, gI_sL, gI_sA, gI_sM, gL_sI, gL_sL, gL_sA, gL_sM, aI_sI, aI_sL, aI_sA, aI_sM, aL_sI, aL_sL, aL_sA, aL_sM]; try dsimp only
        refine hB _ _ _ _ _ (fun m6 hm6 => ?_)
        dsimp only [ugo, uwp, ust, uct, rfd, Bcast, Bcast_43, Nat.beq, lv_args, rlk, rs1, rs2, rdl, rky, rcd, rno, rsw, Value.category, List.filter, List.take, List.drop, List.reverse, List.reverseAux, List.cons_append, List.nil_append, Option.toList, Int.toNat, Int.reduceToNat, if_pos, if_neg, reduceIte, ↓reduceIte, Nat.reduceAdd, Nat.reduceEqDiff, Nat.reduceBEq, beq_self_eq_true, Bool.not_true, Bool.not_false, Bool.and_true, Bool.and_false, Bool.true_and, Bool.false_and, gI_sI, gI_sL, gI_sA, gI_sM, gL_sI, gL_sL, gL_sA, gL_sM, aI_sI, aI_sL, aI_sA, aI_sM, aL_sI, aL_sL, aL_sA, aL_sM]; try dsimp only
        unfold Qv_cast
        try dsimp only
        refine ⟨rfl, congrArg (fun z => some (Value.long z)) ?_⟩
        unfold caT nrT
        repeat first | rfl | (rw [if_pos (by omega)]) | (rw [if_neg (by omega)]) | (rw [if_pos (by assumption)]) | (rw [if_neg (by assumption)])
      · have c4 : ¬ v = (0 : Int64) := fun q => h4 ((cL (a := (0 : Int64)) (b := v)).1.mpr q)
        refine hB _ _ _ _ _ (fun m7 hm7 => ?_)
        dsimp only [ugo, uwp, ust, uct, rfd, Bcast, Bcast_38, Nat.beq, lv_args, rlk, rs1, rs2, rdl, rky, rcd, rno, rsw, Value.category, List.filter, List.take, List.drop, List.reverse, List.reverseAux, List.cons_append, List.nil_append, Option.toList, Int.toNat, Int.reduceToNat, if_pos, if_neg, reduceIte, ↓reduceIte, Nat.reduceAdd, Nat.reduceEqDiff, Nat.reduceBEq, beq_self_eq_true, Bool.not_true, Bool.not_false, Bool.and_true, Bool.and_false, Bool.true_and, Bool.false_and, gI_sI, gI_sL, gI_sA, gI_sM, gL_sI, gL_sL, gL_sA, gL_sM, aI_sI, aI_sL, aI_sA, aI_sM, aL_sI, aL_sL, aL_sA, aL_sM]; try dsimp only
        refine hB _ _ _ _ _ (fun m8 hm8 => ?_)
        dsimp only [ugo, uwp, ust, uct, rfd, Bcast, Bcast_43, Nat.beq, lv_args, rlk, rs1, rs2, rdl, rky, rcd, rno, rsw, Value.category, List.filter, List.take, List.drop, List.reverse, List.reverseAux, List.cons_append, List.nil_append, Option.toList, Int.toNat, Int.reduceToNat, if_pos, if_neg, reduceIte, ↓reduceIte, Nat.reduceAdd, Nat.reduceEqDiff, Nat.reduceBEq, beq_self_eq_true, Bool.not_true, Bool.not_false, Bool.and_true, Bool.and_false, Bool.true_and, Bool.false_and, gI_sI, gI_sL, gI_sA, gI_sM, gL_sI, gL_sL, gL_sA, gL_sM, aI_sI, aI_sL, aI_sA, aI_sM, aL_sI, aL_sL, aL_sA, aL_sM]; try dsimp only
        unfold Qv_cast
        try dsimp only
        refine ⟨rfl, congrArg (fun z => some (Value.long z)) ?_⟩
        unfold caT nrT
        repeat first | rfl | (rw [if_pos (by omega)]) | (rw [if_neg (by omega)]) | (rw [if_pos (by assumption)]) | (rw [if_neg (by assumption)])
    have c2 : ¬ (type).toInt = 0 := fun q => h2 ((rfl : (type).toInt = (type).toInt).trans q)
    refine ⟨fun h9 => ?_, fun h9 => ?_⟩
    · have c9 : (type).toInt = 1 := (rfl : (type).toInt = (type).toInt).symm.trans h9
      refine hB _ _ _ _ _ (fun m10 hm10 => ?_)
      dsimp only [ugo, uwp, ust, uct, rfd, Bcast, Bcast_44, Nat.beq, lv_args, rlk, rs1, rs2, rdl, rky, rcd, rno, rsw, Value.category, List.filter, List.take, List.drop, List.reverse, List.reverseAux, List.cons_append, List.nil_append, Option.toList, Int.toNat, Int.reduceToNat, if_pos, if_neg, reduceIte, ↓reduceIte, Nat.reduceAdd, Nat.reduceEqDiff, Nat.reduceBEq, beq_self_eq_true, Bool.not_true, Bool.not_false, Bool.and_true, Bool.and_false, Bool.true_and, Bool.false_and, gI_sI, gI_sL, gI_sA, gI_sM, gL_sI, gL_sL, gL_sA, gL_sM, aI_sI, aI_sL, aI_sA, aI_sM, aL_sI, aL_sL, aL_sA, aL_sM]; try dsimp only
      unfold Qv_cast
      try dsimp only
      refine ⟨rfl, congrArg (fun z => some (Value.long z)) ?_⟩
      unfold caT nrT
      repeat first | rfl | (rw [if_pos (by omega)]) | (rw [if_neg (by omega)]) | (rw [if_pos (by assumption)]) | (rw [if_neg (by assumption)])
    have c9 : ¬ (type).toInt = 1 := fun q => h9 ((rfl : (type).toInt = (type).toInt).trans q)
    refine ⟨fun h11 => ?_, fun h11 => ?_⟩
    · have c11 : (type).toInt = 2 := (rfl : (type).toInt = (type).toInt).symm.trans h11
      refine hB _ _ _ _ _ (fun m12 hm12 => ?_)
      dsimp only [ugo, uwp, ust, uct, rfd, Bcast, Bcast_49, Nat.beq, lv_args, rlk, rs1, rs2, rdl, rky, rcd, rno, rsw, Value.category, List.filter, List.take, List.drop, List.reverse, List.reverseAux, List.cons_append, List.nil_append, Option.toList, Int.toNat, Int.reduceToNat, if_pos, if_neg, reduceIte, ↓reduceIte, Nat.reduceAdd, Nat.reduceEqDiff, Nat.reduceBEq, beq_self_eq_true, Bool.not_true, Bool.not_false, Bool.and_true, Bool.and_false, Bool.true_and, Bool.false_and, gI_sI, gI_sL, gI_sA, gI_sM, gL_sI, gL_sL, gL_sA, gL_sM, aI_sI, aI_sL, aI_sA, aI_sM, aL_sI, aL_sL, aL_sA, aL_sM]; try dsimp only
      unfold Qv_cast
      try dsimp only
      refine ⟨rfl, congrArg (fun z => some (Value.long z)) ?_⟩
      unfold caT nrT
      repeat first | rfl | (rw [if_pos (by omega)]) | (rw [if_neg (by omega)]) | (rw [if_pos (by assumption)]) | (rw [if_neg (by assumption)])
    have c11 : ¬ (type).toInt = 2 := fun q => h11 ((rfl : (type).toInt = (type).toInt).trans q)
    refine ⟨fun h13 => ?_, fun h13 => ?_⟩
    · have c13 : (type).toInt = 3 := (rfl : (type).toInt = (type).toInt).symm.trans h13
      refine hB _ _ _ _ _ (fun m14 hm14 => ?_)
      dsimp only [ugo, uwp, ust, uct, rfd, Bcast, Bcast_54, Nat.beq, lv_args, rlk, rs1, rs2, rdl, rky, rcd, rno, rsw, Value.category, List.filter, List.take, List.drop, List.reverse, List.reverseAux, List.cons_append, List.nil_append, Option.toList, Int.toNat, Int.reduceToNat, if_pos, if_neg, reduceIte, ↓reduceIte, Nat.reduceAdd, Nat.reduceEqDiff, Nat.reduceBEq, beq_self_eq_true, Bool.not_true, Bool.not_false, Bool.and_true, Bool.and_false, Bool.true_and, Bool.false_and, gI_sI, gI_sL, gI_sA, gI_sM, gL_sI, gL_sL, gL_sA, gL_sM, aI_sI, aI_sL, aI_sA, aI_sM, aL_sI, aL_sL, aL_sA, aL_sM]; try dsimp only
      unfold Qv_cast
      try dsimp only
      refine ⟨rfl, congrArg (fun z => some (Value.long z)) ?_⟩
      unfold caT nrT
      repeat first | rfl | (rw [if_pos (by omega)]) | (rw [if_neg (by omega)]) | (rw [if_pos (by assumption)]) | (rw [if_neg (by assumption)])
    have c13 : ¬ (type).toInt = 3 := fun q => h13 ((rfl : (type).toInt = (type).toInt).trans q)
    refine hB _ _ _ _ _ (fun m15 hm15 => ?_)
    dsimp only [ugo, uwp, ust, uct, rfd, Bcast, Bcast_58, Nat.beq, lv_args, rlk, rs1, rs2, rdl, rky, rcd, rno, rsw, Value.category, List.filter, List.take, List.drop, List.reverse, List.reverseAux, List.cons_append, List.nil_append, Option.toList, Int.toNat, Int.reduceToNat, if_pos, if_neg, reduceIte, ↓reduceIte, Nat.reduceAdd, Nat.reduceEqDiff, Nat.reduceBEq, beq_self_eq_true, Bool.not_true, Bool.not_false, Bool.and_true, Bool.and_false, Bool.true_and, Bool.false_and, gI_sI, gI_sL, gI_sA, gI_sM, gL_sI, gL_sL, gL_sA, gL_sM, aI_sI, aI_sL, aI_sA, aI_sM, aL_sI, aL_sL, aL_sA, aL_sM]; try dsimp only
    unfold Qv_cast
    try dsimp only
    refine ⟨rfl, congrArg (fun z => some (Value.long z)) ?_⟩
    unfold caT nrT
    repeat first | rfl | (rw [if_pos (by omega)]) | (rw [if_neg (by omega)]) | (rw [if_pos (by assumption)]) | (rw [if_neg (by assumption)])
  next => exact hP.elim
theorem w_cast : UMet 76 (fun _ _ => True) Qw_cast := fun A1 σ _ w τ h hP => v_cast A1 σ hP w τ h
def Pv_lie : UP1 := fun A1 σ => match A1 with
  | [.int c, .int type, .int sure, .long v] => True
  | _ => False
def Qv_lie : UQ1 := fun A1 σ w τ => match A1 with
  | [.int c, .int type, .int sure, .long v] => w = none ∧ τ = lieS σ c type sure v
  | _ => False
def Qw_lie : UQ1 := fun A1 σ w τ => Pv_lie A1 σ → Qv_lie A1 σ w τ
set_option maxRecDepth 100000 in
set_option maxHeartbeats 4000000 in
theorem v_lie : UMet 77 (Pv_lie) (Qv_lie) := by
  refine UMet.by Blie [] rfl uc0 ?_
  intro A1 σ hP K hB hW
  unfold Pv_lie at hP
  split at hP
  next c type sure v =>
    intro n0
    refine hB _ _ _ _ _ (fun m1 hm1 => ?_)
    dsimp only [ugo, uwp, ust, uct, rfd, Blie, Blie_0, Nat.beq, lv_args, rlk, rs1, rs2, rdl, rky, rcd, rno, rsw, Value.category, List.filter, List.take, List.drop, List.reverse, List.reverseAux, List.cons_append, List.nil_append, Option.toList, Int.toNat, Int.reduceToNat, if_pos, if_neg, reduceIte, ↓reduceIte, Nat.reduceAdd, Nat.reduceEqDiff, Nat.reduceBEq, beq_self_eq_true, Bool.not_true, Bool.not_false, Bool.and_true, Bool.and_false, Bool.true_and, Bool.false_and, gI_sI, gI_sL, gI_sA, gI_sM, gL_sI, gL_sL, gL_sA, gL_sM, aI_sI, aI_sL, aI_sA, aI_sM, aL_sI, aL_sL, aL_sA, aL_sM, oi_1]; try dsimp only
    intro p2
    intro p3
    intro p4
    intro p5
    intro p6
    intro p7
    intro p8
    intro p9
    intro p10
    intro p11
    intro p12
    intro p13
    intro p14
    intro p15
    intro p16
    unfold Qv_lie
    try dsimp only
    exact ⟨rfl, rfl⟩
  next => exact hP.elim
theorem w_lie : UMet 77 (fun _ _ => True) Qw_lie := fun A1 σ _ w τ h hP => v_lie A1 σ hP w τ h
def Pv_none : UP1 := fun A1 σ => match A1 with
  | [.int c] => True
  | _ => False
def Qv_none : UQ1 := fun A1 σ w τ => match A1 with
  | [.int c] => w = none ∧ τ = lieS σ c (-2) 0 0
  | _ => False
def Qw_none : UQ1 := fun A1 σ w τ => Pv_none A1 σ → Qv_none A1 σ w τ
set_option maxRecDepth 100000 in
set_option maxHeartbeats 4000000 in
theorem v_none : UMet 78 (Pv_none) (Qv_none) := by
  refine UMet.by Bnone [(77, (fun _ _ => True), Qw_lie)] rfl (ucc w_lie uc0) ?_
  intro A1 σ hP K hB hW
  unfold Pv_none at hP
  split at hP
  next c =>
    intro n0
    refine hB _ _ _ _ _ (fun m1 hm1 => ?_)
    dsimp only [ugo, uwp, ust, uct, rfd, Bnone, Bnone_0, Nat.beq, lv_args, rlk, rs1, rs2, rdl, rky, rcd, rno, rsw, Value.category, List.filter, List.take, List.drop, List.reverse, List.reverseAux, List.cons_append, List.nil_append, Option.toList, Int.toNat, Int.reduceToNat, if_pos, if_neg, reduceIte, ↓reduceIte, Nat.reduceAdd, Nat.reduceEqDiff, Nat.reduceBEq, beq_self_eq_true, Bool.not_true, Bool.not_false, Bool.and_true, Bool.and_false, Bool.true_and, Bool.false_and, gI_sI, gI_sL, gI_sA, gI_sM, gL_sI, gL_sL, gL_sA, gL_sM, aI_sI, aI_sL, aI_sA, aI_sM, aL_sI, aL_sL, aL_sA, aL_sM, oi_0, oi_m2]; try dsimp only
    refine ⟨trivial, fun w2 τ2 hq2 => ?_⟩
    obtain ⟨rfl, rfl⟩ := hq2 trivial
    dsimp only [Option.toList, List.cons_append, List.nil_append, Nat.beq, gI_sI, gI_sL, gI_sA, gI_sM, gL_sI, gL_sL, gL_sA, gL_sM, aI_sI, aI_sL, aI_sA, aI_sM, aL_sI, aL_sL, aL_sA, aL_sM]
    unfold Qv_none
    try dsimp only
    exact ⟨rfl, rfl⟩
  next => exact hP.elim
theorem w_none : UMet 78 (fun _ _ => True) Qw_none := fun A1 σ _ w τ h hP => v_none A1 σ hP w τ h
def Pv_isBad : UP1 := fun A1 σ => match A1 with
  | [.int s] => True
  | _ => False
def Qv_isBad : UQ1 := fun A1 σ w τ => match A1 with
  | [.int s] => σ = τ ∧ ∃ b : Int32, w = some (.int b) ∧ (¬ b = 0 ↔ aI σ 70 s.toNatClampNeg = -2)
  | _ => False
def Qw_isBad : UQ1 := fun A1 σ w τ => Pv_isBad A1 σ → Qv_isBad A1 σ w τ
set_option maxRecDepth 100000 in
set_option maxHeartbeats 4000000 in
theorem v_isBad : UMet 79 (Pv_isBad) (Qv_isBad) := by
  refine UMet.by BisBad [] rfl uc0 ?_
  intro A1 σ hP K hB hW
  unfold Pv_isBad at hP
  split at hP
  next s =>
    intro n0
    refine hB _ _ _ _ _ (fun m1 hm1 => ?_)
    dsimp only [ugo, uwp, ust, uct, rfd, BisBad, BisBad_0, Nat.beq, lv_args, rlk, rs1, rs2, rdl, rky, rcd, rno, rsw, Value.category, List.filter, List.take, List.drop, List.reverse, List.reverseAux, List.cons_append, List.nil_append, Option.toList, Int.toNat, Int.reduceToNat, if_pos, if_neg, reduceIte, ↓reduceIte, Nat.reduceAdd, Nat.reduceEqDiff, Nat.reduceBEq, beq_self_eq_true, Bool.not_true, Bool.not_false, Bool.and_true, Bool.and_false, Bool.true_and, Bool.false_and, gI_sI, gI_sL, gI_sA, gI_sM, gL_sI, gL_sL, gL_sA, gL_sM, aI_sI, aI_sL, aI_sA, aI_sM, aL_sI, aL_sL, aL_sA, aL_sM, oi_m2]; try dsimp only
    intro p2
    refine ⟨fun h3 => ?_, fun h3 => ?_⟩
    · refine hB _ _ _ _ _ (fun m4 hm4 => ?_)
      dsimp only [ugo, uwp, ust, uct, rfd, BisBad, BisBad_15, Nat.beq, lv_args, rlk, rs1, rs2, rdl, rky, rcd, rno, rsw, Value.category, List.filter, List.take, List.drop, List.reverse, List.reverseAux, List.cons_append, List.nil_append, Option.toList, Int.toNat, Int.reduceToNat, if_pos, if_neg, reduceIte, ↓reduceIte, Nat.reduceAdd, Nat.reduceEqDiff, Nat.reduceBEq, beq_self_eq_true, Bool.not_true, Bool.not_false, Bool.and_true, Bool.and_false, Bool.true_and, Bool.false_and, gI_sI, gI_sL, gI_sA, gI_sM, gL_sI, gL_sL, gL_sA, gL_sM, aI_sI, aI_sL, aI_sA, aI_sM, aL_sI, aL_sL, aL_sA, aL_sM, oi_0]; try dsimp only
      refine hB _ _ _ _ _ (fun m5 hm5 => ?_)
      dsimp only [ugo, uwp, ust, uct, rfd, BisBad, BisBad_16, Nat.beq, lv_args, rlk, rs1, rs2, rdl, rky, rcd, rno, rsw, Value.category, List.filter, List.take, List.drop, List.reverse, List.reverseAux, List.cons_append, List.nil_append, Option.toList, Int.toNat, Int.reduceToNat, if_pos, if_neg, reduceIte, ↓reduceIte, Nat.reduceAdd, Nat.reduceEqDiff, Nat.reduceBEq, beq_self_eq_true, Bool.not_true, Bool.not_false, Bool.and_true, Bool.and_false, Bool.true_and, Bool.false_and, gI_sI, gI_sL, gI_sA, gI_sM, gL_sI, gL_sL, gL_sA, gL_sM, aI_sI, aI_sL, aI_sA, aI_sM, aL_sI, aL_sL, aL_sA, aL_sM]; try dsimp only
      unfold Qv_isBad
      try dsimp only
      exact ⟨rfl, 0, rfl, b00 (by assumption)⟩
    · refine hB _ _ _ _ _ (fun m6 hm6 => ?_)
      dsimp only [ugo, uwp, ust, uct, rfd, BisBad, BisBad_11, Nat.beq, lv_args, rlk, rs1, rs2, rdl, rky, rcd, rno, rsw, Value.category, List.filter, List.take, List.drop, List.reverse, List.reverseAux, List.cons_append, List.nil_append, Option.toList, Int.toNat, Int.reduceToNat, if_pos, if_neg, reduceIte, ↓reduceIte, Nat.reduceAdd, Nat.reduceEqDiff, Nat.reduceBEq, beq_self_eq_true, Bool.not_true, Bool.not_false, Bool.and_true, Bool.and_false, Bool.true_and, Bool.false_and, gI_sI, gI_sL, gI_sA, gI_sM, gL_sI, gL_sL, gL_sA, gL_sM, aI_sI, aI_sL, aI_sA, aI_sM, aL_sI, aL_sL, aL_sA, aL_sM, oi_1]; try dsimp only
      refine hB _ _ _ _ _ (fun m7 hm7 => ?_)
      dsimp only [ugo, uwp, ust, uct, rfd, BisBad, BisBad_16, Nat.beq, lv_args, rlk, rs1, rs2, rdl, rky, rcd, rno, rsw, Value.category, List.filter, List.take, List.drop, List.reverse, List.reverseAux, List.cons_append, List.nil_append, Option.toList, Int.toNat, Int.reduceToNat, if_pos, if_neg, reduceIte, ↓reduceIte, Nat.reduceAdd, Nat.reduceEqDiff, Nat.reduceBEq, beq_self_eq_true, Bool.not_true, Bool.not_false, Bool.and_true, Bool.and_false, Bool.true_and, Bool.false_and, gI_sI, gI_sL, gI_sA, gI_sM, gL_sI, gL_sL, gL_sA, gL_sM, aI_sI, aI_sL, aI_sA, aI_sM, aL_sI, aL_sL, aL_sA, aL_sM]; try dsimp only
      unfold Qv_isBad
      try dsimp only
      exact ⟨rfl, 1, rfl, b01 (by assumption)⟩
  next => exact hP.elim
theorem w_isBad : UMet 79 (fun _ _ => True) Qw_isBad := fun A1 σ _ w τ h hP => v_isBad A1 σ hP w τ h
def Pv_fits : UP1 := fun A1 σ => match A1 with
  | [.int s, .int type] => True
  | _ => False
def Qv_fits : UQ1 := fun A1 σ w τ => match A1 with
  | [.int s, .int type] => σ = τ ∧ ∃ b : Int32, w = some (.int b) ∧ ∀ e, TeR σ s.toNatClampNeg e → ¬ type.toInt = 5 → (¬ b = 0 ↔ ftT e type.toInt)
  | _ => False
def Qw_fits : UQ1 := fun A1 σ w τ => Pv_fits A1 σ → Qv_fits A1 σ w τ
set_option maxRecDepth 100000 in
set_option maxHeartbeats 4000000 in
theorem v_fits : UMet 75 (Pv_fits) (Qv_fits) := by
  refine UMet.by Bfits [(74, (fun _ _ => True), Qw_holdsValue), (73, (fun _ _ => True), Qw_widens)] rfl (ucc w_holdsValue (ucc w_widens uc0)) ?_
  intro A1 σ hP K hB hW
  unfold Pv_fits at hP
  split at hP
  next s type =>
    intro n0
    refine hB _ _ _ _ _ (fun m1 hm1 => ?_)
    dsimp only [ugo, uwp, ust, uct, rfd, Bfits, Bfits_0, Nat.beq, lv_args, rlk, rs1, rs2, rdl, rky, rcd, rno, rsw, Value.category, List.filter, List.take, List.drop, List.reverse, List.reverseAux, List.cons_append, List.nil_append, Option.toList, Int.toNat, Int.reduceToNat, if_pos, if_neg, reduceIte, ↓reduceIte, Nat.reduceAdd, Nat.reduceEqDiff, Nat.reduceBEq, beq_self_eq_true, Bool.not_true, Bool.not_false, Bool.and_true, Bool.and_false, Bool.true_and, Bool.false_and, gI_sI, gI_sL, gI_sA, gI_sM, gL_sI, gL_sL, gL_sA, gL_sM, aI_sI, aI_sL, aI_sA, aI_sM, aL_sI, aL_sL, aL_sA, aL_sM, oi_5]; try dsimp only
    intro p2
    refine ⟨fun h3 => ?_, fun h3 => ?_⟩
    · have c3 : ¬ (aI σ 70 (s).toNatClampNeg).toInt = 5 := fun q => h3 ((cI (rfl : (aI σ 70 (s).toNatClampNeg).toInt = (aI σ 70 (s).toNatClampNeg).toInt) (rfl : (5 : Int32).toInt = 5)).1.mpr q)
      refine hB _ _ _ _ _ (fun m4 hm4 => ?_)
      dsimp only [ugo, uwp, ust, uct, rfd, Bfits, Bfits_12, Nat.beq, lv_args, rlk, rs1, rs2, rdl, rky, rcd, rno, rsw, Value.category, List.filter, List.take, List.drop, List.reverse, List.reverseAux, List.cons_append, List.nil_append, Option.toList, Int.toNat, Int.reduceToNat, if_pos, if_neg, reduceIte, ↓reduceIte, Nat.reduceAdd, Nat.reduceEqDiff, Nat.reduceBEq, beq_self_eq_true, Bool.not_true, Bool.not_false, Bool.and_true, Bool.and_false, Bool.true_and, Bool.false_and, gI_sI, gI_sL, gI_sA, gI_sM, gL_sI, gL_sL, gL_sA, gL_sM, aI_sI, aI_sL, aI_sA, aI_sM, aL_sI, aL_sL, aL_sA, aL_sM]; try dsimp only
      intro p5
      refine ⟨trivial, fun w6 τ6 hq6 => ?_⟩
      obtain ⟨rfl, b6, rfl, hb6⟩ := hq6 trivial
      try rw [show (((aI σ 70) (s).toNatClampNeg)).toInt = (aI σ 70 (s).toNatClampNeg).toInt from (rfl : (aI σ 70 (s).toNatClampNeg).toInt = (aI σ 70 (s).toNatClampNeg).toInt)] at hb6
      try rw [show (type).toInt = (type).toInt from (rfl : (type).toInt = (type).toInt)] at hb6
      have hb6 : ¬ b6 = 0 ↔ wdT ((aI σ 70 (s).toNatClampNeg).toInt) ((type).toInt) := hb6
      dsimp only [Option.toList, List.cons_append, List.nil_append, Nat.beq, gI_sI, gI_sL, gI_sA, gI_sM, gL_sI, gL_sL, gL_sA, gL_sM, aI_sI, aI_sL, aI_sA, aI_sM, aL_sI, aL_sL, aL_sA, aL_sM]
      refine ⟨fun h7 => ?_, fun h7 => ?_⟩
      · have c7 : ¬ (wdT ((aI σ 70 (s).toNatClampNeg).toInt) ((type).toInt)) := fun q => (hb6).mpr q h7
        refine hB _ _ _ _ _ (fun m8 hm8 => ?_)
        dsimp only [ugo, uwp, ust, uct, rfd, Bfits, Bfits_28, Nat.beq, lv_args, rlk, rs1, rs2, rdl, rky, rcd, rno, rsw, Value.category, List.filter, List.take, List.drop, List.reverse, List.reverseAux, List.cons_append, List.nil_append, Option.toList, Int.toNat, Int.reduceToNat, if_pos, if_neg, reduceIte, ↓reduceIte, Nat.reduceAdd, Nat.reduceEqDiff, Nat.reduceBEq, beq_self_eq_true, Bool.not_true, Bool.not_false, Bool.and_true, Bool.and_false, Bool.true_and, Bool.false_and, gI_sI, gI_sL, gI_sA, gI_sM, gL_sI, gL_sL, gL_sA, gL_sM, aI_sI, aI_sL, aI_sA, aI_sM, aL_sI, aL_sL, aL_sA, aL_sM, oi_1]; try dsimp only
        intro p9
        refine ⟨fun h10 => ?_, fun h10 => ?_⟩
        · have c10 : (aI σ 70 (s).toNatClampNeg).toInt < 1 := (cI (rfl : (aI σ 70 (s).toNatClampNeg).toInt = (aI σ 70 (s).toNatClampNeg).toInt) (rfl : (1 : Int32).toInt = 1)).2.1.mp h10
          refine hB _ _ _ _ _ (fun m11 hm11 => ?_)
          dsimp only [ugo, uwp, ust, uct, rfd, Bfits, Bfits_62, Nat.beq, lv_args, rlk, rs1, rs2, rdl, rky, rcd, rno, rsw, Value.category, List.filter, List.take, List.drop, List.reverse, List.reverseAux, List.cons_append, List.nil_append, Option.toList, Int.toNat, Int.reduceToNat, if_pos, if_neg, reduceIte, ↓reduceIte, Nat.reduceAdd, Nat.reduceEqDiff, Nat.reduceBEq, beq_self_eq_true, Bool.not_true, Bool.not_false, Bool.and_true, Bool.and_false, Bool.true_and, Bool.false_and, gI_sI, gI_sL, gI_sA, gI_sM, gL_sI, gL_sL, gL_sA, gL_sM, aI_sI, aI_sL, aI_sA, aI_sM, aL_sI, aL_sL, aL_sA, aL_sM, oi_0]; try dsimp only
          refine hB _ _ _ _ _ (fun m12 hm12 => ?_)
          dsimp only [ugo, uwp, ust, uct, rfd, Bfits, Bfits_63, Nat.beq, lv_args, rlk, rs1, rs2, rdl, rky, rcd, rno, rsw, Value.category, List.filter, List.take, List.drop, List.reverse, List.reverseAux, List.cons_append, List.nil_append, Option.toList, Int.toNat, Int.reduceToNat, if_pos, if_neg, reduceIte, ↓reduceIte, Nat.reduceAdd, Nat.reduceEqDiff, Nat.reduceBEq, beq_self_eq_true, Bool.not_true, Bool.not_false, Bool.and_true, Bool.and_false, Bool.true_and, Bool.false_and, gI_sI, gI_sL, gI_sA, gI_sM, gL_sI, gL_sL, gL_sA, gL_sM, aI_sI, aI_sL, aI_sA, aI_sM, aL_sI, aL_sL, aL_sA, aL_sM]; try dsimp only
          refine ⟨fun h13 => ?_, fun h13 => absurd h13 (by decide)⟩
          clear h13
          refine hB _ _ _ _ _ (fun m14 hm14 => ?_)
          dsimp only [ugo, uwp, ust, uct, rfd, Bfits, Bfits_95, Nat.beq, lv_args, rlk, rs1, rs2, rdl, rky, rcd, rno, rsw, Value.category, List.filter, List.take, List.drop, List.reverse, List.reverseAux, List.cons_append, List.nil_append, Option.toList, Int.toNat, Int.reduceToNat, if_pos, if_neg, reduceIte, ↓reduceIte, Nat.reduceAdd, Nat.reduceEqDiff, Nat.reduceBEq, beq_self_eq_true, Bool.not_true, Bool.not_false, Bool.and_true, Bool.and_false, Bool.true_and, Bool.false_and, gI_sI, gI_sL, gI_sA, gI_sM, gL_sI, gL_sL, gL_sA, gL_sM, aI_sI, aI_sL, aI_sA, aI_sM, aL_sI, aL_sL, aL_sA, aL_sM, oi_0]; try dsimp only
          refine hB _ _ _ _ _ (fun m15 hm15 => ?_)
          dsimp only [ugo, uwp, ust, uct, rfd, Bfits, Bfits_96, Nat.beq, lv_args, rlk, rs1, rs2, rdl, rky, rcd, rno, rsw, Value.category, List.filter, List.take, List.drop, List.reverse, List.reverseAux, List.cons_append, List.nil_append, Option.toList, Int.toNat, Int.reduceToNat, if_pos, if_neg, reduceIte, ↓reduceIte, Nat.reduceAdd, Nat.reduceEqDiff, Nat.reduceBEq, beq_self_eq_true, Bool.not_true, Bool.not_false, Bool.and_true, Bool.and_false, Bool.true_and, Bool.false_and, gI_sI, gI_sL, gI_sA, gI_sM, gL_sI, gL_sL, gL_sA, gL_sM, aI_sI, aI_sL, aI_sA, aI_sM, aL_sI, aL_sL, aL_sA, aL_sM]; try dsimp only
          unfold Qv_fits
          try dsimp only
          refine ⟨rfl, 0, rfl, fun e he h5 => ?_⟩
          have e1 := he.1
          have e2 := @ft_hv σ _ e type.toInt he
          refine b00 (fun q => ?_)
          rcases q with q | ⟨q1, q2, q3⟩
          · omega
          · have q4 := (e2 q1).mpr q3
            first | omega | exact q4.1 (by assumption) | exact (by assumption : ¬ hvT _ _) q4.2
        · have c10 : 1 ≤ (aI σ 70 (s).toNatClampNeg).toInt := (cI (rfl : (aI σ 70 (s).toNatClampNeg).toInt = (aI σ 70 (s).toNatClampNeg).toInt) (rfl : (1 : Int32).toInt = 1)).2.2.2.2.mp (by first | exact h10 | exact Int32.not_lt.mp h10 | exact Int32.not_le.mp h10)
          refine hB _ _ _ _ _ (fun m16 hm16 => ?_)
          dsimp only [ugo, uwp, ust, uct, rfd, Bfits, Bfits_38, Nat.beq, lv_args, rlk, rs1, rs2, rdl, rky, rcd, rno, rsw, Value.category, List.filter, List.take, List.drop, List.reverse, List.reverseAux, List.cons_append, List.nil_append, Option.toList, Int.toNat, Int.reduceToNat, if_pos, if_neg, reduceIte, ↓reduceIte, Nat.reduceAdd, Nat.reduceEqDiff, Nat.reduceBEq, beq_self_eq_true, Bool.not_true, Bool.not_false, Bool.and_true, Bool.and_false, Bool.true_and, Bool.false_and, gI_sI, gI_sL, gI_sA, gI_sM, gL_sI, gL_sL, gL_sA, gL_sM, aI_sI, aI_sL, aI_sA, aI_sM, aL_sI, aL_sL, aL_sA, aL_sM, oi_3]; try dsimp only
          intro p17
          refine ⟨fun h18 => ?_, fun h18 => ?_⟩
          · have c18 : 3 < (aI σ 70 (s).toNatClampNeg).toInt := (cI (rfl : (aI σ 70 (s).toNatClampNeg).toInt = (aI σ 70 (s).toNatClampNeg).toInt) (rfl : (3 : Int32).toInt = 3)).2.2.2.1.mp h18
            refine hB _ _ _ _ _ (fun m19 hm19 => ?_)
            dsimp only [ugo, uwp, ust, uct, rfd, Bfits, Bfits_62, Nat.beq, lv_args, rlk, rs1, rs2, rdl, rky, rcd, rno, rsw, Value.category, List.filter, List.take, List.drop, List.reverse, List.reverseAux, List.cons_append, List.nil_append, Option.toList, Int.toNat, Int.reduceToNat, if_pos, if_neg, reduceIte, ↓reduceIte, Nat.reduceAdd, Nat.reduceEqDiff, Nat.reduceBEq, beq_self_eq_true, Bool.not_true, Bool.not_false, Bool.and_true, Bool.and_false, Bool.true_and, Bool.false_and, gI_sI, gI_sL, gI_sA, gI_sM, gL_sI, gL_sL, gL_sA, gL_sM, aI_sI, aI_sL, aI_sA, aI_sM, aL_sI, aL_sL, aL_sA, aL_sM, oi_0]; try dsimp only
            refine hB _ _ _ _ _ (fun m20 hm20 => ?_)
            dsimp only [ugo, uwp, ust, uct, rfd, Bfits, Bfits_63, Nat.beq, lv_args, rlk, rs1, rs2, rdl, rky, rcd, rno, rsw, Value.category, List.filter, List.take, List.drop, List.reverse, List.reverseAux, List.cons_append, List.nil_append, Option.toList, Int.toNat, Int.reduceToNat, if_pos, if_neg, reduceIte, ↓reduceIte, Nat.reduceAdd, Nat.reduceEqDiff, Nat.reduceBEq, beq_self_eq_true, Bool.not_true, Bool.not_false, Bool.and_true, Bool.and_false, Bool.true_and, Bool.false_and, gI_sI, gI_sL, gI_sA, gI_sM, gL_sI, gL_sL, gL_sA, gL_sM, aI_sI, aI_sL, aI_sA, aI_sM, aL_sI, aL_sL, aL_sA, aL_sM]; try dsimp only
            refine ⟨fun h21 => ?_, fun h21 => absurd h21 (by decide)⟩
            clear h21
            refine hB _ _ _ _ _ (fun m22 hm22 => ?_)
            dsimp only [ugo, uwp, ust, uct, rfd, Bfits, Bfits_95, Nat.beq, lv_args, rlk, rs1, rs2, rdl, rky, rcd, rno, rsw, Value.category, List.filter, List.take, List.drop, List.reverse, List.reverseAux, List.cons_append, List.nil_append, Option.toList, Int.toNat, Int.reduceToNat, if_pos, if_neg, reduceIte, ↓reduceIte, Nat.reduceAdd, Nat.reduceEqDiff, Nat.reduceBEq, beq_self_eq_true, Bool.not_true, Bool.not_false, Bool.and_true, Bool.and_false, Bool.true_and, Bool.false_and, gI_sI, gI_sL, gI_sA, gI_sM, gL_sI, gL_sL, gL_sA, gL_sM, aI_sI, aI_sL, aI_sA, aI_sM, aL_sI, aL_sL, aL_sA, aL_sM, oi_0]; try dsimp only
            refine hB _ _ _ _ _ (fun m23 hm23 => ?_)
            dsimp only [ugo, uwp, ust, uct, rfd, Bfits, Bfits_96, Nat.beq, lv_args, rlk, rs1, rs2, rdl, rky, rcd, rno, rsw, Value.category, List.filter, List.take, List.drop, List.reverse, List.reverseAux, List.cons_append, List.nil_append, Option.toList, Int.toNat, Int.reduceToNat, if_pos, if_neg, reduceIte, ↓reduceIte, Nat.reduceAdd, Nat.reduceEqDiff, Nat.reduceBEq, beq_self_eq_true, Bool.not_true, Bool.not_false, Bool.and_true, Bool.and_false, Bool.true_and, Bool.false_and, gI_sI, gI_sL, gI_sA, gI_sM, gL_sI, gL_sL, gL_sA, gL_sM, aI_sI, aI_sL, aI_sA, aI_sM, aL_sI, aL_sL, aL_sA, aL_sM]; try dsimp only
            unfold Qv_fits
            try dsimp only
            refine ⟨rfl, 0, rfl, fun e he h5 => ?_⟩
            have e1 := he.1
            have e2 := @ft_hv σ _ e type.toInt he
            refine b00 (fun q => ?_)
            rcases q with q | ⟨q1, q2, q3⟩
            · omega
            · have q4 := (e2 q1).mpr q3
              first | omega | exact q4.1 (by assumption) | exact (by assumption : ¬ hvT _ _) q4.2
          · have c18 : (aI σ 70 (s).toNatClampNeg).toInt ≤ 3 := (cI (rfl : (aI σ 70 (s).toNatClampNeg).toInt = (aI σ 70 (s).toNatClampNeg).toInt) (rfl : (3 : Int32).toInt = 3)).2.2.1.mp (by first | exact h18 | exact Int32.not_lt.mp h18 | exact Int32.not_le.mp h18)
            refine hB _ _ _ _ _ (fun m24 hm24 => ?_)
            dsimp only [ugo, uwp, ust, uct, rfd, Bfits, Bfits_48, Nat.beq, lv_args, rlk, rs1, rs2, rdl, rky, rcd, rno, rsw, Value.category, List.filter, List.take, List.drop, List.reverse, List.reverseAux, List.cons_append, List.nil_append, Option.toList, Int.toNat, Int.reduceToNat, if_pos, if_neg, reduceIte, ↓reduceIte, Nat.reduceAdd, Nat.reduceEqDiff, Nat.reduceBEq, beq_self_eq_true, Bool.not_true, Bool.not_false, Bool.and_true, Bool.and_false, Bool.true_and, Bool.false_and, gI_sI, gI_sL, gI_sA, gI_sM, gL_sI, gL_sL, gL_sA, gL_sM, aI_sI, aI_sL, aI_sA, aI_sM, aL_sI, aL_sL, aL_sA, aL_sM, oi_1]; try dsimp only
            refine ⟨fun h25 => ?_, fun h25 => ?_⟩
            · have c25 : (type).toInt = 1 := (cI (rfl : (type).toInt = (type).toInt) (rfl : (1 : Int32).toInt = 1)).1.mp h25
              refine hB _ _ _ _ _ (fun m26 hm26 => ?_)
              dsimp only [ugo, uwp, ust, uct, rfd, Bfits, Bfits_58, Nat.beq, lv_args, rlk, rs1, rs2, rdl, rky, rcd, rno, rsw, Value.category, List.filter, List.take, List.drop, List.reverse, List.reverseAux, List.cons_append, List.nil_append, Option.toList, Int.toNat, Int.reduceToNat, if_pos, if_neg, reduceIte, ↓reduceIte, Nat.reduceAdd, Nat.reduceEqDiff, Nat.reduceBEq, beq_self_eq_true, Bool.not_true, Bool.not_false, Bool.and_true, Bool.and_false, Bool.true_and, Bool.false_and, gI_sI, gI_sL, gI_sA, gI_sM, gL_sI, gL_sL, gL_sA, gL_sM, aI_sI, aI_sL, aI_sA, aI_sM, aL_sI, aL_sL, aL_sA, aL_sM, oi_1]; try dsimp only
              refine hB _ _ _ _ _ (fun m27 hm27 => ?_)
              dsimp only [ugo, uwp, ust, uct, rfd, Bfits, Bfits_63, Nat.beq, lv_args, rlk, rs1, rs2, rdl, rky, rcd, rno, rsw, Value.category, List.filter, List.take, List.drop, List.reverse, List.reverseAux, List.cons_append, List.nil_append, Option.toList, Int.toNat, Int.reduceToNat, if_pos, if_neg, reduceIte, ↓reduceIte, Nat.reduceAdd, Nat.reduceEqDiff, Nat.reduceBEq, beq_self_eq_true, Bool.not_true, Bool.not_false, Bool.and_true, Bool.and_false, Bool.true_and, Bool.false_and, gI_sI, gI_sL, gI_sA, gI_sM, gL_sI, gL_sL, gL_sA, gL_sM, aI_sI, aI_sL, aI_sA, aI_sM, aL_sI, aL_sL, aL_sA, aL_sM]; try dsimp only
              refine ⟨fun h28 => absurd h28 (by decide), fun h28 => ?_⟩
              clear h28
              refine hB _ _ _ _ _ (fun m29 hm29 => ?_)
              dsimp only [ugo, uwp, ust, uct, rfd, Bfits, Bfits_68, Nat.beq, lv_args, rlk, rs1, rs2, rdl, rky, rcd, rno, rsw, Value.category, List.filter, List.take, List.drop, List.reverse, List.reverseAux, List.cons_append, List.nil_append, Option.toList, Int.toNat, Int.reduceToNat, if_pos, if_neg, reduceIte, ↓reduceIte, Nat.reduceAdd, Nat.reduceEqDiff, Nat.reduceBEq, beq_self_eq_true, Bool.not_true, Bool.not_false, Bool.and_true, Bool.and_false, Bool.true_and, Bool.false_and, gI_sI, gI_sL, gI_sA, gI_sM, gL_sI, gL_sL, gL_sA, gL_sM, aI_sI, aI_sL, aI_sA, aI_sM, aL_sI, aL_sL, aL_sA, aL_sM]; try dsimp only
              intro p30
              refine ⟨fun h31 => ?_, fun h31 => ?_⟩
              · refine hB _ _ _ _ _ (fun m32 hm32 => ?_)
                dsimp only [ugo, uwp, ust, uct, rfd, Bfits, Bfits_95, Nat.beq, lv_args, rlk, rs1, rs2, rdl, rky, rcd, rno, rsw, Value.category, List.filter, List.take, List.drop, List.reverse, List.reverseAux, List.cons_append, List.nil_append, Option.toList, Int.toNat, Int.reduceToNat, if_pos, if_neg, reduceIte, ↓reduceIte, Nat.reduceAdd, Nat.reduceEqDiff, Nat.reduceBEq, beq_self_eq_true, Bool.not_true, Bool.not_false, Bool.and_true, Bool.and_false, Bool.true_and, Bool.false_and, gI_sI, gI_sL, gI_sA, gI_sM, gL_sI, gL_sL, gL_sA, gL_sM, aI_sI, aI_sL, aI_sA, aI_sM, aL_sI, aL_sL, aL_sA, aL_sM, oi_0]; try dsimp only
                refine hB _ _ _ _ _ (fun m33 hm33 => ?_)
                dsimp only [ugo, uwp, ust, uct, rfd, Bfits, Bfits_96, Nat.beq, lv_args, rlk, rs1, rs2, rdl, rky, rcd, rno, rsw, Value.category, List.filter, List.take, List.drop, List.reverse, List.reverseAux, List.cons_append, List.nil_append, Option.toList, Int.toNat, Int.reduceToNat, if_pos, if_neg, reduceIte, ↓reduceIte, Nat.reduceAdd, Nat.reduceEqDiff, Nat.reduceBEq, beq_self_eq_true, Bool.not_true, Bool.not_false, Bool.and_true, Bool.and_false, Bool.true_and, Bool.false_and, gI_sI, gI_sL, gI_sA, gI_sM, gL_sI, gL_sL, gL_sA, gL_sM, aI_sI, aI_sL, aI_sA, aI_sM, aL_sI, aL_sL, aL_sA, aL_sM]; try dsimp only
                unfold Qv_fits
                try dsimp only
                refine ⟨rfl, 0, rfl, fun e he h5 => ?_⟩
                have e1 := he.1
                have e2 := @ft_hv σ _ e type.toInt he
                refine b00 (fun q => ?_)
                rcases q with q | ⟨q1, q2, q3⟩
                · omega
                · have q4 := (e2 q1).mpr q3
                  first | omega | exact q4.1 (by assumption) | exact (by assumption : ¬ hvT _ _) q4.2
              · refine hB _ _ _ _ _ (fun m34 hm34 => ?_)
                dsimp only [ugo, uwp, ust, uct, rfd, Bfits, Bfits_77, Nat.beq, lv_args, rlk, rs1, rs2, rdl, rky, rcd, rno, rsw, Value.category, List.filter, List.take, List.drop, List.reverse, List.reverseAux, List.cons_append, List.nil_append, Option.toList, Int.toNat, Int.reduceToNat, if_pos, if_neg, reduceIte, ↓reduceIte, Nat.reduceAdd, Nat.reduceEqDiff, Nat.reduceBEq, beq_self_eq_true, Bool.not_true, Bool.not_false, Bool.and_true, Bool.and_false, Bool.true_and, Bool.false_and, gI_sI, gI_sL, gI_sA, gI_sM, gL_sI, gL_sL, gL_sA, gL_sM, aI_sI, aI_sL, aI_sA, aI_sM, aL_sI, aL_sL, aL_sA, aL_sM]; try dsimp only
                intro p35
                refine ⟨trivial, fun w36 τ36 hq36 => ?_⟩
                obtain ⟨rfl, b36, rfl, hb36⟩ := hq36 trivial
                try rw [show (type).toInt = (type).toInt from (rfl : (type).toInt = (type).toInt)] at hb36
                have hb36 : ¬ b36 = 0 ↔ hvT ((type).toInt) ((aL σ 72) (s).toNatClampNeg) := hb36
                dsimp only [Option.toList, List.cons_append, List.nil_append, Nat.beq, gI_sI, gI_sL, gI_sA, gI_sM, gL_sI, gL_sL, gL_sA, gL_sM, aI_sI, aI_sL, aI_sA, aI_sM, aL_sI, aL_sL, aL_sA, aL_sM]
                refine ⟨fun h37 => ?_, fun h37 => ?_⟩
                · have c37 : ¬ (hvT ((type).toInt) ((aL σ 72) (s).toNatClampNeg)) := fun q => (hb36).mpr q h37
                  refine hB _ _ _ _ _ (fun m38 hm38 => ?_)
                  dsimp only [ugo, uwp, ust, uct, rfd, Bfits, Bfits_95, Nat.beq, lv_args, rlk, rs1, rs2, rdl, rky, rcd, rno, rsw, Value.category, List.filter, List.take, List.drop, List.reverse, List.reverseAux, List.cons_append, List.nil_append, Option.toList, Int.toNat, Int.reduceToNat, if_pos, if_neg, reduceIte, ↓reduceIte, Nat.reduceAdd, Nat.reduceEqDiff, Nat.reduceBEq, beq_self_eq_true, Bool.not_true, Bool.not_false, Bool.and_true, Bool.and_false, Bool.true_and, Bool.false_and, gI_sI, gI_sL, gI_sA, gI_sM, gL_sI, gL_sL, gL_sA, gL_sM, aI_sI, aI_sL, aI_sA, aI_sM, aL_sI, aL_sL, aL_sA, aL_sM, oi_0]; try dsimp only
                  refine hB _ _ _ _ _ (fun m39 hm39 => ?_)
                  dsimp only [ugo, uwp, ust, uct, rfd, Bfits, Bfits_96, Nat.beq, lv_args, rlk, rs1, rs2, rdl, rky, rcd, rno, rsw, Value.category, List.filter, List.take, List.drop, List.reverse, List.reverseAux, List.cons_append, List.nil_append, Option.toList, Int.toNat, Int.reduceToNat, if_pos, if_neg, reduceIte, ↓reduceIte, Nat.reduceAdd, Nat.reduceEqDiff, Nat.reduceBEq, beq_self_eq_true, Bool.not_true, Bool.not_false, Bool.and_true, Bool.and_false, Bool.true_and, Bool.false_and, gI_sI, gI_sL, gI_sA, gI_sM, gL_sI, gL_sL, gL_sA, gL_sM, aI_sI, aI_sL, aI_sA, aI_sM, aL_sI, aL_sL, aL_sA, aL_sM]; try dsimp only
                  unfold Qv_fits
                  try dsimp only
                  refine ⟨rfl, 0, rfl, fun e he h5 => ?_⟩
                  have e1 := he.1
                  have e2 := @ft_hv σ _ e type.toInt he
                  refine b00 (fun q => ?_)
                  rcases q with q | ⟨q1, q2, q3⟩
                  · omega
                  · have q4 := (e2 q1).mpr q3
                    first | omega | exact q4.1 (by assumption) | exact (by assumption : ¬ hvT _ _) q4.2
                · have c37 : hvT ((type).toInt) ((aL σ 72) (s).toNatClampNeg) := (hb36).mp h37
                  refine hB _ _ _ _ _ (fun m40 hm40 => ?_)
                  dsimp only [ugo, uwp, ust, uct, rfd, Bfits, Bfits_91, Nat.beq, lv_args, rlk, rs1, rs2, rdl, rky, rcd, rno, rsw, Value.category, List.filter, List.take, List.drop, List.reverse, List.reverseAux, List.cons_append, List.nil_append, Option.toList, Int.toNat, Int.reduceToNat, if_pos, if_neg, reduceIte, ↓reduceIte, Nat.reduceAdd, Nat.reduceEqDiff, Nat.reduceBEq, beq_self_eq_true, Bool.not_true, Bool.not_false, Bool.and_true, Bool.and_false, Bool.true_and, Bool.false_and, gI_sI, gI_sL, gI_sA, gI_sM, gL_sI, gL_sL, gL_sA, gL_sM, aI_sI, aI_sL, aI_sA, aI_sM, aL_sI, aL_sL, aL_sA, aL_sM, oi_1]; try dsimp only
                  refine hB _ _ _ _ _ (fun m41 hm41 => ?_)
                  dsimp only [ugo, uwp, ust, uct, rfd, Bfits, Bfits_96, Nat.beq, lv_args, rlk, rs1, rs2, rdl, rky, rcd, rno, rsw, Value.category, List.filter, List.take, List.drop, List.reverse, List.reverseAux, List.cons_append, List.nil_append, Option.toList, Int.toNat, Int.reduceToNat, if_pos, if_neg, reduceIte, ↓reduceIte, Nat.reduceAdd, Nat.reduceEqDiff, Nat.reduceBEq, beq_self_eq_true, Bool.not_true, Bool.not_false, Bool.and_true, Bool.and_false, Bool.true_and, Bool.false_and, gI_sI, gI_sL, gI_sA, gI_sM, gL_sI, gL_sL, gL_sA, gL_sM, aI_sI, aI_sL, aI_sA, aI_sM, aL_sI, aL_sL, aL_sA, aL_sM]; try dsimp only
                  unfold Qv_fits
                  try dsimp only
                  refine ⟨rfl, 1, rfl, fun e he h5 => ?_⟩
                  have e1 := he.1
                  have e2 := @ft_hv σ _ e type.toInt he
                  refine b01 ?_
                  first | exact Or.inl (by rw [← e1]; assumption) | exact Or.inr ⟨by omega, by omega, (e2 (by omega)).mp ⟨by assumption, by assumption⟩⟩
            · have c25 : ¬ (type).toInt = 1 := fun q => h25 ((cI (rfl : (type).toInt = (type).toInt) (rfl : (1 : Int32).toInt = 1)).1.mpr q)
              refine hB _ _ _ _ _ (fun m42 hm42 => ?_)
              dsimp only [ugo, uwp, ust, uct, rfd, Bfits, Bfits_53, Nat.beq, lv_args, rlk, rs1, rs2, rdl, rky, rcd, rno, rsw, Value.category, List.filter, List.take, List.drop, List.reverse, List.reverseAux, List.cons_append, List.nil_append, Option.toList, Int.toNat, Int.reduceToNat, if_pos, if_neg, reduceIte, ↓reduceIte, Nat.reduceAdd, Nat.reduceEqDiff, Nat.reduceBEq, beq_self_eq_true, Bool.not_true, Bool.not_false, Bool.and_true, Bool.and_false, Bool.true_and, Bool.false_and, gI_sI, gI_sL, gI_sA, gI_sM, gL_sI, gL_sL, gL_sA, gL_sM, aI_sI, aI_sL, aI_sA, aI_sM, aL_sI, aL_sL, aL_sA, aL_sM, oi_2]; try dsimp only
              refine ⟨fun h43 => ?_, fun h43 => ?_⟩
              · have c43 : ¬ (type).toInt = 2 := fun q => h43 ((cI (rfl : (type).toInt = (type).toInt) (rfl : (2 : Int32).toInt = 2)).1.mpr q)
                refine hB _ _ _ _ _ (fun m44 hm44 => ?_)
                dsimp only [ugo, uwp, ust, uct, rfd, Bfits, Bfits_62, Nat.beq, lv_args, rlk, rs1, rs2, rdl, rky, rcd, rno, rsw, Value.category, List.filter, List.take, List.drop, List.reverse, List.reverseAux, List.cons_append, List.nil_append, Option.toList, Int.toNat, Int.reduceToNat, if_pos, if_neg, reduceIte, ↓reduceIte, Nat.reduceAdd, Nat.reduceEqDiff, Nat.reduceBEq, beq_self_eq_true, Bool.not_true, Bool.not_false, Bool.and_true, Bool.and_false, Bool.true_and, Bool.false_and, gI_sI, gI_sL, gI_sA, gI_sM, gL_sI, gL_sL, gL_sA, gL_sM, aI_sI, aI_sL, aI_sA, aI_sM, aL_sI, aL_sL, aL_sA, aL_sM, oi_0]; try dsimp only
                refine hB _ _ _ _ _ (fun m45 hm45 => ?_)
                dsimp only [ugo, uwp, ust, uct, rfd, Bfits, Bfits_63, Nat.beq, lv_args, rlk, rs1, rs2, rdl, rky, rcd, rno, rsw, Value.category, List.filter, List.take, List.drop, List.reverse, List.reverseAux, List.cons_append, List.nil_append, Option.toList, Int.toNat, Int.reduceToNat, if_pos, if_neg, reduceIte, ↓reduceIte, Nat.reduceAdd, Nat.reduceEqDiff, Nat.reduceBEq, beq_self_eq_true, Bool.not_true, Bool.not_false, Bool.and_true, Bool.and_false, Bool.true_and, Bool.false_and, gI_sI, gI_sL, gI_sA, gI_sM, gL_sI, gL_sL, gL_sA, gL_sM, aI_sI, aI_sL, aI_sA, aI_sM, aL_sI, aL_sL, aL_sA, aL_sM]; try dsimp only
                refine ⟨fun h46 => ?_, fun h46 => absurd h46 (by decide)⟩
                clear h46
                refine hB _ _ _ _ _ (fun m47 hm47 => ?_)
                dsimp only [ugo, uwp, ust, uct, rfd, Bfits, Bfits_95, Nat.beq, lv_args, rlk, rs1, rs2, rdl, rky, rcd, rno, rsw, Value.category, List.filter, List.take, List.drop, List.reverse, List.reverseAux, List.cons_append, List.nil_append, Option.toList, Int.toNat, Int.reduceToNat, if_pos, if_neg, reduceIte, ↓reduceIte, Nat.reduceAdd, Nat.reduceEqDiff, Nat.reduceBEq, beq_self_eq_true, Bool.not_true, Bool.not_false, Bool.and_true, Bool.and_false, Bool.true_and, Bool.false_and, gI_sI, gI_sL, gI_sA, gI_sM, gL_sI, gL_sL, gL_sA, gL_sM, aI_sI, aI_sL, aI_sA, aI_sM, aL_sI, aL_sL, aL_sA, aL_sM, oi_0]; try dsimp only
                refine hB _ _ _ _ _ (fun m48 hm48 => ?_)
                dsimp only [ugo, uwp, ust, uct, rfd, Bfits, Bfits_96, Nat.beq, lv_args, rlk, rs1, rs2, rdl, rky, rcd, rno, rsw, Value.category, List.filter, List.take, List.drop, List.reverse, List.reverseAux, List.cons_append, List.nil_append, Option.toList, Int.toNat, Int.reduceToNat, if_pos, if_neg, reduceIte, ↓reduceIte, Nat.reduceAdd, Nat.reduceEqDiff, Nat.reduceBEq, beq_self_eq_true, Bool.not_true, Bool.not_false, Bool.and_true, Bool.and_false, Bool.true_and, Bool.false_and, gI_sI, gI_sL, gI_sA, gI_sM, gL_sI, gL_sL, gL_sA, gL_sM, aI_sI, aI_sL, aI_sA, aI_sM, aL_sI, aL_sL, aL_sA, aL_sM]; try dsimp only
                unfold Qv_fits
                try dsimp only
                refine ⟨rfl, 0, rfl, fun e he h5 => ?_⟩
                have e1 := he.1
                have e2 := @ft_hv σ _ e type.toInt he
                refine b00 (fun q => ?_)
                rcases q with q | ⟨q1, q2, q3⟩
                · omega
                · have q4 := (e2 q1).mpr q3
                  first | omega | exact q4.1 (by assumption) | exact (by assumption : ¬ hvT _ _) q4.2
              · have c43 : (type).toInt = 2 := (cI (rfl : (type).toInt = (type).toInt) (rfl : (2 : Int32).toInt = 2)).1.mp h43
                refine hB _ _ _ _ _ (fun m49 hm49 => ?_)
                dsimp only [ugo, uwp, ust, uct, rfd, Bfits, Bfits_58, Nat.beq, lv_args, rlk, rs1, rs2, rdl, rky, rcd, rno, rsw, Value.category, List.filter, List.take, List.drop, List.reverse, List.reverseAux, List.cons_append, List.nil_append, Option.toList, Int.toNat, Int.reduceToNat, if_pos, if_neg, reduceIte, ↓reduceIte, Nat.reduceAdd, Nat.reduceEqDiff, Nat.reduceBEq, beq_self_eq_true, Bool.not_true, Bool.not_false, Bool.and_true, Bool.and_false, Bool.true_and, Bool.false_and, gI_sI, gI_sL, gI_sA, gI_sM, gL_sI, gL_sL, gL_sA, gL_sM, aI_sI, aI_sL, aI_sA, aI_sM, aL_sI, aL_sL, aL_sA, aL_sM, oi_1]; try dsimp only
                refine hB _ _ _ _ _ (fun m50 hm50 => ?_)
                dsimp only [ugo, uwp, ust, uct, rfd, Bfits, Bfits_63, Nat.beq, lv_args, rlk, rs1, rs2, rdl, rky, rcd, rno, rsw, Value.category, List.filter, List.take, List.drop, List.reverse, List.reverseAux, List.cons_append, List.nil_append, Option.toList, Int.toNat, Int.reduceToNat, if_pos, if_neg, reduceIte, ↓reduceIte, Nat.reduceAdd, Nat.reduceEqDiff, Nat.reduceBEq, beq_self_eq_true, Bool.not_true, Bool.not_false, Bool.and_true, Bool.and_false, Bool.true_and, Bool.false_and, gI_sI, gI_sL, gI_sA, gI_sM, gL_sI, gL_sL, gL_sA, gL_sM, aI_sI, aI_sL, aI_sA, aI_sM, aL_sI, aL_sL, aL_sA, aL_sM]; try dsimp only
                refine ⟨fun h51 => absurd h51 (by decide), fun h51 => ?_⟩
                clear h51
                refine hB _ _ _ _ _ (fun m52 hm52 => ?_)
                dsimp only [ugo, uwp, ust, uct, rfd, Bfits, Bfits_68, Nat.beq, lv_args, rlk, rs1, rs2, rdl, rky, rcd, rno, rsw, Value.category, List.filter, List.take, List.drop, List.reverse, List.reverseAux, List.cons_append, List.nil_append, Option.toList, Int.toNat, Int.reduceToNat, if_pos, if_neg, reduceIte, ↓reduceIte, Nat.reduceAdd, Nat.reduceEqDiff, Nat.reduceBEq, beq_self_eq_true, Bool.not_true, Bool.not_false, Bool.and_true, Bool.and_false, Bool.true_and, Bool.false_and, gI_sI, gI_sL, gI_sA, gI_sM, gL_sI, gL_sL, gL_sA, gL_sM, aI_sI, aI_sL, aI_sA, aI_sM, aL_sI, aL_sL, aL_sA, aL_sM]; try dsimp only
                intro p53
                refine ⟨fun h54 => ?_, fun h54 => ?_⟩
                · refine hB _ _ _ _ _ (fun m55 hm55 => ?_)
                  dsimp only [ugo, uwp, ust, uct, rfd, Bfits, Bfits_95, Nat.beq, lv_args, rlk, rs1, rs2, rdl, rky, rcd, rno, rsw, Value.category, List.filter, List.take, List.drop, List.reverse, List.reverseAux, List.cons_append, List.nil_append, Option.toList, Int.toNat, Int.reduceToNat, if_pos, if_neg, reduceIte, ↓reduceIte, Nat.reduceAdd, Nat.reduceEqDiff, Nat.reduceBEq, beq_self_eq_true, Bool.not_true, Bool.not_false, Bool.and_true, Bool.and_false, Bool.true_and, Bool.false_and, gI_sI, gI_sL, gI_sA, gI_sM, gL_sI, gL_sL, gL_sA, gL_sM, aI_sI, aI_sL, aI_sA, aI_sM, aL_sI, aL_sL, aL_sA, aL_sM, oi_0]; try dsimp only
                  refine hB _ _ _ _ _ (fun m56 hm56 => ?_)
                  dsimp only [ugo, uwp, ust, uct, rfd, Bfits, Bfits_96, Nat.beq, lv_args, rlk, rs1, rs2, rdl, rky, rcd, rno, rsw, Value.category, List.filter, List.take, List.drop, List.reverse, List.reverseAux, List.cons_append, List.nil_append, Option.toList, Int.toNat, Int.reduceToNat, if_pos, if_neg, reduceIte, ↓reduceIte, Nat.reduceAdd, Nat.reduceEqDiff, Nat.reduceBEq, beq_self_eq_true, Bool.not_true, Bool.not_false, Bool.and_true, Bool.and_false, Bool.true_and, Bool.false_and, gI_sI, gI_sL, gI_sA, gI_sM, gL_sI, gL_sL, gL_sA, gL_sM, aI_sI, aI_sL, aI_sA, aI_sM, aL_sI, aL_sL, aL_sA, aL_sM]; try dsimp only
                  unfold Qv_fits
                  try dsimp only
                  refine ⟨rfl, 0, rfl, fun e he h5 => ?_⟩
                  have e1 := he.1
                  have e2 := @ft_hv σ _ e type.toInt he
                  refine b00 (fun q => ?_)
                  rcases q with q | ⟨q1, q2, q3⟩
                  · omega
                  · have q4 := (e2 q1).mpr q3
                    first | omega | exact q4.1 (by assumption) | exact (by assumption : ¬ hvT _ _) q4.2
                · refine hB _ _ _ _ _ (fun m57 hm57 => ?_)
                  dsimp only [ugo, uwp, ust, uct, rfd, Bfits, Bfits_77, Nat.beq, lv_args, rlk, rs1, rs2, rdl, rky, rcd, rno, rsw, Value.category, List.filter, List.take, List.drop, List.reverse, List.reverseAux, List.cons_append, List.nil_append, Option.toList, Int.toNat, Int.reduceToNat, if_pos, if_neg, reduceIte, ↓reduceIte, Nat.reduceAdd, Nat.reduceEqDiff, Nat.reduceBEq, beq_self_eq_true, Bool.not_true, Bool.not_false, Bool.and_true, Bool.and_false, Bool.true_and, Bool.false_and, gI_sI, gI_sL, gI_sA, gI_sM, gL_sI, gL_sL, gL_sA, gL_sM, aI_sI, aI_sL, aI_sA, aI_sM, aL_sI, aL_sL, aL_sA, aL_sM]; try dsimp only
                  intro p58
                  refine ⟨trivial, fun w59 τ59 hq59 => ?_⟩
                  obtain ⟨rfl, b59, rfl, hb59⟩ := hq59 trivial
                  try rw [show (type).toInt = (type).toInt from (rfl : (type).toInt = (type).toInt)] at hb59
                  have hb59 : ¬ b59 = 0 ↔ hvT ((type).toInt) ((aL σ 72) (s).toNatClampNeg) := hb59
                  dsimp only [Option.toList, List.cons_append, List.nil_append, Nat.beq, gI_sI, gI_sL, gI_sA, gI_sM, gL_sI, gL_sL, gL_sA, gL_sM, aI_sI, aI_sL, aI_sA, aI_sM, aL_sI, aL_sL, aL_sA, aL_sM]
                  refine ⟨fun h60 => ?_, fun h60 => ?_⟩
                  · have c60 : ¬ (hvT ((type).toInt) ((aL σ 72) (s).toNatClampNeg)) := fun q => (hb59).mpr q h60
                    refine hB _ _ _ _ _ (fun m61 hm61 => ?_)
                    dsimp only [ugo, uwp, ust, uct, rfd, Bfits, Bfits_95, Nat.beq, lv_args, rlk, rs1, rs2, rdl, rky, rcd, rno, rsw, Value.category, List.filter, List.take, List.drop, List.reverse, List.reverseAux, List.cons_append, List.nil_append, Option.toList, Int.toNat, Int.reduceToNat, if_pos, if_neg, reduceIte, ↓reduceIte, Nat.reduceAdd, Nat.reduceEqDiff, Nat.reduceBEq, beq_self_eq_true, Bool.not_true, Bool.not_false, Bool.and_true, Bool.and_false, Bool.true_and, Bool.false_and, gI_sI, gI_sL, gI_sA, gI_sM, gL_sI, gL_sL, gL_sA, gL_sM, aI_sI, aI_sL, aI_sA, aI_sM, aL_sI, aL_sL, aL_sA, aL_sM, oi_0]; try dsimp only
                    refine hB _ _ _ _ _ (fun m62 hm62 => ?_)
                    dsimp only [ugo, uwp, ust, uct, rfd, Bfits, Bfits_96, Nat.beq, lv_args, rlk, rs1, rs2, rdl, rky, rcd, rno, rsw, Value.category, List.filter, List.take, List.drop, List.reverse, List.reverseAux, List.cons_append, List.nil_append, Option.toList, Int.toNat, Int.reduceToNat, if_pos, if_neg, reduceIte, ↓reduceIte, Nat.reduceAdd, Nat.reduceEqDiff, Nat.reduceBEq, beq_self_eq_true, Bool.not_true, Bool.not_false, Bool.and_true, Bool.and_false, Bool.true_and, Bool.false_and, gI_sI, gI_sL, gI_sA, gI_sM, gL_sI, gL_sL, gL_sA, gL_sM, aI_sI, aI_sL, aI_sA, aI_sM, aL_sI, aL_sL, aL_sA, aL_sM]; try dsimp only
                    unfold Qv_fits
                    try dsimp only
                    refine ⟨rfl, 0, rfl, fun e he h5 => ?_⟩
                    have e1 := he.1
                    have e2 := @ft_hv σ _ e type.toInt he
                    refine b00 (fun q => ?_)
                    rcases q with q | ⟨q1, q2, q3⟩
                    · omega
                    · have q4 := (e2 q1).mpr q3
                      first | omega | exact q4.1 (by assumption) | exact (by assumption : ¬ hvT _ _) q4.2
                  · have c60 : hvT ((type).toInt) ((aL σ 72) (s).toNatClampNeg) := (hb59).mp h60
                    refine hB _ _ _ _ _ (fun m63 hm63 => ?_)
                    dsimp only [ugo, uwp, ust, uct, rfd, Bfits, Bfits_91, Nat.beq, lv_args, rlk, rs1, rs2, rdl, rky, rcd, rno, rsw, Value.category, List.filter, List.take, List.drop, List.reverse, List.reverseAux, List.cons_append, List.nil_append, Option.toList, Int.toNat, Int.reduceToNat, if_pos, if_neg, reduceIte, ↓reduceIte, Nat.reduceAdd, Nat.reduceEqDiff, Nat.reduceBEq, beq_self_eq_true, Bool.not_true, Bool.not_false, Bool.and_true, Bool.and_false, Bool.true_and, Bool.false_and, gI_sI, gI_sL, gI_sA, gI_sM, gL_sI, gL_sL, gL_sA, gL_sM, aI_sI, aI_sL, aI_sA, aI_sM, aL_sI, aL_sL, aL_sA, aL_sM, oi_1]; try dsimp only
                    refine hB _ _ _ _ _ (fun m64 hm64 => ?_)
                    dsimp only [ugo, uwp, ust, uct, rfd, Bfits, Bfits_96, Nat.beq, lv_args, rlk, rs1, rs2, rdl, rky, rcd, rno, rsw, Value.category, List.filter, List.take, List.drop, List.reverse, List.reverseAux, List.cons_append, List.nil_append, Option.toList, Int.toNat, Int.reduceToNat, if_pos, if_neg, reduceIte, ↓reduceIte, Nat.reduceAdd, Nat.reduceEqDiff, Nat.reduceBEq, beq_self_eq_true, Bool.not_true, Bool.not_false, Bool.and_true, Bool.and_false, Bool.true_and, Bool.false_and, gI_sI, gI_sL, gI_sA, gI_sM, gL_sI, gL_sL, gL_sA, gL_sM, aI_sI, aI_sL, aI_sA, aI_sM, aL_sI, aL_sL, aL_sA, aL_sM]; try dsimp only
                    unfold Qv_fits
                    try dsimp only
                    refine ⟨rfl, 1, rfl, fun e he h5 => ?_⟩
                    have e1 := he.1
                    have e2 := @ft_hv σ _ e type.toInt he
                    refine b01 ?_
                    first | exact Or.inl (by rw [← e1]; assumption) | exact Or.inr ⟨by omega, by omega, (e2 (by omega)).mp ⟨by assumption, by assumption⟩⟩
      · have c7 : wdT ((aI σ 70 (s).toNatClampNeg).toInt) ((type).toInt) := (hb6).mp h7
        refine hB _ _ _ _ _ (fun m65 hm65 => ?_)
        dsimp only [ugo, uwp, ust, uct, rfd, Bfits, Bfits_26, Nat.beq, lv_args, rlk, rs1, rs2, rdl, rky, rcd, rno, rsw, Value.category, List.filter, List.take, List.drop, List.reverse, List.reverseAux, List.cons_append, List.nil_append, Option.toList, Int.toNat, Int.reduceToNat, if_pos, if_neg, reduceIte, ↓reduceIte, Nat.reduceAdd, Nat.reduceEqDiff, Nat.reduceBEq, beq_self_eq_true, Bool.not_true, Bool.not_false, Bool.and_true, Bool.and_false, Bool.true_and, Bool.false_and, gI_sI, gI_sL, gI_sA, gI_sM, gL_sI, gL_sL, gL_sA, gL_sM, aI_sI, aI_sL, aI_sA, aI_sM, aL_sI, aL_sL, aL_sA, aL_sM, oi_1]; try dsimp only
        unfold Qv_fits
        try dsimp only
        refine ⟨rfl, 1, rfl, fun e he h5 => ?_⟩
        have e1 := he.1
        have e2 := @ft_hv σ _ e type.toInt he
        refine b01 ?_
        first | exact Or.inl (by rw [← e1]; assumption) | exact Or.inr ⟨by omega, by omega, (e2 (by omega)).mp ⟨by assumption, by assumption⟩⟩
    · have c3 : (aI σ 70 (s).toNatClampNeg).toInt = 5 := (cI (rfl : (aI σ 70 (s).toNatClampNeg).toInt = (aI σ 70 (s).toNatClampNeg).toInt) (rfl : (5 : Int32).toInt = 5)).1.mp h3
      refine hB _ _ _ _ _ (fun m66 hm66 => ?_)
      dsimp only [ugo, uwp, ust, uct, rfd, Bfits, Bfits_10, Nat.beq, lv_args, rlk, rs1, rs2, rdl, rky, rcd, rno, rsw, Value.category, List.filter, List.take, List.drop, List.reverse, List.reverseAux, List.cons_append, List.nil_append, Option.toList, Int.toNat, Int.reduceToNat, if_pos, if_neg, reduceIte, ↓reduceIte, Nat.reduceAdd, Nat.reduceEqDiff, Nat.reduceBEq, beq_self_eq_true, Bool.not_true, Bool.not_false, Bool.and_true, Bool.and_false, Bool.true_and, Bool.false_and, gI_sI, gI_sL, gI_sA, gI_sM, gL_sI, gL_sL, gL_sA, gL_sM, aI_sI, aI_sL, aI_sA, aI_sM, aL_sI, aL_sL, aL_sA, aL_sM, oi_0]; try dsimp only
      unfold Qv_fits
      try dsimp only
      refine ⟨rfl, 0, rfl, fun e he h5 => ?_⟩
      have e1 := he.1
      have e2 := @ft_hv σ _ e type.toInt he
      refine b00 (fun q => ?_)
      rcases q with q | ⟨q1, q2, q3⟩
      · omega
      · have q4 := (e2 q1).mpr q3
        first | omega | exact q4.1 (by assumption) | exact (by assumption : ¬ hvT _ _) q4.2
  next => exact hP.elim
theorem w_fits : UMet 75 (fun _ _ => True) Qw_fits := fun A1 σ _ w τ h hP => v_fits A1 σ hP w τ h
