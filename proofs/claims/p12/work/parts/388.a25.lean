/-! the reference's flow: where methods begin, what comes by jumps, a finally's end -/
theorem sI_2 {σ : RS} {k : Nat} {v w : Int32} : sI (sI σ k v) k w = sI σ k w := Prod.ext (funext fun j => by by_cases h : j = k <;> simp [sI, h, nb_eq, nb_ne]) rfl
theorem sM_2 {σ : RS} {k : Nat} {f g : Nat → Int64} : sM (sM σ k f) k g = sM σ k g := Prod.ext rfl (Prod.ext rfl (Prod.ext rfl (funext fun j => by by_cases h : j = k <;> simp [sM, h, nb_eq, nb_ne])))
theorem sM_i {σ : RS} {k : Nat} : sM σ k (aL σ k) = σ := Prod.ext rfl (Prod.ext rfl (Prod.ext rfl (funext fun j => by by_cases h : j = k <;> simp [sM, aL, h, nb_eq, nb_ne])))
/-- params of method m, the first k variables -/
def stB (σ : RS) (m : Int32) : Nat → Int64
  | 0 => 0
  | k + 1 => if m < gI σ 36 ∧ aI σ 46 k = m ∧ Int32.ofInt k < aI σ 40 m.toNatClampNeg + aI σ 39 m.toNatClampNeg then stB σ m k ||| 1 <<< ((Int32.ofInt k).toInt64 &&& 63) else stB σ m k
/-- what comes to thing k by the first j jumps: bits, whether one is alive, where the jumps lead to then -/
def coF (σ : RS) (k on : Int32) : Nat → Int64 × Int32 × (Nat → Int32)
  | 0 => (Int64.ofInt (-1), 0, aI σ 104)
  | j + 1 => if (coF σ k on j).2.2 j = k ∧ aI σ 105 j = on then ((coF σ k on j).1 &&& aL σ 108 j, if ¬ (coF σ k on j).2.1 = 0 ∨ ¬ aI σ 107 j = 0 then 1 else 0, upd (coF σ k on j).2.2 j (-5)) else coF σ k on j
def coS (σ : RS) (k on : Int32) (n : Nat) : RS := sA (sI σ 116 (coF σ k on n).2.1) 104 (coF σ k on n).2.2
/-- jumps through thing k's finally: alive, bits of the first j -/
def enF (σ : RS) (k : Int32) : Nat → (Nat → Int32) × (Nat → Int64)
  | 0 => (aI σ 107, aL σ 108)
  | j + 1 => if 0 ≤ aI σ 104 j ∧ aI σ 51 k.toNatClampNeg ≤ aI σ 106 j ∧ aI σ 106 j ≤ aI σ 58 k.toNatClampNeg then (upd (enF σ k j).1 j (if ¬ (enF σ k j).1 j = 0 ∧ ¬ gI σ 92 = 0 then 1 else 0), vp_updL (enF σ k j).2 j (if gI σ 92 = 0 then Int64.ofInt (-1) else (enF σ k j).2 j ||| nowR σ)) else enF σ k j
def enS (σ : RS) (k : Int32) (n : Nat) : RS := sM (sA σ 107 (enF σ k n).1) 108 (enF σ k n).2
theorem i32_o {v : Int32} {k : Nat} (h : v.toInt = (k : Int)) : v = Int32.ofInt (k : Int) := by rw [← h, Int32.ofInt_toInt]
def Pv_start : UP1 := fun A1 σ => match A1 with
  | [.int m] => True
  | _ => False
def Qv_start : UQ1 := fun A1 σ w τ => match A1 with
  | [.int m] => w = none ∧ τ = beS (sI σ 92 1) (stB σ m (gI σ 42).toInt.toNat)
  | _ => False
def Qw_start : UQ1 := fun A1 σ w τ => Pv_start A1 σ → Qv_start A1 σ w τ
set_option maxRecDepth 100000 in
set_option maxHeartbeats 4000000 in
theorem v_start : UMet 114 (Pv_start) (Qv_start) := by
  refine UMet.by Bstart [(112, (fun _ _ => True), Qw_be)] rfl (ucc w_be uc0) ?_
  intro A1 σ hP K hB hW
  unfold Pv_start at hP
  split at hP
  next m =>
    have loop : ∀ (N : Nat) (bs : Int64) (v : Int32) (k : Nat), v.toInt = (k : Int) → (k : Int) ≤ max 0 (gI σ 42).toInt → bs = stB σ m k → K N 10 [(0, .ref 1000), (1, .int m), (2, .long bs), (4, .int v)] [] (sI σ 92 1) := by
      intro N
      induction N using Nat.strongRecOn with
      | ind N loop =>
        intro bs v k hv hk hbs
        refine hB _ _ _ _ _ (fun m1 hm1 => ?_)
        dsimp only [ugo, uwp, ust, uct, rfd, Bstart, Bstart_10, Nat.beq, lv_args, rlk, rs1, rs2, rdl, rky, rcd, rno, rsw, Value.category, List.filter, List.take, List.drop, List.reverse, List.reverseAux, List.cons_append, List.nil_append, Option.toList, Int.toNat, Int.reduceToNat, if_pos, if_neg, reduceIte, ↓reduceIte, Nat.reduceAdd, Nat.reduceEqDiff, Nat.reduceBEq, beq_self_eq_true, Bool.not_true, Bool.not_false, Bool.and_true, Bool.and_false, Bool.true_and, Bool.false_and, gI_sI, gI_sL, gI_sA, gI_sM, gL_sI, gL_sL, gL_sA, gL_sM, aI_sI, aI_sL, aI_sA, aI_sM, aL_sI, aL_sL, aL_sA, aL_sM]; try dsimp only
        refine ⟨fun h2 => ?_, fun h2 => ?_⟩
        · have c2 : (gI σ 42).toInt ≤ (k : Int) := (cI hv (rfl : (gI σ 42).toInt = (gI σ 42).toInt)).2.2.2.2.mp h2
          refine hB _ _ _ _ _ (fun m3 hm3 => ?_)
          dsimp only [ugo, uwp, ust, uct, rfd, Bstart, Bstart_69, Nat.beq, lv_args, rlk, rs1, rs2, rdl, rky, rcd, rno, rsw, Value.category, List.filter, List.take, List.drop, List.reverse, List.reverseAux, List.cons_append, List.nil_append, Option.toList, Int.toNat, Int.reduceToNat, if_pos, if_neg, reduceIte, ↓reduceIte, Nat.reduceAdd, Nat.reduceEqDiff, Nat.reduceBEq, beq_self_eq_true, Bool.not_true, Bool.not_false, Bool.and_true, Bool.and_false, Bool.true_and, Bool.false_and, gI_sI, gI_sL, gI_sA, gI_sM, gL_sI, gL_sL, gL_sA, gL_sM, aI_sI, aI_sL, aI_sA, aI_sM, aL_sI, aL_sL, aL_sA, aL_sM]; try dsimp only
          refine ⟨trivial, fun w4 τ4 hq4 => ?_⟩
          obtain ⟨rfl, rfl⟩ := hq4 trivial
          dsimp only [Option.toList, List.cons_append, List.nil_append, Nat.beq, gI_sI, gI_sL, gI_sA, gI_sM, gL_sI, gL_sL, gL_sA, gL_sM, aI_sI, aI_sL, aI_sA, aI_sM, aL_sI, aL_sL, aL_sA, aL_sM]
          unfold Qv_start
          try dsimp only
          have ek : k = (gI σ 42).toInt.toNat := by omega
          exact ⟨rfl, by rw [hbs, ek]⟩
        · have c2 : (k : Int) < (gI σ 42).toInt := (cI hv (rfl : (gI σ 42).toInt = (gI σ 42).toInt)).2.1.mp (by first | exact h2 | exact Int32.not_lt.mp h2 | exact Int32.not_le.mp h2)
          refine hB _ _ _ _ _ (fun m5 hm5 => ?_)
          dsimp only [ugo, uwp, ust, uct, rfd, Bstart, Bstart_19, Nat.beq, lv_args, rlk, rs1, rs2, rdl, rky, rcd, rno, rsw, Value.category, List.filter, List.take, List.drop, List.reverse, List.reverseAux, List.cons_append, List.nil_append, Option.toList, Int.toNat, Int.reduceToNat, if_pos, if_neg, reduceIte, ↓reduceIte, Nat.reduceAdd, Nat.reduceEqDiff, Nat.reduceBEq, beq_self_eq_true, Bool.not_true, Bool.not_false, Bool.and_true, Bool.and_false, Bool.true_and, Bool.false_and, gI_sI, gI_sL, gI_sA, gI_sM, gL_sI, gL_sL, gL_sA, gL_sM, aI_sI, aI_sL, aI_sA, aI_sM, aL_sI, aL_sL, aL_sA, aL_sM]; try dsimp only
          refine ⟨fun h6 => ?_, fun h6 => ?_⟩
          · refine hB _ _ _ _ _ (fun m7 hm7 => ?_)
            dsimp only [ugo, uwp, ust, uct, rfd, Bstart, Bstart_63, Nat.beq, lv_args, rlk, rs1, rs2, rdl, rky, rcd, rno, rsw, Value.category, List.filter, List.take, List.drop, List.reverse, List.reverseAux, List.cons_append, List.nil_append, Option.toList, Int.toNat, Int.reduceToNat, if_pos, if_neg, reduceIte, ↓reduceIte, Nat.reduceAdd, Nat.reduceEqDiff, Nat.reduceBEq, beq_self_eq_true, Bool.not_true, Bool.not_false, Bool.and_true, Bool.and_false, Bool.true_and, Bool.false_and, gI_sI, gI_sL, gI_sA, gI_sM, gL_sI, gL_sL, gL_sA, gL_sM, aI_sI, aI_sL, aI_sA, aI_sM, aL_sI, aL_sL, aL_sA, aL_sM, oi_1]; try dsimp only
            have vi := i32_1 (v := v) hv (by have := (gI σ 42).toInt_lt; omega) (by omega)
            have vk : v.toNatClampNeg = k := nT_x hv
            exact hW _ 10 [(0, .ref 1000), (1, .int m), (2, .long bs), (4, .int (v + 1))] _ _ _ (by simp [rdl, rky, Value.category]) (loop _ (by omega) bs (v + 1) (k + 1) (by omega) (by omega) (by rw [stB, if_neg (fun q => by obtain ⟨q1, q2, q3⟩ := q; rw [← vk] at q2; rw [← i32_o hv] at q3; first | contradiction | (exact absurd q1 (by first | assumption | exact Int32.not_lt.mpr (by assumption))) | (exact absurd q3 (by first | assumption | exact Int32.not_lt.mpr (by assumption))))]; exact hbs))
          · refine hB _ _ _ _ _ (fun m8 hm8 => ?_)
            dsimp only [ugo, uwp, ust, uct, rfd, Bstart, Bstart_27, Nat.beq, lv_args, rlk, rs1, rs2, rdl, rky, rcd, rno, rsw, Value.category, List.filter, List.take, List.drop, List.reverse, List.reverseAux, List.cons_append, List.nil_append, Option.toList, Int.toNat, Int.reduceToNat, if_pos, if_neg, reduceIte, ↓reduceIte, Nat.reduceAdd, Nat.reduceEqDiff, Nat.reduceBEq, beq_self_eq_true, Bool.not_true, Bool.not_false, Bool.and_true, Bool.and_false, Bool.true_and, Bool.false_and, gI_sI, gI_sL, gI_sA, gI_sM, gL_sI, gL_sL, gL_sA, gL_sM, aI_sI, aI_sL, aI_sA, aI_sM, aL_sI, aL_sL, aL_sA, aL_sM]; try dsimp only
            intro p9
            refine ⟨fun h10 => ?_, fun h10 => ?_⟩
            · refine hB _ _ _ _ _ (fun m11 hm11 => ?_)
              dsimp only [ugo, uwp, ust, uct, rfd, Bstart, Bstart_63, Nat.beq, lv_args, rlk, rs1, rs2, rdl, rky, rcd, rno, rsw, Value.category, List.filter, List.take, List.drop, List.reverse, List.reverseAux, List.cons_append, List.nil_append, Option.toList, Int.toNat, Int.reduceToNat, if_pos, if_neg, reduceIte, ↓reduceIte, Nat.reduceAdd, Nat.reduceEqDiff, Nat.reduceBEq, beq_self_eq_true, Bool.not_true, Bool.not_false, Bool.and_true, Bool.and_false, Bool.true_and, Bool.false_and, gI_sI, gI_sL, gI_sA, gI_sM, gL_sI, gL_sL, gL_sA, gL_sM, aI_sI, aI_sL, aI_sA, aI_sM, aL_sI, aL_sL, aL_sA, aL_sM, oi_1]; try dsimp only
              have vi := i32_1 (v := v) hv (by have := (gI σ 42).toInt_lt; omega) (by omega)
              have vk : v.toNatClampNeg = k := nT_x hv
              exact hW _ 10 [(0, .ref 1000), (1, .int m), (2, .long bs), (4, .int (v + 1))] _ _ _ (by simp [rdl, rky, Value.category]) (loop _ (by omega) bs (v + 1) (k + 1) (by omega) (by omega) (by rw [stB, if_neg (fun q => by obtain ⟨q1, q2, q3⟩ := q; rw [← vk] at q2; rw [← i32_o hv] at q3; first | contradiction | (exact absurd q1 (by first | assumption | exact Int32.not_lt.mpr (by assumption))) | (exact absurd q3 (by first | assumption | exact Int32.not_lt.mpr (by assumption))))]; exact hbs))
            · refine hB _ _ _ _ _ (fun m12 hm12 => ?_)
              dsimp only [ugo, uwp, ust, uct, rfd, Bstart, Bstart_38, Nat.beq, lv_args, rlk, rs1, rs2, rdl, rky, rcd, rno, rsw, Value.category, List.filter, List.take, List.drop, List.reverse, List.reverseAux, List.cons_append, List.nil_append, Option.toList, Int.toNat, Int.reduceToNat, if_pos, if_neg, reduceIte, ↓reduceIte, Nat.reduceAdd, Nat.reduceEqDiff, Nat.reduceBEq, beq_self_eq_true, Bool.not_true, Bool.not_false, Bool.and_true, Bool.and_false, Bool.true_and, Bool.false_and, gI_sI, gI_sL, gI_sA, gI_sM, gL_sI, gL_sL, gL_sA, gL_sM, aI_sI, aI_sL, aI_sA, aI_sM, aL_sI, aL_sL, aL_sA, aL_sM]; try dsimp only
              intro p13
              intro p14
              refine ⟨fun h15 => ?_, fun h15 => ?_⟩
              · refine hB _ _ _ _ _ (fun m16 hm16 => ?_)
                dsimp only [ugo, uwp, ust, uct, rfd, Bstart, Bstart_63, Nat.beq, lv_args, rlk, rs1, rs2, rdl, rky, rcd, rno, rsw, Value.category, List.filter, List.take, List.drop, List.reverse, List.reverseAux, List.cons_append, List.nil_append, Option.toList, Int.toNat, Int.reduceToNat, if_pos, if_neg, reduceIte, ↓reduceIte, Nat.reduceAdd, Nat.reduceEqDiff, Nat.reduceBEq, beq_self_eq_true, Bool.not_true, Bool.not_false, Bool.and_true, Bool.and_false, Bool.true_and, Bool.false_and, gI_sI, gI_sL, gI_sA, gI_sM, gL_sI, gL_sL, gL_sA, gL_sM, aI_sI, aI_sL, aI_sA, aI_sM, aL_sI, aL_sL, aL_sA, aL_sM, oi_1]; try dsimp only
                have vi := i32_1 (v := v) hv (by have := (gI σ 42).toInt_lt; omega) (by omega)
                have vk : v.toNatClampNeg = k := nT_x hv
                exact hW _ 10 [(0, .ref 1000), (1, .int m), (2, .long bs), (4, .int (v + 1))] _ _ _ (by simp [rdl, rky, Value.category]) (loop _ (by omega) bs (v + 1) (k + 1) (by omega) (by omega) (by rw [stB, if_neg (fun q => by obtain ⟨q1, q2, q3⟩ := q; rw [← vk] at q2; rw [← i32_o hv] at q3; first | contradiction | (exact absurd q1 (by first | assumption | exact Int32.not_lt.mpr (by assumption))) | (exact absurd q3 (by first | assumption | exact Int32.not_lt.mpr (by assumption))))]; exact hbs))
              · refine hB _ _ _ _ _ (fun m17 hm17 => ?_)
                dsimp only [ugo, uwp, ust, uct, rfd, Bstart, Bstart_56, Nat.beq, lv_args, rlk, rs1, rs2, rdl, rky, rcd, rno, rsw, Value.category, List.filter, List.take, List.drop, List.reverse, List.reverseAux, List.cons_append, List.nil_append, Option.toList, Int.toNat, Int.reduceToNat, if_pos, if_neg, reduceIte, ↓reduceIte, Nat.reduceAdd, Nat.reduceEqDiff, Nat.reduceBEq, beq_self_eq_true, Bool.not_true, Bool.not_false, Bool.and_true, Bool.and_false, Bool.true_and, Bool.false_and, gI_sI, gI_sL, gI_sA, gI_sM, gL_sI, gL_sL, gL_sA, gL_sM, aI_sI, aI_sL, aI_sA, aI_sM, aL_sI, aL_sL, aL_sA, aL_sM]; try dsimp only
                refine hB _ _ _ _ _ (fun m18 hm18 => ?_)
                dsimp only [ugo, uwp, ust, uct, rfd, Bstart, Bstart_63, Nat.beq, lv_args, rlk, rs1, rs2, rdl, rky, rcd, rno, rsw, Value.category, List.filter, List.take, List.drop, List.reverse, List.reverseAux, List.cons_append, List.nil_append, Option.toList, Int.toNat, Int.reduceToNat, if_pos, if_neg, reduceIte, ↓reduceIte, Nat.reduceAdd, Nat.reduceEqDiff, Nat.reduceBEq, beq_self_eq_true, Bool.not_true, Bool.not_false, Bool.and_true, Bool.and_false, Bool.true_and, Bool.false_and, gI_sI, gI_sL, gI_sA, gI_sM, gL_sI, gL_sL, gL_sA, gL_sM, aI_sI, aI_sL, aI_sA, aI_sM, aL_sI, aL_sL, aL_sA, aL_sM, oi_1]; try dsimp only
                have vi := i32_1 (v := v) hv (by have := (gI σ 42).toInt_lt; omega) (by omega)
                have vk : v.toNatClampNeg = k := nT_x hv
                exact hW _ 10 [(0, .ref 1000), (1, .int m), (2, .long (bs ||| ((1 : Int64) <<< ((v).toInt64 &&& 63)))), (4, .int (v + 1))] _ _ _ (by simp [rdl, rky, Value.category]) (loop _ (by omega) (bs ||| ((1 : Int64) <<< ((v).toInt64 &&& 63))) (v + 1) (k + 1) (by omega) (by omega) (by rw [stB, if_pos ⟨by first | assumption | exact Int32.not_le.mp (by assumption), by rw [← vk]; assumption, by rw [← i32_o hv]; first | assumption | exact Int32.not_le.mp (by assumption)⟩]; rw [hbs, ← i32_o hv]))
    intro n0
    refine hB _ _ _ _ _ (fun m1 hm1 => ?_)
    dsimp only [ugo, uwp, ust, uct, rfd, Bstart, Bstart_0, Nat.beq, lv_args, rlk, rs1, rs2, rdl, rky, rcd, rno, rsw, Value.category, List.filter, List.take, List.drop, List.reverse, List.reverseAux, List.cons_append, List.nil_append, Option.toList, Int.toNat, Int.reduceToNat, if_pos, if_neg, reduceIte, ↓reduceIte, Nat.reduceAdd, Nat.reduceEqDiff, Nat.reduceBEq, beq_self_eq_true, Bool.not_true, Bool.not_false, Bool.and_true, Bool.and_false, Bool.true_and, Bool.false_and, gI_sI, gI_sL, gI_sA, gI_sM, gL_sI, gL_sL, gL_sA, gL_sM, aI_sI, aI_sL, aI_sA, aI_sM, aL_sI, aL_sL, aL_sA, aL_sM, oi_0, oi_1]; try dsimp only
    exact hW _ 10 [(0, .ref 1000), (1, .int m), (2, .long (0 : Int64)), (4, .int 0)] _ _ _ (by simp [rdl, rky, Value.category]) (loop _ 0 0 0 rfl (by omega) rfl)
  next => exact hP.elim
theorem w_start : UMet 114 (fun _ _ => True) Qw_start := fun A1 σ _ w τ h hP => v_start A1 σ hP w τ h
def Pv_come : UP1 := fun A1 σ => match A1 with
  | [.int k, .int on] => True
  | _ => False
def Qv_come : UQ1 := fun A1 σ w τ => match A1 with
  | [.int k, .int on] => τ = coS σ k on (gI σ 103).toInt.toNat ∧ ∃ r : Int64, w = some (.long r) ∧ r = (coF σ k on (gI σ 103).toInt.toNat).1
  | _ => False
def Qw_come : UQ1 := fun A1 σ w τ => Pv_come A1 σ → Qv_come A1 σ w τ
set_option maxRecDepth 100000 in
set_option maxHeartbeats 4000000 in
theorem v_come : UMet 119 (Pv_come) (Qv_come) := by
  refine UMet.by Bcome [] rfl uc0 ?_
  intro A1 σ hP K hB hW
  unfold Pv_come at hP
  split at hP
  next k on =>
    have loop : ∀ (N : Nat) (bs : Int64) (j : Int32) (n : Nat) (x : Int32) (f : Nat → Int32), j.toInt = (n : Int) → (n : Int) ≤ max 0 (gI σ 103).toInt → (bs, x, f) = coF σ k on n → K N 12 [(0, .ref 1000), (1, .int k), (2, .int on), (3, .long bs), (5, .int j)] [] (sA (sI σ 116 x) 104 f) := by
      intro N
      induction N using Nat.strongRecOn with
      | ind N loop =>
        intro bs j n x f hj hn hI
        refine hB _ _ _ _ _ (fun m1 hm1 => ?_)
        dsimp only [ugo, uwp, ust, uct, rfd, Bcome, Bcome_12, Nat.beq, lv_args, rlk, rs1, rs2, rdl, rky, rcd, rno, rsw, Value.category, List.filter, List.take, List.drop, List.reverse, List.reverseAux, List.cons_append, List.nil_append, Option.toList, Int.toNat, Int.reduceToNat, if_pos, if_neg, reduceIte, ↓reduceIte, Nat.reduceAdd, Nat.reduceEqDiff, Nat.reduceBEq, beq_self_eq_true, Bool.not_true, Bool.not_false, Bool.and_true, Bool.and_false, Bool.true_and, Bool.false_and, gI_sI, gI_sL, gI_sA, gI_sM, gL_sI, gL_sL, gL_sA, gL_sM, aI_sI, aI_sL, aI_sA, aI_sM, aL_sI, aL_sL, aL_sA, aL_sM]; try dsimp only
        refine ⟨fun h2 => ?_, fun h2 => ?_⟩
        · have c2 : (gI σ 103).toInt ≤ (n : Int) := (cI hj (rfl : (gI σ 103).toInt = (gI σ 103).toInt)).2.2.2.2.mp h2
          refine hB _ _ _ _ _ (fun m3 hm3 => ?_)
          dsimp only [ugo, uwp, ust, uct, rfd, Bcome, Bcome_97, Nat.beq, lv_args, rlk, rs1, rs2, rdl, rky, rcd, rno, rsw, Value.category, List.filter, List.take, List.drop, List.reverse, List.reverseAux, List.cons_append, List.nil_append, Option.toList, Int.toNat, Int.reduceToNat, if_pos, if_neg, reduceIte, ↓reduceIte, Nat.reduceAdd, Nat.reduceEqDiff, Nat.reduceBEq, beq_self_eq_true, Bool.not_true, Bool.not_false, Bool.and_true, Bool.and_false, Bool.true_and, Bool.false_and, gI_sI, gI_sL, gI_sA, gI_sM, gL_sI, gL_sL, gL_sA, gL_sM, aI_sI, aI_sL, aI_sA, aI_sM, aL_sI, aL_sL, aL_sA, aL_sM]; try dsimp only
          unfold Qv_come
          try dsimp only
          have ek : n = (gI σ 103).toInt.toNat := by omega
          rw [ek] at hI
          exact ⟨by unfold coS; rw [← hI], bs, rfl, by rw [← hI]⟩
        · have c2 : (n : Int) < (gI σ 103).toInt := (cI hj (rfl : (gI σ 103).toInt = (gI σ 103).toInt)).2.1.mp (by first | exact h2 | exact Int32.not_lt.mp h2 | exact Int32.not_le.mp h2)
          refine hB _ _ _ _ _ (fun m4 hm4 => ?_)
          dsimp only [ugo, uwp, ust, uct, rfd, Bcome, Bcome_21, Nat.beq, lv_args, rlk, rs1, rs2, rdl, rky, rcd, rno, rsw, Value.category, List.filter, List.take, List.drop, List.reverse, List.reverseAux, List.cons_append, List.nil_append, Option.toList, Int.toNat, Int.reduceToNat, if_pos, if_neg, reduceIte, ↓reduceIte, Nat.reduceAdd, Nat.reduceEqDiff, Nat.reduceBEq, beq_self_eq_true, Bool.not_true, Bool.not_false, Bool.and_true, Bool.and_false, Bool.true_and, Bool.false_and, gI_sI, gI_sL, gI_sA, gI_sM, gL_sI, gL_sL, gL_sA, gL_sM, aI_sI, aI_sL, aI_sA, aI_sM, aL_sI, aL_sL, aL_sA, aL_sM]; try dsimp only
          intro p5
          refine ⟨fun h6 => ?_, fun h6 => ?_⟩
          · refine hB _ _ _ _ _ (fun m7 hm7 => ?_)
            dsimp only [ugo, uwp, ust, uct, rfd, Bcome, Bcome_91, Nat.beq, lv_args, rlk, rs1, rs2, rdl, rky, rcd, rno, rsw, Value.category, List.filter, List.take, List.drop, List.reverse, List.reverseAux, List.cons_append, List.nil_append, Option.toList, Int.toNat, Int.reduceToNat, if_pos, if_neg, reduceIte, ↓reduceIte, Nat.reduceAdd, Nat.reduceEqDiff, Nat.reduceBEq, beq_self_eq_true, Bool.not_true, Bool.not_false, Bool.and_true, Bool.and_false, Bool.true_and, Bool.false_and, gI_sI, gI_sL, gI_sA, gI_sM, gL_sI, gL_sL, gL_sA, gL_sM, aI_sI, aI_sL, aI_sA, aI_sM, aL_sI, aL_sL, aL_sA, aL_sM, oi_1]; try dsimp only
            have ji := i32_1 (v := j) hj (by have := (gI σ 103).toInt_lt; omega) (by omega)
            have jk : j.toNatClampNeg = n := nT_x hj
            exact hW _ 12 [(0, .ref 1000), (1, .int k), (2, .int on), (3, .long bs), (5, .int (j + 1))] _ _ _ (by simp [rdl, rky, Value.category]) (loop _ (by omega) bs (j + 1) (n + 1) x f (by omega) (by omega) (by rw [coF, if_neg (fun q => by rw [← hI, ← jk] at q; obtain ⟨q1, q2⟩ := q; contradiction)]; exact hI))
          · refine hB _ _ _ _ _ (fun m8 hm8 => ?_)
            dsimp only [ugo, uwp, ust, uct, rfd, Bcome, Bcome_32, Nat.beq, lv_args, rlk, rs1, rs2, rdl, rky, rcd, rno, rsw, Value.category, List.filter, List.take, List.drop, List.reverse, List.reverseAux, List.cons_append, List.nil_append, Option.toList, Int.toNat, Int.reduceToNat, if_pos, if_neg, reduceIte, ↓reduceIte, Nat.reduceAdd, Nat.reduceEqDiff, Nat.reduceBEq, beq_self_eq_true, Bool.not_true, Bool.not_false, Bool.and_true, Bool.and_false, Bool.true_and, Bool.false_and, gI_sI, gI_sL, gI_sA, gI_sM, gL_sI, gL_sL, gL_sA, gL_sM, aI_sI, aI_sL, aI_sA, aI_sM, aL_sI, aL_sL, aL_sA, aL_sM]; try dsimp only
            intro p9
            refine ⟨fun h10 => ?_, fun h10 => ?_⟩
            · refine hB _ _ _ _ _ (fun m11 hm11 => ?_)
              dsimp only [ugo, uwp, ust, uct, rfd, Bcome, Bcome_46, Nat.beq, lv_args, rlk, rs1, rs2, rdl, rky, rcd, rno, rsw, Value.category, List.filter, List.take, List.drop, List.reverse, List.reverseAux, List.cons_append, List.nil_append, Option.toList, Int.toNat, Int.reduceToNat, if_pos, if_neg, reduceIte, ↓reduceIte, Nat.reduceAdd, Nat.reduceEqDiff, Nat.reduceBEq, beq_self_eq_true, Bool.not_true, Bool.not_false, Bool.and_true, Bool.and_false, Bool.true_and, Bool.false_and, gI_sI, gI_sL, gI_sA, gI_sM, gL_sI, gL_sL, gL_sA, gL_sM, aI_sI, aI_sL, aI_sA, aI_sM, aL_sI, aL_sL, aL_sA, aL_sM]; try dsimp only
              intro p12
              have t79 : ∀ (M_ : Nat) (q9 : Int32), M_ < N → q9 = (if ¬ x = 0 ∨ ¬ aI σ 107 j.toNatClampNeg = 0 then (1 : Int32) else 0) → K M_ 79 [(0, .ref 1000), (1, .int k), (2, .int on), (3, .long (bs &&& ((aL σ 108) (j).toNatClampNeg))), (5, .int j)] [.int q9, .ref 1000] (sA (sI σ 116 x) 104 f) := by
                intro M_ q9 hM_ hq9'
                refine hB _ _ _ _ _ (fun m13 hm13 => ?_)
                dsimp only [ugo, uwp, ust, uct, rfd, Bcome, Bcome_79, Nat.beq, lv_args, rlk, rs1, rs2, rdl, rky, rcd, rno, rsw, Value.category, List.filter, List.take, List.drop, List.reverse, List.reverseAux, List.cons_append, List.nil_append, Option.toList, Int.toNat, Int.reduceToNat, if_pos, if_neg, reduceIte, ↓reduceIte, Nat.reduceAdd, Nat.reduceEqDiff, Nat.reduceBEq, beq_self_eq_true, Bool.not_true, Bool.not_false, Bool.and_true, Bool.and_false, Bool.true_and, Bool.false_and, gI_sI, gI_sL, gI_sA, gI_sM, gL_sI, gL_sL, gL_sA, gL_sM, aI_sI, aI_sL, aI_sA, aI_sM, aL_sI, aL_sL, aL_sA, aL_sM, oi_m5]; try dsimp only
                intro p14
                refine hB _ _ _ _ _ (fun m15 hm15 => ?_)
                dsimp only [ugo, uwp, ust, uct, rfd, Bcome, Bcome_91, Nat.beq, lv_args, rlk, rs1, rs2, rdl, rky, rcd, rno, rsw, Value.category, List.filter, List.take, List.drop, List.reverse, List.reverseAux, List.cons_append, List.nil_append, Option.toList, Int.toNat, Int.reduceToNat, if_pos, if_neg, reduceIte, ↓reduceIte, Nat.reduceAdd, Nat.reduceEqDiff, Nat.reduceBEq, beq_self_eq_true, Bool.not_true, Bool.not_false, Bool.and_true, Bool.and_false, Bool.true_and, Bool.false_and, gI_sI, gI_sL, gI_sA, gI_sM, gL_sI, gL_sL, gL_sA, gL_sM, aI_sI, aI_sL, aI_sA, aI_sM, aL_sI, aL_sL, aL_sA, aL_sM, oi_1]; try dsimp only
                have ji := i32_1 (v := j) hj (by have := (gI σ 103).toInt_lt; omega) (by omega)
                have jk : j.toNatClampNeg = n := nT_x hj
                have est : (sA (sI (sA (sI σ 116 x) 104 f) 116 q9) 104 (upd f (j).toNatClampNeg (-5))) = sA (sI σ 116 q9) 104 (upd f j.toNatClampNeg (-5)) := by
                  show sA (sI (sA (sI σ 116 x) 104 f) 116 q9) 104 _ = _
                  rw [show sI (sA (sI σ 116 x) 104 f) 116 q9 = sA (sI (sI σ 116 x) 116 q9) 104 f from rfl, sI_2, sA_sA]
                rw [est]
                exact hW _ 12 [(0, .ref 1000), (1, .int k), (2, .int on), (3, .long (bs &&& ((aL σ 108) (j).toNatClampNeg))), (5, .int (j + 1))] _ _ _ (by simp [rdl, rky, Value.category]) (loop _ (by omega) (bs &&& ((aL σ 108) (j).toNatClampNeg)) (j + 1) (n + 1) q9 (upd f j.toNatClampNeg (-5)) (by omega) (by omega) (by rw [coF, if_pos ⟨by rw [← hI, ← jk]; assumption, by rw [← jk]; assumption⟩, ← hI, hq9', jk]))
              refine ⟨fun h16 => ?_, fun h16 => ?_⟩
              · refine hB _ _ _ _ _ (fun m17 hm17 => ?_)
                dsimp only [ugo, uwp, ust, uct, rfd, Bcome, Bcome_74, Nat.beq, lv_args, rlk, rs1, rs2, rdl, rky, rcd, rno, rsw, Value.category, List.filter, List.take, List.drop, List.reverse, List.reverseAux, List.cons_append, List.nil_append, Option.toList, Int.toNat, Int.reduceToNat, if_pos, if_neg, reduceIte, ↓reduceIte, Nat.reduceAdd, Nat.reduceEqDiff, Nat.reduceBEq, beq_self_eq_true, Bool.not_true, Bool.not_false, Bool.and_true, Bool.and_false, Bool.true_and, Bool.false_and, gI_sI, gI_sL, gI_sA, gI_sM, gL_sI, gL_sL, gL_sA, gL_sM, aI_sI, aI_sL, aI_sA, aI_sM, aL_sI, aL_sL, aL_sA, aL_sM, oi_1]; try dsimp only
                exact hW _ 79 [(0, .ref 1000), (1, .int k), (2, .int on), (3, .long (bs &&& ((aL σ 108) (j).toNatClampNeg))), (5, .int j)] _ _ _ (by simp [rdl, rky, Value.category]) (t79 _ 1 (by omega) (if_pos (by first | exact Or.inl (by assumption) | exact Or.inr (by assumption))).symm)
              · refine hB _ _ _ _ _ (fun m18 hm18 => ?_)
                dsimp only [ugo, uwp, ust, uct, rfd, Bcome, Bcome_64, Nat.beq, lv_args, rlk, rs1, rs2, rdl, rky, rcd, rno, rsw, Value.category, List.filter, List.take, List.drop, List.reverse, List.reverseAux, List.cons_append, List.nil_append, Option.toList, Int.toNat, Int.reduceToNat, if_pos, if_neg, reduceIte, ↓reduceIte, Nat.reduceAdd, Nat.reduceEqDiff, Nat.reduceBEq, beq_self_eq_true, Bool.not_true, Bool.not_false, Bool.and_true, Bool.and_false, Bool.true_and, Bool.false_and, gI_sI, gI_sL, gI_sA, gI_sM, gL_sI, gL_sL, gL_sA, gL_sM, aI_sI, aI_sL, aI_sA, aI_sM, aL_sI, aL_sL, aL_sA, aL_sM]; try dsimp only
                intro p19
                refine ⟨fun h20 => ?_, fun h20 => ?_⟩
                · refine hB _ _ _ _ _ (fun m21 hm21 => ?_)
                  dsimp only [ugo, uwp, ust, uct, rfd, Bcome, Bcome_78, Nat.beq, lv_args, rlk, rs1, rs2, rdl, rky, rcd, rno, rsw, Value.category, List.filter, List.take, List.drop, List.reverse, List.reverseAux, List.cons_append, List.nil_append, Option.toList, Int.toNat, Int.reduceToNat, if_pos, if_neg, reduceIte, ↓reduceIte, Nat.reduceAdd, Nat.reduceEqDiff, Nat.reduceBEq, beq_self_eq_true, Bool.not_true, Bool.not_false, Bool.and_true, Bool.and_false, Bool.true_and, Bool.false_and, gI_sI, gI_sL, gI_sA, gI_sM, gL_sI, gL_sL, gL_sA, gL_sM, aI_sI, aI_sL, aI_sA, aI_sM, aL_sI, aL_sL, aL_sA, aL_sM, oi_0]; try dsimp only
                  exact hW _ 79 [(0, .ref 1000), (1, .int k), (2, .int on), (3, .long (bs &&& ((aL σ 108) (j).toNatClampNeg))), (5, .int j)] _ _ _ (by simp [rdl, rky, Value.category]) (t79 _ 0 (by omega) (if_neg (fun q => q.elim (fun z => absurd (by assumption) z) (fun z => absurd (by assumption) z))).symm)
                · refine hB _ _ _ _ _ (fun m22 hm22 => ?_)
                  dsimp only [ugo, uwp, ust, uct, rfd, Bcome, Bcome_74, Nat.beq, lv_args, rlk, rs1, rs2, rdl, rky, rcd, rno, rsw, Value.category, List.filter, List.take, List.drop, List.reverse, List.reverseAux, List.cons_append, List.nil_append, Option.toList, Int.toNat, Int.reduceToNat, if_pos, if_neg, reduceIte, ↓reduceIte, Nat.reduceAdd, Nat.reduceEqDiff, Nat.reduceBEq, beq_self_eq_true, Bool.not_true, Bool.not_false, Bool.and_true, Bool.and_false, Bool.true_and, Bool.false_and, gI_sI, gI_sL, gI_sA, gI_sM, gL_sI, gL_sL, gL_sA, gL_sM, aI_sI, aI_sL, aI_sA, aI_sM, aL_sI, aL_sL, aL_sA, aL_sM, oi_1]; try dsimp only
                  exact hW _ 79 [(0, .ref 1000), (1, .int k), (2, .int on), (3, .long (bs &&& ((aL σ 108) (j).toNatClampNeg))), (5, .int j)] _ _ _ (by simp [rdl, rky, Value.category]) (t79 _ 1 (by omega) (if_pos (by first | exact Or.inl (by assumption) | exact Or.inr (by assumption))).symm)
            · refine hB _ _ _ _ _ (fun m23 hm23 => ?_)
              dsimp only [ugo, uwp, ust, uct, rfd, Bcome, Bcome_43, Nat.beq, lv_args, rlk, rs1, rs2, rdl, rky, rcd, rno, rsw, Value.category, List.filter, List.take, List.drop, List.reverse, List.reverseAux, List.cons_append, List.nil_append, Option.toList, Int.toNat, Int.reduceToNat, if_pos, if_neg, reduceIte, ↓reduceIte, Nat.reduceAdd, Nat.reduceEqDiff, Nat.reduceBEq, beq_self_eq_true, Bool.not_true, Bool.not_false, Bool.and_true, Bool.and_false, Bool.true_and, Bool.false_and, gI_sI, gI_sL, gI_sA, gI_sM, gL_sI, gL_sL, gL_sA, gL_sM, aI_sI, aI_sL, aI_sA, aI_sM, aL_sI, aL_sL, aL_sA, aL_sM]; try dsimp only
              refine hB _ _ _ _ _ (fun m24 hm24 => ?_)
              dsimp only [ugo, uwp, ust, uct, rfd, Bcome, Bcome_91, Nat.beq, lv_args, rlk, rs1, rs2, rdl, rky, rcd, rno, rsw, Value.category, List.filter, List.take, List.drop, List.reverse, List.reverseAux, List.cons_append, List.nil_append, Option.toList, Int.toNat, Int.reduceToNat, if_pos, if_neg, reduceIte, ↓reduceIte, Nat.reduceAdd, Nat.reduceEqDiff, Nat.reduceBEq, beq_self_eq_true, Bool.not_true, Bool.not_false, Bool.and_true, Bool.and_false, Bool.true_and, Bool.false_and, gI_sI, gI_sL, gI_sA, gI_sM, gL_sI, gL_sL, gL_sA, gL_sM, aI_sI, aI_sL, aI_sA, aI_sM, aL_sI, aL_sL, aL_sA, aL_sM, oi_1]; try dsimp only
              have ji := i32_1 (v := j) hj (by have := (gI σ 103).toInt_lt; omega) (by omega)
              have jk : j.toNatClampNeg = n := nT_x hj
              exact hW _ 12 [(0, .ref 1000), (1, .int k), (2, .int on), (3, .long bs), (5, .int (j + 1))] _ _ _ (by simp [rdl, rky, Value.category]) (loop _ (by omega) bs (j + 1) (n + 1) x f (by omega) (by omega) (by rw [coF, if_neg (fun q => by rw [← hI, ← jk] at q; obtain ⟨q1, q2⟩ := q; contradiction)]; exact hI))
    intro n0
    refine hB _ _ _ _ _ (fun m1 hm1 => ?_)
    dsimp only [ugo, uwp, ust, uct, rfd, Bcome, Bcome_0, Nat.beq, lv_args, rlk, rs1, rs2, rdl, rky, rcd, rno, rsw, Value.category, List.filter, List.take, List.drop, List.reverse, List.reverseAux, List.cons_append, List.nil_append, Option.toList, Int.toNat, Int.reduceToNat, if_pos, if_neg, reduceIte, ↓reduceIte, Nat.reduceAdd, Nat.reduceEqDiff, Nat.reduceBEq, beq_self_eq_true, Bool.not_true, Bool.not_false, Bool.and_true, Bool.and_false, Bool.true_and, Bool.false_and, gI_sI, gI_sL, gI_sA, gI_sM, gL_sI, gL_sL, gL_sA, gL_sM, aI_sI, aI_sL, aI_sA, aI_sM, aL_sI, aL_sL, aL_sA, aL_sM, oi_0]; try dsimp only
    have z := loop m1 (Int64.ofInt (-1)) 0 0 0 (aI σ 104) rfl (by omega) rfl
    rw [show sA (sI σ 116 0) 104 (aI σ 104) = sI σ 116 0 from sA_id (σ := sI σ 116 0) (k := 104)] at z
    exact hW _ 12 [(0, .ref 1000), (1, .int k), (2, .int on), (3, .long (Int64.ofInt (-1))), (5, .int 0)] _ _ _ (by simp [rdl, rky, Value.category]) z
  next => exact hP.elim
theorem w_come : UMet 119 (fun _ _ => True) Qw_come := fun A1 σ _ w τ h hP => v_come A1 σ hP w τ h
def Pv_ended : UP1 := fun A1 σ => match A1 with
  | [.int k] => True
  | _ => False
def Qv_ended : UQ1 := fun A1 σ w τ => match A1 with
  | [.int k] => w = none ∧ τ = enS σ k (gI σ 103).toInt.toNat
  | _ => False
def Qw_ended : UQ1 := fun A1 σ w τ => Pv_ended A1 σ → Qv_ended A1 σ w τ
set_option maxRecDepth 100000 in
set_option maxHeartbeats 4000000 in
theorem v_ended : UMet 122 (Pv_ended) (Qv_ended) := by
  refine UMet.by Bended [(111, (fun _ _ => True), Qw_now)] rfl (ucc w_now uc0) ?_
  intro A1 σ hP K hB hW
  unfold Pv_ended at hP
  split at hP
  next k =>
    have loop : ∀ (N : Nat) (j : Int32) (n : Nat) (f : Nat → Int32) (g : Nat → Int64), j.toInt = (n : Int) → (n : Int) ≤ max 0 (gI σ 103).toInt → (f, g) = enF σ k n → K N 2 [(0, .ref 1000), (1, .int k), (2, .int j)] [] (sM (sA σ 107 f) 108 g) := by
      intro N
      induction N using Nat.strongRecOn with
      | ind N loop =>
        intro j n f g hj hn hI
        refine hB _ _ _ _ _ (fun m1 hm1 => ?_)
        dsimp only [ugo, uwp, ust, uct, rfd, Bended, Bended_2, Nat.beq, lv_args, rlk, rs1, rs2, rdl, rky, rcd, rno, rsw, Value.category, List.filter, List.take, List.drop, List.reverse, List.reverseAux, List.cons_append, List.nil_append, Option.toList, Int.toNat, Int.reduceToNat, if_pos, if_neg, reduceIte, ↓reduceIte, Nat.reduceAdd, Nat.reduceEqDiff, Nat.reduceBEq, beq_self_eq_true, Bool.not_true, Bool.not_false, Bool.and_true, Bool.and_false, Bool.true_and, Bool.false_and, gI_sI, gI_sL, gI_sA, gI_sM, gL_sI, gL_sL, gL_sA, gL_sM, aI_sI, aI_sL, aI_sA, aI_sM, aL_sI, aL_sL, aL_sA, aL_sM]; try dsimp only
        refine ⟨fun h2 => ?_, fun h2 => ?_⟩
        · have c2 : (gI σ 103).toInt ≤ (n : Int) := (cI hj (rfl : (gI σ 103).toInt = (gI σ 103).toInt)).2.2.2.2.mp h2
          refine hB _ _ _ _ _ (fun m3 hm3 => ?_)
          dsimp only [ugo, uwp, ust, uct, rfd, Bended, Bended_115, Nat.beq, lv_args, rlk, rs1, rs2, rdl, rky, rcd, rno, rsw, Value.category, List.filter, List.take, List.drop, List.reverse, List.reverseAux, List.cons_append, List.nil_append, Option.toList, Int.toNat, Int.reduceToNat, if_pos, if_neg, reduceIte, ↓reduceIte, Nat.reduceAdd, Nat.reduceEqDiff, Nat.reduceBEq, beq_self_eq_true, Bool.not_true, Bool.not_false, Bool.and_true, Bool.and_false, Bool.true_and, Bool.false_and, gI_sI, gI_sL, gI_sA, gI_sM, gL_sI, gL_sL, gL_sA, gL_sM, aI_sI, aI_sL, aI_sA, aI_sM, aL_sI, aL_sL, aL_sA, aL_sM]; try dsimp only
          unfold Qv_ended
          try dsimp only
          have ek : n = (gI σ 103).toInt.toNat := by omega
          rw [ek] at hI
          exact ⟨rfl, by unfold enS; rw [← hI]⟩
        · have c2 : (n : Int) < (gI σ 103).toInt := (cI hj (rfl : (gI σ 103).toInt = (gI σ 103).toInt)).2.1.mp (by first | exact h2 | exact Int32.not_lt.mp h2 | exact Int32.not_le.mp h2)
          refine hB _ _ _ _ _ (fun m4 hm4 => ?_)
          dsimp only [ugo, uwp, ust, uct, rfd, Bended, Bended_10, Nat.beq, lv_args, rlk, rs1, rs2, rdl, rky, rcd, rno, rsw, Value.category, List.filter, List.take, List.drop, List.reverse, List.reverseAux, List.cons_append, List.nil_append, Option.toList, Int.toNat, Int.reduceToNat, if_pos, if_neg, reduceIte, ↓reduceIte, Nat.reduceAdd, Nat.reduceEqDiff, Nat.reduceBEq, beq_self_eq_true, Bool.not_true, Bool.not_false, Bool.and_true, Bool.and_false, Bool.true_and, Bool.false_and, gI_sI, gI_sL, gI_sA, gI_sM, gL_sI, gL_sL, gL_sA, gL_sM, aI_sI, aI_sL, aI_sA, aI_sM, aL_sI, aL_sL, aL_sA, aL_sM]; try dsimp only
          intro p5
          refine ⟨fun h6 => ?_, fun h6 => ?_⟩
          · refine hB _ _ _ _ _ (fun m7 hm7 => ?_)
            dsimp only [ugo, uwp, ust, uct, rfd, Bended, Bended_109, Nat.beq, lv_args, rlk, rs1, rs2, rdl, rky, rcd, rno, rsw, Value.category, List.filter, List.take, List.drop, List.reverse, List.reverseAux, List.cons_append, List.nil_append, Option.toList, Int.toNat, Int.reduceToNat, if_pos, if_neg, reduceIte, ↓reduceIte, Nat.reduceAdd, Nat.reduceEqDiff, Nat.reduceBEq, beq_self_eq_true, Bool.not_true, Bool.not_false, Bool.and_true, Bool.and_false, Bool.true_and, Bool.false_and, gI_sI, gI_sL, gI_sA, gI_sM, gL_sI, gL_sL, gL_sA, gL_sM, aI_sI, aI_sL, aI_sA, aI_sM, aL_sI, aL_sL, aL_sA, aL_sM, oi_1]; try dsimp only
            have ji := i32_1 (v := j) hj (by have := (gI σ 103).toInt_lt; omega) (by omega)
            have jk : j.toNatClampNeg = n := nT_x hj
            exact hW _ 2 [(0, .ref 1000), (1, .int k), (2, .int (j + 1))] _ _ _ (by simp [rdl, rky, Value.category]) (loop _ (by omega) (j + 1) (n + 1) f g (by omega) (by omega) (by rw [enF, if_neg (fun q => by rw [← jk] at q; obtain ⟨q1, q2, q3⟩ := q; first | contradiction | exact absurd q1 (Int32.not_le.mpr (by assumption)) | exact absurd q2 (Int32.not_le.mpr (by assumption)) | exact absurd q3 (by assumption))]; exact hI))
          · refine hB _ _ _ _ _ (fun m8 hm8 => ?_)
            dsimp only [ugo, uwp, ust, uct, rfd, Bended, Bended_19, Nat.beq, lv_args, rlk, rs1, rs2, rdl, rky, rcd, rno, rsw, Value.category, List.filter, List.take, List.drop, List.reverse, List.reverseAux, List.cons_append, List.nil_append, Option.toList, Int.toNat, Int.reduceToNat, if_pos, if_neg, reduceIte, ↓reduceIte, Nat.reduceAdd, Nat.reduceEqDiff, Nat.reduceBEq, beq_self_eq_true, Bool.not_true, Bool.not_false, Bool.and_true, Bool.and_false, Bool.true_and, Bool.false_and, gI_sI, gI_sL, gI_sA, gI_sM, gL_sI, gL_sL, gL_sA, gL_sM, aI_sI, aI_sL, aI_sA, aI_sM, aL_sI, aL_sL, aL_sA, aL_sM]; try dsimp only
            intro p9
            intro p10
            refine ⟨fun h11 => ?_, fun h11 => ?_⟩
            · refine hB _ _ _ _ _ (fun m12 hm12 => ?_)
              dsimp only [ugo, uwp, ust, uct, rfd, Bended, Bended_109, Nat.beq, lv_args, rlk, rs1, rs2, rdl, rky, rcd, rno, rsw, Value.category, List.filter, List.take, List.drop, List.reverse, List.reverseAux, List.cons_append, List.nil_append, Option.toList, Int.toNat, Int.reduceToNat, if_pos, if_neg, reduceIte, ↓reduceIte, Nat.reduceAdd, Nat.reduceEqDiff, Nat.reduceBEq, beq_self_eq_true, Bool.not_true, Bool.not_false, Bool.and_true, Bool.and_false, Bool.true_and, Bool.false_and, gI_sI, gI_sL, gI_sA, gI_sM, gL_sI, gL_sL, gL_sA, gL_sM, aI_sI, aI_sL, aI_sA, aI_sM, aL_sI, aL_sL, aL_sA, aL_sM, oi_1]; try dsimp only
              have ji := i32_1 (v := j) hj (by have := (gI σ 103).toInt_lt; omega) (by omega)
              have jk : j.toNatClampNeg = n := nT_x hj
              exact hW _ 2 [(0, .ref 1000), (1, .int k), (2, .int (j + 1))] _ _ _ (by simp [rdl, rky, Value.category]) (loop _ (by omega) (j + 1) (n + 1) f g (by omega) (by omega) (by rw [enF, if_neg (fun q => by rw [← jk] at q; obtain ⟨q1, q2, q3⟩ := q; first | contradiction | exact absurd q1 (Int32.not_le.mpr (by assumption)) | exact absurd q2 (Int32.not_le.mpr (by assumption)) | exact absurd q3 (by assumption))]; exact hI))
            · refine hB _ _ _ _ _ (fun m13 hm13 => ?_)
              dsimp only [ugo, uwp, ust, uct, rfd, Bended, Bended_34, Nat.beq, lv_args, rlk, rs1, rs2, rdl, rky, rcd, rno, rsw, Value.category, List.filter, List.take, List.drop, List.reverse, List.reverseAux, List.cons_append, List.nil_append, Option.toList, Int.toNat, Int.reduceToNat, if_pos, if_neg, reduceIte, ↓reduceIte, Nat.reduceAdd, Nat.reduceEqDiff, Nat.reduceBEq, beq_self_eq_true, Bool.not_true, Bool.not_false, Bool.and_true, Bool.and_false, Bool.true_and, Bool.false_and, gI_sI, gI_sL, gI_sA, gI_sM, gL_sI, gL_sL, gL_sA, gL_sM, aI_sI, aI_sL, aI_sA, aI_sM, aL_sI, aL_sL, aL_sA, aL_sM]; try dsimp only
              intro p14
              intro p15
              refine ⟨fun h16 => ?_, fun h16 => ?_⟩
              · refine hB _ _ _ _ _ (fun m17 hm17 => ?_)
                dsimp only [ugo, uwp, ust, uct, rfd, Bended, Bended_52, Nat.beq, lv_args, rlk, rs1, rs2, rdl, rky, rcd, rno, rsw, Value.category, List.filter, List.take, List.drop, List.reverse, List.reverseAux, List.cons_append, List.nil_append, Option.toList, Int.toNat, Int.reduceToNat, if_pos, if_neg, reduceIte, ↓reduceIte, Nat.reduceAdd, Nat.reduceEqDiff, Nat.reduceBEq, beq_self_eq_true, Bool.not_true, Bool.not_false, Bool.and_true, Bool.and_false, Bool.true_and, Bool.false_and, gI_sI, gI_sL, gI_sA, gI_sM, gL_sI, gL_sL, gL_sA, gL_sM, aI_sI, aI_sL, aI_sA, aI_sM, aL_sI, aL_sL, aL_sA, aL_sM]; try dsimp only
                intro p18
                have t78 : ∀ (M_ : Nat) (q8 : Int32), M_ < N → q8 = (if ¬ f j.toNatClampNeg = 0 ∧ ¬ gI σ 92 = 0 then (1 : Int32) else 0) → K M_ 78 [(0, .ref 1000), (1, .int k), (2, .int j)] [.int q8, .int j, .ref 107] (sM (sA σ 107 f) 108 g) := by
                  intro M_ q8 hM_ hq8'
                  refine hB _ _ _ _ _ (fun m19 hm19 => ?_)
                  dsimp only [ugo, uwp, ust, uct, rfd, Bended, Bended_78, Nat.beq, lv_args, rlk, rs1, rs2, rdl, rky, rcd, rno, rsw, Value.category, List.filter, List.take, List.drop, List.reverse, List.reverseAux, List.cons_append, List.nil_append, Option.toList, Int.toNat, Int.reduceToNat, if_pos, if_neg, reduceIte, ↓reduceIte, Nat.reduceAdd, Nat.reduceEqDiff, Nat.reduceBEq, beq_self_eq_true, Bool.not_true, Bool.not_false, Bool.and_true, Bool.and_false, Bool.true_and, Bool.false_and, gI_sI, gI_sL, gI_sA, gI_sM, gL_sI, gL_sL, gL_sA, gL_sM, aI_sI, aI_sL, aI_sA, aI_sM, aL_sI, aL_sL, aL_sA, aL_sM]; try dsimp only
                  intro p20
                  have t108 : ∀ (M_ : Nat) (vv : Int64), M_ < N → vv = (if gI σ 92 = 0 then Int64.ofInt (-1) else g j.toNatClampNeg ||| nowR σ) → K M_ 108 [(0, .ref 1000), (1, .int k), (2, .int j)] [.long vv, .int j, .ref 108] (sA (sM (sA σ 107 f) 108 g) 107 (upd f (j).toNatClampNeg q8)) := by
                    intro M_ vv hM_ hvv'
                    refine hB _ _ _ _ _ (fun m21 hm21 => ?_)
                    dsimp only [ugo, uwp, ust, uct, rfd, Bended, Bended_108, Nat.beq, lv_args, rlk, rs1, rs2, rdl, rky, rcd, rno, rsw, Value.category, List.filter, List.take, List.drop, List.reverse, List.reverseAux, List.cons_append, List.nil_append, Option.toList, Int.toNat, Int.reduceToNat, if_pos, if_neg, reduceIte, ↓reduceIte, Nat.reduceAdd, Nat.reduceEqDiff, Nat.reduceBEq, beq_self_eq_true, Bool.not_true, Bool.not_false, Bool.and_true, Bool.and_false, Bool.true_and, Bool.false_and, gI_sI, gI_sL, gI_sA, gI_sM, gL_sI, gL_sL, gL_sA, gL_sM, aI_sI, aI_sL, aI_sA, aI_sM, aL_sI, aL_sL, aL_sA, aL_sM]; try dsimp only
                    intro p22
                    refine hB _ _ _ _ _ (fun m23 hm23 => ?_)
                    dsimp only [ugo, uwp, ust, uct, rfd, Bended, Bended_109, Nat.beq, lv_args, rlk, rs1, rs2, rdl, rky, rcd, rno, rsw, Value.category, List.filter, List.take, List.drop, List.reverse, List.reverseAux, List.cons_append, List.nil_append, Option.toList, Int.toNat, Int.reduceToNat, if_pos, if_neg, reduceIte, ↓reduceIte, Nat.reduceAdd, Nat.reduceEqDiff, Nat.reduceBEq, beq_self_eq_true, Bool.not_true, Bool.not_false, Bool.and_true, Bool.and_false, Bool.true_and, Bool.false_and, gI_sI, gI_sL, gI_sA, gI_sM, gL_sI, gL_sL, gL_sA, gL_sM, aI_sI, aI_sL, aI_sA, aI_sM, aL_sI, aL_sL, aL_sA, aL_sM, oi_1]; try dsimp only
                    have ji := i32_1 (v := j) hj (by have := (gI σ 103).toInt_lt; omega) (by omega)
                    have jk : j.toNatClampNeg = n := nT_x hj
                    have est : (sM (sA (sM (sA σ 107 f) 108 g) 107 (upd f (j).toNatClampNeg q8)) 108 (vp_updL g (j).toNatClampNeg vv)) = sM (sA σ 107 (upd f j.toNatClampNeg q8)) 108 (vp_updL g j.toNatClampNeg vv) := by
                      show sM (sA (sM (sA σ 107 f) 108 g) 107 _) 108 _ = _
                      rw [show sA (sM (sA σ 107 f) 108 g) 107 (upd f j.toNatClampNeg q8) = sM (sA (sA σ 107 f) 107 (upd f j.toNatClampNeg q8)) 108 g from rfl, sA_sA, sM_sM]
                    rw [est]
                    exact hW _ 2 [(0, .ref 1000), (1, .int k), (2, .int (j + 1))] _ _ _ (by simp [rdl, rky, Value.category]) (loop _ (by omega) (j + 1) (n + 1) _ _ (by omega) (by omega) (by rw [enF, if_pos ⟨by rw [← jk]; first | assumption | exact Int32.not_lt.mp (by assumption), by rw [← jk]; first | assumption | exact Int32.not_lt.mp (by assumption), by rw [← jk]; first | assumption | exact Int32.not_lt.mp (by assumption)⟩, ← hI, hq8', hvv', jk]))
                  refine ⟨fun h24 => ?_, fun h24 => ?_⟩
                  · refine hB _ _ _ _ _ (fun m25 hm25 => ?_)
                    dsimp only [ugo, uwp, ust, uct, rfd, Bended, Bended_105, Nat.beq, lv_args, rlk, rs1, rs2, rdl, rky, rcd, rno, rsw, Value.category, List.filter, List.take, List.drop, List.reverse, List.reverseAux, List.cons_append, List.nil_append, Option.toList, Int.toNat, Int.reduceToNat, if_pos, if_neg, reduceIte, ↓reduceIte, Nat.reduceAdd, Nat.reduceEqDiff, Nat.reduceBEq, beq_self_eq_true, Bool.not_true, Bool.not_false, Bool.and_true, Bool.and_false, Bool.true_and, Bool.false_and, gI_sI, gI_sL, gI_sA, gI_sM, gL_sI, gL_sL, gL_sA, gL_sM, aI_sI, aI_sL, aI_sA, aI_sM, aL_sI, aL_sL, aL_sA, aL_sM]; try dsimp only
                    exact hW _ 108 [(0, .ref 1000), (1, .int k), (2, .int j)] _ _ _ (by simp [rdl, rky, Value.category]) (t108 _ (Int64.ofInt (-1)) (by omega) (if_pos (by assumption)).symm)
                  · refine hB _ _ _ _ _ (fun m26 hm26 => ?_)
                    dsimp only [ugo, uwp, ust, uct, rfd, Bended, Bended_91, Nat.beq, lv_args, rlk, rs1, rs2, rdl, rky, rcd, rno, rsw, Value.category, List.filter, List.take, List.drop, List.reverse, List.reverseAux, List.cons_append, List.nil_append, Option.toList, Int.toNat, Int.reduceToNat, if_pos, if_neg, reduceIte, ↓reduceIte, Nat.reduceAdd, Nat.reduceEqDiff, Nat.reduceBEq, beq_self_eq_true, Bool.not_true, Bool.not_false, Bool.and_true, Bool.and_false, Bool.true_and, Bool.false_and, gI_sI, gI_sL, gI_sA, gI_sM, gL_sI, gL_sL, gL_sA, gL_sM, aI_sI, aI_sL, aI_sA, aI_sM, aL_sI, aL_sL, aL_sA, aL_sM]; try dsimp only
                    intro p27
                    refine ⟨trivial, fun w28 τ28 hq28 => ?_⟩
                    obtain ⟨rfl, rfl⟩ := hq28 trivial
                    dsimp only [Option.toList, List.cons_append, List.nil_append, Nat.beq, gI_sI, gI_sL, gI_sA, gI_sM, gL_sI, gL_sL, gL_sA, gL_sM, aI_sI, aI_sL, aI_sA, aI_sM, aL_sI, aL_sL, aL_sA, aL_sM]
                    exact hW _ 108 [(0, .ref 1000), (1, .int k), (2, .int j)] _ _ _ (by simp [rdl, rky, Value.category]) (t108 _ ((g (j).toNatClampNeg) ||| (nowR (sA (sM (sA σ 107 f) 108 g) 107 (upd f (j).toNatClampNeg q8)))) (by omega) (if_neg (by assumption)).symm)
                refine ⟨fun h29 => ?_, fun h29 => ?_⟩
                · refine hB _ _ _ _ _ (fun m30 hm30 => ?_)
                  dsimp only [ugo, uwp, ust, uct, rfd, Bended, Bended_77, Nat.beq, lv_args, rlk, rs1, rs2, rdl, rky, rcd, rno, rsw, Value.category, List.filter, List.take, List.drop, List.reverse, List.reverseAux, List.cons_append, List.nil_append, Option.toList, Int.toNat, Int.reduceToNat, if_pos, if_neg, reduceIte, ↓reduceIte, Nat.reduceAdd, Nat.reduceEqDiff, Nat.reduceBEq, beq_self_eq_true, Bool.not_true, Bool.not_false, Bool.and_true, Bool.and_false, Bool.true_and, Bool.false_and, gI_sI, gI_sL, gI_sA, gI_sM, gL_sI, gL_sL, gL_sA, gL_sM, aI_sI, aI_sL, aI_sA, aI_sM, aL_sI, aL_sL, aL_sA, aL_sM, oi_0]; try dsimp only
                  exact hW _ 78 [(0, .ref 1000), (1, .int k), (2, .int j)] _ _ _ (by simp [rdl, rky, Value.category]) (t78 _ 0 (by omega) (if_neg (fun q => by obtain ⟨q1, q2⟩ := q; contradiction)).symm)
                · refine hB _ _ _ _ _ (fun m31 hm31 => ?_)
                  dsimp only [ugo, uwp, ust, uct, rfd, Bended, Bended_66, Nat.beq, lv_args, rlk, rs1, rs2, rdl, rky, rcd, rno, rsw, Value.category, List.filter, List.take, List.drop, List.reverse, List.reverseAux, List.cons_append, List.nil_append, Option.toList, Int.toNat, Int.reduceToNat, if_pos, if_neg, reduceIte, ↓reduceIte, Nat.reduceAdd, Nat.reduceEqDiff, Nat.reduceBEq, beq_self_eq_true, Bool.not_true, Bool.not_false, Bool.and_true, Bool.and_false, Bool.true_and, Bool.false_and, gI_sI, gI_sL, gI_sA, gI_sM, gL_sI, gL_sL, gL_sA, gL_sM, aI_sI, aI_sL, aI_sA, aI_sM, aL_sI, aL_sL, aL_sA, aL_sM]; try dsimp only
                  refine ⟨fun h32 => ?_, fun h32 => ?_⟩
                  · refine hB _ _ _ _ _ (fun m33 hm33 => ?_)
                    dsimp only [ugo, uwp, ust, uct, rfd, Bended, Bended_77, Nat.beq, lv_args, rlk, rs1, rs2, rdl, rky, rcd, rno, rsw, Value.category, List.filter, List.take, List.drop, List.reverse, List.reverseAux, List.cons_append, List.nil_append, Option.toList, Int.toNat, Int.reduceToNat, if_pos, if_neg, reduceIte, ↓reduceIte, Nat.reduceAdd, Nat.reduceEqDiff, Nat.reduceBEq, beq_self_eq_true, Bool.not_true, Bool.not_false, Bool.and_true, Bool.and_false, Bool.true_and, Bool.false_and, gI_sI, gI_sL, gI_sA, gI_sM, gL_sI, gL_sL, gL_sA, gL_sM, aI_sI, aI_sL, aI_sA, aI_sM, aL_sI, aL_sL, aL_sA, aL_sM, oi_0]; try dsimp only
                    exact hW _ 78 [(0, .ref 1000), (1, .int k), (2, .int j)] _ _ _ (by simp [rdl, rky, Value.category]) (t78 _ 0 (by omega) (if_neg (fun q => by obtain ⟨q1, q2⟩ := q; contradiction)).symm)
                  · refine hB _ _ _ _ _ (fun m34 hm34 => ?_)
                    dsimp only [ugo, uwp, ust, uct, rfd, Bended, Bended_73, Nat.beq, lv_args, rlk, rs1, rs2, rdl, rky, rcd, rno, rsw, Value.category, List.filter, List.take, List.drop, List.reverse, List.reverseAux, List.cons_append, List.nil_append, Option.toList, Int.toNat, Int.reduceToNat, if_pos, if_neg, reduceIte, ↓reduceIte, Nat.reduceAdd, Nat.reduceEqDiff, Nat.reduceBEq, beq_self_eq_true, Bool.not_true, Bool.not_false, Bool.and_true, Bool.and_false, Bool.true_and, Bool.false_and, gI_sI, gI_sL, gI_sA, gI_sM, gL_sI, gL_sL, gL_sA, gL_sM, aI_sI, aI_sL, aI_sA, aI_sM, aL_sI, aL_sL, aL_sA, aL_sM, oi_1]; try dsimp only
                    exact hW _ 78 [(0, .ref 1000), (1, .int k), (2, .int j)] _ _ _ (by simp [rdl, rky, Value.category]) (t78 _ 1 (by omega) (if_pos ⟨by assumption, by assumption⟩).symm)
              · refine hB _ _ _ _ _ (fun m35 hm35 => ?_)
                dsimp only [ugo, uwp, ust, uct, rfd, Bended, Bended_49, Nat.beq, lv_args, rlk, rs1, rs2, rdl, rky, rcd, rno, rsw, Value.category, List.filter, List.take, List.drop, List.reverse, List.reverseAux, List.cons_append, List.nil_append, Option.toList, Int.toNat, Int.reduceToNat, if_pos, if_neg, reduceIte, ↓reduceIte, Nat.reduceAdd, Nat.reduceEqDiff, Nat.reduceBEq, beq_self_eq_true, Bool.not_true, Bool.not_false, Bool.and_true, Bool.and_false, Bool.true_and, Bool.false_and, gI_sI, gI_sL, gI_sA, gI_sM, gL_sI, gL_sL, gL_sA, gL_sM, aI_sI, aI_sL, aI_sA, aI_sM, aL_sI, aL_sL, aL_sA, aL_sM]; try dsimp only
                refine hB _ _ _ _ _ (fun m36 hm36 => ?_)
                dsimp only [ugo, uwp, ust, uct, rfd, Bended, Bended_109, Nat.beq, lv_args, rlk, rs1, rs2, rdl, rky, rcd, rno, rsw, Value.category, List.filter, List.take, List.drop, List.reverse, List.reverseAux, List.cons_append, List.nil_append, Option.toList, Int.toNat, Int.reduceToNat, if_pos, if_neg, reduceIte, ↓reduceIte, Nat.reduceAdd, Nat.reduceEqDiff, Nat.reduceBEq, beq_self_eq_true, Bool.not_true, Bool.not_false, Bool.and_true, Bool.and_false, Bool.true_and, Bool.false_and, gI_sI, gI_sL, gI_sA, gI_sM, gL_sI, gL_sL, gL_sA, gL_sM, aI_sI, aI_sL, aI_sA, aI_sM, aL_sI, aL_sL, aL_sA, aL_sM, oi_1]; try dsimp only
                have ji := i32_1 (v := j) hj (by have := (gI σ 103).toInt_lt; omega) (by omega)
                have jk : j.toNatClampNeg = n := nT_x hj
                exact hW _ 2 [(0, .ref 1000), (1, .int k), (2, .int (j + 1))] _ _ _ (by simp [rdl, rky, Value.category]) (loop _ (by omega) (j + 1) (n + 1) f g (by omega) (by omega) (by rw [enF, if_neg (fun q => by rw [← jk] at q; obtain ⟨q1, q2, q3⟩ := q; first | contradiction | exact absurd q1 (Int32.not_le.mpr (by assumption)) | exact absurd q2 (Int32.not_le.mpr (by assumption)) | exact absurd q3 (by assumption))]; exact hI))
    intro n0
    refine hB _ _ _ _ _ (fun m1 hm1 => ?_)
    dsimp only [ugo, uwp, ust, uct, rfd, Bended, Bended_0, Nat.beq, lv_args, rlk, rs1, rs2, rdl, rky, rcd, rno, rsw, Value.category, List.filter, List.take, List.drop, List.reverse, List.reverseAux, List.cons_append, List.nil_append, Option.toList, Int.toNat, Int.reduceToNat, if_pos, if_neg, reduceIte, ↓reduceIte, Nat.reduceAdd, Nat.reduceEqDiff, Nat.reduceBEq, beq_self_eq_true, Bool.not_true, Bool.not_false, Bool.and_true, Bool.and_false, Bool.true_and, Bool.false_and, gI_sI, gI_sL, gI_sA, gI_sM, gL_sI, gL_sL, gL_sA, gL_sM, aI_sI, aI_sL, aI_sA, aI_sM, aL_sI, aL_sL, aL_sA, aL_sM, oi_0]; try dsimp only
    have z := loop m1 0 0 (aI σ 107) (aL σ 108) rfl (by omega) rfl
    rw [show sM (sA σ 107 (aI σ 107)) 108 (aL σ 108) = σ by rw [sA_id]; exact sM_id] at z
    exact hW _ 2 [(0, .ref 1000), (1, .int k), (2, .int 0)] _ _ _ (by simp [rdl, rky, Value.category]) z
  next => exact hP.elim
theorem w_ended : UMet 122 (fun _ _ => True) Qw_ended := fun A1 σ _ w τ h hP => v_ended A1 σ hP w τ h
