/-- one code more, as it is laid -/
theorem PcM.b {th : Int → Int} {τ : RS} {z : ZS} {x : XrZ} {i : Nat} {v : Int32} (h : PcM th τ (puM x z)) (hi : i + 1 = nT (gI τ 18)) (hk : ¬ x.1.1 ≤ 0 ∧ ¬ x.1.1 = 15) : PcM th (sA τ 21 (upd (aI τ 21) i v)) (puM x z) := by
  have e := h.2
  have e : nT (gI τ 18) = z.2.1.length + 1 := e
  obtain ⟨⟨q, r⟩, h2⟩ := h
  have q : ccZ τ z.2.1.length x := q
  refine ⟨⟨?_, r.fr (fun k hx1 h2 j hj => ?_)⟩, h2⟩
  · show ccZ _ z.2.1.length x
    unfold ccZ at q ⊢
    obtain ⟨q1, q2, q3, q4, q5, q6, q7, q8, q9, q10⟩ := q
    exact ⟨q1, q2, q3, fun y => ⟨(q4 y).1, fun y2 => by omega⟩, q5, q6, q7, q8, q9, fun y => absurd y hk.2⟩
  · by_cases hk : k = 21
    · subst hk
      rw [aI_eq, upd_ne (by omega)]
    · rw [aI_ne hk]
theorem PcM.q {th : Int → Int} {τ : RS} {z : ZS} {x : XrZ} {i : Nat} {v : Int32} (h : PcM th τ (puM x z)) (hi : i + 1 = nT (gI τ 18)) (hk : x.1.1 = 8) : PcM th (sA τ 20 (upd (aI τ 20) i v)) (puM x z) := by
  have e := h.2
  have e : nT (gI τ 18) = z.2.1.length + 1 := e
  obtain ⟨⟨q, r⟩, h2⟩ := h
  have q : ccZ τ z.2.1.length x := q
  refine ⟨⟨?_, r.fr (fun k hx1 h2 j hj => ?_)⟩, h2⟩
  · show ccZ _ z.2.1.length x
    unfold ccZ at q ⊢
    obtain ⟨q1, q2, q3, q4, q5, q6, q7, q8, q9, q10⟩ := q
    exact ⟨q1, q2, q3, fun y => by omega, fun y => by omega, fun y => by omega, fun y => by omega, fun y => by omega, fun y => by omega, fun y => by omega⟩
  · by_cases hk : k = 20
    · subst hk
      rw [aI_eq, upd_ne (by omega)]
    · rw [aI_ne hk]
theorem i32_sb {x y : Int32} (h0 : 0 ≤ y.toInt) (hx1 : y.toInt ≤ x.toInt) : (x - y).toInt = x.toInt - y.toInt := by
  have a := x.toInt_lt
  have b := y.toInt_lt
  rw [Int32.toInt_sub]
  exact Int.bmod_eq_of_le (by omega) (by omega)
theorem nT_i {x : Int32} {n : Nat} (h : x.toInt = n) : x.toNatClampNeg = n := by
  show x.toInt.toNat = n
  rw [h]
  rfl
theorem vn_4 {x t st : Int} {l : List Int} {O : List OpZ} : vnZ ((4, x, t, st, l) :: O) = l.length + vnZ O := rfl
theorem vn_2 {x t st : Int} {l : List Int} {O : List OpZ} : vnZ ((2, x, t, st, l) :: O) = 1 + vnZ O := rfl
theorem vn_6 {x t st : Int} {l : List Int} {O : List OpZ} : vnZ ((6, x, t, st, l) :: O) = 1 + vnZ O := rfl
theorem vn_7 {x t st : Int} {l : List Int} {O : List OpZ} : vnZ ((7, x, t, st, l) :: O) = 2 + vnZ O := rfl
theorem vn_0 {k x t st : Int} {l : List Int} {O : List OpZ} (h : k = 0 ∨ k = 1 ∨ k = 3 ∨ k = 5) : vnZ ((k, x, t, st, l) :: O) = vnZ O := by
  show (if k = 2 ∨ k = 6 then 1 else if k = 7 then 2 else if k = 4 then l.length else 0) + vnZ O = _
  rw [if_neg (by omega), if_neg (by omega), if_neg (by omega)]
  omega
/-- what waits on top is weaker -/
def rdZ (p : Int32) (O : List OpZ) : Prop := match O with
  | [] => True
  | o :: _ => o.1 = 2 → strZ o.2.1 < p.toInt
theorem sg_307 {a : Int32} {x : Int} (h : (a.toInt, x) ∈ sgT) : (a = 307 ↔ x = 21) ∧ (a = 308 ↔ x = 20) := by
  have q1 := sgT_in _ h (307, 21) (by decide)
  have q2 := sgT_in _ h (308, 20) (by decide)
  dsimp only at q1 q2
  refine ⟨?_, ?_⟩
  · rw [← q1, ← Int32.toInt_inj]; rfl
  · rw [← q2, ← Int32.toInt_inj]; rfl
theorem nb_c {k x t st : Int} {l : List Int} {O : List OpZ} : nbY (osZ ((k, x, t, st, l) :: O)) = (if k = 2 then 0 else 1) + nbY (osZ O) := rfl
/-- the whole -/
def WhZ (σ : RS) (first : Int32) (τ : RS) : Prop := τ = sI (sA σ 30 (upd (aI σ 30) (nT (gI σ 31)) first)) 31 (gI σ 31 + 1)
def Pv_emitZ : UP1 := fun A1 σ => match A1 with
  | [.int op, .int a, .int token] => True
  | _ => False
def Qv_emitZ : UQ1 := fun A1 σ w τ => match A1 with
  | [.int op, .int a, .int token] => w = some (.int (gI σ 18)) ∧ EmZ σ op a 0 token token token τ
  | _ => False
def Qw_emitZ : UQ1 := fun A1 σ w τ => Pv_emitZ A1 σ → Qv_emitZ A1 σ w τ
set_option maxRecDepth 100000 in
set_option maxHeartbeats 4000000 in
theorem v_emitZ : UMet 20 (Pv_emitZ) (Qv_emitZ) := by
  refine UMet.by Bemit [] rfl uc0 ?_
  intro A1 σ hP K hB hW
  unfold Pv_emitZ at hP
  split at hP
  next op a token =>
    intro n0
    refine hB _ _ _ _ _ (fun m1 hm1 => ?_)
    dsimp only [ugo, uwp, ust, uct, rfd, Bemit, Nat.beq, lv_args, rlk, rs1, rs2, rdl, rky, rcd, rno, rsw, Value.category, List.filter, List.take, List.drop, List.reverse, List.reverseAux, List.cons_append, List.nil_append, Option.toList, Int.toNat, Int.reduceToNat, if_pos, if_neg, reduceIte, ↓reduceIte, Nat.reduceAdd, Nat.reduceEqDiff, Nat.reduceBEq, beq_self_eq_true, Bool.not_true, Bool.not_false, Bool.and_true, Bool.and_false, Bool.true_and, Bool.false_and, gI_sI, gI_sL, gI_sA, gI_sM, gL_sI, gL_sL, gL_sA, gL_sM, aI_sI, aI_sL, aI_sA, aI_sM, aL_sI, aL_sL, aL_sA, aL_sM, Bemit_0, oi_0, oi_1]; try dsimp only
    intro p2
    intro p3
    intro p4
    intro p5
    intro p6
    intro p7
    unfold Qv_emitZ
    try dsimp only
    obtain ⟨b1, b2⟩ : 0 ≤ gI σ 18 ∧ gI σ 18 < 4000 := vin (by assumption) (by decide) (by decide)
    exact ⟨rfl, ⟨fun k hk => (by show gI (sI σ 18 _) k = _; rw [gI_sI, nb_ne hk]), rfl, rfl, rfl, fun k hk => (aI_ne (by omega)).trans ((aI_ne (by omega)).trans ((aI_ne (by omega)).trans ((aI_ne (by omega)).trans ((aI_ne (by omega)).trans ((aI_ne (by omega)).trans rfl))))), b1, b2⟩, rfl, rfl, rfl, rfl⟩
  next => exact hP.elim
theorem w_emitZ : UMet 20 (fun _ _ => True) Qw_emitZ := fun A1 σ _ w τ h hP => v_emitZ A1 σ hP w τ h
def Pv_emitExpZ : UP1 := fun A1 σ => match A1 with
  | [.int op, .int a, .int token, .int first, .int last] => True
  | _ => False
def Qv_emitExpZ : UQ1 := fun A1 σ w τ => match A1 with
  | [.int op, .int a, .int token, .int first, .int last] => w = some (.int (gI σ 18)) ∧ EmZ σ op a 0 token first last τ
  | _ => False
def Qw_emitExpZ : UQ1 := fun A1 σ w τ => Pv_emitExpZ A1 σ → Qv_emitExpZ A1 σ w τ
set_option maxRecDepth 100000 in
set_option maxHeartbeats 4000000 in
theorem v_emitExpZ : UMet 21 (Pv_emitExpZ) (Qv_emitExpZ) := by
  refine UMet.by BemitExp [(20, (fun _ _ => True), Qw_emitZ)] rfl (ucc w_emitZ uc0) ?_
  intro A1 σ hP K hB hW
  unfold Pv_emitExpZ at hP
  split at hP
  next op a token first last =>
    intro n0
    refine hB _ _ _ _ _ (fun m1 hm1 => ?_)
    dsimp only [ugo, uwp, ust, uct, rfd, BemitExp, Nat.beq, lv_args, rlk, rs1, rs2, rdl, rky, rcd, rno, rsw, Value.category, List.filter, List.take, List.drop, List.reverse, List.reverseAux, List.cons_append, List.nil_append, Option.toList, Int.toNat, Int.reduceToNat, if_pos, if_neg, reduceIte, ↓reduceIte, Nat.reduceAdd, Nat.reduceEqDiff, Nat.reduceBEq, beq_self_eq_true, Bool.not_true, Bool.not_false, Bool.and_true, Bool.and_false, Bool.true_and, Bool.false_and, gI_sI, gI_sL, gI_sA, gI_sM, gL_sI, gL_sL, gL_sA, gL_sM, aI_sI, aI_sL, aI_sA, aI_sM, aL_sI, aL_sL, aL_sA, aL_sM, BemitExp_0]; try dsimp only
    refine ⟨trivial, fun w2 τ2 hq2 => ?_⟩
    obtain ⟨rfl, hE2⟩ := hq2 trivial
    dsimp only [Option.toList, List.cons_append, List.nil_append, Nat.beq, gI_sI, gI_sL, gI_sA, gI_sM, gL_sI, gL_sL, gL_sA, gL_sM, aI_sI, aI_sL, aI_sA, aI_sM, aL_sI, aL_sL, aL_sA, aL_sM]
    intro p3
    intro p4
    unfold Qv_emitExpZ
    try dsimp only
    have hn : (gI σ 18).toNatClampNeg = nT (gI σ 18) := rfl
    refine ⟨rfl, ⟨hE2.1.1, hE2.1.2.1, ?_, ?_, fun k hk => (aI_ne (by omega)).trans ((aI_ne (by omega)).trans (hE2.1.2.2.2.2.1 k hk)), hE2.1.2.2.2.2.2⟩, ?_, ?_, ?_, ?_⟩
    · exact (aI_ne (by decide)).trans ((aI_ne (by decide)).trans hE2.1.2.2.1)
    · exact (aI_ne (by decide)).trans ((aI_ne (by decide)).trans hE2.1.2.2.2.1)
    · exact (aI_ne (by decide)).trans ((aI_ne (by decide)).trans hE2.2.1)
    · exact (aI_ne (by decide)).trans ((aI_ne (by decide)).trans hE2.2.2.1)
    · refine (aI_ne (by decide)).trans (aI_eq.trans ?_)
      rw [hE2.2.2.2.1, hn, upd_upd]
    · refine aI_eq.trans ?_
      rw [hE2.2.2.2.2, hn, upd_upd]
  next => exact hP.elim
theorem w_emitExpZ : UMet 21 (fun _ _ => True) Qw_emitExpZ := fun A1 σ _ w τ h hP => v_emitExpZ A1 σ hP w τ h
def Pv_pushZ : UP1 := fun A1 σ => match A1 with
  | [.int sort, .int sign, .int token] => True
  | _ => False
def Qv_pushZ : UQ1 := fun A1 σ w τ => match A1 with
  | [.int sort, .int sign, .int token] => w = some (.int 1) ∧ Pu σ sort sign token τ ∧ aI τ 28 = upd (aI σ 28) (nT (gI σ 29)) 0
  | _ => False
def Qw_pushZ : UQ1 := fun A1 σ w τ => Pv_pushZ A1 σ → Qv_pushZ A1 σ w τ
set_option maxRecDepth 100000 in
set_option maxHeartbeats 4000000 in
theorem v_pushZ : UMet 25 (Pv_pushZ) (Qv_pushZ) := by
  refine UMet.by Bpush [] rfl uc0 ?_
  intro A1 σ hP K hB hW
  unfold Pv_pushZ at hP
  split at hP
  next sort sign token =>
    intro n0
    refine hB _ _ _ _ _ (fun m1 hm1 => ?_)
    dsimp only [ugo, uwp, ust, uct, rfd, Bpush, Nat.beq, lv_args, rlk, rs1, rs2, rdl, rky, rcd, rno, rsw, Value.category, List.filter, List.take, List.drop, List.reverse, List.reverseAux, List.cons_append, List.nil_append, Option.toList, Int.toNat, Int.reduceToNat, if_pos, if_neg, reduceIte, ↓reduceIte, Nat.reduceAdd, Nat.reduceEqDiff, Nat.reduceBEq, beq_self_eq_true, Bool.not_true, Bool.not_false, Bool.and_true, Bool.and_false, Bool.true_and, Bool.false_and, gI_sI, gI_sL, gI_sA, gI_sM, gL_sI, gL_sL, gL_sA, gL_sM, aI_sI, aI_sL, aI_sA, aI_sM, aL_sI, aL_sL, aL_sA, aL_sM, Bpush_0, oi_0, oi_1]; try dsimp only
    intro p2
    intro p3
    intro p4
    intro p5
    unfold Qv_pushZ
    try dsimp only
    obtain ⟨b1, b2⟩ : 0 ≤ gI σ 29 ∧ gI σ 29 < 600 := vin (by assumption) (by decide) (by decide)
    exact ⟨rfl, ⟨fun k hk => (by show gI (sI _ 29 _) k = _; rw [gI_sI, nb_ne hk]; rfl), rfl, ⟨rfl, rfl, rfl⟩, fun k hk => (aI_ne (by omega)).trans ((aI_ne (by omega)).trans ((aI_ne (by omega)).trans ((aI_ne (by omega)).trans rfl))), b1, b2⟩, rfl⟩
  next => exact hP.elim
theorem w_pushZ : UMet 25 (fun _ _ => True) Qw_pushZ := fun A1 σ _ w τ h hP => v_pushZ A1 σ hP w τ h
def Pv_wholeZ : UP1 := fun A1 σ => match A1 with
  | [.int first] => True
  | _ => False
def Qv_wholeZ : UQ1 := fun A1 σ w τ => match A1 with
  | [.int first] => w = none ∧ WhZ σ first τ ∧ 0 ≤ gI σ 31 ∧ gI σ 31 < 600
  | _ => False
def Qw_wholeZ : UQ1 := fun A1 σ w τ => Pv_wholeZ A1 σ → Qv_wholeZ A1 σ w τ
set_option maxRecDepth 100000 in
set_option maxHeartbeats 4000000 in
theorem v_wholeZ : UMet 26 (Pv_wholeZ) (Qv_wholeZ) := by
  refine UMet.by Bwhole [] rfl uc0 ?_
  intro A1 σ hP K hB hW
  unfold Pv_wholeZ at hP
  split at hP
  next first =>
    intro n0
    refine hB _ _ _ _ _ (fun m1 hm1 => ?_)
    dsimp only [ugo, uwp, ust, uct, rfd, Bwhole, Nat.beq, lv_args, rlk, rs1, rs2, rdl, rky, rcd, rno, rsw, Value.category, List.filter, List.take, List.drop, List.reverse, List.reverseAux, List.cons_append, List.nil_append, Option.toList, Int.toNat, Int.reduceToNat, if_pos, if_neg, reduceIte, ↓reduceIte, Nat.reduceAdd, Nat.reduceEqDiff, Nat.reduceBEq, beq_self_eq_true, Bool.not_true, Bool.not_false, Bool.and_true, Bool.and_false, Bool.true_and, Bool.false_and, gI_sI, gI_sL, gI_sA, gI_sM, gL_sI, gL_sL, gL_sA, gL_sM, aI_sI, aI_sL, aI_sA, aI_sM, aL_sI, aL_sL, aL_sA, aL_sM, Bwhole_0, oi_1]; try dsimp only
    intro p2
    unfold Qv_wholeZ
    try dsimp only
    obtain ⟨b1, b2⟩ : 0 ≤ gI σ 31 ∧ gI σ 31 < 600 := vin (by assumption) (by decide) (by decide)
    exact ⟨rfl, rfl, b1, b2⟩
  next => exact hP.elim
theorem w_wholeZ : UMet 26 (fun _ _ => True) Qw_wholeZ := fun A1 σ _ w τ h hP => v_wholeZ A1 σ hP w τ h
def Pv_closeCallZ (th : Int → Int) (σ0 : RS) (z : ZS) (n : Nat) (x t st : Int) (l : List Int) (O : List OpZ) : UP1 := fun A1 σ => match A1 with
  | [] => XrR σ0 σ z.1 n ∧ n ≤ 21 ∧ codY z.1 = 1 ∧ OzZ σ ((4, x, t, st, l) :: O) ∧ (gI σ 31).toInt = vnZ ((4, x, t, st, l) :: O) ∧ PcM th σ z
  | _ => False
def Qv_closeCallZ (th : Int → Int) (σ0 : RS) (z : ZS) (n : Nat) (x t st : Int) (l : List Int) (O : List OpZ) : UQ1 := fun A1 σ w τ => match A1 with
  | [] => (w = some (.int 0) ∧ FlR τ (accY z.1)) ∨ (w = some (.int 1) ∧ XrR σ0 τ (accY z.1) (n + 1) ∧ OzZ τ O ∧ PcM th τ (accM (puM (calZ t st l z.1) z)) ∧ BhZ τ (accY z.1) O (t, st) ∧ gI τ 34 = 0)
  | _ => False
def Qw_closeCallZ : UQ1 := fun A1 σ w τ => ∀ (th : Int → Int) (σ0 : RS) (z : ZS) (n : Nat) (x t st : Int) (l : List Int) (O : List OpZ), Pv_closeCallZ th σ0 z n x t st l O A1 σ → Qv_closeCallZ th σ0 z n x t st l O A1 σ w τ
set_option maxRecDepth 100000 in
set_option maxHeartbeats 4000000 in
theorem v_closeCallZ (th : Int → Int) (σ0 : RS) (z : ZS) (n : Nat) (x t st : Int) (l : List Int) (O : List OpZ) : UMet 31 (Pv_closeCallZ th σ0 z n x t st l O) (Qv_closeCallZ th σ0 z n x t st l O) := by
  refine UMet.by BcloseCall [(21, (fun _ _ => True), Qw_emitExpZ), (17, (fun _ _ => True), Qw_take), (26, (fun _ _ => True), Qw_wholeZ)] rfl (ucc w_emitExpZ (ucc w_take (ucc w_wholeZ uc0))) ?_
  intro A1 σ hP K hB hW
  unfold Pv_closeCallZ at hP
  split at hP
  next =>
    obtain ⟨hX, hn, hc, hO, hx31, hP⟩ := hP
    intro n0
    refine hB _ _ _ _ _ (fun m1 hm1 => ?_)
    dsimp only [ugo, uwp, ust, uct, rfd, BcloseCall, Nat.beq, lv_args, rlk, rs1, rs2, rdl, rky, rcd, rno, rsw, Value.category, List.filter, List.take, List.drop, List.reverse, List.reverseAux, List.cons_append, List.nil_append, Option.toList, Int.toNat, Int.reduceToNat, if_pos, if_neg, reduceIte, ↓reduceIte, Nat.reduceAdd, Nat.reduceEqDiff, Nat.reduceBEq, beq_self_eq_true, Bool.not_true, Bool.not_false, Bool.and_true, Bool.and_false, Bool.true_and, Bool.false_and, gI_sI, gI_sL, gI_sA, gI_sM, gL_sI, gL_sL, gL_sA, gL_sM, aI_sI, aI_sL, aI_sA, aI_sM, aL_sI, aL_sL, aL_sA, aL_sM, BcloseCall_0, BcloseCall_32, BcloseCall_34, oi_0, oi_1, oi_18]; try dsimp only
    intro p2
    refine ⟨trivial, fun w3 τ3 hq3 => ?_⟩
    have hq3 := hq3 σ0 z.1 n ⟨(by repeat (first | exact hX | refine XrR.i ?_ (by decide) | refine XrR.up ?_ (by omega) | refine XrR.a ?_ (by decide))), by omega, by omega⟩
    rcases hq3 with ⟨rfl, hF3⟩ | ⟨rfl, hX3, hz3, hS3⟩
    · dsimp only [Option.toList, List.cons_append, List.nil_append, Nat.beq, gI_sI, gI_sL, gI_sA, gI_sM, gL_sI, gL_sL, gL_sA, gL_sM, aI_sI, aI_sL, aI_sA, aI_sM, aL_sI, aL_sL, aL_sA, aL_sM]
      refine ⟨fun h4 => absurd h4 (by decide), fun h4 => ?_⟩
      clear h4
      refine hB _ _ _ _ _ (fun m5 hm5 => ?_)
      dsimp only [ugo, uwp, ust, uct, rfd, BcloseCall, Nat.beq, lv_args, rlk, rs1, rs2, rdl, rky, rcd, rno, rsw, Value.category, List.filter, List.take, List.drop, List.reverse, List.reverseAux, List.cons_append, List.nil_append, Option.toList, Int.toNat, Int.reduceToNat, if_pos, if_neg, reduceIte, ↓reduceIte, Nat.reduceAdd, Nat.reduceEqDiff, Nat.reduceBEq, beq_self_eq_true, Bool.not_true, Bool.not_false, Bool.and_true, Bool.and_false, Bool.true_and, Bool.false_and, gI_sI, gI_sL, gI_sA, gI_sM, gL_sI, gL_sL, gL_sA, gL_sM, aI_sI, aI_sL, aI_sA, aI_sM, aL_sI, aL_sL, aL_sA, aL_sM, BcloseCall_0, BcloseCall_32, BcloseCall_34, oi_0, oi_1, oi_18]; try dsimp only
      unfold Qv_closeCallZ
      try dsimp only
      exact Or.inl ⟨rfl, hF3⟩
    · dsimp only [Option.toList, List.cons_append, List.nil_append, Nat.beq, gI_sI, gI_sL, gI_sA, gI_sM, gL_sI, gL_sL, gL_sA, gL_sM, aI_sI, aI_sL, aI_sA, aI_sM, aL_sI, aL_sL, aL_sA, aL_sM]
      have hO3 := hS3.o (by decide)
      have h34_3 := hS3.1 34 (by decide)
      try dsimp only [Nat.beq, gI_sI, gI_sL, gI_sA, gI_sM, gL_sI, gL_sL, gL_sA, gL_sM, aI_sI, aI_sL, aI_sA, aI_sM, aL_sI, aL_sL, aL_sA, aL_sM] at h34_3
      have hOp1 : OzZ τ3 O := OzZ.s1 (OzZ.pop hO) hS3 (by decide)
      have hP1 : PcM th τ3 z := PcM.s1 (PcM.i hP (by decide)) hS3 (by decide)
      refine ⟨fun h6 => ?_, fun h6 => absurd h6 (by decide)⟩
      clear h6
      refine hB _ _ _ _ _ (fun m7 hm7 => ?_)
      dsimp only [ugo, uwp, ust, uct, rfd, BcloseCall, Nat.beq, lv_args, rlk, rs1, rs2, rdl, rky, rcd, rno, rsw, Value.category, List.filter, List.take, List.drop, List.reverse, List.reverseAux, List.cons_append, List.nil_append, Option.toList, Int.toNat, Int.reduceToNat, if_pos, if_neg, reduceIte, ↓reduceIte, Nat.reduceAdd, Nat.reduceEqDiff, Nat.reduceBEq, beq_self_eq_true, Bool.not_true, Bool.not_false, Bool.and_true, Bool.and_false, Bool.true_and, Bool.false_and, gI_sI, gI_sL, gI_sA, gI_sM, gL_sI, gL_sL, gL_sA, gL_sM, aI_sI, aI_sL, aI_sA, aI_sM, aL_sI, aL_sL, aL_sA, aL_sM, BcloseCall_0, BcloseCall_32, BcloseCall_34, oi_0, oi_1, oi_18]; try dsimp only
      have g29 : gI τ3 29 = gI σ 29 - 1 := hS3.1 29 (by decide)
      have g31 : gI τ3 31 = gI σ 31 := hS3.1 31 (by decide)
      have r28 : aI τ3 28 = aI σ 28 := hS3.2 28
      have hl0 : (aI τ3 28 (gI τ3 29).toNatClampNeg).toInt = l.length := by rw [r28, g29, hO.top]; exact hO.1.1.2.2.2.1 rfl
      have hT : (aI σ 27 (gI σ 29 - 1).toNatClampNeg).toInt = t := by rw [hO.top]; exact hO.1.1.2.2.1 (show ¬ ((4 : Int) = 2 ∨ (4 : Int) = 6 ∨ (4 : Int) = 7) by decide)
      have hC : (gI σ 14).toInt = zAt z.1 := hX.1.2.1.1.symm
      intro p8
      intro p9
      refine ⟨trivial, fun w10 τ10 hq10 => ?_⟩
      obtain ⟨rfl, hE10⟩ := hq10 trivial
      dsimp only [Option.toList, List.cons_append, List.nil_append, Nat.beq, gI_sI, gI_sL, gI_sA, gI_sM, gL_sI, gL_sL, gL_sA, gL_sM, aI_sI, aI_sL, aI_sA, aI_sM, aL_sI, aL_sL, aL_sA, aL_sM]
      have hXe := XrR.em (σ0 := σ0) (s := accY z.1) (n := n + 1) (XrR.i (XrR.up hX3 (by omega)) (by decide)) hE10.1 (by decide)
      have hOe := OzZ.em (OzZ.i (OzZ.i hOp1 (k := 17) (by decide)) (k := 31) (by decide)) hE10.1
      have hPe := PcM.em (z := z) (x := calZ t st l z.1) (PcM.i (PcM.i hP1 (k := 17) (by decide)) (k := 31) (by decide)) hE10 (cm_cal (by decide) hT hC hT hl0)
      have g31e : (gI τ10 31).toInt = vnZ O := by
        have e : gI τ10 31 = gI τ3 31 - aI τ3 28 (gI τ3 29).toNatClampNeg := hE10.1.1 31 (by decide)
        rw [e, i32_sb (by omega) (by rw [g31, hx31, vn_4, hl0]; omega), g31, hx31, vn_4, hl0]
        omega
      have g18e : gI τ10 18 = gI τ3 18 + 1 := hE10.1.2.1
      refine ⟨trivial, fun w11 τ11 hq11 => ?_⟩
      obtain ⟨rfl, hV11, hW0_11, hW1_11⟩ := hq11 trivial
      unfold WhZ at hV11
      subst hV11
      dsimp only [Option.toList, List.cons_append, List.nil_append, Nat.beq, gI_sI, gI_sL, gI_sA, gI_sM, gL_sI, gL_sL, gL_sA, gL_sM, aI_sI, aI_sL, aI_sA, aI_sM, aL_sI, aL_sL, aL_sA, aL_sM]
      unfold Qv_closeCallZ
      try dsimp only
      have b18 := hE10.1.2.2.2.2.2
      have b1 := Int32.le_iff_toInt_le.mp b18.1
      have b2 := Int32.lt_iff_toInt_lt.mp b18.2
      have ez : zAt (accY z.1) = zAt z.1 + 1 := (acc_pg (zFt_acc hX.1.1.1 hz3)).2.1
      have ev : nT (gI τ10 31) = vnZ O := nT_i g31e
      refine Or.inr ⟨rfl, ?_, ?_, ?_, ⟨?_, ?_, ?_, ?_⟩, rfl⟩
      · exact XrR.i (XrR.i (XrR.a (XrR.i (XrR.i hXe (by decide)) (by decide)) (by decide)) (by decide)) (by decide)
      · refine OzZ.i (OzZ.i (OzZ.v (OzZ.i (OzZ.i hOe (by decide)) (by decide)) ?_) (by decide)) (by decide)
        exact Nat.le_of_eq ev.symm
      · exact PcM.i (PcM.i (PcM.a (PcM.i (PcM.i (PcM.z hPe rfl) (by decide)) (by decide)) (by decide)) (by decide)) (by decide)
      · show (gI τ10 31 + 1).toInt = _
        have w1 : (gI τ10 31).toInt < 600 := Int32.lt_iff_toInt_lt.mp (show gI τ10 31 < 600 from hW1_11)
        rw [i32_add (by omega) (by omega), g31e]
      · show (upd (aI τ10 30) (nT (gI τ10 31)) _ (vnZ O)).toInt = t
        rw [ev, upd_eq]
        exact hT
      · show (gI σ 14).toInt = _
        rw [hC, ez]
        omega
      · show (gI τ3 18).toInt + 1 = (gI τ10 18).toInt
        rw [g18e]
        have c1 : 0 ≤ (gI τ3 18).toInt := b1
        have c2 : (gI τ3 18).toInt < 4000 := b2
        rw [i32_add (by omega) (by omega)]
  next => exact hP.elim
theorem w_closeCallZ : UMet 31 (fun _ _ => True) Qw_closeCallZ := fun A1 σ _ w τ h th σ0 z n x t st l O hP => v_closeCallZ th σ0 z n x t st l O A1 σ hP w τ h
def Pv_reduceZ (N th : Int → Int) (σ0 : RS) (z : ZS) (n : Nat) (O : List OpZ) (r : Int × Int) : UP1 := fun A1 σ => match A1 with
  | [.int least] => XrR σ0 σ z.1 n ∧ OzZ σ O ∧ n + nbY (osZ O) ≤ 21 ∧ BhZ σ z.1 O r ∧ PcM th σ z ∧ ((20 ≤ codY z.1 ∧ codY z.1 ≤ 38) → least.toInt = strZ (codY z.1)) ∧ (¬ (20 ≤ codY z.1 ∧ codY z.1 ≤ 38) → least = 1)
  | _ => False
def Qv_reduceZ (N th : Int → Int) (σ0 : RS) (z : ZS) (n : Nat) (O : List OpZ) (r : Int × Int) : UQ1 := fun A1 σ w τ => match A1 with
  | [.int least] => w = none ∧ ∃ (m : Nat) (O' : List OpZ) (r' : Int × Int) (z' : ZS), XrR σ0 τ z.1 m ∧ z'.1 = z.1 ∧ OzZ τ O' ∧ m + nbY (osZ O') = n + nbY (osZ O) ∧ BhZ τ z.1 O' r' ∧ PcM th τ z' ∧ foM N O' [] m r' z' = foM N O [] n r z ∧ (∀ t, foY (osZ O') m t = foY (osZ O) n t) ∧ ¬ tpZ O' = 0 ∧ ¬ tpZ O' = 1 ∧ rdZ least O'
  | _ => False
def Qw_reduceZ : UQ1 := fun A1 σ w τ => ∀ (N th : Int → Int) (σ0 : RS) (z : ZS) (n : Nat) (O : List OpZ) (r : Int × Int), Pv_reduceZ N th σ0 z n O r A1 σ → Qv_reduceZ N th σ0 z n O r A1 σ w τ
set_option maxRecDepth 100000 in
set_option maxHeartbeats 4000000 in
theorem v_reduceZ (N th : Int → Int) (σ0 : RS) (z : ZS) (n : Nat) (O : List OpZ) (r : Int × Int) : UMet 32 (Pv_reduceZ N th σ0 z n O r) (Qv_reduceZ N th σ0 z n O r) := by
  refine UMet.by Breduce [(21, (fun _ _ => True), Qw_emitExpZ), (22, (fun _ _ => True), Qw_strength)] rfl (ucc w_emitExpZ (ucc w_strength uc0)) ?_
  intro A1 σ hP K hB hW
  unfold Pv_reduceZ at hP
  split at hP
  next least =>
    obtain ⟨hX, hO, hn, hBh, hPc, hle, hl1⟩ := hP
    have loop : ∀ (M : Nat) (Y : RS) (m : Nat) (O' : List OpZ) (r' : Int × Int) (z' : ZS) (more : Int32), XrR σ0 Y z.1 m → z'.1 = z.1 → OzZ Y O' → m + nbY (osZ O') = n + nbY (osZ O) → BhZ Y z.1 O' r' → PcM th Y z' → foM N O' [] m r' z' = foM N O [] n r z → (∀ t, foY (osZ O') m t = foY (osZ O) n t) → (¬ more = 0 → 0 < gI Y 29) → (more = 0 → gI Y 29 ≤ 0) → K M 13 [(0, .ref 1000), (1, .int least), (2, .int more)] [] Y := by
      intro M
      induction M using Nat.strongRecOn with
      | ind M loop =>
        intro Y m O' r' z' more hX hz hO hb hBh hPc hf hy hmo hmz
        refine hB _ _ _ _ _ (fun m1 hm1 => ?_)
        dsimp only [ugo, uwp, ust, uct, rfd, Breduce, Nat.beq, lv_args, rlk, rs1, rs2, rdl, rky, rcd, rno, rsw, Value.category, List.filter, List.take, List.drop, List.reverse, List.reverseAux, List.cons_append, List.nil_append, Option.toList, Int.toNat, Int.reduceToNat, if_pos, if_neg, reduceIte, ↓reduceIte, Nat.reduceAdd, Nat.reduceEqDiff, Nat.reduceBEq, beq_self_eq_true, Bool.not_true, Bool.not_false, Bool.and_true, Bool.and_false, Bool.true_and, Bool.false_and, gI_sI, gI_sL, gI_sA, gI_sM, gL_sI, gL_sL, gL_sA, gL_sM, aI_sI, aI_sL, aI_sA, aI_sM, aL_sI, aL_sL, aL_sA, aL_sM, Breduce_0, Breduce_7, Breduce_11, Breduce_12, Breduce_13, Breduce_17, Breduce_33, Breduce_38, Breduce_43, Breduce_62, Breduce_66, Breduce_67, Breduce_74, Breduce_75, Breduce_112, Breduce_130, Breduce_135, Breduce_143, Breduce_148, Breduce_150, Breduce_202, Breduce_231, Breduce_235, Breduce_237, Breduce_253, Breduce_260, Breduce_264, Breduce_265, Breduce_269, oi_0, oi_1, oi_11, oi_2, oi_307, oi_308, oi_5, oi_6, oi_7, oi_9]; try dsimp only
        refine ⟨fun h2 => ?_, fun h2 => ?_⟩
        · refine hB _ _ _ _ _ (fun m3 hm3 => ?_)
          dsimp only [ugo, uwp, ust, uct, rfd, Breduce, Nat.beq, lv_args, rlk, rs1, rs2, rdl, rky, rcd, rno, rsw, Value.category, List.filter, List.take, List.drop, List.reverse, List.reverseAux, List.cons_append, List.nil_append, Option.toList, Int.toNat, Int.reduceToNat, if_pos, if_neg, reduceIte, ↓reduceIte, Nat.reduceAdd, Nat.reduceEqDiff, Nat.reduceBEq, beq_self_eq_true, Bool.not_true, Bool.not_false, Bool.and_true, Bool.and_false, Bool.true_and, Bool.false_and, gI_sI, gI_sL, gI_sA, gI_sM, gL_sI, gL_sL, gL_sA, gL_sM, aI_sI, aI_sL, aI_sA, aI_sM, aL_sI, aL_sL, aL_sA, aL_sM, Breduce_0, Breduce_7, Breduce_11, Breduce_12, Breduce_13, Breduce_17, Breduce_33, Breduce_38, Breduce_43, Breduce_62, Breduce_66, Breduce_67, Breduce_74, Breduce_75, Breduce_112, Breduce_130, Breduce_135, Breduce_143, Breduce_148, Breduce_150, Breduce_202, Breduce_231, Breduce_235, Breduce_237, Breduce_253, Breduce_260, Breduce_264, Breduce_265, Breduce_269, oi_0, oi_1, oi_11, oi_2, oi_307, oi_308, oi_5, oi_6, oi_7, oi_9]; try dsimp only
          unfold Qv_reduceZ
          try dsimp only
          have e := hO.nil (hmz (by lia))
          subst e
          exact ⟨rfl, m, [], r', z', hX, hz, hO, hb, hBh, hPc, hf, hy, by decide, by decide, trivial⟩
        · refine hB _ _ _ _ _ (fun m4 hm4 => ?_)
          dsimp only [ugo, uwp, ust, uct, rfd, Breduce, Nat.beq, lv_args, rlk, rs1, rs2, rdl, rky, rcd, rno, rsw, Value.category, List.filter, List.take, List.drop, List.reverse, List.reverseAux, List.cons_append, List.nil_append, Option.toList, Int.toNat, Int.reduceToNat, if_pos, if_neg, reduceIte, ↓reduceIte, Nat.reduceAdd, Nat.reduceEqDiff, Nat.reduceBEq, beq_self_eq_true, Bool.not_true, Bool.not_false, Bool.and_true, Bool.and_false, Bool.true_and, Bool.false_and, gI_sI, gI_sL, gI_sA, gI_sM, gL_sI, gL_sL, gL_sA, gL_sM, aI_sI, aI_sL, aI_sA, aI_sM, aL_sI, aL_sL, aL_sA, aL_sM, Breduce_0, Breduce_7, Breduce_11, Breduce_12, Breduce_13, Breduce_17, Breduce_33, Breduce_38, Breduce_43, Breduce_62, Breduce_66, Breduce_67, Breduce_74, Breduce_75, Breduce_112, Breduce_130, Breduce_135, Breduce_143, Breduce_148, Breduce_150, Breduce_202, Breduce_231, Breduce_235, Breduce_237, Breduce_253, Breduce_260, Breduce_264, Breduce_265, Breduce_269, oi_0, oi_1, oi_11, oi_2, oi_307, oi_308, oi_5, oi_6, oi_7, oi_9]; try dsimp only
          obtain ⟨⟨k, x, t, st, l⟩, O1, rfl⟩ := hO.cons (hmo (by lia))
          have htop := hO.top
          have hx25 : (aI Y 25 (gI Y 29 - 1).toNatClampNeg).toInt = k := by rw [htop]; exact hO.1.1.1
          intro p5
          refine ⟨fun h6 => ?_, fun h6 => ?_⟩
          · refine hB _ _ _ _ _ (fun m7 hm7 => ?_)
            dsimp only [ugo, uwp, ust, uct, rfd, Breduce, Nat.beq, lv_args, rlk, rs1, rs2, rdl, rky, rcd, rno, rsw, Value.category, List.filter, List.take, List.drop, List.reverse, List.reverseAux, List.cons_append, List.nil_append, Option.toList, Int.toNat, Int.reduceToNat, if_pos, if_neg, reduceIte, ↓reduceIte, Nat.reduceAdd, Nat.reduceEqDiff, Nat.reduceBEq, beq_self_eq_true, Bool.not_true, Bool.not_false, Bool.and_true, Bool.and_false, Bool.true_and, Bool.false_and, gI_sI, gI_sL, gI_sA, gI_sM, gL_sI, gL_sL, gL_sA, gL_sM, aI_sI, aI_sL, aI_sA, aI_sM, aL_sI, aL_sL, aL_sA, aL_sM, Breduce_0, Breduce_7, Breduce_11, Breduce_12, Breduce_13, Breduce_17, Breduce_33, Breduce_38, Breduce_43, Breduce_62, Breduce_66, Breduce_67, Breduce_74, Breduce_75, Breduce_112, Breduce_130, Breduce_135, Breduce_143, Breduce_148, Breduce_150, Breduce_202, Breduce_231, Breduce_235, Breduce_237, Breduce_253, Breduce_260, Breduce_264, Breduce_265, Breduce_269, oi_0, oi_1, oi_11, oi_2, oi_307, oi_308, oi_5, oi_6, oi_7, oi_9]; try dsimp only
            refine hB _ _ _ _ _ (fun m8 hm8 => ?_)
            dsimp only [ugo, uwp, ust, uct, rfd, Breduce, Nat.beq, lv_args, rlk, rs1, rs2, rdl, rky, rcd, rno, rsw, Value.category, List.filter, List.take, List.drop, List.reverse, List.reverseAux, List.cons_append, List.nil_append, Option.toList, Int.toNat, Int.reduceToNat, if_pos, if_neg, reduceIte, ↓reduceIte, Nat.reduceAdd, Nat.reduceEqDiff, Nat.reduceBEq, beq_self_eq_true, Bool.not_true, Bool.not_false, Bool.and_true, Bool.and_false, Bool.true_and, Bool.false_and, gI_sI, gI_sL, gI_sA, gI_sM, gL_sI, gL_sL, gL_sA, gL_sM, aI_sI, aI_sL, aI_sA, aI_sM, aL_sI, aL_sL, aL_sA, aL_sM, Breduce_0, Breduce_7, Breduce_11, Breduce_12, Breduce_13, Breduce_17, Breduce_33, Breduce_38, Breduce_43, Breduce_62, Breduce_66, Breduce_67, Breduce_74, Breduce_75, Breduce_112, Breduce_130, Breduce_135, Breduce_143, Breduce_148, Breduce_150, Breduce_202, Breduce_231, Breduce_235, Breduce_237, Breduce_253, Breduce_260, Breduce_264, Breduce_265, Breduce_269, oi_0, oi_1, oi_11, oi_2, oi_307, oi_308, oi_5, oi_6, oi_7, oi_9]; try dsimp only
            refine ⟨fun h9 => ?_, fun h9 => absurd h9 (by decide)⟩
            clear h9
            refine hB _ _ _ _ _ (fun m10 hm10 => ?_)
            dsimp only [ugo, uwp, ust, uct, rfd, Breduce, Nat.beq, lv_args, rlk, rs1, rs2, rdl, rky, rcd, rno, rsw, Value.category, List.filter, List.take, List.drop, List.reverse, List.reverseAux, List.cons_append, List.nil_append, Option.toList, Int.toNat, Int.reduceToNat, if_pos, if_neg, reduceIte, ↓reduceIte, Nat.reduceAdd, Nat.reduceEqDiff, Nat.reduceBEq, beq_self_eq_true, Bool.not_true, Bool.not_false, Bool.and_true, Bool.and_false, Bool.true_and, Bool.false_and, gI_sI, gI_sL, gI_sA, gI_sM, gL_sI, gL_sL, gL_sA, gL_sM, aI_sI, aI_sL, aI_sA, aI_sM, aL_sI, aL_sL, aL_sA, aL_sM, Breduce_0, Breduce_7, Breduce_11, Breduce_12, Breduce_13, Breduce_17, Breduce_33, Breduce_38, Breduce_43, Breduce_62, Breduce_66, Breduce_67, Breduce_74, Breduce_75, Breduce_112, Breduce_130, Breduce_135, Breduce_143, Breduce_148, Breduce_150, Breduce_202, Breduce_231, Breduce_235, Breduce_237, Breduce_253, Breduce_260, Breduce_264, Breduce_265, Breduce_269, oi_0, oi_1, oi_11, oi_2, oi_307, oi_308, oi_5, oi_6, oi_7, oi_9]; try dsimp only
            have hx26 := hO.1.1.2.1
            have hx27 := hO.1.1.2.2.1
            rw [← htop] at hx26 hx27
            dsimp only at hx26 hx27
            have hOp := hO.pop
            have hB1 := hBh.1
            have hB3 := hBh.2.2.1
            rw [← hz] at hB3
            obtain rfl : k = 0 := by rw [← hx25]; exact congrArg Int32.toInt (show aI Y 25 (gI Y 29 - 1).toNatClampNeg = 0 by lia)
            have ht6 : (aI Y 27 (gI Y 29 - 1).toNatClampNeg).toInt = t := hx27 (by decide)
            rw [vn_0 (by decide)] at hB1
            have e31 : (gI Y 31 - 1).toInt = vnZ O1 := by rw [i32_sb (by decide) (by rw [hB1]; show (1 : Int) ≤ _; omega), hB1]; show _ - (1 : Int) = _; omega
            have n31 := nT_i e31
            intro p11
            intro p12
            refine ⟨fun h13 => ?_, fun h13 => ?_⟩
            · refine hB _ _ _ _ _ (fun m14 hm14 => ?_)
              dsimp only [ugo, uwp, ust, uct, rfd, Breduce, Nat.beq, lv_args, rlk, rs1, rs2, rdl, rky, rcd, rno, rsw, Value.category, List.filter, List.take, List.drop, List.reverse, List.reverseAux, List.cons_append, List.nil_append, Option.toList, Int.toNat, Int.reduceToNat, if_pos, if_neg, reduceIte, ↓reduceIte, Nat.reduceAdd, Nat.reduceEqDiff, Nat.reduceBEq, beq_self_eq_true, Bool.not_true, Bool.not_false, Bool.and_true, Bool.and_false, Bool.true_and, Bool.false_and, gI_sI, gI_sL, gI_sA, gI_sM, gL_sI, gL_sL, gL_sA, gL_sM, aI_sI, aI_sL, aI_sA, aI_sM, aL_sI, aL_sL, aL_sA, aL_sM, Breduce_0, Breduce_7, Breduce_11, Breduce_12, Breduce_13, Breduce_17, Breduce_33, Breduce_38, Breduce_43, Breduce_62, Breduce_66, Breduce_67, Breduce_74, Breduce_75, Breduce_112, Breduce_130, Breduce_135, Breduce_143, Breduce_148, Breduce_150, Breduce_202, Breduce_231, Breduce_235, Breduce_237, Breduce_253, Breduce_260, Breduce_264, Breduce_265, Breduce_269, oi_0, oi_1, oi_11, oi_2, oi_307, oi_308, oi_5, oi_6, oi_7, oi_9]; try dsimp only
              intro p15
              refine ⟨fun h16 => ?_, fun h16 => ?_⟩
              · exfalso; lia
              · refine hB _ _ _ _ _ (fun m17 hm17 => ?_)
                dsimp only [ugo, uwp, ust, uct, rfd, Breduce, Nat.beq, lv_args, rlk, rs1, rs2, rdl, rky, rcd, rno, rsw, Value.category, List.filter, List.take, List.drop, List.reverse, List.reverseAux, List.cons_append, List.nil_append, Option.toList, Int.toNat, Int.reduceToNat, if_pos, if_neg, reduceIte, ↓reduceIte, Nat.reduceAdd, Nat.reduceEqDiff, Nat.reduceBEq, beq_self_eq_true, Bool.not_true, Bool.not_false, Bool.and_true, Bool.and_false, Bool.true_and, Bool.false_and, gI_sI, gI_sL, gI_sA, gI_sM, gL_sI, gL_sL, gL_sA, gL_sM, aI_sI, aI_sL, aI_sA, aI_sM, aL_sI, aL_sL, aL_sA, aL_sM, Breduce_0, Breduce_7, Breduce_11, Breduce_12, Breduce_13, Breduce_17, Breduce_33, Breduce_38, Breduce_43, Breduce_62, Breduce_66, Breduce_67, Breduce_74, Breduce_75, Breduce_112, Breduce_130, Breduce_135, Breduce_143, Breduce_148, Breduce_150, Breduce_202, Breduce_231, Breduce_235, Breduce_237, Breduce_253, Breduce_260, Breduce_264, Breduce_265, Breduce_269, oi_0, oi_1, oi_11, oi_2, oi_307, oi_308, oi_5, oi_6, oi_7, oi_9]; try dsimp only
                refine hB _ _ _ _ _ (fun m18 hm18 => ?_)
                dsimp only [ugo, uwp, ust, uct, rfd, Breduce, Nat.beq, lv_args, rlk, rs1, rs2, rdl, rky, rcd, rno, rsw, Value.category, List.filter, List.take, List.drop, List.reverse, List.reverseAux, List.cons_append, List.nil_append, Option.toList, Int.toNat, Int.reduceToNat, if_pos, if_neg, reduceIte, ↓reduceIte, Nat.reduceAdd, Nat.reduceEqDiff, Nat.reduceBEq, beq_self_eq_true, Bool.not_true, Bool.not_false, Bool.and_true, Bool.and_false, Bool.true_and, Bool.false_and, gI_sI, gI_sL, gI_sA, gI_sM, gL_sI, gL_sL, gL_sA, gL_sM, aI_sI, aI_sL, aI_sA, aI_sM, aL_sI, aL_sL, aL_sA, aL_sM, Breduce_0, Breduce_7, Breduce_11, Breduce_12, Breduce_13, Breduce_17, Breduce_33, Breduce_38, Breduce_43, Breduce_62, Breduce_66, Breduce_67, Breduce_74, Breduce_75, Breduce_112, Breduce_130, Breduce_135, Breduce_143, Breduce_148, Breduce_150, Breduce_202, Breduce_231, Breduce_235, Breduce_237, Breduce_253, Breduce_260, Breduce_264, Breduce_265, Breduce_269, oi_0, oi_1, oi_11, oi_2, oi_307, oi_308, oi_5, oi_6, oi_7, oi_9]; try dsimp only
                refine ⟨trivial, fun w19 τ19 hq19 => ?_⟩
                obtain ⟨rfl, hE19⟩ := hq19 trivial
                dsimp only [Option.toList, List.cons_append, List.nil_append, Nat.beq, gI_sI, gI_sL, gI_sA, gI_sM, gL_sI, gL_sL, gL_sA, gL_sM, aI_sI, aI_sL, aI_sA, aI_sM, aL_sI, aL_sL, aL_sA, aL_sM]
                have hXe := XrR.em (σ0 := σ0) (s := z.1) (n := m + 1) (XrR.a (XrR.up (XrR.i hX (k := 29) (by decide)) (by omega)) (k := 30) (by decide)) hE19.1 (by decide)
                have hOe := OzZ.em (OzZ.v (OzZ.i hOp (k := 17) (by decide)) (j := (gI Y 31 - 1).toNatClampNeg) (by rw [n31]; exact Nat.le_refl _)) hE19.1
                have hPe := PcM.em (z := z') (x := alnZ x t st (xnM z') z'.1) (PcM.a (PcM.i (PcM.i hPc (k := 29) (by decide)) (k := 17) (by decide)) (k := 30) (by decide)) hE19 (cm_aln (by decide) ht6 hB3 (hx26.1 (Or.inl rfl)))
                have g18e : gI τ19 18 = gI Y 18 + 1 := hE19.1.2.1
                have gne := hE19.n
                refine hB _ _ _ _ _ (fun m20 hm20 => ?_)
                dsimp only [ugo, uwp, ust, uct, rfd, Breduce, Nat.beq, lv_args, rlk, rs1, rs2, rdl, rky, rcd, rno, rsw, Value.category, List.filter, List.take, List.drop, List.reverse, List.reverseAux, List.cons_append, List.nil_append, Option.toList, Int.toNat, Int.reduceToNat, if_pos, if_neg, reduceIte, ↓reduceIte, Nat.reduceAdd, Nat.reduceEqDiff, Nat.reduceBEq, beq_self_eq_true, Bool.not_true, Bool.not_false, Bool.and_true, Bool.and_false, Bool.true_and, Bool.false_and, gI_sI, gI_sL, gI_sA, gI_sM, gL_sI, gL_sL, gL_sA, gL_sM, aI_sI, aI_sL, aI_sA, aI_sM, aL_sI, aL_sL, aL_sA, aL_sM, Breduce_0, Breduce_7, Breduce_11, Breduce_12, Breduce_13, Breduce_17, Breduce_33, Breduce_38, Breduce_43, Breduce_62, Breduce_66, Breduce_67, Breduce_74, Breduce_75, Breduce_112, Breduce_130, Breduce_135, Breduce_143, Breduce_148, Breduce_150, Breduce_202, Breduce_231, Breduce_235, Breduce_237, Breduce_253, Breduce_260, Breduce_264, Breduce_265, Breduce_269, oi_0, oi_1, oi_11, oi_2, oi_307, oi_308, oi_5, oi_6, oi_7, oi_9]; try dsimp only
                refine ⟨fun h21 => ?_, fun h21 => ?_⟩
                · refine hB _ _ _ _ _ (fun m22 hm22 => ?_)
                  dsimp only [ugo, uwp, ust, uct, rfd, Breduce, Nat.beq, lv_args, rlk, rs1, rs2, rdl, rky, rcd, rno, rsw, Value.category, List.filter, List.take, List.drop, List.reverse, List.reverseAux, List.cons_append, List.nil_append, Option.toList, Int.toNat, Int.reduceToNat, if_pos, if_neg, reduceIte, ↓reduceIte, Nat.reduceAdd, Nat.reduceEqDiff, Nat.reduceBEq, beq_self_eq_true, Bool.not_true, Bool.not_false, Bool.and_true, Bool.and_false, Bool.true_and, Bool.false_and, gI_sI, gI_sL, gI_sA, gI_sM, gL_sI, gL_sL, gL_sA, gL_sM, aI_sI, aI_sL, aI_sA, aI_sM, aL_sI, aL_sL, aL_sA, aL_sM, Breduce_0, Breduce_7, Breduce_11, Breduce_12, Breduce_13, Breduce_17, Breduce_33, Breduce_38, Breduce_43, Breduce_62, Breduce_66, Breduce_67, Breduce_74, Breduce_75, Breduce_112, Breduce_130, Breduce_135, Breduce_143, Breduce_148, Breduce_150, Breduce_202, Breduce_231, Breduce_235, Breduce_237, Breduce_253, Breduce_260, Breduce_264, Breduce_265, Breduce_269, oi_0, oi_1, oi_11, oi_2, oi_307, oi_308, oi_5, oi_6, oi_7, oi_9]; try dsimp only
                  refine hB _ _ _ _ _ (fun m23 hm23 => ?_)
                  dsimp only [ugo, uwp, ust, uct, rfd, Breduce, Nat.beq, lv_args, rlk, rs1, rs2, rdl, rky, rcd, rno, rsw, Value.category, List.filter, List.take, List.drop, List.reverse, List.reverseAux, List.cons_append, List.nil_append, Option.toList, Int.toNat, Int.reduceToNat, if_pos, if_neg, reduceIte, ↓reduceIte, Nat.reduceAdd, Nat.reduceEqDiff, Nat.reduceBEq, beq_self_eq_true, Bool.not_true, Bool.not_false, Bool.and_true, Bool.and_false, Bool.true_and, Bool.false_and, gI_sI, gI_sL, gI_sA, gI_sM, gL_sI, gL_sL, gL_sA, gL_sM, aI_sI, aI_sL, aI_sA, aI_sM, aL_sI, aL_sL, aL_sA, aL_sM, Breduce_0, Breduce_7, Breduce_11, Breduce_12, Breduce_13, Breduce_17, Breduce_33, Breduce_38, Breduce_43, Breduce_62, Breduce_66, Breduce_67, Breduce_74, Breduce_75, Breduce_112, Breduce_130, Breduce_135, Breduce_143, Breduce_148, Breduce_150, Breduce_202, Breduce_231, Breduce_235, Breduce_237, Breduce_253, Breduce_260, Breduce_264, Breduce_265, Breduce_269, oi_0, oi_1, oi_11, oi_2, oi_307, oi_308, oi_5, oi_6, oi_7, oi_9]; try dsimp only
                  have b18 := hE19.1.2.2.2.2.2
                  have c1 : 0 ≤ (gI Y 18).toInt := Int32.le_iff_toInt_le.mp b18.1
                  have c2 : (gI Y 18).toInt < 4000 := Int32.lt_iff_toInt_lt.mp b18.2
                  have e18 : (gI Y 18).toInt + 1 = (gI τ19 18).toInt := by rw [g18e, i32_add (by omega) (by omega)]
                  exact hW _ 13 [(0, .ref 1000), (1, .int least), (2, .int 0)] _ _ _ (by simp [rdl, rky]) (loop _ (by omega) _ (m + 1) O1 (t, st) (puM (alnZ x t st (xnM z') z'.1) z') 0 (XrR.i hXe (by decide)) hz (OzZ.i hOe (by decide)) (by rw [← hb, nb_c, if_neg (by decide)]; omega)
                    ⟨by show (gI τ19 31).toInt = _; rw [hE19.1.1 31 (by decide)]; exact hB1, by show (aI τ19 30 (vnZ O1)).toInt = _; rw [hE19.1.2.2.2.2.1 30 (by decide), aI_eq, n31, upd_eq]; exact ht6, by show (gI τ19 32).toInt = _; rw [hE19.1.1 32 (by decide)]; exact hBh.2.2.1, e18⟩
                    (PcM.i hPe (by decide)) (by rw [← hf]; rfl) (fun y => by rw [← hy y]; exact (fo_pre (Or.inl rfl)).symm) (fun q => absurd rfl q) (fun _ => (by first | lia | (dsimp only [Nat.beq, gI_sI, gI_sL, gI_sA, gI_sM, gL_sI, gL_sL, gL_sA, gL_sM, aI_sI, aI_sL, aI_sA, aI_sM, aL_sI, aL_sL, aL_sA, aL_sM]; lia))))
                · refine hB _ _ _ _ _ (fun m24 hm24 => ?_)
                  dsimp only [ugo, uwp, ust, uct, rfd, Breduce, Nat.beq, lv_args, rlk, rs1, rs2, rdl, rky, rcd, rno, rsw, Value.category, List.filter, List.take, List.drop, List.reverse, List.reverseAux, List.cons_append, List.nil_append, Option.toList, Int.toNat, Int.reduceToNat, if_pos, if_neg, reduceIte, ↓reduceIte, Nat.reduceAdd, Nat.reduceEqDiff, Nat.reduceBEq, beq_self_eq_true, Bool.not_true, Bool.not_false, Bool.and_true, Bool.and_false, Bool.true_and, Bool.false_and, gI_sI, gI_sL, gI_sA, gI_sM, gL_sI, gL_sL, gL_sA, gL_sM, aI_sI, aI_sL, aI_sA, aI_sM, aL_sI, aL_sL, aL_sA, aL_sM, Breduce_0, Breduce_7, Breduce_11, Breduce_12, Breduce_13, Breduce_17, Breduce_33, Breduce_38, Breduce_43, Breduce_62, Breduce_66, Breduce_67, Breduce_74, Breduce_75, Breduce_112, Breduce_130, Breduce_135, Breduce_143, Breduce_148, Breduce_150, Breduce_202, Breduce_231, Breduce_235, Breduce_237, Breduce_253, Breduce_260, Breduce_264, Breduce_265, Breduce_269, oi_0, oi_1, oi_11, oi_2, oi_307, oi_308, oi_5, oi_6, oi_7, oi_9]; try dsimp only
                  refine hB _ _ _ _ _ (fun m25 hm25 => ?_)
                  dsimp only [ugo, uwp, ust, uct, rfd, Breduce, Nat.beq, lv_args, rlk, rs1, rs2, rdl, rky, rcd, rno, rsw, Value.category, List.filter, List.take, List.drop, List.reverse, List.reverseAux, List.cons_append, List.nil_append, Option.toList, Int.toNat, Int.reduceToNat, if_pos, if_neg, reduceIte, ↓reduceIte, Nat.reduceAdd, Nat.reduceEqDiff, Nat.reduceBEq, beq_self_eq_true, Bool.not_true, Bool.not_false, Bool.and_true, Bool.and_false, Bool.true_and, Bool.false_and, gI_sI, gI_sL, gI_sA, gI_sM, gL_sI, gL_sL, gL_sA, gL_sM, aI_sI, aI_sL, aI_sA, aI_sM, aL_sI, aL_sL, aL_sA, aL_sM, Breduce_0, Breduce_7, Breduce_11, Breduce_12, Breduce_13, Breduce_17, Breduce_33, Breduce_38, Breduce_43, Breduce_62, Breduce_66, Breduce_67, Breduce_74, Breduce_75, Breduce_112, Breduce_130, Breduce_135, Breduce_143, Breduce_148, Breduce_150, Breduce_202, Breduce_231, Breduce_235, Breduce_237, Breduce_253, Breduce_260, Breduce_264, Breduce_265, Breduce_269, oi_0, oi_1, oi_11, oi_2, oi_307, oi_308, oi_5, oi_6, oi_7, oi_9]; try dsimp only
                  have b18 := hE19.1.2.2.2.2.2
                  have c1 : 0 ≤ (gI Y 18).toInt := Int32.le_iff_toInt_le.mp b18.1
                  have c2 : (gI Y 18).toInt < 4000 := Int32.lt_iff_toInt_lt.mp b18.2
                  have e18 : (gI Y 18).toInt + 1 = (gI τ19 18).toInt := by rw [g18e, i32_add (by omega) (by omega)]
                  exact hW _ 13 [(0, .ref 1000), (1, .int least), (2, .int 1)] _ _ _ (by simp [rdl, rky]) (loop _ (by omega) _ (m + 1) O1 (t, st) (puM (alnZ x t st (xnM z') z'.1) z') 1 (XrR.i hXe (by decide)) hz (OzZ.i hOe (by decide)) (by rw [← hb, nb_c, if_neg (by decide)]; omega)
                    ⟨by show (gI τ19 31).toInt = _; rw [hE19.1.1 31 (by decide)]; exact hB1, by show (aI τ19 30 (vnZ O1)).toInt = _; rw [hE19.1.2.2.2.2.1 30 (by decide), aI_eq, n31, upd_eq]; exact ht6, by show (gI τ19 32).toInt = _; rw [hE19.1.1 32 (by decide)]; exact hBh.2.2.1, e18⟩
                    (PcM.i hPe (by decide)) (by rw [← hf]; rfl) (fun y => by rw [← hy y]; exact (fo_pre (Or.inl rfl)).symm) (fun _ => (by first | lia | (dsimp only [Nat.beq, gI_sI, gI_sL, gI_sA, gI_sM, gL_sI, gL_sL, gL_sA, gL_sM, aI_sI, aI_sL, aI_sA, aI_sM, aL_sI, aL_sL, aL_sA, aL_sM]; lia))) (fun q => absurd q (by decide)))
            · exfalso; lia
          · refine hB _ _ _ _ _ (fun m26 hm26 => ?_)
            dsimp only [ugo, uwp, ust, uct, rfd, Breduce, Nat.beq, lv_args, rlk, rs1, rs2, rdl, rky, rcd, rno, rsw, Value.category, List.filter, List.take, List.drop, List.reverse, List.reverseAux, List.cons_append, List.nil_append, Option.toList, Int.toNat, Int.reduceToNat, if_pos, if_neg, reduceIte, ↓reduceIte, Nat.reduceAdd, Nat.reduceEqDiff, Nat.reduceBEq, beq_self_eq_true, Bool.not_true, Bool.not_false, Bool.and_true, Bool.and_false, Bool.true_and, Bool.false_and, gI_sI, gI_sL, gI_sA, gI_sM, gL_sI, gL_sL, gL_sA, gL_sM, aI_sI, aI_sL, aI_sA, aI_sM, aL_sI, aL_sL, aL_sA, aL_sM, Breduce_0, Breduce_7, Breduce_11, Breduce_12, Breduce_13, Breduce_17, Breduce_33, Breduce_38, Breduce_43, Breduce_62, Breduce_66, Breduce_67, Breduce_74, Breduce_75, Breduce_112, Breduce_130, Breduce_135, Breduce_143, Breduce_148, Breduce_150, Breduce_202, Breduce_231, Breduce_235, Breduce_237, Breduce_253, Breduce_260, Breduce_264, Breduce_265, Breduce_269, oi_0, oi_1, oi_11, oi_2, oi_307, oi_308, oi_5, oi_6, oi_7, oi_9]; try dsimp only
            refine ⟨fun h27 => ?_, fun h27 => ?_⟩
            · refine hB _ _ _ _ _ (fun m28 hm28 => ?_)
              dsimp only [ugo, uwp, ust, uct, rfd, Breduce, Nat.beq, lv_args, rlk, rs1, rs2, rdl, rky, rcd, rno, rsw, Value.category, List.filter, List.take, List.drop, List.reverse, List.reverseAux, List.cons_append, List.nil_append, Option.toList, Int.toNat, Int.reduceToNat, if_pos, if_neg, reduceIte, ↓reduceIte, Nat.reduceAdd, Nat.reduceEqDiff, Nat.reduceBEq, beq_self_eq_true, Bool.not_true, Bool.not_false, Bool.and_true, Bool.and_false, Bool.true_and, Bool.false_and, gI_sI, gI_sL, gI_sA, gI_sM, gL_sI, gL_sL, gL_sA, gL_sM, aI_sI, aI_sL, aI_sA, aI_sM, aL_sI, aL_sL, aL_sA, aL_sM, Breduce_0, Breduce_7, Breduce_11, Breduce_12, Breduce_13, Breduce_17, Breduce_33, Breduce_38, Breduce_43, Breduce_62, Breduce_66, Breduce_67, Breduce_74, Breduce_75, Breduce_112, Breduce_130, Breduce_135, Breduce_143, Breduce_148, Breduce_150, Breduce_202, Breduce_231, Breduce_235, Breduce_237, Breduce_253, Breduce_260, Breduce_264, Breduce_265, Breduce_269, oi_0, oi_1, oi_11, oi_2, oi_307, oi_308, oi_5, oi_6, oi_7, oi_9]; try dsimp only
              refine hB _ _ _ _ _ (fun m29 hm29 => ?_)
              dsimp only [ugo, uwp, ust, uct, rfd, Breduce, Nat.beq, lv_args, rlk, rs1, rs2, rdl, rky, rcd, rno, rsw, Value.category, List.filter, List.take, List.drop, List.reverse, List.reverseAux, List.cons_append, List.nil_append, Option.toList, Int.toNat, Int.reduceToNat, if_pos, if_neg, reduceIte, ↓reduceIte, Nat.reduceAdd, Nat.reduceEqDiff, Nat.reduceBEq, beq_self_eq_true, Bool.not_true, Bool.not_false, Bool.and_true, Bool.and_false, Bool.true_and, Bool.false_and, gI_sI, gI_sL, gI_sA, gI_sM, gL_sI, gL_sL, gL_sA, gL_sM, aI_sI, aI_sL, aI_sA, aI_sM, aL_sI, aL_sL, aL_sA, aL_sM, Breduce_0, Breduce_7, Breduce_11, Breduce_12, Breduce_13, Breduce_17, Breduce_33, Breduce_38, Breduce_43, Breduce_62, Breduce_66, Breduce_67, Breduce_74, Breduce_75, Breduce_112, Breduce_130, Breduce_135, Breduce_143, Breduce_148, Breduce_150, Breduce_202, Breduce_231, Breduce_235, Breduce_237, Breduce_253, Breduce_260, Breduce_264, Breduce_265, Breduce_269, oi_0, oi_1, oi_11, oi_2, oi_307, oi_308, oi_5, oi_6, oi_7, oi_9]; try dsimp only
              refine ⟨fun h30 => ?_, fun h30 => absurd h30 (by decide)⟩
              clear h30
              refine hB _ _ _ _ _ (fun m31 hm31 => ?_)
              dsimp only [ugo, uwp, ust, uct, rfd, Breduce, Nat.beq, lv_args, rlk, rs1, rs2, rdl, rky, rcd, rno, rsw, Value.category, List.filter, List.take, List.drop, List.reverse, List.reverseAux, List.cons_append, List.nil_append, Option.toList, Int.toNat, Int.reduceToNat, if_pos, if_neg, reduceIte, ↓reduceIte, Nat.reduceAdd, Nat.reduceEqDiff, Nat.reduceBEq, beq_self_eq_true, Bool.not_true, Bool.not_false, Bool.and_true, Bool.and_false, Bool.true_and, Bool.false_and, gI_sI, gI_sL, gI_sA, gI_sM, gL_sI, gL_sL, gL_sA, gL_sM, aI_sI, aI_sL, aI_sA, aI_sM, aL_sI, aL_sL, aL_sA, aL_sM, Breduce_0, Breduce_7, Breduce_11, Breduce_12, Breduce_13, Breduce_17, Breduce_33, Breduce_38, Breduce_43, Breduce_62, Breduce_66, Breduce_67, Breduce_74, Breduce_75, Breduce_112, Breduce_130, Breduce_135, Breduce_143, Breduce_148, Breduce_150, Breduce_202, Breduce_231, Breduce_235, Breduce_237, Breduce_253, Breduce_260, Breduce_264, Breduce_265, Breduce_269, oi_0, oi_1, oi_11, oi_2, oi_307, oi_308, oi_5, oi_6, oi_7, oi_9]; try dsimp only
              have hx26 := hO.1.1.2.1
              have hx27 := hO.1.1.2.2.1
              rw [← htop] at hx26 hx27
              dsimp only at hx26 hx27
              have hOp := hO.pop
              have hB1 := hBh.1
              have hB3 := hBh.2.2.1
              rw [← hz] at hB3
              obtain rfl : k = 1 := by rw [← hx25]; exact congrArg Int32.toInt (show aI Y 25 (gI Y 29 - 1).toNatClampNeg = 1 by lia)
              have ht6 : (aI Y 27 (gI Y 29 - 1).toNatClampNeg).toInt = t := hx27 (by decide)
              rw [vn_0 (by decide)] at hB1
              have e31 : (gI Y 31 - 1).toInt = vnZ O1 := by rw [i32_sb (by decide) (by rw [hB1]; show (1 : Int) ≤ _; omega), hB1]; show _ - (1 : Int) = _; omega
              have n31 := nT_i e31
              intro p32
              intro p33
              refine ⟨fun h34 => ?_, fun h34 => ?_⟩
              · refine hB _ _ _ _ _ (fun m35 hm35 => ?_)
                dsimp only [ugo, uwp, ust, uct, rfd, Breduce, Nat.beq, lv_args, rlk, rs1, rs2, rdl, rky, rcd, rno, rsw, Value.category, List.filter, List.take, List.drop, List.reverse, List.reverseAux, List.cons_append, List.nil_append, Option.toList, Int.toNat, Int.reduceToNat, if_pos, if_neg, reduceIte, ↓reduceIte, Nat.reduceAdd, Nat.reduceEqDiff, Nat.reduceBEq, beq_self_eq_true, Bool.not_true, Bool.not_false, Bool.and_true, Bool.and_false, Bool.true_and, Bool.false_and, gI_sI, gI_sL, gI_sA, gI_sM, gL_sI, gL_sL, gL_sA, gL_sM, aI_sI, aI_sL, aI_sA, aI_sM, aL_sI, aL_sL, aL_sA, aL_sM, Breduce_0, Breduce_7, Breduce_11, Breduce_12, Breduce_13, Breduce_17, Breduce_33, Breduce_38, Breduce_43, Breduce_62, Breduce_66, Breduce_67, Breduce_74, Breduce_75, Breduce_112, Breduce_130, Breduce_135, Breduce_143, Breduce_148, Breduce_150, Breduce_202, Breduce_231, Breduce_235, Breduce_237, Breduce_253, Breduce_260, Breduce_264, Breduce_265, Breduce_269, oi_0, oi_1, oi_11, oi_2, oi_307, oi_308, oi_5, oi_6, oi_7, oi_9]; try dsimp only
                intro p36
                refine ⟨fun h37 => ?_, fun h37 => ?_⟩
                · refine hB _ _ _ _ _ (fun m38 hm38 => ?_)
                  dsimp only [ugo, uwp, ust, uct, rfd, Breduce, Nat.beq, lv_args, rlk, rs1, rs2, rdl, rky, rcd, rno, rsw, Value.category, List.filter, List.take, List.drop, List.reverse, List.reverseAux, List.cons_append, List.nil_append, Option.toList, Int.toNat, Int.reduceToNat, if_pos, if_neg, reduceIte, ↓reduceIte, Nat.reduceAdd, Nat.reduceEqDiff, Nat.reduceBEq, beq_self_eq_true, Bool.not_true, Bool.not_false, Bool.and_true, Bool.and_false, Bool.true_and, Bool.false_and, gI_sI, gI_sL, gI_sA, gI_sM, gL_sI, gL_sL, gL_sA, gL_sM, aI_sI, aI_sL, aI_sA, aI_sM, aL_sI, aL_sL, aL_sA, aL_sM, Breduce_0, Breduce_7, Breduce_11, Breduce_12, Breduce_13, Breduce_17, Breduce_33, Breduce_38, Breduce_43, Breduce_62, Breduce_66, Breduce_67, Breduce_74, Breduce_75, Breduce_112, Breduce_130, Breduce_135, Breduce_143, Breduce_148, Breduce_150, Breduce_202, Breduce_231, Breduce_235, Breduce_237, Breduce_253, Breduce_260, Breduce_264, Breduce_265, Breduce_269, oi_0, oi_1, oi_11, oi_2, oi_307, oi_308, oi_5, oi_6, oi_7, oi_9]; try dsimp only
                  refine hB _ _ _ _ _ (fun m39 hm39 => ?_)
                  dsimp only [ugo, uwp, ust, uct, rfd, Breduce, Nat.beq, lv_args, rlk, rs1, rs2, rdl, rky, rcd, rno, rsw, Value.category, List.filter, List.take, List.drop, List.reverse, List.reverseAux, List.cons_append, List.nil_append, Option.toList, Int.toNat, Int.reduceToNat, if_pos, if_neg, reduceIte, ↓reduceIte, Nat.reduceAdd, Nat.reduceEqDiff, Nat.reduceBEq, beq_self_eq_true, Bool.not_true, Bool.not_false, Bool.and_true, Bool.and_false, Bool.true_and, Bool.false_and, gI_sI, gI_sL, gI_sA, gI_sM, gL_sI, gL_sL, gL_sA, gL_sM, aI_sI, aI_sL, aI_sA, aI_sM, aL_sI, aL_sL, aL_sA, aL_sM, Breduce_0, Breduce_7, Breduce_11, Breduce_12, Breduce_13, Breduce_17, Breduce_33, Breduce_38, Breduce_43, Breduce_62, Breduce_66, Breduce_67, Breduce_74, Breduce_75, Breduce_112, Breduce_130, Breduce_135, Breduce_143, Breduce_148, Breduce_150, Breduce_202, Breduce_231, Breduce_235, Breduce_237, Breduce_253, Breduce_260, Breduce_264, Breduce_265, Breduce_269, oi_0, oi_1, oi_11, oi_2, oi_307, oi_308, oi_5, oi_6, oi_7, oi_9]; try dsimp only
                  refine ⟨trivial, fun w40 τ40 hq40 => ?_⟩
                  obtain ⟨rfl, hE40⟩ := hq40 trivial
                  dsimp only [Option.toList, List.cons_append, List.nil_append, Nat.beq, gI_sI, gI_sL, gI_sA, gI_sM, gL_sI, gL_sL, gL_sA, gL_sM, aI_sI, aI_sL, aI_sA, aI_sM, aL_sI, aL_sL, aL_sA, aL_sM]
                  have hXe := XrR.em (σ0 := σ0) (s := z.1) (n := m + 1) (XrR.a (XrR.up (XrR.i hX (k := 29) (by decide)) (by omega)) (k := 30) (by decide)) hE40.1 (by decide)
                  have hOe := OzZ.em (OzZ.v (OzZ.i hOp (k := 17) (by decide)) (j := (gI Y 31 - 1).toNatClampNeg) (by rw [n31]; exact Nat.le_refl _)) hE40.1
                  have hPe := PcM.em (z := z') (x := casZ x t st (xnM z') z'.1) (PcM.a (PcM.i (PcM.i hPc (k := 29) (by decide)) (k := 17) (by decide)) (k := 30) (by decide)) hE40 (cm_cas (by decide) ht6 hB3 (hx26.2.1 rfl))
                  have g18e : gI τ40 18 = gI Y 18 + 1 := hE40.1.2.1
                  have gne := hE40.n
                  refine hB _ _ _ _ _ (fun m41 hm41 => ?_)
                  dsimp only [ugo, uwp, ust, uct, rfd, Breduce, Nat.beq, lv_args, rlk, rs1, rs2, rdl, rky, rcd, rno, rsw, Value.category, List.filter, List.take, List.drop, List.reverse, List.reverseAux, List.cons_append, List.nil_append, Option.toList, Int.toNat, Int.reduceToNat, if_pos, if_neg, reduceIte, ↓reduceIte, Nat.reduceAdd, Nat.reduceEqDiff, Nat.reduceBEq, beq_self_eq_true, Bool.not_true, Bool.not_false, Bool.and_true, Bool.and_false, Bool.true_and, Bool.false_and, gI_sI, gI_sL, gI_sA, gI_sM, gL_sI, gL_sL, gL_sA, gL_sM, aI_sI, aI_sL, aI_sA, aI_sM, aL_sI, aL_sL, aL_sA, aL_sM, Breduce_0, Breduce_7, Breduce_11, Breduce_12, Breduce_13, Breduce_17, Breduce_33, Breduce_38, Breduce_43, Breduce_62, Breduce_66, Breduce_67, Breduce_74, Breduce_75, Breduce_112, Breduce_130, Breduce_135, Breduce_143, Breduce_148, Breduce_150, Breduce_202, Breduce_231, Breduce_235, Breduce_237, Breduce_253, Breduce_260, Breduce_264, Breduce_265, Breduce_269, oi_0, oi_1, oi_11, oi_2, oi_307, oi_308, oi_5, oi_6, oi_7, oi_9]; try dsimp only
                  refine ⟨fun h42 => ?_, fun h42 => ?_⟩
                  · refine hB _ _ _ _ _ (fun m43 hm43 => ?_)
                    dsimp only [ugo, uwp, ust, uct, rfd, Breduce, Nat.beq, lv_args, rlk, rs1, rs2, rdl, rky, rcd, rno, rsw, Value.category, List.filter, List.take, List.drop, List.reverse, List.reverseAux, List.cons_append, List.nil_append, Option.toList, Int.toNat, Int.reduceToNat, if_pos, if_neg, reduceIte, ↓reduceIte, Nat.reduceAdd, Nat.reduceEqDiff, Nat.reduceBEq, beq_self_eq_true, Bool.not_true, Bool.not_false, Bool.and_true, Bool.and_false, Bool.true_and, Bool.false_and, gI_sI, gI_sL, gI_sA, gI_sM, gL_sI, gL_sL, gL_sA, gL_sM, aI_sI, aI_sL, aI_sA, aI_sM, aL_sI, aL_sL, aL_sA, aL_sM, Breduce_0, Breduce_7, Breduce_11, Breduce_12, Breduce_13, Breduce_17, Breduce_33, Breduce_38, Breduce_43, Breduce_62, Breduce_66, Breduce_67, Breduce_74, Breduce_75, Breduce_112, Breduce_130, Breduce_135, Breduce_143, Breduce_148, Breduce_150, Breduce_202, Breduce_231, Breduce_235, Breduce_237, Breduce_253, Breduce_260, Breduce_264, Breduce_265, Breduce_269, oi_0, oi_1, oi_11, oi_2, oi_307, oi_308, oi_5, oi_6, oi_7, oi_9]; try dsimp only
                    refine hB _ _ _ _ _ (fun m44 hm44 => ?_)
                    dsimp only [ugo, uwp, ust, uct, rfd, Breduce, Nat.beq, lv_args, rlk, rs1, rs2, rdl, rky, rcd, rno, rsw, Value.category, List.filter, List.take, List.drop, List.reverse, List.reverseAux, List.cons_append, List.nil_append, Option.toList, Int.toNat, Int.reduceToNat, if_pos, if_neg, reduceIte, ↓reduceIte, Nat.reduceAdd, Nat.reduceEqDiff, Nat.reduceBEq, beq_self_eq_true, Bool.not_true, Bool.not_false, Bool.and_true, Bool.and_false, Bool.true_and, Bool.false_and, gI_sI, gI_sL, gI_sA, gI_sM, gL_sI, gL_sL, gL_sA, gL_sM, aI_sI, aI_sL, aI_sA, aI_sM, aL_sI, aL_sL, aL_sA, aL_sM, Breduce_0, Breduce_7, Breduce_11, Breduce_12, Breduce_13, Breduce_17, Breduce_33, Breduce_38, Breduce_43, Breduce_62, Breduce_66, Breduce_67, Breduce_74, Breduce_75, Breduce_112, Breduce_130, Breduce_135, Breduce_143, Breduce_148, Breduce_150, Breduce_202, Breduce_231, Breduce_235, Breduce_237, Breduce_253, Breduce_260, Breduce_264, Breduce_265, Breduce_269, oi_0, oi_1, oi_11, oi_2, oi_307, oi_308, oi_5, oi_6, oi_7, oi_9]; try dsimp only
                    have b18 := hE40.1.2.2.2.2.2
                    have c1 : 0 ≤ (gI Y 18).toInt := Int32.le_iff_toInt_le.mp b18.1
                    have c2 : (gI Y 18).toInt < 4000 := Int32.lt_iff_toInt_lt.mp b18.2
                    have e18 : (gI Y 18).toInt + 1 = (gI τ40 18).toInt := by rw [g18e, i32_add (by omega) (by omega)]
                    exact hW _ 13 [(0, .ref 1000), (1, .int least), (2, .int 0)] _ _ _ (by simp [rdl, rky]) (loop _ (by omega) _ (m + 1) O1 (t, st) (puM (casZ x t st (xnM z') z'.1) z') 0 (XrR.i hXe (by decide)) hz (OzZ.i hOe (by decide)) (by rw [← hb, nb_c, if_neg (by decide)]; omega)
                      ⟨by show (gI τ40 31).toInt = _; rw [hE40.1.1 31 (by decide)]; exact hB1, by show (aI τ40 30 (vnZ O1)).toInt = _; rw [hE40.1.2.2.2.2.1 30 (by decide), aI_eq, n31, upd_eq]; exact ht6, by show (gI τ40 32).toInt = _; rw [hE40.1.1 32 (by decide)]; exact hBh.2.2.1, e18⟩
                      (PcM.i hPe (by decide)) (by rw [← hf]; rfl) (fun y => by rw [← hy y]; exact (fo_pre (Or.inr rfl)).symm) (fun q => absurd rfl q) (fun _ => (by first | lia | (dsimp only [Nat.beq, gI_sI, gI_sL, gI_sA, gI_sM, gL_sI, gL_sL, gL_sA, gL_sM, aI_sI, aI_sL, aI_sA, aI_sM, aL_sI, aL_sL, aL_sA, aL_sM]; lia))))
                  · refine hB _ _ _ _ _ (fun m45 hm45 => ?_)
                    dsimp only [ugo, uwp, ust, uct, rfd, Breduce, Nat.beq, lv_args, rlk, rs1, rs2, rdl, rky, rcd, rno, rsw, Value.category, List.filter, List.take, List.drop, List.reverse, List.reverseAux, List.cons_append, List.nil_append, Option.toList, Int.toNat, Int.reduceToNat, if_pos, if_neg, reduceIte, ↓reduceIte, Nat.reduceAdd, Nat.reduceEqDiff, Nat.reduceBEq, beq_self_eq_true, Bool.not_true, Bool.not_false, Bool.and_true, Bool.and_false, Bool.true_and, Bool.false_and, gI_sI, gI_sL, gI_sA, gI_sM, gL_sI, gL_sL, gL_sA, gL_sM, aI_sI, aI_sL, aI_sA, aI_sM, aL_sI, aL_sL, aL_sA, aL_sM, Breduce_0, Breduce_7, Breduce_11, Breduce_12, Breduce_13, Breduce_17, Breduce_33, Breduce_38, Breduce_43, Breduce_62, Breduce_66, Breduce_67, Breduce_74, Breduce_75, Breduce_112, Breduce_130, Breduce_135, Breduce_143, Breduce_148, Breduce_150, Breduce_202, Breduce_231, Breduce_235, Breduce_237, Breduce_253, Breduce_260, Breduce_264, Breduce_265, Breduce_269, oi_0, oi_1, oi_11, oi_2, oi_307, oi_308, oi_5, oi_6, oi_7, oi_9]; try dsimp only
                    refine hB _ _ _ _ _ (fun m46 hm46 => ?_)
                    dsimp only [ugo, uwp, ust, uct, rfd, Breduce, Nat.beq, lv_args, rlk, rs1, rs2, rdl, rky, rcd, rno, rsw, Value.category, List.filter, List.take, List.drop, List.reverse, List.reverseAux, List.cons_append, List.nil_append, Option.toList, Int.toNat, Int.reduceToNat, if_pos, if_neg, reduceIte, ↓reduceIte, Nat.reduceAdd, Nat.reduceEqDiff, Nat.reduceBEq, beq_self_eq_true, Bool.not_true, Bool.not_false, Bool.and_true, Bool.and_false, Bool.true_and, Bool.false_and, gI_sI, gI_sL, gI_sA, gI_sM, gL_sI, gL_sL, gL_sA, gL_sM, aI_sI, aI_sL, aI_sA, aI_sM, aL_sI, aL_sL, aL_sA, aL_sM, Breduce_0, Breduce_7, Breduce_11, Breduce_12, Breduce_13, Breduce_17, Breduce_33, Breduce_38, Breduce_43, Breduce_62, Breduce_66, Breduce_67, Breduce_74, Breduce_75, Breduce_112, Breduce_130, Breduce_135, Breduce_143, Breduce_148, Breduce_150, Breduce_202, Breduce_231, Breduce_235, Breduce_237, Breduce_253, Breduce_260, Breduce_264, Breduce_265, Breduce_269, oi_0, oi_1, oi_11, oi_2, oi_307, oi_308, oi_5, oi_6, oi_7, oi_9]; try dsimp only
                    have b18 := hE40.1.2.2.2.2.2
                    have c1 : 0 ≤ (gI Y 18).toInt := Int32.le_iff_toInt_le.mp b18.1
                    have c2 : (gI Y 18).toInt < 4000 := Int32.lt_iff_toInt_lt.mp b18.2
                    have e18 : (gI Y 18).toInt + 1 = (gI τ40 18).toInt := by rw [g18e, i32_add (by omega) (by omega)]
                    exact hW _ 13 [(0, .ref 1000), (1, .int least), (2, .int 1)] _ _ _ (by simp [rdl, rky]) (loop _ (by omega) _ (m + 1) O1 (t, st) (puM (casZ x t st (xnM z') z'.1) z') 1 (XrR.i hXe (by decide)) hz (OzZ.i hOe (by decide)) (by rw [← hb, nb_c, if_neg (by decide)]; omega)
                      ⟨by show (gI τ40 31).toInt = _; rw [hE40.1.1 31 (by decide)]; exact hB1, by show (aI τ40 30 (vnZ O1)).toInt = _; rw [hE40.1.2.2.2.2.1 30 (by decide), aI_eq, n31, upd_eq]; exact ht6, by show (gI τ40 32).toInt = _; rw [hE40.1.1 32 (by decide)]; exact hBh.2.2.1, e18⟩
                      (PcM.i hPe (by decide)) (by rw [← hf]; rfl) (fun y => by rw [← hy y]; exact (fo_pre (Or.inr rfl)).symm) (fun _ => (by first | lia | (dsimp only [Nat.beq, gI_sI, gI_sL, gI_sA, gI_sM, gL_sI, gL_sL, gL_sA, gL_sM, aI_sI, aI_sL, aI_sA, aI_sM, aL_sI, aL_sL, aL_sA, aL_sM]; lia))) (fun q => absurd q (by decide)))
                · exfalso; lia
              · exfalso; lia
            · refine hB _ _ _ _ _ (fun m47 hm47 => ?_)
              dsimp only [ugo, uwp, ust, uct, rfd, Breduce, Nat.beq, lv_args, rlk, rs1, rs2, rdl, rky, rcd, rno, rsw, Value.category, List.filter, List.take, List.drop, List.reverse, List.reverseAux, List.cons_append, List.nil_append, Option.toList, Int.toNat, Int.reduceToNat, if_pos, if_neg, reduceIte, ↓reduceIte, Nat.reduceAdd, Nat.reduceEqDiff, Nat.reduceBEq, beq_self_eq_true, Bool.not_true, Bool.not_false, Bool.and_true, Bool.and_false, Bool.true_and, Bool.false_and, gI_sI, gI_sL, gI_sA, gI_sM, gL_sI, gL_sL, gL_sA, gL_sM, aI_sI, aI_sL, aI_sA, aI_sM, aL_sI, aL_sL, aL_sA, aL_sM, Breduce_0, Breduce_7, Breduce_11, Breduce_12, Breduce_13, Breduce_17, Breduce_33, Breduce_38, Breduce_43, Breduce_62, Breduce_66, Breduce_67, Breduce_74, Breduce_75, Breduce_112, Breduce_130, Breduce_135, Breduce_143, Breduce_148, Breduce_150, Breduce_202, Breduce_231, Breduce_235, Breduce_237, Breduce_253, Breduce_260, Breduce_264, Breduce_265, Breduce_269, oi_0, oi_1, oi_11, oi_2, oi_307, oi_308, oi_5, oi_6, oi_7, oi_9]; try dsimp only
              refine ⟨fun h48 => ?_, fun h48 => ?_⟩
              · refine hB _ _ _ _ _ (fun m49 hm49 => ?_)
                dsimp only [ugo, uwp, ust, uct, rfd, Breduce, Nat.beq, lv_args, rlk, rs1, rs2, rdl, rky, rcd, rno, rsw, Value.category, List.filter, List.take, List.drop, List.reverse, List.reverseAux, List.cons_append, List.nil_append, Option.toList, Int.toNat, Int.reduceToNat, if_pos, if_neg, reduceIte, ↓reduceIte, Nat.reduceAdd, Nat.reduceEqDiff, Nat.reduceBEq, beq_self_eq_true, Bool.not_true, Bool.not_false, Bool.and_true, Bool.and_false, Bool.true_and, Bool.false_and, gI_sI, gI_sL, gI_sA, gI_sM, gL_sI, gL_sL, gL_sA, gL_sM, aI_sI, aI_sL, aI_sA, aI_sM, aL_sI, aL_sL, aL_sA, aL_sM, Breduce_0, Breduce_7, Breduce_11, Breduce_12, Breduce_13, Breduce_17, Breduce_33, Breduce_38, Breduce_43, Breduce_62, Breduce_66, Breduce_67, Breduce_74, Breduce_75, Breduce_112, Breduce_130, Breduce_135, Breduce_143, Breduce_148, Breduce_150, Breduce_202, Breduce_231, Breduce_235, Breduce_237, Breduce_253, Breduce_260, Breduce_264, Breduce_265, Breduce_269, oi_0, oi_1, oi_11, oi_2, oi_307, oi_308, oi_5, oi_6, oi_7, oi_9]; try dsimp only
                refine hB _ _ _ _ _ (fun m50 hm50 => ?_)
                dsimp only [ugo, uwp, ust, uct, rfd, Breduce, Nat.beq, lv_args, rlk, rs1, rs2, rdl, rky, rcd, rno, rsw, Value.category, List.filter, List.take, List.drop, List.reverse, List.reverseAux, List.cons_append, List.nil_append, Option.toList, Int.toNat, Int.reduceToNat, if_pos, if_neg, reduceIte, ↓reduceIte, Nat.reduceAdd, Nat.reduceEqDiff, Nat.reduceBEq, beq_self_eq_true, Bool.not_true, Bool.not_false, Bool.and_true, Bool.and_false, Bool.true_and, Bool.false_and, gI_sI, gI_sL, gI_sA, gI_sM, gL_sI, gL_sL, gL_sA, gL_sM, aI_sI, aI_sL, aI_sA, aI_sM, aL_sI, aL_sL, aL_sA, aL_sM, Breduce_0, Breduce_7, Breduce_11, Breduce_12, Breduce_13, Breduce_17, Breduce_33, Breduce_38, Breduce_43, Breduce_62, Breduce_66, Breduce_67, Breduce_74, Breduce_75, Breduce_112, Breduce_130, Breduce_135, Breduce_143, Breduce_148, Breduce_150, Breduce_202, Breduce_231, Breduce_235, Breduce_237, Breduce_253, Breduce_260, Breduce_264, Breduce_265, Breduce_269, oi_0, oi_1, oi_11, oi_2, oi_307, oi_308, oi_5, oi_6, oi_7, oi_9]; try dsimp only
                refine ⟨fun h51 => absurd h51 (by decide), fun h51 => ?_⟩
                clear h51
                refine hB _ _ _ _ _ (fun m52 hm52 => ?_)
                dsimp only [ugo, uwp, ust, uct, rfd, Breduce, Nat.beq, lv_args, rlk, rs1, rs2, rdl, rky, rcd, rno, rsw, Value.category, List.filter, List.take, List.drop, List.reverse, List.reverseAux, List.cons_append, List.nil_append, Option.toList, Int.toNat, Int.reduceToNat, if_pos, if_neg, reduceIte, ↓reduceIte, Nat.reduceAdd, Nat.reduceEqDiff, Nat.reduceBEq, beq_self_eq_true, Bool.not_true, Bool.not_false, Bool.and_true, Bool.and_false, Bool.true_and, Bool.false_and, gI_sI, gI_sL, gI_sA, gI_sM, gL_sI, gL_sL, gL_sA, gL_sM, aI_sI, aI_sL, aI_sA, aI_sM, aL_sI, aL_sL, aL_sA, aL_sM, Breduce_0, Breduce_7, Breduce_11, Breduce_12, Breduce_13, Breduce_17, Breduce_33, Breduce_38, Breduce_43, Breduce_62, Breduce_66, Breduce_67, Breduce_74, Breduce_75, Breduce_112, Breduce_130, Breduce_135, Breduce_143, Breduce_148, Breduce_150, Breduce_202, Breduce_231, Breduce_235, Breduce_237, Breduce_253, Breduce_260, Breduce_264, Breduce_265, Breduce_269, oi_0, oi_1, oi_11, oi_2, oi_307, oi_308, oi_5, oi_6, oi_7, oi_9]; try dsimp only
                unfold Qv_reduceZ
                try dsimp only
                exact ⟨rfl, m, (k, x, t, st, l) :: O1, r', z', hX, hz, hO, hb, hBh, hPc, hf, hy, (fun q => absurd (Int32.toInt_inj.mp (hx25.trans (show k = (0 : Int32).toInt from q))) (show ¬ aI Y 25 (gI Y 29 - 1).toNatClampNeg = 0 by lia)), (fun q => absurd (Int32.toInt_inj.mp (hx25.trans (show k = (1 : Int32).toInt from q))) (show ¬ aI Y 25 (gI Y 29 - 1).toNatClampNeg = 1 by lia)), (fun q => absurd (Int32.toInt_inj.mp (hx25.trans (show k = (2 : Int32).toInt from q))) (show ¬ aI Y 25 (gI Y 29 - 1).toNatClampNeg = 2 by lia))⟩
              · refine hB _ _ _ _ _ (fun m53 hm53 => ?_)
                dsimp only [ugo, uwp, ust, uct, rfd, Breduce, Nat.beq, lv_args, rlk, rs1, rs2, rdl, rky, rcd, rno, rsw, Value.category, List.filter, List.take, List.drop, List.reverse, List.reverseAux, List.cons_append, List.nil_append, Option.toList, Int.toNat, Int.reduceToNat, if_pos, if_neg, reduceIte, ↓reduceIte, Nat.reduceAdd, Nat.reduceEqDiff, Nat.reduceBEq, beq_self_eq_true, Bool.not_true, Bool.not_false, Bool.and_true, Bool.and_false, Bool.true_and, Bool.false_and, gI_sI, gI_sL, gI_sA, gI_sM, gL_sI, gL_sL, gL_sA, gL_sM, aI_sI, aI_sL, aI_sA, aI_sM, aL_sI, aL_sL, aL_sA, aL_sM, Breduce_0, Breduce_7, Breduce_11, Breduce_12, Breduce_13, Breduce_17, Breduce_33, Breduce_38, Breduce_43, Breduce_62, Breduce_66, Breduce_67, Breduce_74, Breduce_75, Breduce_112, Breduce_130, Breduce_135, Breduce_143, Breduce_148, Breduce_150, Breduce_202, Breduce_231, Breduce_235, Breduce_237, Breduce_253, Breduce_260, Breduce_264, Breduce_265, Breduce_269, oi_0, oi_1, oi_11, oi_2, oi_307, oi_308, oi_5, oi_6, oi_7, oi_9]; try dsimp only
                intro p54
                refine ⟨trivial, fun w55 τ55 hq55 => ?_⟩
                obtain ⟨rfl, rfl⟩ := hq55 trivial
                dsimp only [Option.toList, List.cons_append, List.nil_append, Nat.beq, gI_sI, gI_sL, gI_sA, gI_sM, gL_sI, gL_sL, gL_sA, gL_sM, aI_sI, aI_sL, aI_sA, aI_sM, aL_sI, aL_sL, aL_sA, aL_sM]
                refine ⟨fun h56 => ?_, fun h56 => ?_⟩
                · refine hB _ _ _ _ _ (fun m57 hm57 => ?_)
                  dsimp only [ugo, uwp, ust, uct, rfd, Breduce, Nat.beq, lv_args, rlk, rs1, rs2, rdl, rky, rcd, rno, rsw, Value.category, List.filter, List.take, List.drop, List.reverse, List.reverseAux, List.cons_append, List.nil_append, Option.toList, Int.toNat, Int.reduceToNat, if_pos, if_neg, reduceIte, ↓reduceIte, Nat.reduceAdd, Nat.reduceEqDiff, Nat.reduceBEq, beq_self_eq_true, Bool.not_true, Bool.not_false, Bool.and_true, Bool.and_false, Bool.true_and, Bool.false_and, gI_sI, gI_sL, gI_sA, gI_sM, gL_sI, gL_sL, gL_sA, gL_sM, aI_sI, aI_sL, aI_sA, aI_sM, aL_sI, aL_sL, aL_sA, aL_sM, Breduce_0, Breduce_7, Breduce_11, Breduce_12, Breduce_13, Breduce_17, Breduce_33, Breduce_38, Breduce_43, Breduce_62, Breduce_66, Breduce_67, Breduce_74, Breduce_75, Breduce_112, Breduce_130, Breduce_135, Breduce_143, Breduce_148, Breduce_150, Breduce_202, Breduce_231, Breduce_235, Breduce_237, Breduce_253, Breduce_260, Breduce_264, Breduce_265, Breduce_269, oi_0, oi_1, oi_11, oi_2, oi_307, oi_308, oi_5, oi_6, oi_7, oi_9]; try dsimp only
                  refine hB _ _ _ _ _ (fun m58 hm58 => ?_)
                  dsimp only [ugo, uwp, ust, uct, rfd, Breduce, Nat.beq, lv_args, rlk, rs1, rs2, rdl, rky, rcd, rno, rsw, Value.category, List.filter, List.take, List.drop, List.reverse, List.reverseAux, List.cons_append, List.nil_append, Option.toList, Int.toNat, Int.reduceToNat, if_pos, if_neg, reduceIte, ↓reduceIte, Nat.reduceAdd, Nat.reduceEqDiff, Nat.reduceBEq, beq_self_eq_true, Bool.not_true, Bool.not_false, Bool.and_true, Bool.and_false, Bool.true_and, Bool.false_and, gI_sI, gI_sL, gI_sA, gI_sM, gL_sI, gL_sL, gL_sA, gL_sM, aI_sI, aI_sL, aI_sA, aI_sM, aL_sI, aL_sL, aL_sA, aL_sM, Breduce_0, Breduce_7, Breduce_11, Breduce_12, Breduce_13, Breduce_17, Breduce_33, Breduce_38, Breduce_43, Breduce_62, Breduce_66, Breduce_67, Breduce_74, Breduce_75, Breduce_112, Breduce_130, Breduce_135, Breduce_143, Breduce_148, Breduce_150, Breduce_202, Breduce_231, Breduce_235, Breduce_237, Breduce_253, Breduce_260, Breduce_264, Breduce_265, Breduce_269, oi_0, oi_1, oi_11, oi_2, oi_307, oi_308, oi_5, oi_6, oi_7, oi_9]; try dsimp only
                  refine ⟨fun h59 => absurd h59 (by decide), fun h59 => ?_⟩
                  clear h59
                  refine hB _ _ _ _ _ (fun m60 hm60 => ?_)
                  dsimp only [ugo, uwp, ust, uct, rfd, Breduce, Nat.beq, lv_args, rlk, rs1, rs2, rdl, rky, rcd, rno, rsw, Value.category, List.filter, List.take, List.drop, List.reverse, List.reverseAux, List.cons_append, List.nil_append, Option.toList, Int.toNat, Int.reduceToNat, if_pos, if_neg, reduceIte, ↓reduceIte, Nat.reduceAdd, Nat.reduceEqDiff, Nat.reduceBEq, beq_self_eq_true, Bool.not_true, Bool.not_false, Bool.and_true, Bool.and_false, Bool.true_and, Bool.false_and, gI_sI, gI_sL, gI_sA, gI_sM, gL_sI, gL_sL, gL_sA, gL_sM, aI_sI, aI_sL, aI_sA, aI_sM, aL_sI, aL_sL, aL_sA, aL_sM, Breduce_0, Breduce_7, Breduce_11, Breduce_12, Breduce_13, Breduce_17, Breduce_33, Breduce_38, Breduce_43, Breduce_62, Breduce_66, Breduce_67, Breduce_74, Breduce_75, Breduce_112, Breduce_130, Breduce_135, Breduce_143, Breduce_148, Breduce_150, Breduce_202, Breduce_231, Breduce_235, Breduce_237, Breduce_253, Breduce_260, Breduce_264, Breduce_265, Breduce_269, oi_0, oi_1, oi_11, oi_2, oi_307, oi_308, oi_5, oi_6, oi_7, oi_9]; try dsimp only
                  unfold Qv_reduceZ
                  try dsimp only
                  exact ⟨rfl, m, (k, x, t, st, l) :: O1, r', z', hX, hz, hO, hb, hBh, hPc, hf, hy, (fun q => absurd (Int32.toInt_inj.mp (hx25.trans (show k = (0 : Int32).toInt from q))) (show ¬ aI Y 25 (gI Y 29 - 1).toNatClampNeg = 0 by lia)), (fun q => absurd (Int32.toInt_inj.mp (hx25.trans (show k = (1 : Int32).toInt from q))) (show ¬ aI Y 25 (gI Y 29 - 1).toNatClampNeg = 1 by lia)), (fun _ => by
                    have hsg := (hO.1.1.2.1).1 (Or.inr (Or.inl (by rw [← hx25]; exact congrArg Int32.toInt (show aI Y 25 (gI Y 29 - 1).toNatClampNeg = 2 by lia))))
                    rw [← htop] at hsg
                    dsimp only at hsg ⊢
                    rw [← str_st hsg]
                    exact Int32.lt_iff_toInt_lt.mp (by lia))⟩
                · refine hB _ _ _ _ _ (fun m61 hm61 => ?_)
                  dsimp only [ugo, uwp, ust, uct, rfd, Breduce, Nat.beq, lv_args, rlk, rs1, rs2, rdl, rky, rcd, rno, rsw, Value.category, List.filter, List.take, List.drop, List.reverse, List.reverseAux, List.cons_append, List.nil_append, Option.toList, Int.toNat, Int.reduceToNat, if_pos, if_neg, reduceIte, ↓reduceIte, Nat.reduceAdd, Nat.reduceEqDiff, Nat.reduceBEq, beq_self_eq_true, Bool.not_true, Bool.not_false, Bool.and_true, Bool.and_false, Bool.true_and, Bool.false_and, gI_sI, gI_sL, gI_sA, gI_sM, gL_sI, gL_sL, gL_sA, gL_sM, aI_sI, aI_sL, aI_sA, aI_sM, aL_sI, aL_sL, aL_sA, aL_sM, Breduce_0, Breduce_7, Breduce_11, Breduce_12, Breduce_13, Breduce_17, Breduce_33, Breduce_38, Breduce_43, Breduce_62, Breduce_66, Breduce_67, Breduce_74, Breduce_75, Breduce_112, Breduce_130, Breduce_135, Breduce_143, Breduce_148, Breduce_150, Breduce_202, Breduce_231, Breduce_235, Breduce_237, Breduce_253, Breduce_260, Breduce_264, Breduce_265, Breduce_269, oi_0, oi_1, oi_11, oi_2, oi_307, oi_308, oi_5, oi_6, oi_7, oi_9]; try dsimp only
                  refine hB _ _ _ _ _ (fun m62 hm62 => ?_)
                  dsimp only [ugo, uwp, ust, uct, rfd, Breduce, Nat.beq, lv_args, rlk, rs1, rs2, rdl, rky, rcd, rno, rsw, Value.category, List.filter, List.take, List.drop, List.reverse, List.reverseAux, List.cons_append, List.nil_append, Option.toList, Int.toNat, Int.reduceToNat, if_pos, if_neg, reduceIte, ↓reduceIte, Nat.reduceAdd, Nat.reduceEqDiff, Nat.reduceBEq, beq_self_eq_true, Bool.not_true, Bool.not_false, Bool.and_true, Bool.and_false, Bool.true_and, Bool.false_and, gI_sI, gI_sL, gI_sA, gI_sM, gL_sI, gL_sL, gL_sA, gL_sM, aI_sI, aI_sL, aI_sA, aI_sM, aL_sI, aL_sL, aL_sA, aL_sM, Breduce_0, Breduce_7, Breduce_11, Breduce_12, Breduce_13, Breduce_17, Breduce_33, Breduce_38, Breduce_43, Breduce_62, Breduce_66, Breduce_67, Breduce_74, Breduce_75, Breduce_112, Breduce_130, Breduce_135, Breduce_143, Breduce_148, Breduce_150, Breduce_202, Breduce_231, Breduce_235, Breduce_237, Breduce_253, Breduce_260, Breduce_264, Breduce_265, Breduce_269, oi_0, oi_1, oi_11, oi_2, oi_307, oi_308, oi_5, oi_6, oi_7, oi_9]; try dsimp only
                  refine ⟨fun h63 => ?_, fun h63 => absurd h63 (by decide)⟩
                  clear h63
                  refine hB _ _ _ _ _ (fun m64 hm64 => ?_)
                  dsimp only [ugo, uwp, ust, uct, rfd, Breduce, Nat.beq, lv_args, rlk, rs1, rs2, rdl, rky, rcd, rno, rsw, Value.category, List.filter, List.take, List.drop, List.reverse, List.reverseAux, List.cons_append, List.nil_append, Option.toList, Int.toNat, Int.reduceToNat, if_pos, if_neg, reduceIte, ↓reduceIte, Nat.reduceAdd, Nat.reduceEqDiff, Nat.reduceBEq, beq_self_eq_true, Bool.not_true, Bool.not_false, Bool.and_true, Bool.and_false, Bool.true_and, Bool.false_and, gI_sI, gI_sL, gI_sA, gI_sM, gL_sI, gL_sL, gL_sA, gL_sM, aI_sI, aI_sL, aI_sA, aI_sM, aL_sI, aL_sL, aL_sA, aL_sM, Breduce_0, Breduce_7, Breduce_11, Breduce_12, Breduce_13, Breduce_17, Breduce_33, Breduce_38, Breduce_43, Breduce_62, Breduce_66, Breduce_67, Breduce_74, Breduce_75, Breduce_112, Breduce_130, Breduce_135, Breduce_143, Breduce_148, Breduce_150, Breduce_202, Breduce_231, Breduce_235, Breduce_237, Breduce_253, Breduce_260, Breduce_264, Breduce_265, Breduce_269, oi_0, oi_1, oi_11, oi_2, oi_307, oi_308, oi_5, oi_6, oi_7, oi_9]; try dsimp only
                  have hx26 := hO.1.1.2.1
                  have hx27 := hO.1.1.2.2.1
                  rw [← htop] at hx26 hx27
                  dsimp only at hx26 hx27
                  have hOp := hO.pop
                  have hB1 := hBh.1
                  have hB3 := hBh.2.2.1
                  rw [← hz] at hB3
                  obtain rfl : k = 2 := by rw [← hx25]; exact congrArg Int32.toInt (show aI Y 25 (gI Y 29 - 1).toNatClampNeg = 2 by lia)
                  obtain ⟨a, mk, rfl⟩ := hO.1.1.2.2.2.2.2.1 rfl
                  have hv0 := hO.1.1.2.2.2.2.1 (Or.inl rfl)
                  have hsg := hx26.1 (Or.inr (Or.inl rfl))
                  rw [vn_2] at hB1
                  dsimp only at hv0
                  have e31 : (gI Y 31 - 1).toInt = vnZ O1 + 1 := by rw [i32_sb (by decide) (by rw [hB1]; show (1 : Int) ≤ _; omega), hB1]; show _ - (1 : Int) = _; omega
                  have e32 : (gI Y 31 - 1 - 1).toInt = vnZ O1 := by rw [i32_sb (by decide) (by rw [e31]; show (1 : Int) ≤ _; omega), e31]; show _ - (1 : Int) = _; omega
                  have n32 := nT_i e32
                  have hst : (20 ≤ codY z'.1 ∧ codY z'.1 ≤ 38) → strZ (codY z'.1) ≤ strZ x := fun q => by
                    rw [hz] at q ⊢
                    rw [← hle q, ← str_st hsg]
                    exact Int32.le_iff_toInt_le.mp (by lia)
                  intro p65
                  intro p66
                  refine ⟨fun h67 => ?_, fun h67 => ?_⟩
                  · exfalso; lia
                  · refine hB _ _ _ _ _ (fun m68 hm68 => ?_)
                    dsimp only [ugo, uwp, ust, uct, rfd, Breduce, Nat.beq, lv_args, rlk, rs1, rs2, rdl, rky, rcd, rno, rsw, Value.category, List.filter, List.take, List.drop, List.reverse, List.reverseAux, List.cons_append, List.nil_append, Option.toList, Int.toNat, Int.reduceToNat, if_pos, if_neg, reduceIte, ↓reduceIte, Nat.reduceAdd, Nat.reduceEqDiff, Nat.reduceBEq, beq_self_eq_true, Bool.not_true, Bool.not_false, Bool.and_true, Bool.and_false, Bool.true_and, Bool.false_and, gI_sI, gI_sL, gI_sA, gI_sM, gL_sI, gL_sL, gL_sA, gL_sM, aI_sI, aI_sL, aI_sA, aI_sM, aL_sI, aL_sL, aL_sA, aL_sM, Breduce_0, Breduce_7, Breduce_11, Breduce_12, Breduce_13, Breduce_17, Breduce_33, Breduce_38, Breduce_43, Breduce_62, Breduce_66, Breduce_67, Breduce_74, Breduce_75, Breduce_112, Breduce_130, Breduce_135, Breduce_143, Breduce_148, Breduce_150, Breduce_202, Breduce_231, Breduce_235, Breduce_237, Breduce_253, Breduce_260, Breduce_264, Breduce_265, Breduce_269, oi_0, oi_1, oi_11, oi_2, oi_307, oi_308, oi_5, oi_6, oi_7, oi_9]; try dsimp only
                    refine ⟨fun h69 => ?_, fun h69 => ?_⟩
                    · refine hB _ _ _ _ _ (fun m70 hm70 => ?_)
                      dsimp only [ugo, uwp, ust, uct, rfd, Breduce, Nat.beq, lv_args, rlk, rs1, rs2, rdl, rky, rcd, rno, rsw, Value.category, List.filter, List.take, List.drop, List.reverse, List.reverseAux, List.cons_append, List.nil_append, Option.toList, Int.toNat, Int.reduceToNat, if_pos, if_neg, reduceIte, ↓reduceIte, Nat.reduceAdd, Nat.reduceEqDiff, Nat.reduceBEq, beq_self_eq_true, Bool.not_true, Bool.not_false, Bool.and_true, Bool.and_false, Bool.true_and, Bool.false_and, gI_sI, gI_sL, gI_sA, gI_sM, gL_sI, gL_sL, gL_sA, gL_sM, aI_sI, aI_sL, aI_sA, aI_sM, aL_sI, aL_sL, aL_sA, aL_sM, Breduce_0, Breduce_7, Breduce_11, Breduce_12, Breduce_13, Breduce_17, Breduce_33, Breduce_38, Breduce_43, Breduce_62, Breduce_66, Breduce_67, Breduce_74, Breduce_75, Breduce_112, Breduce_130, Breduce_135, Breduce_143, Breduce_148, Breduce_150, Breduce_202, Breduce_231, Breduce_235, Breduce_237, Breduce_253, Breduce_260, Breduce_264, Breduce_265, Breduce_269, oi_0, oi_1, oi_11, oi_2, oi_307, oi_308, oi_5, oi_6, oi_7, oi_9]; try dsimp only
                      refine ⟨fun h71 => ?_, fun h71 => ?_⟩
                      · refine hB _ _ _ _ _ (fun m72 hm72 => ?_)
                        dsimp only [ugo, uwp, ust, uct, rfd, Breduce, Nat.beq, lv_args, rlk, rs1, rs2, rdl, rky, rcd, rno, rsw, Value.category, List.filter, List.take, List.drop, List.reverse, List.reverseAux, List.cons_append, List.nil_append, Option.toList, Int.toNat, Int.reduceToNat, if_pos, if_neg, reduceIte, ↓reduceIte, Nat.reduceAdd, Nat.reduceEqDiff, Nat.reduceBEq, beq_self_eq_true, Bool.not_true, Bool.not_false, Bool.and_true, Bool.and_false, Bool.true_and, Bool.false_and, gI_sI, gI_sL, gI_sA, gI_sM, gL_sI, gL_sL, gL_sA, gL_sM, aI_sI, aI_sL, aI_sA, aI_sM, aL_sI, aL_sL, aL_sA, aL_sM, Breduce_0, Breduce_7, Breduce_11, Breduce_12, Breduce_13, Breduce_17, Breduce_33, Breduce_38, Breduce_43, Breduce_62, Breduce_66, Breduce_67, Breduce_74, Breduce_75, Breduce_112, Breduce_130, Breduce_135, Breduce_143, Breduce_148, Breduce_150, Breduce_202, Breduce_231, Breduce_235, Breduce_237, Breduce_253, Breduce_260, Breduce_264, Breduce_265, Breduce_269, oi_0, oi_1, oi_11, oi_2, oi_307, oi_308, oi_5, oi_6, oi_7, oi_9]; try dsimp only
                        refine hB _ _ _ _ _ (fun m73 hm73 => ?_)
                        dsimp only [ugo, uwp, ust, uct, rfd, Breduce, Nat.beq, lv_args, rlk, rs1, rs2, rdl, rky, rcd, rno, rsw, Value.category, List.filter, List.take, List.drop, List.reverse, List.reverseAux, List.cons_append, List.nil_append, Option.toList, Int.toNat, Int.reduceToNat, if_pos, if_neg, reduceIte, ↓reduceIte, Nat.reduceAdd, Nat.reduceEqDiff, Nat.reduceBEq, beq_self_eq_true, Bool.not_true, Bool.not_false, Bool.and_true, Bool.and_false, Bool.true_and, Bool.false_and, gI_sI, gI_sL, gI_sA, gI_sM, gL_sI, gL_sL, gL_sA, gL_sM, aI_sI, aI_sL, aI_sA, aI_sM, aL_sI, aL_sL, aL_sA, aL_sM, Breduce_0, Breduce_7, Breduce_11, Breduce_12, Breduce_13, Breduce_17, Breduce_33, Breduce_38, Breduce_43, Breduce_62, Breduce_66, Breduce_67, Breduce_74, Breduce_75, Breduce_112, Breduce_130, Breduce_135, Breduce_143, Breduce_148, Breduce_150, Breduce_202, Breduce_231, Breduce_235, Breduce_237, Breduce_253, Breduce_260, Breduce_264, Breduce_265, Breduce_269, oi_0, oi_1, oi_11, oi_2, oi_307, oi_308, oi_5, oi_6, oi_7, oi_9]; try dsimp only
                        intro p74
                        refine ⟨trivial, fun w75 τ75 hq75 => ?_⟩
                        obtain ⟨rfl, hE75⟩ := hq75 trivial
                        dsimp only [Option.toList, List.cons_append, List.nil_append, Nat.beq, gI_sI, gI_sL, gI_sA, gI_sM, gL_sI, gL_sL, gL_sA, gL_sM, aI_sI, aI_sL, aI_sA, aI_sM, aL_sI, aL_sL, aL_sA, aL_sM]
                        have hXe := XrR.em (σ0 := σ0) (s := z.1) (n := m) (XrR.i (XrR.i hX (k := 29) (by decide)) (k := 31) (by decide)) hE75.1 (by decide)
                        have hOe := OzZ.em (OzZ.i hOp (k := 31) (by decide)) hE75.1
                        have hPe := PcM.em (z := z') (x := chnZ x t st a mk (xnM z') z'.1) (PcM.i (PcM.i hPc (k := 29) (by decide)) (k := 31) (by decide)) hE75 (cm_chn (by rw [if_neg (fun q => absurd ((sg_307 hsg).1.mpr q) (by lia)), if_neg (fun q => absurd ((sg_307 hsg).2.mpr q) (by lia))]; rfl) (by rw [n32]; exact hv0) hB3 hsg)
                        have g18e : gI τ75 18 = gI Y 18 + 1 := hE75.1.2.1
                        have gne := hE75.n
                        intro p76
                        intro p77
                        refine hB _ _ _ _ _ (fun m78 hm78 => ?_)
                        dsimp only [ugo, uwp, ust, uct, rfd, Breduce, Nat.beq, lv_args, rlk, rs1, rs2, rdl, rky, rcd, rno, rsw, Value.category, List.filter, List.take, List.drop, List.reverse, List.reverseAux, List.cons_append, List.nil_append, Option.toList, Int.toNat, Int.reduceToNat, if_pos, if_neg, reduceIte, ↓reduceIte, Nat.reduceAdd, Nat.reduceEqDiff, Nat.reduceBEq, beq_self_eq_true, Bool.not_true, Bool.not_false, Bool.and_true, Bool.and_false, Bool.true_and, Bool.false_and, gI_sI, gI_sL, gI_sA, gI_sM, gL_sI, gL_sL, gL_sA, gL_sM, aI_sI, aI_sL, aI_sA, aI_sM, aL_sI, aL_sL, aL_sA, aL_sM, Breduce_0, Breduce_7, Breduce_11, Breduce_12, Breduce_13, Breduce_17, Breduce_33, Breduce_38, Breduce_43, Breduce_62, Breduce_66, Breduce_67, Breduce_74, Breduce_75, Breduce_112, Breduce_130, Breduce_135, Breduce_143, Breduce_148, Breduce_150, Breduce_202, Breduce_231, Breduce_235, Breduce_237, Breduce_253, Breduce_260, Breduce_264, Breduce_265, Breduce_269, oi_0, oi_1, oi_11, oi_2, oi_307, oi_308, oi_5, oi_6, oi_7, oi_9]; try dsimp only
                        refine ⟨fun h79 => ?_, fun h79 => ?_⟩
                        · refine hB _ _ _ _ _ (fun m80 hm80 => ?_)
                          dsimp only [ugo, uwp, ust, uct, rfd, Breduce, Nat.beq, lv_args, rlk, rs1, rs2, rdl, rky, rcd, rno, rsw, Value.category, List.filter, List.take, List.drop, List.reverse, List.reverseAux, List.cons_append, List.nil_append, Option.toList, Int.toNat, Int.reduceToNat, if_pos, if_neg, reduceIte, ↓reduceIte, Nat.reduceAdd, Nat.reduceEqDiff, Nat.reduceBEq, beq_self_eq_true, Bool.not_true, Bool.not_false, Bool.and_true, Bool.and_false, Bool.true_and, Bool.false_and, gI_sI, gI_sL, gI_sA, gI_sM, gL_sI, gL_sL, gL_sA, gL_sM, aI_sI, aI_sL, aI_sA, aI_sM, aL_sI, aL_sL, aL_sA, aL_sM, Breduce_0, Breduce_7, Breduce_11, Breduce_12, Breduce_13, Breduce_17, Breduce_33, Breduce_38, Breduce_43, Breduce_62, Breduce_66, Breduce_67, Breduce_74, Breduce_75, Breduce_112, Breduce_130, Breduce_135, Breduce_143, Breduce_148, Breduce_150, Breduce_202, Breduce_231, Breduce_235, Breduce_237, Breduce_253, Breduce_260, Breduce_264, Breduce_265, Breduce_269, oi_0, oi_1, oi_11, oi_2, oi_307, oi_308, oi_5, oi_6, oi_7, oi_9]; try dsimp only
                          refine hB _ _ _ _ _ (fun m81 hm81 => ?_)
                          dsimp only [ugo, uwp, ust, uct, rfd, Breduce, Nat.beq, lv_args, rlk, rs1, rs2, rdl, rky, rcd, rno, rsw, Value.category, List.filter, List.take, List.drop, List.reverse, List.reverseAux, List.cons_append, List.nil_append, Option.toList, Int.toNat, Int.reduceToNat, if_pos, if_neg, reduceIte, ↓reduceIte, Nat.reduceAdd, Nat.reduceEqDiff, Nat.reduceBEq, beq_self_eq_true, Bool.not_true, Bool.not_false, Bool.and_true, Bool.and_false, Bool.true_and, Bool.false_and, gI_sI, gI_sL, gI_sA, gI_sM, gL_sI, gL_sL, gL_sA, gL_sM, aI_sI, aI_sL, aI_sA, aI_sM, aL_sI, aL_sL, aL_sA, aL_sM, Breduce_0, Breduce_7, Breduce_11, Breduce_12, Breduce_13, Breduce_17, Breduce_33, Breduce_38, Breduce_43, Breduce_62, Breduce_66, Breduce_67, Breduce_74, Breduce_75, Breduce_112, Breduce_130, Breduce_135, Breduce_143, Breduce_148, Breduce_150, Breduce_202, Breduce_231, Breduce_235, Breduce_237, Breduce_253, Breduce_260, Breduce_264, Breduce_265, Breduce_269, oi_0, oi_1, oi_11, oi_2, oi_307, oi_308, oi_5, oi_6, oi_7, oi_9]; try dsimp only
                          have b18 := hE75.1.2.2.2.2.2
                          have c1 : 0 ≤ (gI Y 18).toInt := Int32.le_iff_toInt_le.mp b18.1
                          have c2 : (gI Y 18).toInt < 4000 := Int32.lt_iff_toInt_lt.mp b18.2
                          have e18 : (gI Y 18).toInt + 1 = (gI τ75 18).toInt := by rw [g18e, i32_add (by omega) (by omega)]
                          exact hW _ 13 [(0, .ref 1000), (1, .int least), (2, .int 0)] _ _ _ (by simp [rdl, rky]) (loop _ (by omega) _ m O1 (t, st) (puM (chnZ x t st a mk (xnM z') z'.1) z') 0 (XrR.a (XrR.i hXe (by decide)) (by decide)) hz (OzZ.a (OzZ.i hOe (by decide)) (by decide)) (by rw [← hb, nb_c, if_pos rfl]; omega)
                            ⟨(congrArg Int32.toInt (hE75.1.1 31 (by decide))).trans e31, (congrArg Int32.toInt (congrFun (hE75.1.2.2.2.2.1 30 (by decide)) _)).trans hv0, (congrArg Int32.toInt (hE75.1.1 32 (by decide))).trans hBh.2.2.1, e18⟩
                            (PcM.b (PcM.i hPe (by decide)) gne.symm (show ¬ (7 : Int) ≤ 0 ∧ ¬ (7 : Int) = 15 by decide)) (by rw [← hf, bin_cls hO.2.2 hst]) (fun y => by rw [← hy y]; exact fo_bin.symm) (fun q => absurd rfl q) (fun _ => (by first | lia | (dsimp only [Nat.beq, gI_sI, gI_sL, gI_sA, gI_sM, gL_sI, gL_sL, gL_sA, gL_sM, aI_sI, aI_sL, aI_sA, aI_sM, aL_sI, aL_sL, aL_sA, aL_sM]; lia))))
                        · refine hB _ _ _ _ _ (fun m82 hm82 => ?_)
                          dsimp only [ugo, uwp, ust, uct, rfd, Breduce, Nat.beq, lv_args, rlk, rs1, rs2, rdl, rky, rcd, rno, rsw, Value.category, List.filter, List.take, List.drop, List.reverse, List.reverseAux, List.cons_append, List.nil_append, Option.toList, Int.toNat, Int.reduceToNat, if_pos, if_neg, reduceIte, ↓reduceIte, Nat.reduceAdd, Nat.reduceEqDiff, Nat.reduceBEq, beq_self_eq_true, Bool.not_true, Bool.not_false, Bool.and_true, Bool.and_false, Bool.true_and, Bool.false_and, gI_sI, gI_sL, gI_sA, gI_sM, gL_sI, gL_sL, gL_sA, gL_sM, aI_sI, aI_sL, aI_sA, aI_sM, aL_sI, aL_sL, aL_sA, aL_sM, Breduce_0, Breduce_7, Breduce_11, Breduce_12, Breduce_13, Breduce_17, Breduce_33, Breduce_38, Breduce_43, Breduce_62, Breduce_66, Breduce_67, Breduce_74, Breduce_75, Breduce_112, Breduce_130, Breduce_135, Breduce_143, Breduce_148, Breduce_150, Breduce_202, Breduce_231, Breduce_235, Breduce_237, Breduce_253, Breduce_260, Breduce_264, Breduce_265, Breduce_269, oi_0, oi_1, oi_11, oi_2, oi_307, oi_308, oi_5, oi_6, oi_7, oi_9]; try dsimp only
                          refine hB _ _ _ _ _ (fun m83 hm83 => ?_)
                          dsimp only [ugo, uwp, ust, uct, rfd, Breduce, Nat.beq, lv_args, rlk, rs1, rs2, rdl, rky, rcd, rno, rsw, Value.category, List.filter, List.take, List.drop, List.reverse, List.reverseAux, List.cons_append, List.nil_append, Option.toList, Int.toNat, Int.reduceToNat, if_pos, if_neg, reduceIte, ↓reduceIte, Nat.reduceAdd, Nat.reduceEqDiff, Nat.reduceBEq, beq_self_eq_true, Bool.not_true, Bool.not_false, Bool.and_true, Bool.and_false, Bool.true_and, Bool.false_and, gI_sI, gI_sL, gI_sA, gI_sM, gL_sI, gL_sL, gL_sA, gL_sM, aI_sI, aI_sL, aI_sA, aI_sM, aL_sI, aL_sL, aL_sA, aL_sM, Breduce_0, Breduce_7, Breduce_11, Breduce_12, Breduce_13, Breduce_17, Breduce_33, Breduce_38, Breduce_43, Breduce_62, Breduce_66, Breduce_67, Breduce_74, Breduce_75, Breduce_112, Breduce_130, Breduce_135, Breduce_143, Breduce_148, Breduce_150, Breduce_202, Breduce_231, Breduce_235, Breduce_237, Breduce_253, Breduce_260, Breduce_264, Breduce_265, Breduce_269, oi_0, oi_1, oi_11, oi_2, oi_307, oi_308, oi_5, oi_6, oi_7, oi_9]; try dsimp only
                          have b18 := hE75.1.2.2.2.2.2
                          have c1 : 0 ≤ (gI Y 18).toInt := Int32.le_iff_toInt_le.mp b18.1
                          have c2 : (gI Y 18).toInt < 4000 := Int32.lt_iff_toInt_lt.mp b18.2
                          have e18 : (gI Y 18).toInt + 1 = (gI τ75 18).toInt := by rw [g18e, i32_add (by omega) (by omega)]
                          exact hW _ 13 [(0, .ref 1000), (1, .int least), (2, .int 1)] _ _ _ (by simp [rdl, rky]) (loop _ (by omega) _ m O1 (t, st) (puM (chnZ x t st a mk (xnM z') z'.1) z') 1 (XrR.a (XrR.i hXe (by decide)) (by decide)) hz (OzZ.a (OzZ.i hOe (by decide)) (by decide)) (by rw [← hb, nb_c, if_pos rfl]; omega)
                            ⟨(congrArg Int32.toInt (hE75.1.1 31 (by decide))).trans e31, (congrArg Int32.toInt (congrFun (hE75.1.2.2.2.2.1 30 (by decide)) _)).trans hv0, (congrArg Int32.toInt (hE75.1.1 32 (by decide))).trans hBh.2.2.1, e18⟩
                            (PcM.b (PcM.i hPe (by decide)) gne.symm (show ¬ (7 : Int) ≤ 0 ∧ ¬ (7 : Int) = 15 by decide)) (by rw [← hf, bin_cls hO.2.2 hst]) (fun y => by rw [← hy y]; exact fo_bin.symm) (fun _ => (by first | lia | (dsimp only [Nat.beq, gI_sI, gI_sL, gI_sA, gI_sM, gL_sI, gL_sL, gL_sA, gL_sM, aI_sI, aI_sL, aI_sA, aI_sM, aL_sI, aL_sL, aL_sA, aL_sM]; lia))) (fun q => absurd q (by decide)))
                      · refine hB _ _ _ _ _ (fun m84 hm84 => ?_)
                        dsimp only [ugo, uwp, ust, uct, rfd, Breduce, Nat.beq, lv_args, rlk, rs1, rs2, rdl, rky, rcd, rno, rsw, Value.category, List.filter, List.take, List.drop, List.reverse, List.reverseAux, List.cons_append, List.nil_append, Option.toList, Int.toNat, Int.reduceToNat, if_pos, if_neg, reduceIte, ↓reduceIte, Nat.reduceAdd, Nat.reduceEqDiff, Nat.reduceBEq, beq_self_eq_true, Bool.not_true, Bool.not_false, Bool.and_true, Bool.and_false, Bool.true_and, Bool.false_and, gI_sI, gI_sL, gI_sA, gI_sM, gL_sI, gL_sL, gL_sA, gL_sM, aI_sI, aI_sL, aI_sA, aI_sM, aL_sI, aL_sL, aL_sA, aL_sM, Breduce_0, Breduce_7, Breduce_11, Breduce_12, Breduce_13, Breduce_17, Breduce_33, Breduce_38, Breduce_43, Breduce_62, Breduce_66, Breduce_67, Breduce_74, Breduce_75, Breduce_112, Breduce_130, Breduce_135, Breduce_143, Breduce_148, Breduce_150, Breduce_202, Breduce_231, Breduce_235, Breduce_237, Breduce_253, Breduce_260, Breduce_264, Breduce_265, Breduce_269, oi_0, oi_1, oi_11, oi_2, oi_307, oi_308, oi_5, oi_6, oi_7, oi_9]; try dsimp only
                        refine hB _ _ _ _ _ (fun m85 hm85 => ?_)
                        dsimp only [ugo, uwp, ust, uct, rfd, Breduce, Nat.beq, lv_args, rlk, rs1, rs2, rdl, rky, rcd, rno, rsw, Value.category, List.filter, List.take, List.drop, List.reverse, List.reverseAux, List.cons_append, List.nil_append, Option.toList, Int.toNat, Int.reduceToNat, if_pos, if_neg, reduceIte, ↓reduceIte, Nat.reduceAdd, Nat.reduceEqDiff, Nat.reduceBEq, beq_self_eq_true, Bool.not_true, Bool.not_false, Bool.and_true, Bool.and_false, Bool.true_and, Bool.false_and, gI_sI, gI_sL, gI_sA, gI_sM, gL_sI, gL_sL, gL_sA, gL_sM, aI_sI, aI_sL, aI_sA, aI_sM, aL_sI, aL_sL, aL_sA, aL_sM, Breduce_0, Breduce_7, Breduce_11, Breduce_12, Breduce_13, Breduce_17, Breduce_33, Breduce_38, Breduce_43, Breduce_62, Breduce_66, Breduce_67, Breduce_74, Breduce_75, Breduce_112, Breduce_130, Breduce_135, Breduce_143, Breduce_148, Breduce_150, Breduce_202, Breduce_231, Breduce_235, Breduce_237, Breduce_253, Breduce_260, Breduce_264, Breduce_265, Breduce_269, oi_0, oi_1, oi_11, oi_2, oi_307, oi_308, oi_5, oi_6, oi_7, oi_9]; try dsimp only
                        intro p86
                        refine ⟨trivial, fun w87 τ87 hq87 => ?_⟩
                        obtain ⟨rfl, hE87⟩ := hq87 trivial
                        dsimp only [Option.toList, List.cons_append, List.nil_append, Nat.beq, gI_sI, gI_sL, gI_sA, gI_sM, gL_sI, gL_sL, gL_sA, gL_sM, aI_sI, aI_sL, aI_sA, aI_sM, aL_sI, aL_sL, aL_sA, aL_sM]
                        have hXe := XrR.em (σ0 := σ0) (s := z.1) (n := m) (XrR.i (XrR.i hX (k := 29) (by decide)) (k := 31) (by decide)) hE87.1 (by decide)
                        have hOe := OzZ.em (OzZ.i hOp (k := 31) (by decide)) hE87.1
                        have hPe := PcM.em (z := z') (x := chnZ x t st a mk (xnM z') z'.1) (PcM.i (PcM.i hPc (k := 29) (by decide)) (k := 31) (by decide)) hE87 (cm_chn (by rw [if_neg (fun q => absurd ((sg_307 hsg).1.mpr q) (by lia)), if_pos ((sg_307 hsg).2.mp (by lia))]; rfl) (by rw [n32]; exact hv0) hB3 hsg)
                        have g18e : gI τ87 18 = gI Y 18 + 1 := hE87.1.2.1
                        have gne := hE87.n
                        intro p88
                        intro p89
                        refine hB _ _ _ _ _ (fun m90 hm90 => ?_)
                        dsimp only [ugo, uwp, ust, uct, rfd, Breduce, Nat.beq, lv_args, rlk, rs1, rs2, rdl, rky, rcd, rno, rsw, Value.category, List.filter, List.take, List.drop, List.reverse, List.reverseAux, List.cons_append, List.nil_append, Option.toList, Int.toNat, Int.reduceToNat, if_pos, if_neg, reduceIte, ↓reduceIte, Nat.reduceAdd, Nat.reduceEqDiff, Nat.reduceBEq, beq_self_eq_true, Bool.not_true, Bool.not_false, Bool.and_true, Bool.and_false, Bool.true_and, Bool.false_and, gI_sI, gI_sL, gI_sA, gI_sM, gL_sI, gL_sL, gL_sA, gL_sM, aI_sI, aI_sL, aI_sA, aI_sM, aL_sI, aL_sL, aL_sA, aL_sM, Breduce_0, Breduce_7, Breduce_11, Breduce_12, Breduce_13, Breduce_17, Breduce_33, Breduce_38, Breduce_43, Breduce_62, Breduce_66, Breduce_67, Breduce_74, Breduce_75, Breduce_112, Breduce_130, Breduce_135, Breduce_143, Breduce_148, Breduce_150, Breduce_202, Breduce_231, Breduce_235, Breduce_237, Breduce_253, Breduce_260, Breduce_264, Breduce_265, Breduce_269, oi_0, oi_1, oi_11, oi_2, oi_307, oi_308, oi_5, oi_6, oi_7, oi_9]; try dsimp only
                        refine ⟨fun h91 => ?_, fun h91 => ?_⟩
                        · refine hB _ _ _ _ _ (fun m92 hm92 => ?_)
                          dsimp only [ugo, uwp, ust, uct, rfd, Breduce, Nat.beq, lv_args, rlk, rs1, rs2, rdl, rky, rcd, rno, rsw, Value.category, List.filter, List.take, List.drop, List.reverse, List.reverseAux, List.cons_append, List.nil_append, Option.toList, Int.toNat, Int.reduceToNat, if_pos, if_neg, reduceIte, ↓reduceIte, Nat.reduceAdd, Nat.reduceEqDiff, Nat.reduceBEq, beq_self_eq_true, Bool.not_true, Bool.not_false, Bool.and_true, Bool.and_false, Bool.true_and, Bool.false_and, gI_sI, gI_sL, gI_sA, gI_sM, gL_sI, gL_sL, gL_sA, gL_sM, aI_sI, aI_sL, aI_sA, aI_sM, aL_sI, aL_sL, aL_sA, aL_sM, Breduce_0, Breduce_7, Breduce_11, Breduce_12, Breduce_13, Breduce_17, Breduce_33, Breduce_38, Breduce_43, Breduce_62, Breduce_66, Breduce_67, Breduce_74, Breduce_75, Breduce_112, Breduce_130, Breduce_135, Breduce_143, Breduce_148, Breduce_150, Breduce_202, Breduce_231, Breduce_235, Breduce_237, Breduce_253, Breduce_260, Breduce_264, Breduce_265, Breduce_269, oi_0, oi_1, oi_11, oi_2, oi_307, oi_308, oi_5, oi_6, oi_7, oi_9]; try dsimp only
                          refine hB _ _ _ _ _ (fun m93 hm93 => ?_)
                          dsimp only [ugo, uwp, ust, uct, rfd, Breduce, Nat.beq, lv_args, rlk, rs1, rs2, rdl, rky, rcd, rno, rsw, Value.category, List.filter, List.take, List.drop, List.reverse, List.reverseAux, List.cons_append, List.nil_append, Option.toList, Int.toNat, Int.reduceToNat, if_pos, if_neg, reduceIte, ↓reduceIte, Nat.reduceAdd, Nat.reduceEqDiff, Nat.reduceBEq, beq_self_eq_true, Bool.not_true, Bool.not_false, Bool.and_true, Bool.and_false, Bool.true_and, Bool.false_and, gI_sI, gI_sL, gI_sA, gI_sM, gL_sI, gL_sL, gL_sA, gL_sM, aI_sI, aI_sL, aI_sA, aI_sM, aL_sI, aL_sL, aL_sA, aL_sM, Breduce_0, Breduce_7, Breduce_11, Breduce_12, Breduce_13, Breduce_17, Breduce_33, Breduce_38, Breduce_43, Breduce_62, Breduce_66, Breduce_67, Breduce_74, Breduce_75, Breduce_112, Breduce_130, Breduce_135, Breduce_143, Breduce_148, Breduce_150, Breduce_202, Breduce_231, Breduce_235, Breduce_237, Breduce_253, Breduce_260, Breduce_264, Breduce_265, Breduce_269, oi_0, oi_1, oi_11, oi_2, oi_307, oi_308, oi_5, oi_6, oi_7, oi_9]; try dsimp only
                          have b18 := hE87.1.2.2.2.2.2
                          have c1 : 0 ≤ (gI Y 18).toInt := Int32.le_iff_toInt_le.mp b18.1
                          have c2 : (gI Y 18).toInt < 4000 := Int32.lt_iff_toInt_lt.mp b18.2
                          have e18 : (gI Y 18).toInt + 1 = (gI τ87 18).toInt := by rw [g18e, i32_add (by omega) (by omega)]
                          exact hW _ 13 [(0, .ref 1000), (1, .int least), (2, .int 0)] _ _ _ (by simp [rdl, rky]) (loop _ (by omega) _ m O1 (t, st) (puM (chnZ x t st a mk (xnM z') z'.1) z') 0 (XrR.a (XrR.i hXe (by decide)) (by decide)) hz (OzZ.a (OzZ.i hOe (by decide)) (by decide)) (by rw [← hb, nb_c, if_pos rfl]; omega)
                            ⟨(congrArg Int32.toInt (hE87.1.1 31 (by decide))).trans e31, (congrArg Int32.toInt (congrFun (hE87.1.2.2.2.2.1 30 (by decide)) _)).trans hv0, (congrArg Int32.toInt (hE87.1.1 32 (by decide))).trans hBh.2.2.1, e18⟩
                            (PcM.b (PcM.i hPe (by decide)) gne.symm (show ¬ (7 : Int) ≤ 0 ∧ ¬ (7 : Int) = 15 by decide)) (by rw [← hf, bin_cls hO.2.2 hst]) (fun y => by rw [← hy y]; exact fo_bin.symm) (fun q => absurd rfl q) (fun _ => (by first | lia | (dsimp only [Nat.beq, gI_sI, gI_sL, gI_sA, gI_sM, gL_sI, gL_sL, gL_sA, gL_sM, aI_sI, aI_sL, aI_sA, aI_sM, aL_sI, aL_sL, aL_sA, aL_sM]; lia))))
                        · refine hB _ _ _ _ _ (fun m94 hm94 => ?_)
                          dsimp only [ugo, uwp, ust, uct, rfd, Breduce, Nat.beq, lv_args, rlk, rs1, rs2, rdl, rky, rcd, rno, rsw, Value.category, List.filter, List.take, List.drop, List.reverse, List.reverseAux, List.cons_append, List.nil_append, Option.toList, Int.toNat, Int.reduceToNat, if_pos, if_neg, reduceIte, ↓reduceIte, Nat.reduceAdd, Nat.reduceEqDiff, Nat.reduceBEq, beq_self_eq_true, Bool.not_true, Bool.not_false, Bool.and_true, Bool.and_false, Bool.true_and, Bool.false_and, gI_sI, gI_sL, gI_sA, gI_sM, gL_sI, gL_sL, gL_sA, gL_sM, aI_sI, aI_sL, aI_sA, aI_sM, aL_sI, aL_sL, aL_sA, aL_sM, Breduce_0, Breduce_7, Breduce_11, Breduce_12, Breduce_13, Breduce_17, Breduce_33, Breduce_38, Breduce_43, Breduce_62, Breduce_66, Breduce_67, Breduce_74, Breduce_75, Breduce_112, Breduce_130, Breduce_135, Breduce_143, Breduce_148, Breduce_150, Breduce_202, Breduce_231, Breduce_235, Breduce_237, Breduce_253, Breduce_260, Breduce_264, Breduce_265, Breduce_269, oi_0, oi_1, oi_11, oi_2, oi_307, oi_308, oi_5, oi_6, oi_7, oi_9]; try dsimp only
                          refine hB _ _ _ _ _ (fun m95 hm95 => ?_)
                          dsimp only [ugo, uwp, ust, uct, rfd, Breduce, Nat.beq, lv_args, rlk, rs1, rs2, rdl, rky, rcd, rno, rsw, Value.category, List.filter, List.take, List.drop, List.reverse, List.reverseAux, List.cons_append, List.nil_append, Option.toList, Int.toNat, Int.reduceToNat, if_pos, if_neg, reduceIte, ↓reduceIte, Nat.reduceAdd, Nat.reduceEqDiff, Nat.reduceBEq, beq_self_eq_true, Bool.not_true, Bool.not_false, Bool.and_true, Bool.and_false, Bool.true_and, Bool.false_and, gI_sI, gI_sL, gI_sA, gI_sM, gL_sI, gL_sL, gL_sA, gL_sM, aI_sI, aI_sL, aI_sA, aI_sM, aL_sI, aL_sL, aL_sA, aL_sM, Breduce_0, Breduce_7, Breduce_11, Breduce_12, Breduce_13, Breduce_17, Breduce_33, Breduce_38, Breduce_43, Breduce_62, Breduce_66, Breduce_67, Breduce_74, Breduce_75, Breduce_112, Breduce_130, Breduce_135, Breduce_143, Breduce_148, Breduce_150, Breduce_202, Breduce_231, Breduce_235, Breduce_237, Breduce_253, Breduce_260, Breduce_264, Breduce_265, Breduce_269, oi_0, oi_1, oi_11, oi_2, oi_307, oi_308, oi_5, oi_6, oi_7, oi_9]; try dsimp only
                          have b18 := hE87.1.2.2.2.2.2
                          have c1 : 0 ≤ (gI Y 18).toInt := Int32.le_iff_toInt_le.mp b18.1
                          have c2 : (gI Y 18).toInt < 4000 := Int32.lt_iff_toInt_lt.mp b18.2
                          have e18 : (gI Y 18).toInt + 1 = (gI τ87 18).toInt := by rw [g18e, i32_add (by omega) (by omega)]
                          exact hW _ 13 [(0, .ref 1000), (1, .int least), (2, .int 1)] _ _ _ (by simp [rdl, rky]) (loop _ (by omega) _ m O1 (t, st) (puM (chnZ x t st a mk (xnM z') z'.1) z') 1 (XrR.a (XrR.i hXe (by decide)) (by decide)) hz (OzZ.a (OzZ.i hOe (by decide)) (by decide)) (by rw [← hb, nb_c, if_pos rfl]; omega)
                            ⟨(congrArg Int32.toInt (hE87.1.1 31 (by decide))).trans e31, (congrArg Int32.toInt (congrFun (hE87.1.2.2.2.2.1 30 (by decide)) _)).trans hv0, (congrArg Int32.toInt (hE87.1.1 32 (by decide))).trans hBh.2.2.1, e18⟩
                            (PcM.b (PcM.i hPe (by decide)) gne.symm (show ¬ (7 : Int) ≤ 0 ∧ ¬ (7 : Int) = 15 by decide)) (by rw [← hf, bin_cls hO.2.2 hst]) (fun y => by rw [← hy y]; exact fo_bin.symm) (fun _ => (by first | lia | (dsimp only [Nat.beq, gI_sI, gI_sL, gI_sA, gI_sM, gL_sI, gL_sL, gL_sA, gL_sM, aI_sI, aI_sL, aI_sA, aI_sM, aL_sI, aL_sL, aL_sA, aL_sM]; lia))) (fun q => absurd q (by decide)))
                    · refine hB _ _ _ _ _ (fun m96 hm96 => ?_)
                      dsimp only [ugo, uwp, ust, uct, rfd, Breduce, Nat.beq, lv_args, rlk, rs1, rs2, rdl, rky, rcd, rno, rsw, Value.category, List.filter, List.take, List.drop, List.reverse, List.reverseAux, List.cons_append, List.nil_append, Option.toList, Int.toNat, Int.reduceToNat, if_pos, if_neg, reduceIte, ↓reduceIte, Nat.reduceAdd, Nat.reduceEqDiff, Nat.reduceBEq, beq_self_eq_true, Bool.not_true, Bool.not_false, Bool.and_true, Bool.and_false, Bool.true_and, Bool.false_and, gI_sI, gI_sL, gI_sA, gI_sM, gL_sI, gL_sL, gL_sA, gL_sM, aI_sI, aI_sL, aI_sA, aI_sM, aL_sI, aL_sL, aL_sA, aL_sM, Breduce_0, Breduce_7, Breduce_11, Breduce_12, Breduce_13, Breduce_17, Breduce_33, Breduce_38, Breduce_43, Breduce_62, Breduce_66, Breduce_67, Breduce_74, Breduce_75, Breduce_112, Breduce_130, Breduce_135, Breduce_143, Breduce_148, Breduce_150, Breduce_202, Breduce_231, Breduce_235, Breduce_237, Breduce_253, Breduce_260, Breduce_264, Breduce_265, Breduce_269, oi_0, oi_1, oi_11, oi_2, oi_307, oi_308, oi_5, oi_6, oi_7, oi_9]; try dsimp only
                      refine hB _ _ _ _ _ (fun m97 hm97 => ?_)
                      dsimp only [ugo, uwp, ust, uct, rfd, Breduce, Nat.beq, lv_args, rlk, rs1, rs2, rdl, rky, rcd, rno, rsw, Value.category, List.filter, List.take, List.drop, List.reverse, List.reverseAux, List.cons_append, List.nil_append, Option.toList, Int.toNat, Int.reduceToNat, if_pos, if_neg, reduceIte, ↓reduceIte, Nat.reduceAdd, Nat.reduceEqDiff, Nat.reduceBEq, beq_self_eq_true, Bool.not_true, Bool.not_false, Bool.and_true, Bool.and_false, Bool.true_and, Bool.false_and, gI_sI, gI_sL, gI_sA, gI_sM, gL_sI, gL_sL, gL_sA, gL_sM, aI_sI, aI_sL, aI_sA, aI_sM, aL_sI, aL_sL, aL_sA, aL_sM, Breduce_0, Breduce_7, Breduce_11, Breduce_12, Breduce_13, Breduce_17, Breduce_33, Breduce_38, Breduce_43, Breduce_62, Breduce_66, Breduce_67, Breduce_74, Breduce_75, Breduce_112, Breduce_130, Breduce_135, Breduce_143, Breduce_148, Breduce_150, Breduce_202, Breduce_231, Breduce_235, Breduce_237, Breduce_253, Breduce_260, Breduce_264, Breduce_265, Breduce_269, oi_0, oi_1, oi_11, oi_2, oi_307, oi_308, oi_5, oi_6, oi_7, oi_9]; try dsimp only
                      intro p98
                      refine ⟨trivial, fun w99 τ99 hq99 => ?_⟩
                      obtain ⟨rfl, hE99⟩ := hq99 trivial
                      dsimp only [Option.toList, List.cons_append, List.nil_append, Nat.beq, gI_sI, gI_sL, gI_sA, gI_sM, gL_sI, gL_sL, gL_sA, gL_sM, aI_sI, aI_sL, aI_sA, aI_sM, aL_sI, aL_sL, aL_sA, aL_sM]
                      have hXe := XrR.em (σ0 := σ0) (s := z.1) (n := m) (XrR.i (XrR.i hX (k := 29) (by decide)) (k := 31) (by decide)) hE99.1 (by decide)
                      have hOe := OzZ.em (OzZ.i hOp (k := 31) (by decide)) hE99.1
                      have hPe := PcM.em (z := z') (x := chnZ x t st a mk (xnM z') z'.1) (PcM.i (PcM.i hPc (k := 29) (by decide)) (k := 31) (by decide)) hE99 (cm_chn (by rw [if_pos ((sg_307 hsg).1.mp (by lia))]; rfl) (by rw [n32]; exact hv0) hB3 hsg)
                      have g18e : gI τ99 18 = gI Y 18 + 1 := hE99.1.2.1
                      have gne := hE99.n
                      intro p100
                      intro p101
                      refine hB _ _ _ _ _ (fun m102 hm102 => ?_)
                      dsimp only [ugo, uwp, ust, uct, rfd, Breduce, Nat.beq, lv_args, rlk, rs1, rs2, rdl, rky, rcd, rno, rsw, Value.category, List.filter, List.take, List.drop, List.reverse, List.reverseAux, List.cons_append, List.nil_append, Option.toList, Int.toNat, Int.reduceToNat, if_pos, if_neg, reduceIte, ↓reduceIte, Nat.reduceAdd, Nat.reduceEqDiff, Nat.reduceBEq, beq_self_eq_true, Bool.not_true, Bool.not_false, Bool.and_true, Bool.and_false, Bool.true_and, Bool.false_and, gI_sI, gI_sL, gI_sA, gI_sM, gL_sI, gL_sL, gL_sA, gL_sM, aI_sI, aI_sL, aI_sA, aI_sM, aL_sI, aL_sL, aL_sA, aL_sM, Breduce_0, Breduce_7, Breduce_11, Breduce_12, Breduce_13, Breduce_17, Breduce_33, Breduce_38, Breduce_43, Breduce_62, Breduce_66, Breduce_67, Breduce_74, Breduce_75, Breduce_112, Breduce_130, Breduce_135, Breduce_143, Breduce_148, Breduce_150, Breduce_202, Breduce_231, Breduce_235, Breduce_237, Breduce_253, Breduce_260, Breduce_264, Breduce_265, Breduce_269, oi_0, oi_1, oi_11, oi_2, oi_307, oi_308, oi_5, oi_6, oi_7, oi_9]; try dsimp only
                      refine ⟨fun h103 => ?_, fun h103 => ?_⟩
                      · refine hB _ _ _ _ _ (fun m104 hm104 => ?_)
                        dsimp only [ugo, uwp, ust, uct, rfd, Breduce, Nat.beq, lv_args, rlk, rs1, rs2, rdl, rky, rcd, rno, rsw, Value.category, List.filter, List.take, List.drop, List.reverse, List.reverseAux, List.cons_append, List.nil_append, Option.toList, Int.toNat, Int.reduceToNat, if_pos, if_neg, reduceIte, ↓reduceIte, Nat.reduceAdd, Nat.reduceEqDiff, Nat.reduceBEq, beq_self_eq_true, Bool.not_true, Bool.not_false, Bool.and_true, Bool.and_false, Bool.true_and, Bool.false_and, gI_sI, gI_sL, gI_sA, gI_sM, gL_sI, gL_sL, gL_sA, gL_sM, aI_sI, aI_sL, aI_sA, aI_sM, aL_sI, aL_sL, aL_sA, aL_sM, Breduce_0, Breduce_7, Breduce_11, Breduce_12, Breduce_13, Breduce_17, Breduce_33, Breduce_38, Breduce_43, Breduce_62, Breduce_66, Breduce_67, Breduce_74, Breduce_75, Breduce_112, Breduce_130, Breduce_135, Breduce_143, Breduce_148, Breduce_150, Breduce_202, Breduce_231, Breduce_235, Breduce_237, Breduce_253, Breduce_260, Breduce_264, Breduce_265, Breduce_269, oi_0, oi_1, oi_11, oi_2, oi_307, oi_308, oi_5, oi_6, oi_7, oi_9]; try dsimp only
                        refine hB _ _ _ _ _ (fun m105 hm105 => ?_)
                        dsimp only [ugo, uwp, ust, uct, rfd, Breduce, Nat.beq, lv_args, rlk, rs1, rs2, rdl, rky, rcd, rno, rsw, Value.category, List.filter, List.take, List.drop, List.reverse, List.reverseAux, List.cons_append, List.nil_append, Option.toList, Int.toNat, Int.reduceToNat, if_pos, if_neg, reduceIte, ↓reduceIte, Nat.reduceAdd, Nat.reduceEqDiff, Nat.reduceBEq, beq_self_eq_true, Bool.not_true, Bool.not_false, Bool.and_true, Bool.and_false, Bool.true_and, Bool.false_and, gI_sI, gI_sL, gI_sA, gI_sM, gL_sI, gL_sL, gL_sA, gL_sM, aI_sI, aI_sL, aI_sA, aI_sM, aL_sI, aL_sL, aL_sA, aL_sM, Breduce_0, Breduce_7, Breduce_11, Breduce_12, Breduce_13, Breduce_17, Breduce_33, Breduce_38, Breduce_43, Breduce_62, Breduce_66, Breduce_67, Breduce_74, Breduce_75, Breduce_112, Breduce_130, Breduce_135, Breduce_143, Breduce_148, Breduce_150, Breduce_202, Breduce_231, Breduce_235, Breduce_237, Breduce_253, Breduce_260, Breduce_264, Breduce_265, Breduce_269, oi_0, oi_1, oi_11, oi_2, oi_307, oi_308, oi_5, oi_6, oi_7, oi_9]; try dsimp only
                        have b18 := hE99.1.2.2.2.2.2
                        have c1 : 0 ≤ (gI Y 18).toInt := Int32.le_iff_toInt_le.mp b18.1
                        have c2 : (gI Y 18).toInt < 4000 := Int32.lt_iff_toInt_lt.mp b18.2
                        have e18 : (gI Y 18).toInt + 1 = (gI τ99 18).toInt := by rw [g18e, i32_add (by omega) (by omega)]
                        exact hW _ 13 [(0, .ref 1000), (1, .int least), (2, .int 0)] _ _ _ (by simp [rdl, rky]) (loop _ (by omega) _ m O1 (t, st) (puM (chnZ x t st a mk (xnM z') z'.1) z') 0 (XrR.a (XrR.i hXe (by decide)) (by decide)) hz (OzZ.a (OzZ.i hOe (by decide)) (by decide)) (by rw [← hb, nb_c, if_pos rfl]; omega)
                          ⟨(congrArg Int32.toInt (hE99.1.1 31 (by decide))).trans e31, (congrArg Int32.toInt (congrFun (hE99.1.2.2.2.2.1 30 (by decide)) _)).trans hv0, (congrArg Int32.toInt (hE99.1.1 32 (by decide))).trans hBh.2.2.1, e18⟩
                          (PcM.b (PcM.i hPe (by decide)) gne.symm (show ¬ (7 : Int) ≤ 0 ∧ ¬ (7 : Int) = 15 by decide)) (by rw [← hf, bin_cls hO.2.2 hst]) (fun y => by rw [← hy y]; exact fo_bin.symm) (fun q => absurd rfl q) (fun _ => (by first | lia | (dsimp only [Nat.beq, gI_sI, gI_sL, gI_sA, gI_sM, gL_sI, gL_sL, gL_sA, gL_sM, aI_sI, aI_sL, aI_sA, aI_sM, aL_sI, aL_sL, aL_sA, aL_sM]; lia))))
                      · refine hB _ _ _ _ _ (fun m106 hm106 => ?_)
                        dsimp only [ugo, uwp, ust, uct, rfd, Breduce, Nat.beq, lv_args, rlk, rs1, rs2, rdl, rky, rcd, rno, rsw, Value.category, List.filter, List.take, List.drop, List.reverse, List.reverseAux, List.cons_append, List.nil_append, Option.toList, Int.toNat, Int.reduceToNat, if_pos, if_neg, reduceIte, ↓reduceIte, Nat.reduceAdd, Nat.reduceEqDiff, Nat.reduceBEq, beq_self_eq_true, Bool.not_true, Bool.not_false, Bool.and_true, Bool.and_false, Bool.true_and, Bool.false_and, gI_sI, gI_sL, gI_sA, gI_sM, gL_sI, gL_sL, gL_sA, gL_sM, aI_sI, aI_sL, aI_sA, aI_sM, aL_sI, aL_sL, aL_sA, aL_sM, Breduce_0, Breduce_7, Breduce_11, Breduce_12, Breduce_13, Breduce_17, Breduce_33, Breduce_38, Breduce_43, Breduce_62, Breduce_66, Breduce_67, Breduce_74, Breduce_75, Breduce_112, Breduce_130, Breduce_135, Breduce_143, Breduce_148, Breduce_150, Breduce_202, Breduce_231, Breduce_235, Breduce_237, Breduce_253, Breduce_260, Breduce_264, Breduce_265, Breduce_269, oi_0, oi_1, oi_11, oi_2, oi_307, oi_308, oi_5, oi_6, oi_7, oi_9]; try dsimp only
                        refine hB _ _ _ _ _ (fun m107 hm107 => ?_)
                        dsimp only [ugo, uwp, ust, uct, rfd, Breduce, Nat.beq, lv_args, rlk, rs1, rs2, rdl, rky, rcd, rno, rsw, Value.category, List.filter, List.take, List.drop, List.reverse, List.reverseAux, List.cons_append, List.nil_append, Option.toList, Int.toNat, Int.reduceToNat, if_pos, if_neg, reduceIte, ↓reduceIte, Nat.reduceAdd, Nat.reduceEqDiff, Nat.reduceBEq, beq_self_eq_true, Bool.not_true, Bool.not_false, Bool.and_true, Bool.and_false, Bool.true_and, Bool.false_and, gI_sI, gI_sL, gI_sA, gI_sM, gL_sI, gL_sL, gL_sA, gL_sM, aI_sI, aI_sL, aI_sA, aI_sM, aL_sI, aL_sL, aL_sA, aL_sM, Breduce_0, Breduce_7, Breduce_11, Breduce_12, Breduce_13, Breduce_17, Breduce_33, Breduce_38, Breduce_43, Breduce_62, Breduce_66, Breduce_67, Breduce_74, Breduce_75, Breduce_112, Breduce_130, Breduce_135, Breduce_143, Breduce_148, Breduce_150, Breduce_202, Breduce_231, Breduce_235, Breduce_237, Breduce_253, Breduce_260, Breduce_264, Breduce_265, Breduce_269, oi_0, oi_1, oi_11, oi_2, oi_307, oi_308, oi_5, oi_6, oi_7, oi_9]; try dsimp only
                        have b18 := hE99.1.2.2.2.2.2
                        have c1 : 0 ≤ (gI Y 18).toInt := Int32.le_iff_toInt_le.mp b18.1
                        have c2 : (gI Y 18).toInt < 4000 := Int32.lt_iff_toInt_lt.mp b18.2
                        have e18 : (gI Y 18).toInt + 1 = (gI τ99 18).toInt := by rw [g18e, i32_add (by omega) (by omega)]
                        exact hW _ 13 [(0, .ref 1000), (1, .int least), (2, .int 1)] _ _ _ (by simp [rdl, rky]) (loop _ (by omega) _ m O1 (t, st) (puM (chnZ x t st a mk (xnM z') z'.1) z') 1 (XrR.a (XrR.i hXe (by decide)) (by decide)) hz (OzZ.a (OzZ.i hOe (by decide)) (by decide)) (by rw [← hb, nb_c, if_pos rfl]; omega)
                          ⟨(congrArg Int32.toInt (hE99.1.1 31 (by decide))).trans e31, (congrArg Int32.toInt (congrFun (hE99.1.2.2.2.2.1 30 (by decide)) _)).trans hv0, (congrArg Int32.toInt (hE99.1.1 32 (by decide))).trans hBh.2.2.1, e18⟩
                          (PcM.b (PcM.i hPe (by decide)) gne.symm (show ¬ (7 : Int) ≤ 0 ∧ ¬ (7 : Int) = 15 by decide)) (by rw [← hf, bin_cls hO.2.2 hst]) (fun y => by rw [← hy y]; exact fo_bin.symm) (fun _ => (by first | lia | (dsimp only [Nat.beq, gI_sI, gI_sL, gI_sA, gI_sM, gL_sI, gL_sL, gL_sA, gL_sM, aI_sI, aI_sL, aI_sA, aI_sM, aL_sI, aL_sL, aL_sA, aL_sM]; lia))) (fun q => absurd q (by decide)))
    intro n0
    refine hB _ _ _ _ _ (fun m1 hm1 => ?_)
    dsimp only [ugo, uwp, ust, uct, rfd, Breduce, Nat.beq, lv_args, rlk, rs1, rs2, rdl, rky, rcd, rno, rsw, Value.category, List.filter, List.take, List.drop, List.reverse, List.reverseAux, List.cons_append, List.nil_append, Option.toList, Int.toNat, Int.reduceToNat, if_pos, if_neg, reduceIte, ↓reduceIte, Nat.reduceAdd, Nat.reduceEqDiff, Nat.reduceBEq, beq_self_eq_true, Bool.not_true, Bool.not_false, Bool.and_true, Bool.and_false, Bool.true_and, Bool.false_and, gI_sI, gI_sL, gI_sA, gI_sM, gL_sI, gL_sL, gL_sA, gL_sM, aI_sI, aI_sL, aI_sA, aI_sM, aL_sI, aL_sL, aL_sA, aL_sM, Breduce_0, Breduce_7, Breduce_11, Breduce_12, Breduce_13, Breduce_17, Breduce_33, Breduce_38, Breduce_43, Breduce_62, Breduce_66, Breduce_67, Breduce_74, Breduce_75, Breduce_112, Breduce_130, Breduce_135, Breduce_143, Breduce_148, Breduce_150, Breduce_202, Breduce_231, Breduce_235, Breduce_237, Breduce_253, Breduce_260, Breduce_264, Breduce_265, Breduce_269, oi_0, oi_1, oi_11, oi_2, oi_307, oi_308, oi_5, oi_6, oi_7, oi_9]; try dsimp only
    refine ⟨fun h2 => ?_, fun h2 => ?_⟩
    · refine hB _ _ _ _ _ (fun m3 hm3 => ?_)
      dsimp only [ugo, uwp, ust, uct, rfd, Breduce, Nat.beq, lv_args, rlk, rs1, rs2, rdl, rky, rcd, rno, rsw, Value.category, List.filter, List.take, List.drop, List.reverse, List.reverseAux, List.cons_append, List.nil_append, Option.toList, Int.toNat, Int.reduceToNat, if_pos, if_neg, reduceIte, ↓reduceIte, Nat.reduceAdd, Nat.reduceEqDiff, Nat.reduceBEq, beq_self_eq_true, Bool.not_true, Bool.not_false, Bool.and_true, Bool.and_false, Bool.true_and, Bool.false_and, gI_sI, gI_sL, gI_sA, gI_sM, gL_sI, gL_sL, gL_sA, gL_sM, aI_sI, aI_sL, aI_sA, aI_sM, aL_sI, aL_sL, aL_sA, aL_sM, Breduce_0, Breduce_7, Breduce_11, Breduce_12, Breduce_13, Breduce_17, Breduce_33, Breduce_38, Breduce_43, Breduce_62, Breduce_66, Breduce_67, Breduce_74, Breduce_75, Breduce_112, Breduce_130, Breduce_135, Breduce_143, Breduce_148, Breduce_150, Breduce_202, Breduce_231, Breduce_235, Breduce_237, Breduce_253, Breduce_260, Breduce_264, Breduce_265, Breduce_269, oi_0, oi_1, oi_11, oi_2, oi_307, oi_308, oi_5, oi_6, oi_7, oi_9]; try dsimp only
      refine hB _ _ _ _ _ (fun m4 hm4 => ?_)
      dsimp only [ugo, uwp, ust, uct, rfd, Breduce, Nat.beq, lv_args, rlk, rs1, rs2, rdl, rky, rcd, rno, rsw, Value.category, List.filter, List.take, List.drop, List.reverse, List.reverseAux, List.cons_append, List.nil_append, Option.toList, Int.toNat, Int.reduceToNat, if_pos, if_neg, reduceIte, ↓reduceIte, Nat.reduceAdd, Nat.reduceEqDiff, Nat.reduceBEq, beq_self_eq_true, Bool.not_true, Bool.not_false, Bool.and_true, Bool.and_false, Bool.true_and, Bool.false_and, gI_sI, gI_sL, gI_sA, gI_sM, gL_sI, gL_sL, gL_sA, gL_sM, aI_sI, aI_sL, aI_sA, aI_sM, aL_sI, aL_sL, aL_sA, aL_sM, Breduce_0, Breduce_7, Breduce_11, Breduce_12, Breduce_13, Breduce_17, Breduce_33, Breduce_38, Breduce_43, Breduce_62, Breduce_66, Breduce_67, Breduce_74, Breduce_75, Breduce_112, Breduce_130, Breduce_135, Breduce_143, Breduce_148, Breduce_150, Breduce_202, Breduce_231, Breduce_235, Breduce_237, Breduce_253, Breduce_260, Breduce_264, Breduce_265, Breduce_269, oi_0, oi_1, oi_11, oi_2, oi_307, oi_308, oi_5, oi_6, oi_7, oi_9]; try dsimp only
      exact hW _ 13 [(0, .ref 1000), (1, .int least), (2, .int 0)] _ _ _ (by simp [rdl, rky]) (loop _ _ n O r z 0 hX rfl hO rfl hBh hPc rfl (fun _ => rfl) (fun q => absurd rfl q) (fun _ => by lia))
    · refine hB _ _ _ _ _ (fun m5 hm5 => ?_)
      dsimp only [ugo, uwp, ust, uct, rfd, Breduce, Nat.beq, lv_args, rlk, rs1, rs2, rdl, rky, rcd, rno, rsw, Value.category, List.filter, List.take, List.drop, List.reverse, List.reverseAux, List.cons_append, List.nil_append, Option.toList, Int.toNat, Int.reduceToNat, if_pos, if_neg, reduceIte, ↓reduceIte, Nat.reduceAdd, Nat.reduceEqDiff, Nat.reduceBEq, beq_self_eq_true, Bool.not_true, Bool.not_false, Bool.and_true, Bool.and_false, Bool.true_and, Bool.false_and, gI_sI, gI_sL, gI_sA, gI_sM, gL_sI, gL_sL, gL_sA, gL_sM, aI_sI, aI_sL, aI_sA, aI_sM, aL_sI, aL_sL, aL_sA, aL_sM, Breduce_0, Breduce_7, Breduce_11, Breduce_12, Breduce_13, Breduce_17, Breduce_33, Breduce_38, Breduce_43, Breduce_62, Breduce_66, Breduce_67, Breduce_74, Breduce_75, Breduce_112, Breduce_130, Breduce_135, Breduce_143, Breduce_148, Breduce_150, Breduce_202, Breduce_231, Breduce_235, Breduce_237, Breduce_253, Breduce_260, Breduce_264, Breduce_265, Breduce_269, oi_0, oi_1, oi_11, oi_2, oi_307, oi_308, oi_5, oi_6, oi_7, oi_9]; try dsimp only
      refine hB _ _ _ _ _ (fun m6 hm6 => ?_)
      dsimp only [ugo, uwp, ust, uct, rfd, Breduce, Nat.beq, lv_args, rlk, rs1, rs2, rdl, rky, rcd, rno, rsw, Value.category, List.filter, List.take, List.drop, List.reverse, List.reverseAux, List.cons_append, List.nil_append, Option.toList, Int.toNat, Int.reduceToNat, if_pos, if_neg, reduceIte, ↓reduceIte, Nat.reduceAdd, Nat.reduceEqDiff, Nat.reduceBEq, beq_self_eq_true, Bool.not_true, Bool.not_false, Bool.and_true, Bool.and_false, Bool.true_and, Bool.false_and, gI_sI, gI_sL, gI_sA, gI_sM, gL_sI, gL_sL, gL_sA, gL_sM, aI_sI, aI_sL, aI_sA, aI_sM, aL_sI, aL_sL, aL_sA, aL_sM, Breduce_0, Breduce_7, Breduce_11, Breduce_12, Breduce_13, Breduce_17, Breduce_33, Breduce_38, Breduce_43, Breduce_62, Breduce_66, Breduce_67, Breduce_74, Breduce_75, Breduce_112, Breduce_130, Breduce_135, Breduce_143, Breduce_148, Breduce_150, Breduce_202, Breduce_231, Breduce_235, Breduce_237, Breduce_253, Breduce_260, Breduce_264, Breduce_265, Breduce_269, oi_0, oi_1, oi_11, oi_2, oi_307, oi_308, oi_5, oi_6, oi_7, oi_9]; try dsimp only
      exact hW _ 13 [(0, .ref 1000), (1, .int least), (2, .int 1)] _ _ _ (by simp [rdl, rky]) (loop _ _ n O r z 1 hX rfl hO rfl hBh hPc rfl (fun _ => rfl) (fun _ => by lia) (fun q => absurd q (by decide)))
  next => exact hP.elim
theorem w_reduceZ : UMet 32 (fun _ _ => True) Qw_reduceZ := fun A1 σ _ w τ h N th σ0 z n O r hP => v_reduceZ N th σ0 z n O r A1 σ hP w τ h
def Pv_completeZ (N th : Int → Int) (σ0 : RS) (z : ZS) (n : Nat) (O : List OpZ) (r : Int × Int) : UP1 := fun A1 σ => match A1 with
  | [] => XrR σ0 σ z.1 n ∧ OzZ σ O ∧ n + nbY (osZ O) ≤ 21 ∧ BhZ σ z.1 O r ∧ PcM th σ z ∧ ¬ (20 ≤ codY z.1 ∧ codY z.1 ≤ 38) ∧ ¬ codY z.1 = 7
  | _ => False
def Qv_completeZ (N th : Int → Int) (σ0 : RS) (z : ZS) (n : Nat) (O : List OpZ) (r : Int × Int) : UQ1 := fun A1 σ w τ => match A1 with
  | [] => w = none ∧ ∃ (m : Nat) (O' : List OpZ) (r' : Int × Int) (z' : ZS), XrR σ0 τ z.1 m ∧ z'.1 = z.1 ∧ OzZ τ O' ∧ m + nbY (osZ O') = n + nbY (osZ O) ∧ BhZ τ z.1 O' r' ∧ PcM th τ z' ∧ cfM N O' m z' = foM N O [] n r z ∧ cfY (osZ O') m z.1 = foY (osZ O) n z.1 ∧ ¬ tpZ O' = 0 ∧ ¬ tpZ O' = 1 ∧ ¬ tpZ O' = 2 ∧ ¬ tpZ O' = 5 ∧ ¬ tpZ O' = 7
  | _ => False
def Qw_completeZ : UQ1 := fun A1 σ w τ => ∀ (N th : Int → Int) (σ0 : RS) (z : ZS) (n : Nat) (O : List OpZ) (r : Int × Int), Pv_completeZ N th σ0 z n O r A1 σ → Qv_completeZ N th σ0 z n O r A1 σ w τ
theorem str_1 {x : Int} (h : 20 ≤ x ∧ x ≤ 38) : 1 ≤ strZ x := by
  unfold strZ
  repeat' first | omega | split
theorem rd_1 {τ : RS} {O : List OpZ} (h : rdZ 1 O) (hO : OzZ τ O) : ¬ tpZ O = 2 := by
  cases O with
  | nil => decide
  | cons o O =>
    intro q
    have q : o.1 = 2 := q
    have a := h q
    have b := str_1 (hO.1.1.2.1.2.2.1 q)
    have a : strZ o.2.1 < 1 := a
    omega
set_option maxRecDepth 100000 in
set_option maxHeartbeats 4000000 in
theorem v_completeZ (N th : Int → Int) (σ0 : RS) (z : ZS) (n : Nat) (O : List OpZ) (r : Int × Int) : UMet 33 (Pv_completeZ N th σ0 z n O r) (Qv_completeZ N th σ0 z n O r) := by
  refine UMet.by Bcomplete [(21, (fun _ _ => True), Qw_emitExpZ), (32, (fun _ _ => True), Qw_reduceZ)] rfl (ucc w_emitExpZ (ucc w_reduceZ uc0)) ?_
  intro A1 σ hP K hB hW
  unfold Pv_completeZ at hP
  split at hP
  next =>
    obtain ⟨hX, hO, hn, hBh, hPc, hx1, hx7⟩ := hP
    have loop : ∀ (M : Nat) (Y : RS) (m : Nat) (O' : List OpZ) (r' : Int × Int) (z' : ZS) (more : Int32), XrR σ0 Y z.1 m → z'.1 = z.1 → OzZ Y O' → m + nbY (osZ O') = n + nbY (osZ O) → BhZ Y z.1 O' r' → PcM th Y z' → cfM N O' m z' = foM N O [] n r z → cfY (osZ O') m z.1 = foY (osZ O) n z.1 → (¬ tpZ O' = 0 ∧ ¬ tpZ O' = 1 ∧ ¬ tpZ O' = 2) → (¬ more = 0 → 0 < gI Y 29) → (more = 0 → gI Y 29 ≤ 0) → K M 18 [(0, .ref 1000), (1, .int more)] [] Y := by
      intro M
      induction M using Nat.strongRecOn with
      | ind M loop =>
        intro Y m O' r' z' more hX hz hO hb hBh hPc hf hy ht hmo hmz
        refine hB _ _ _ _ _ (fun m1 hm1 => ?_)
        dsimp only [ugo, uwp, ust, uct, rfd, Bcomplete, Nat.beq, lv_args, rlk, rs1, rs2, rdl, rky, rcd, rno, rsw, Value.category, List.filter, List.take, List.drop, List.reverse, List.reverseAux, List.cons_append, List.nil_append, Option.toList, Int.toNat, Int.reduceToNat, if_pos, if_neg, reduceIte, ↓reduceIte, Nat.reduceAdd, Nat.reduceEqDiff, Nat.reduceBEq, beq_self_eq_true, Bool.not_true, Bool.not_false, Bool.and_true, Bool.and_false, Bool.true_and, Bool.false_and, gI_sI, gI_sL, gI_sA, gI_sM, gL_sI, gL_sL, gL_sA, gL_sM, aI_sI, aI_sL, aI_sA, aI_sM, aL_sI, aL_sL, aL_sA, aL_sM, Bcomplete_0, Bcomplete_12, Bcomplete_16, Bcomplete_17, Bcomplete_18, Bcomplete_22, Bcomplete_40, Bcomplete_45, Bcomplete_46, Bcomplete_82, Bcomplete_160, Bcomplete_217, Bcomplete_229, Bcomplete_233, Bcomplete_234, Bcomplete_238, oi_0, oi_1, oi_14, oi_17, oi_2, oi_5, oi_7]; try dsimp only
        refine ⟨fun h2 => ?_, fun h2 => ?_⟩
        · refine hB _ _ _ _ _ (fun m3 hm3 => ?_)
          dsimp only [ugo, uwp, ust, uct, rfd, Bcomplete, Nat.beq, lv_args, rlk, rs1, rs2, rdl, rky, rcd, rno, rsw, Value.category, List.filter, List.take, List.drop, List.reverse, List.reverseAux, List.cons_append, List.nil_append, Option.toList, Int.toNat, Int.reduceToNat, if_pos, if_neg, reduceIte, ↓reduceIte, Nat.reduceAdd, Nat.reduceEqDiff, Nat.reduceBEq, beq_self_eq_true, Bool.not_true, Bool.not_false, Bool.and_true, Bool.and_false, Bool.true_and, Bool.false_and, gI_sI, gI_sL, gI_sA, gI_sM, gL_sI, gL_sL, gL_sA, gL_sM, aI_sI, aI_sL, aI_sA, aI_sM, aL_sI, aL_sL, aL_sA, aL_sM, Bcomplete_0, Bcomplete_12, Bcomplete_16, Bcomplete_17, Bcomplete_18, Bcomplete_22, Bcomplete_40, Bcomplete_45, Bcomplete_46, Bcomplete_82, Bcomplete_160, Bcomplete_217, Bcomplete_229, Bcomplete_233, Bcomplete_234, Bcomplete_238, oi_0, oi_1, oi_14, oi_17, oi_2, oi_5, oi_7]; try dsimp only
          unfold Qv_completeZ
          try dsimp only
          have e := hO.nil (hmz (by lia))
          subst e
          exact ⟨rfl, m, [], r', z', hX, hz, hO, hb, hBh, hPc, hf, hy, ht.1, ht.2.1, ht.2.2, by decide, by decide⟩
        · refine hB _ _ _ _ _ (fun m4 hm4 => ?_)
          dsimp only [ugo, uwp, ust, uct, rfd, Bcomplete, Nat.beq, lv_args, rlk, rs1, rs2, rdl, rky, rcd, rno, rsw, Value.category, List.filter, List.take, List.drop, List.reverse, List.reverseAux, List.cons_append, List.nil_append, Option.toList, Int.toNat, Int.reduceToNat, if_pos, if_neg, reduceIte, ↓reduceIte, Nat.reduceAdd, Nat.reduceEqDiff, Nat.reduceBEq, beq_self_eq_true, Bool.not_true, Bool.not_false, Bool.and_true, Bool.and_false, Bool.true_and, Bool.false_and, gI_sI, gI_sL, gI_sA, gI_sM, gL_sI, gL_sL, gL_sA, gL_sM, aI_sI, aI_sL, aI_sA, aI_sM, aL_sI, aL_sL, aL_sA, aL_sM, Bcomplete_0, Bcomplete_12, Bcomplete_16, Bcomplete_17, Bcomplete_18, Bcomplete_22, Bcomplete_40, Bcomplete_45, Bcomplete_46, Bcomplete_82, Bcomplete_160, Bcomplete_217, Bcomplete_229, Bcomplete_233, Bcomplete_234, Bcomplete_238, oi_0, oi_1, oi_14, oi_17, oi_2, oi_5, oi_7]; try dsimp only
          obtain ⟨⟨k, x, t, st, l⟩, O1, rfl⟩ := hO.cons (hmo (by lia))
          have htop := hO.top
          have hx25 : (aI Y 25 (gI Y 29 - 1).toNatClampNeg).toInt = k := by rw [htop]; exact hO.1.1.1
          intro p5
          refine ⟨fun h6 => ?_, fun h6 => ?_⟩
          · refine hB _ _ _ _ _ (fun m7 hm7 => ?_)
            dsimp only [ugo, uwp, ust, uct, rfd, Bcomplete, Nat.beq, lv_args, rlk, rs1, rs2, rdl, rky, rcd, rno, rsw, Value.category, List.filter, List.take, List.drop, List.reverse, List.reverseAux, List.cons_append, List.nil_append, Option.toList, Int.toNat, Int.reduceToNat, if_pos, if_neg, reduceIte, ↓reduceIte, Nat.reduceAdd, Nat.reduceEqDiff, Nat.reduceBEq, beq_self_eq_true, Bool.not_true, Bool.not_false, Bool.and_true, Bool.and_false, Bool.true_and, Bool.false_and, gI_sI, gI_sL, gI_sA, gI_sM, gL_sI, gL_sL, gL_sA, gL_sM, aI_sI, aI_sL, aI_sA, aI_sM, aL_sI, aL_sL, aL_sA, aL_sM, Bcomplete_0, Bcomplete_12, Bcomplete_16, Bcomplete_17, Bcomplete_18, Bcomplete_22, Bcomplete_40, Bcomplete_45, Bcomplete_46, Bcomplete_82, Bcomplete_160, Bcomplete_217, Bcomplete_229, Bcomplete_233, Bcomplete_234, Bcomplete_238, oi_0, oi_1, oi_14, oi_17, oi_2, oi_5, oi_7]; try dsimp only
            obtain rfl : k = 7 := by rw [← hx25]; exact congrArg Int32.toInt (show aI Y 25 (gI Y 29 - 1).toNatClampNeg = 7 by lia)
            have hx26 := hO.1.1.2.1
            have hx27 := hO.1.1.2.2.1
            rw [← htop] at hx26 hx27
            dsimp only at hx26 hx27
            have hOp := hO.pop
            have hB1 := hBh.1
            have hB3 := hBh.2.2.1
            rw [← hz] at hB3
            have hw1 := hO.2.2.2.2.1 (show (5 : Int) ≤ 7 by decide)
            obtain ⟨a, b, mk, rfl⟩ := hO.1.1.2.2.2.2.2.2.2.2 rfl
            have hv0 := hO.1.1.2.2.2.2.1 (Or.inr (Or.inr rfl))
            dsimp only at hv0
            rw [vn_7] at hB1
            have e31 : (gI Y 31 - 2).toInt = vnZ O1 + 1 := by rw [i32_sb (by decide) (by rw [hB1]; show (2 : Int) ≤ _; omega), hB1]; show _ - (2 : Int) = _; omega
            have e32 : (gI Y 31 - 2 - 1).toInt = vnZ O1 := by rw [i32_sb (by decide) (by rw [e31]; show (1 : Int) ≤ _; omega), e31]; show _ - (1 : Int) = _; omega
            have n32 := nT_i e32
            intro p8
            refine ⟨fun h9 => ?_, fun h9 => ?_⟩
            · exfalso; lia
            · refine hB _ _ _ _ _ (fun m10 hm10 => ?_)
              dsimp only [ugo, uwp, ust, uct, rfd, Bcomplete, Nat.beq, lv_args, rlk, rs1, rs2, rdl, rky, rcd, rno, rsw, Value.category, List.filter, List.take, List.drop, List.reverse, List.reverseAux, List.cons_append, List.nil_append, Option.toList, Int.toNat, Int.reduceToNat, if_pos, if_neg, reduceIte, ↓reduceIte, Nat.reduceAdd, Nat.reduceEqDiff, Nat.reduceBEq, beq_self_eq_true, Bool.not_true, Bool.not_false, Bool.and_true, Bool.and_false, Bool.true_and, Bool.false_and, gI_sI, gI_sL, gI_sA, gI_sM, gL_sI, gL_sL, gL_sA, gL_sM, aI_sI, aI_sL, aI_sA, aI_sM, aL_sI, aL_sL, aL_sA, aL_sM, Bcomplete_0, Bcomplete_12, Bcomplete_16, Bcomplete_17, Bcomplete_18, Bcomplete_22, Bcomplete_40, Bcomplete_45, Bcomplete_46, Bcomplete_82, Bcomplete_160, Bcomplete_217, Bcomplete_229, Bcomplete_233, Bcomplete_234, Bcomplete_238, oi_0, oi_1, oi_14, oi_17, oi_2, oi_5, oi_7]; try dsimp only
              intro p11
              refine ⟨trivial, fun w12 τ12 hq12 => ?_⟩
              obtain ⟨rfl, hE12⟩ := hq12 trivial
              dsimp only [Option.toList, List.cons_append, List.nil_append, Nat.beq, gI_sI, gI_sL, gI_sA, gI_sM, gL_sI, gL_sL, gL_sA, gL_sM, aI_sI, aI_sL, aI_sA, aI_sM, aL_sI, aL_sL, aL_sA, aL_sM]
              have hXe := XrR.em (σ0 := σ0) (s := z.1) (n := m + 1) (XrR.i (XrR.up (XrR.i hX (k := 29) (by decide)) (by omega)) (k := 31) (by decide)) hE12.1 (by decide)
              have hOe := OzZ.em (OzZ.i (OzZ.i hOp (k := 17) (by decide)) (k := 31) (by decide)) hE12.1
              have hPe := PcM.em (z := z') (x := chrZ t st a b mk (xnM z') z'.1) (PcM.i (PcM.i (PcM.i hPc (k := 29) (by decide)) (k := 17) (by decide)) (k := 31) (by decide)) hE12 (cm_chr (by decide) (by rw [n32]; exact hv0) hB3)
              have g18e : gI τ12 18 = gI Y 18 + 1 := hE12.1.2.1
              have gne := hE12.n
              intro p13
              intro p14
              intro p15
              intro p16
              have b18 := hE12.1.2.2.2.2.2
              have c1 : 0 ≤ (gI Y 18).toInt := Int32.le_iff_toInt_le.mp b18.1
              have c2 : (gI Y 18).toInt < 4000 := Int32.lt_iff_toInt_lt.mp b18.2
              have e18 : (gI Y 18).toInt + 1 = (gI τ12 18).toInt := by rw [g18e, i32_add (by omega) (by omega)]
              have ck : nT (gI σ0 18) < nT (gI Y 18) + 1 := Nat.lt_succ_of_le hX.2.2.2.1
              refine hB _ _ _ _ _ (fun m17 hm17 => ?_)
              dsimp only [ugo, uwp, ust, uct, rfd, Bcomplete, Nat.beq, lv_args, rlk, rs1, rs2, rdl, rky, rcd, rno, rsw, Value.category, List.filter, List.take, List.drop, List.reverse, List.reverseAux, List.cons_append, List.nil_append, Option.toList, Int.toNat, Int.reduceToNat, if_pos, if_neg, reduceIte, ↓reduceIte, Nat.reduceAdd, Nat.reduceEqDiff, Nat.reduceBEq, beq_self_eq_true, Bool.not_true, Bool.not_false, Bool.and_true, Bool.and_false, Bool.true_and, Bool.false_and, gI_sI, gI_sL, gI_sA, gI_sM, gL_sI, gL_sL, gL_sA, gL_sM, aI_sI, aI_sL, aI_sA, aI_sM, aL_sI, aL_sL, aL_sA, aL_sM, Bcomplete_0, Bcomplete_12, Bcomplete_16, Bcomplete_17, Bcomplete_18, Bcomplete_22, Bcomplete_40, Bcomplete_45, Bcomplete_46, Bcomplete_82, Bcomplete_160, Bcomplete_217, Bcomplete_229, Bcomplete_233, Bcomplete_234, Bcomplete_238, oi_0, oi_1, oi_14, oi_17, oi_2, oi_5, oi_7]; try dsimp only
              refine ⟨trivial, fun w18 τ18 hq18 => ?_⟩
              have hq18 := hq18 N th σ0 (puM (chrZ t st a b mk (xnM z') z'.1) z') (m + 1) O1 (t, st) ⟨(by show XrR _ _ z'.1 _; rw [hz]; exact XrR.a (k := 21) (XrR.ca (XrR.i (k := 33) hXe (by decide)) (Nat.le_of_lt_succ ck)) (by decide)), (OzZ.a (k := 21) (OzZ.a (k := 20) (OzZ.i (k := 33) hOe (by decide)) (by decide)) (by decide)), (by rw [nb_c, if_neg (by decide)] at hb; omega), ⟨(congrArg Int32.toInt (hE12.1.1 31 (by decide))).trans e31, (congrArg Int32.toInt (congrFun (hE12.1.2.2.2.2.1 30 (by decide)) _)).trans hv0, (congrArg Int32.toInt (hE12.1.1 32 (by decide))).trans (hBh.2.2.1.trans (by show _ = zAt z'.1 - 1; rw [hz])), e18⟩, (PcM.b (PcM.q (PcM.i (k := 33) hPe (by decide)) gne.symm rfl) gne.symm (show ¬ (8 : Int) ≤ 0 ∧ ¬ (8 : Int) = 15 by decide)), (fun q => absurd (show 20 ≤ codY z.1 ∧ codY z.1 ≤ 38 by rw [← hz]; exact q) hx1), (fun _ => rfl)⟩
              obtain ⟨rfl, m18_, O18_, r18_, z18_, hX18, hz18_, hO18, hb18, hB18, hP18, hf18, hy18, ht0_18, ht1_18, ht2_18⟩ := hq18
              dsimp only [Option.toList, List.cons_append, List.nil_append, Nat.beq, gI_sI, gI_sL, gI_sA, gI_sM, gL_sI, gL_sL, gL_sA, gL_sM, aI_sI, aI_sL, aI_sA, aI_sM, aL_sI, aL_sL, aL_sA, aL_sM]
              have hzz : z18_.1 = z.1 := hz18_.trans hz
              have ht2 := rd_1 ht2_18 hO18
              have hX18' : XrR σ0 τ18 z.1 m18_ := by
                have q := hX18
                have q : XrR σ0 τ18 z'.1 m18_ := q
                rw [hz] at q
                exact q
              have hB18' : BhZ τ18 z.1 O18_ r18_ := by
                have q : BhZ τ18 z'.1 O18_ r18_ := hB18
                rw [hz] at q
                exact q
              have hb18' : m18_ + nbY (osZ O18_) = n + nbY (osZ O) := by rw [hb18, ← hb, nb_c, if_neg (by decide)]; omega
              have hx1' : ¬ (20 ≤ codY (puM (chrZ t st a b mk (xnM z') z'.1) z').1 ∧ codY (puM (chrZ t st a b mk (xnM z') z'.1) z').1 ≤ 38) := by show ¬ (20 ≤ codY z'.1 ∧ codY z'.1 ≤ 38); rw [hz]; exact hx1
              have hx7' : ¬ codY (puM (chrZ t st a b mk (xnM z') z'.1) z').1 = 7 := by show ¬ codY z'.1 = 7; rw [hz]; exact hx7
              have hf18' : cfM N O18_ m18_ z18_ = foM N O [] n r z := by
                rw [← fo_endM (r := r18_) ⟨ht0_18, ht1_18, ht2⟩ (by rw [hzz]; exact hx1) (by rw [hzz]; exact hx7), hf18, fo_endM hw1 hx1' hx7', ← hf]
                exact (cf_choM (N := N) (O := O1) (x := x) (n := m) (z := z')).symm
              have hy18' : cfY (osZ O18_) m18_ z.1 = foY (osZ O) n z.1 := by
                rw [← fo_end (O := osZ O18_) ⟨ht0_18, ht1_18, ht2⟩ hx1 hx7, hy18, fo_end (O := osZ O1) hw1 hx1 hx7, ← hy]
                exact (cf_col).symm
              refine ⟨fun h19 => ?_, fun h19 => ?_⟩
              · refine hB _ _ _ _ _ (fun m20 hm20 => ?_)
                dsimp only [ugo, uwp, ust, uct, rfd, Bcomplete, Nat.beq, lv_args, rlk, rs1, rs2, rdl, rky, rcd, rno, rsw, Value.category, List.filter, List.take, List.drop, List.reverse, List.reverseAux, List.cons_append, List.nil_append, Option.toList, Int.toNat, Int.reduceToNat, if_pos, if_neg, reduceIte, ↓reduceIte, Nat.reduceAdd, Nat.reduceEqDiff, Nat.reduceBEq, beq_self_eq_true, Bool.not_true, Bool.not_false, Bool.and_true, Bool.and_false, Bool.true_and, Bool.false_and, gI_sI, gI_sL, gI_sA, gI_sM, gL_sI, gL_sL, gL_sA, gL_sM, aI_sI, aI_sL, aI_sA, aI_sM, aL_sI, aL_sL, aL_sA, aL_sM, Bcomplete_0, Bcomplete_12, Bcomplete_16, Bcomplete_17, Bcomplete_18, Bcomplete_22, Bcomplete_40, Bcomplete_45, Bcomplete_46, Bcomplete_82, Bcomplete_160, Bcomplete_217, Bcomplete_229, Bcomplete_233, Bcomplete_234, Bcomplete_238, oi_0, oi_1, oi_14, oi_17, oi_2, oi_5, oi_7]; try dsimp only
                refine hB _ _ _ _ _ (fun m21 hm21 => ?_)
                dsimp only [ugo, uwp, ust, uct, rfd, Bcomplete, Nat.beq, lv_args, rlk, rs1, rs2, rdl, rky, rcd, rno, rsw, Value.category, List.filter, List.take, List.drop, List.reverse, List.reverseAux, List.cons_append, List.nil_append, Option.toList, Int.toNat, Int.reduceToNat, if_pos, if_neg, reduceIte, ↓reduceIte, Nat.reduceAdd, Nat.reduceEqDiff, Nat.reduceBEq, beq_self_eq_true, Bool.not_true, Bool.not_false, Bool.and_true, Bool.and_false, Bool.true_and, Bool.false_and, gI_sI, gI_sL, gI_sA, gI_sM, gL_sI, gL_sL, gL_sA, gL_sM, aI_sI, aI_sL, aI_sA, aI_sM, aL_sI, aL_sL, aL_sA, aL_sM, Bcomplete_0, Bcomplete_12, Bcomplete_16, Bcomplete_17, Bcomplete_18, Bcomplete_22, Bcomplete_40, Bcomplete_45, Bcomplete_46, Bcomplete_82, Bcomplete_160, Bcomplete_217, Bcomplete_229, Bcomplete_233, Bcomplete_234, Bcomplete_238, oi_0, oi_1, oi_14, oi_17, oi_2, oi_5, oi_7]; try dsimp only
                exact hW _ 18 [(0, .ref 1000), (1, .int 0)] _ _ _ (by simp [rdl, rky]) (loop _ (by omega) _ m18_ O18_ r18_ z18_ 0 hX18' hzz hO18 hb18' hB18' hP18 hf18' hy18' ⟨ht0_18, ht1_18, ht2⟩ (fun q => absurd rfl q) (fun _ => (by first | lia | (dsimp only [Nat.beq, gI_sI, gI_sL, gI_sA, gI_sM, gL_sI, gL_sL, gL_sA, gL_sM, aI_sI, aI_sL, aI_sA, aI_sM, aL_sI, aL_sL, aL_sA, aL_sM]; lia))))
              · refine hB _ _ _ _ _ (fun m22 hm22 => ?_)
                dsimp only [ugo, uwp, ust, uct, rfd, Bcomplete, Nat.beq, lv_args, rlk, rs1, rs2, rdl, rky, rcd, rno, rsw, Value.category, List.filter, List.take, List.drop, List.reverse, List.reverseAux, List.cons_append, List.nil_append, Option.toList, Int.toNat, Int.reduceToNat, if_pos, if_neg, reduceIte, ↓reduceIte, Nat.reduceAdd, Nat.reduceEqDiff, Nat.reduceBEq, beq_self_eq_true, Bool.not_true, Bool.not_false, Bool.and_true, Bool.and_false, Bool.true_and, Bool.false_and, gI_sI, gI_sL, gI_sA, gI_sM, gL_sI, gL_sL, gL_sA, gL_sM, aI_sI, aI_sL, aI_sA, aI_sM, aL_sI, aL_sL, aL_sA, aL_sM, Bcomplete_0, Bcomplete_12, Bcomplete_16, Bcomplete_17, Bcomplete_18, Bcomplete_22, Bcomplete_40, Bcomplete_45, Bcomplete_46, Bcomplete_82, Bcomplete_160, Bcomplete_217, Bcomplete_229, Bcomplete_233, Bcomplete_234, Bcomplete_238, oi_0, oi_1, oi_14, oi_17, oi_2, oi_5, oi_7]; try dsimp only
                refine hB _ _ _ _ _ (fun m23 hm23 => ?_)
                dsimp only [ugo, uwp, ust, uct, rfd, Bcomplete, Nat.beq, lv_args, rlk, rs1, rs2, rdl, rky, rcd, rno, rsw, Value.category, List.filter, List.take, List.drop, List.reverse, List.reverseAux, List.cons_append, List.nil_append, Option.toList, Int.toNat, Int.reduceToNat, if_pos, if_neg, reduceIte, ↓reduceIte, Nat.reduceAdd, Nat.reduceEqDiff, Nat.reduceBEq, beq_self_eq_true, Bool.not_true, Bool.not_false, Bool.and_true, Bool.and_false, Bool.true_and, Bool.false_and, gI_sI, gI_sL, gI_sA, gI_sM, gL_sI, gL_sL, gL_sA, gL_sM, aI_sI, aI_sL, aI_sA, aI_sM, aL_sI, aL_sL, aL_sA, aL_sM, Bcomplete_0, Bcomplete_12, Bcomplete_16, Bcomplete_17, Bcomplete_18, Bcomplete_22, Bcomplete_40, Bcomplete_45, Bcomplete_46, Bcomplete_82, Bcomplete_160, Bcomplete_217, Bcomplete_229, Bcomplete_233, Bcomplete_234, Bcomplete_238, oi_0, oi_1, oi_14, oi_17, oi_2, oi_5, oi_7]; try dsimp only
                exact hW _ 18 [(0, .ref 1000), (1, .int 1)] _ _ _ (by simp [rdl, rky]) (loop _ (by omega) _ m18_ O18_ r18_ z18_ 1 hX18' hzz hO18 hb18' hB18' hP18 hf18' hy18' ⟨ht0_18, ht1_18, ht2⟩ (fun _ => (by first | lia | (dsimp only [Nat.beq, gI_sI, gI_sL, gI_sA, gI_sM, gL_sI, gL_sL, gL_sA, gL_sM, aI_sI, aI_sL, aI_sA, aI_sM, aL_sI, aL_sL, aL_sA, aL_sM]; lia))) (fun q => absurd q (by decide)))
          · refine hB _ _ _ _ _ (fun m24 hm24 => ?_)
            dsimp only [ugo, uwp, ust, uct, rfd, Bcomplete, Nat.beq, lv_args, rlk, rs1, rs2, rdl, rky, rcd, rno, rsw, Value.category, List.filter, List.take, List.drop, List.reverse, List.reverseAux, List.cons_append, List.nil_append, Option.toList, Int.toNat, Int.reduceToNat, if_pos, if_neg, reduceIte, ↓reduceIte, Nat.reduceAdd, Nat.reduceEqDiff, Nat.reduceBEq, beq_self_eq_true, Bool.not_true, Bool.not_false, Bool.and_true, Bool.and_false, Bool.true_and, Bool.false_and, gI_sI, gI_sL, gI_sA, gI_sM, gL_sI, gL_sL, gL_sA, gL_sM, aI_sI, aI_sL, aI_sA, aI_sM, aL_sI, aL_sL, aL_sA, aL_sM, Bcomplete_0, Bcomplete_12, Bcomplete_16, Bcomplete_17, Bcomplete_18, Bcomplete_22, Bcomplete_40, Bcomplete_45, Bcomplete_46, Bcomplete_82, Bcomplete_160, Bcomplete_217, Bcomplete_229, Bcomplete_233, Bcomplete_234, Bcomplete_238, oi_0, oi_1, oi_14, oi_17, oi_2, oi_5, oi_7]; try dsimp only
            refine ⟨fun h25 => ?_, fun h25 => ?_⟩
            · refine hB _ _ _ _ _ (fun m26 hm26 => ?_)
              dsimp only [ugo, uwp, ust, uct, rfd, Bcomplete, Nat.beq, lv_args, rlk, rs1, rs2, rdl, rky, rcd, rno, rsw, Value.category, List.filter, List.take, List.drop, List.reverse, List.reverseAux, List.cons_append, List.nil_append, Option.toList, Int.toNat, Int.reduceToNat, if_pos, if_neg, reduceIte, ↓reduceIte, Nat.reduceAdd, Nat.reduceEqDiff, Nat.reduceBEq, beq_self_eq_true, Bool.not_true, Bool.not_false, Bool.and_true, Bool.and_false, Bool.true_and, Bool.false_and, gI_sI, gI_sL, gI_sA, gI_sM, gL_sI, gL_sL, gL_sA, gL_sM, aI_sI, aI_sL, aI_sA, aI_sM, aL_sI, aL_sL, aL_sA, aL_sM, Bcomplete_0, Bcomplete_12, Bcomplete_16, Bcomplete_17, Bcomplete_18, Bcomplete_22, Bcomplete_40, Bcomplete_45, Bcomplete_46, Bcomplete_82, Bcomplete_160, Bcomplete_217, Bcomplete_229, Bcomplete_233, Bcomplete_234, Bcomplete_238, oi_0, oi_1, oi_14, oi_17, oi_2, oi_5, oi_7]; try dsimp only
              obtain rfl : k = 5 := by rw [← hx25]; exact congrArg Int32.toInt (show aI Y 25 (gI Y 29 - 1).toNatClampNeg = 5 by lia)
              have hx26 := hO.1.1.2.1
              have hx27 := hO.1.1.2.2.1
              rw [← htop] at hx26 hx27
              dsimp only at hx26 hx27
              have hOp := hO.pop
              have hB1 := hBh.1
              have hB3 := hBh.2.2.1
              rw [← hz] at hB3
              have hw1 := hO.2.2.2.2.1 (show (5 : Int) ≤ 5 by decide)
              obtain ⟨mk, v, rfl⟩ := hO.1.1.2.2.2.2.2.2.1 rfl
              have ht6 : (aI Y 27 (gI Y 29 - 1).toNatClampNeg).toInt = t := hx27 (by decide)
              have hsg := hx26.1 (Or.inr (Or.inr rfl))
              have hsr := hx26.2.2.2 rfl
              have hw2 := hO.2.2.2.2.2.1 rfl
              rw [vn_0 (by decide)] at hB1
              intro p27
              refine ⟨fun h28 => ?_, fun h28 => ?_⟩
              · refine hB _ _ _ _ _ (fun m29 hm29 => ?_)
                dsimp only [ugo, uwp, ust, uct, rfd, Bcomplete, Nat.beq, lv_args, rlk, rs1, rs2, rdl, rky, rcd, rno, rsw, Value.category, List.filter, List.take, List.drop, List.reverse, List.reverseAux, List.cons_append, List.nil_append, Option.toList, Int.toNat, Int.reduceToNat, if_pos, if_neg, reduceIte, ↓reduceIte, Nat.reduceAdd, Nat.reduceEqDiff, Nat.reduceBEq, beq_self_eq_true, Bool.not_true, Bool.not_false, Bool.and_true, Bool.and_false, Bool.true_and, Bool.false_and, gI_sI, gI_sL, gI_sA, gI_sM, gL_sI, gL_sL, gL_sA, gL_sM, aI_sI, aI_sL, aI_sA, aI_sM, aL_sI, aL_sL, aL_sA, aL_sM, Bcomplete_0, Bcomplete_12, Bcomplete_16, Bcomplete_17, Bcomplete_18, Bcomplete_22, Bcomplete_40, Bcomplete_45, Bcomplete_46, Bcomplete_82, Bcomplete_160, Bcomplete_217, Bcomplete_229, Bcomplete_233, Bcomplete_234, Bcomplete_238, oi_0, oi_1, oi_14, oi_17, oi_2, oi_5, oi_7]; try dsimp only
                intro p30
                refine ⟨trivial, fun w31 τ31 hq31 => ?_⟩
                obtain ⟨rfl, hE31⟩ := hq31 trivial
                dsimp only [Option.toList, List.cons_append, List.nil_append, Nat.beq, gI_sI, gI_sL, gI_sA, gI_sM, gL_sI, gL_sL, gL_sA, gL_sM, aI_sI, aI_sL, aI_sA, aI_sM, aL_sI, aL_sL, aL_sA, aL_sM]
                have hXe := XrR.em (σ0 := σ0) (s := z.1) (n := m + 1) (XrR.up (XrR.i hX (k := 29) (by decide)) (by omega)) hE31.1 (by decide)
                have hOe := OzZ.em (OzZ.i hOp (k := 17) (by decide)) hE31.1
                have hPe := PcM.em (z := z') (x := asrZ v x t st mk (xnM z') z'.1) (PcM.i (PcM.i hPc (k := 29) (by decide)) (k := 17) (by decide)) hE31 (cm_asr (by decide) ht6 hB3 ht6 (sgT_aZ _ hsg hsr))
                have g18e : gI τ31 18 = gI Y 18 + 1 := hE31.1.2.1
                have gne := hE31.n
                have g31e : (gI τ31 31).toInt = vnZ O1 + 1 := (congrArg Int32.toInt (hE31.1.1 31 (by decide))).trans hB1
                have e31 : (gI τ31 31 - 1).toInt = vnZ O1 := by rw [i32_sb (by decide) (by rw [g31e]; show (1 : Int) ≤ _; omega), g31e]; show _ - (1 : Int) = _; omega
                have n31 := nT_i e31
                intro p32
                intro p33
                intro p34
                have b18 := hE31.1.2.2.2.2.2
                have c1 : 0 ≤ (gI Y 18).toInt := Int32.le_iff_toInt_le.mp b18.1
                have c2 : (gI Y 18).toInt < 4000 := Int32.lt_iff_toInt_lt.mp b18.2
                have e18 : (gI Y 18).toInt + 1 = (gI τ31 18).toInt := by rw [g18e, i32_add (by omega) (by omega)]
                refine hB _ _ _ _ _ (fun m35 hm35 => ?_)
                dsimp only [ugo, uwp, ust, uct, rfd, Bcomplete, Nat.beq, lv_args, rlk, rs1, rs2, rdl, rky, rcd, rno, rsw, Value.category, List.filter, List.take, List.drop, List.reverse, List.reverseAux, List.cons_append, List.nil_append, Option.toList, Int.toNat, Int.reduceToNat, if_pos, if_neg, reduceIte, ↓reduceIte, Nat.reduceAdd, Nat.reduceEqDiff, Nat.reduceBEq, beq_self_eq_true, Bool.not_true, Bool.not_false, Bool.and_true, Bool.and_false, Bool.true_and, Bool.false_and, gI_sI, gI_sL, gI_sA, gI_sM, gL_sI, gL_sL, gL_sA, gL_sM, aI_sI, aI_sL, aI_sA, aI_sM, aL_sI, aL_sL, aL_sA, aL_sM, Bcomplete_0, Bcomplete_12, Bcomplete_16, Bcomplete_17, Bcomplete_18, Bcomplete_22, Bcomplete_40, Bcomplete_45, Bcomplete_46, Bcomplete_82, Bcomplete_160, Bcomplete_217, Bcomplete_229, Bcomplete_233, Bcomplete_234, Bcomplete_238, oi_0, oi_1, oi_14, oi_17, oi_2, oi_5, oi_7]; try dsimp only
                refine ⟨trivial, fun w36 τ36 hq36 => ?_⟩
                have hq36 := hq36 N th σ0 (puM (asrZ v x t st mk (xnM z') z'.1) z') (m + 1) O1 (t, st) ⟨(by show XrR _ _ z'.1 _; rw [hz]; exact XrR.a (k := 30) (XrR.a (k := 21) (XrR.i (k := 33) hXe (by decide)) (by decide)) (by decide)), (OzZ.v (OzZ.a (k := 21) (OzZ.i (k := 33) hOe (by decide)) (by decide)) (by rw [n31]; exact Nat.le_refl _)), (by rw [nb_c, if_neg (by decide)] at hb; omega), ⟨g31e, (by show (upd (aI τ31 30) (gI τ31 31 - 1).toNatClampNeg _ (vnZ O1)).toInt = _; rw [n31, upd_eq]; exact ht6), (congrArg Int32.toInt (hE31.1.1 32 (by decide))).trans (hBh.2.2.1.trans (by show _ = zAt z'.1 - 1; rw [hz])), e18⟩, (PcM.a (k := 30) (PcM.b (PcM.i (k := 33) hPe (by decide)) gne.symm (show ¬ (9 : Int) ≤ 0 ∧ ¬ (9 : Int) = 15 by decide)) (by decide)), (fun q => absurd (show 20 ≤ codY z.1 ∧ codY z.1 ≤ 38 by rw [← hz]; exact q) hx1), (fun _ => rfl)⟩
                obtain ⟨rfl, m36_, O36_, r36_, z36_, hX36, hz36_, hO36, hb36, hB36, hP36, hf36, hy36, ht0_36, ht1_36, ht2_36⟩ := hq36
                dsimp only [Option.toList, List.cons_append, List.nil_append, Nat.beq, gI_sI, gI_sL, gI_sA, gI_sM, gL_sI, gL_sL, gL_sA, gL_sM, aI_sI, aI_sL, aI_sA, aI_sM, aL_sI, aL_sL, aL_sA, aL_sM]
                have hzz : z36_.1 = z.1 := hz36_.trans hz
                have ht2 := rd_1 ht2_36 hO36
                have hX36' : XrR σ0 τ36 z.1 m36_ := by
                  have q := hX36
                  have q : XrR σ0 τ36 z'.1 m36_ := q
                  rw [hz] at q
                  exact q
                have hB36' : BhZ τ36 z.1 O36_ r36_ := by
                  have q : BhZ τ36 z'.1 O36_ r36_ := hB36
                  rw [hz] at q
                  exact q
                have hb36' : m36_ + nbY (osZ O36_) = n + nbY (osZ O) := by rw [hb36, ← hb, nb_c, if_neg (by decide)]; omega
                have hx1' : ¬ (20 ≤ codY (puM (asrZ v x t st mk (xnM z') z'.1) z').1 ∧ codY (puM (asrZ v x t st mk (xnM z') z'.1) z').1 ≤ 38) := by show ¬ (20 ≤ codY z'.1 ∧ codY z'.1 ≤ 38); rw [hz]; exact hx1
                have hx7' : ¬ codY (puM (asrZ v x t st mk (xnM z') z'.1) z').1 = 7 := by show ¬ codY z'.1 = 7; rw [hz]; exact hx7
                have hf36' : cfM N O36_ m36_ z36_ = foM N O [] n r z := by
                  rw [← fo_endM (r := r36_) ⟨ht0_36, ht1_36, ht2⟩ (by rw [hzz]; exact hx1) (by rw [hzz]; exact hx7), hf36, fo_endM hw1 hx1' hx7', ← hf]
                  exact (cf_setM (N := N) (O := O1) (x := x) (n := m) (z := z') hw2).symm
                have hy36' : cfY (osZ O36_) m36_ z.1 = foY (osZ O) n z.1 := by
                  rw [← fo_end (O := osZ O36_) ⟨ht0_36, ht1_36, ht2⟩ hx1 hx7, hy36, fo_end (O := osZ O1) hw1 hx1 hx7, ← hy]
                  exact ((cf_ef (O := 5 :: osZ O1) (show ¬ (5 : Int) = 7 by decide)).trans (ef_set.trans (cf_ef hw2).symm)).symm
                refine ⟨fun h37 => ?_, fun h37 => ?_⟩
                · refine hB _ _ _ _ _ (fun m38 hm38 => ?_)
                  dsimp only [ugo, uwp, ust, uct, rfd, Bcomplete, Nat.beq, lv_args, rlk, rs1, rs2, rdl, rky, rcd, rno, rsw, Value.category, List.filter, List.take, List.drop, List.reverse, List.reverseAux, List.cons_append, List.nil_append, Option.toList, Int.toNat, Int.reduceToNat, if_pos, if_neg, reduceIte, ↓reduceIte, Nat.reduceAdd, Nat.reduceEqDiff, Nat.reduceBEq, beq_self_eq_true, Bool.not_true, Bool.not_false, Bool.and_true, Bool.and_false, Bool.true_and, Bool.false_and, gI_sI, gI_sL, gI_sA, gI_sM, gL_sI, gL_sL, gL_sA, gL_sM, aI_sI, aI_sL, aI_sA, aI_sM, aL_sI, aL_sL, aL_sA, aL_sM, Bcomplete_0, Bcomplete_12, Bcomplete_16, Bcomplete_17, Bcomplete_18, Bcomplete_22, Bcomplete_40, Bcomplete_45, Bcomplete_46, Bcomplete_82, Bcomplete_160, Bcomplete_217, Bcomplete_229, Bcomplete_233, Bcomplete_234, Bcomplete_238, oi_0, oi_1, oi_14, oi_17, oi_2, oi_5, oi_7]; try dsimp only
                  refine hB _ _ _ _ _ (fun m39 hm39 => ?_)
                  dsimp only [ugo, uwp, ust, uct, rfd, Bcomplete, Nat.beq, lv_args, rlk, rs1, rs2, rdl, rky, rcd, rno, rsw, Value.category, List.filter, List.take, List.drop, List.reverse, List.reverseAux, List.cons_append, List.nil_append, Option.toList, Int.toNat, Int.reduceToNat, if_pos, if_neg, reduceIte, ↓reduceIte, Nat.reduceAdd, Nat.reduceEqDiff, Nat.reduceBEq, beq_self_eq_true, Bool.not_true, Bool.not_false, Bool.and_true, Bool.and_false, Bool.true_and, Bool.false_and, gI_sI, gI_sL, gI_sA, gI_sM, gL_sI, gL_sL, gL_sA, gL_sM, aI_sI, aI_sL, aI_sA, aI_sM, aL_sI, aL_sL, aL_sA, aL_sM, Bcomplete_0, Bcomplete_12, Bcomplete_16, Bcomplete_17, Bcomplete_18, Bcomplete_22, Bcomplete_40, Bcomplete_45, Bcomplete_46, Bcomplete_82, Bcomplete_160, Bcomplete_217, Bcomplete_229, Bcomplete_233, Bcomplete_234, Bcomplete_238, oi_0, oi_1, oi_14, oi_17, oi_2, oi_5, oi_7]; try dsimp only
                  exact hW _ 18 [(0, .ref 1000), (1, .int 0)] _ _ _ (by simp [rdl, rky]) (loop _ (by omega) _ m36_ O36_ r36_ z36_ 0 hX36' hzz hO36 hb36' hB36' hP36 hf36' hy36' ⟨ht0_36, ht1_36, ht2⟩ (fun q => absurd rfl q) (fun _ => (by first | lia | (dsimp only [Nat.beq, gI_sI, gI_sL, gI_sA, gI_sM, gL_sI, gL_sL, gL_sA, gL_sM, aI_sI, aI_sL, aI_sA, aI_sM, aL_sI, aL_sL, aL_sA, aL_sM]; lia))))
                · refine hB _ _ _ _ _ (fun m40 hm40 => ?_)
                  dsimp only [ugo, uwp, ust, uct, rfd, Bcomplete, Nat.beq, lv_args, rlk, rs1, rs2, rdl, rky, rcd, rno, rsw, Value.category, List.filter, List.take, List.drop, List.reverse, List.reverseAux, List.cons_append, List.nil_append, Option.toList, Int.toNat, Int.reduceToNat, if_pos, if_neg, reduceIte, ↓reduceIte, Nat.reduceAdd, Nat.reduceEqDiff, Nat.reduceBEq, beq_self_eq_true, Bool.not_true, Bool.not_false, Bool.and_true, Bool.and_false, Bool.true_and, Bool.false_and, gI_sI, gI_sL, gI_sA, gI_sM, gL_sI, gL_sL, gL_sA, gL_sM, aI_sI, aI_sL, aI_sA, aI_sM, aL_sI, aL_sL, aL_sA, aL_sM, Bcomplete_0, Bcomplete_12, Bcomplete_16, Bcomplete_17, Bcomplete_18, Bcomplete_22, Bcomplete_40, Bcomplete_45, Bcomplete_46, Bcomplete_82, Bcomplete_160, Bcomplete_217, Bcomplete_229, Bcomplete_233, Bcomplete_234, Bcomplete_238, oi_0, oi_1, oi_14, oi_17, oi_2, oi_5, oi_7]; try dsimp only
                  refine hB _ _ _ _ _ (fun m41 hm41 => ?_)
                  dsimp only [ugo, uwp, ust, uct, rfd, Bcomplete, Nat.beq, lv_args, rlk, rs1, rs2, rdl, rky, rcd, rno, rsw, Value.category, List.filter, List.take, List.drop, List.reverse, List.reverseAux, List.cons_append, List.nil_append, Option.toList, Int.toNat, Int.reduceToNat, if_pos, if_neg, reduceIte, ↓reduceIte, Nat.reduceAdd, Nat.reduceEqDiff, Nat.reduceBEq, beq_self_eq_true, Bool.not_true, Bool.not_false, Bool.and_true, Bool.and_false, Bool.true_and, Bool.false_and, gI_sI, gI_sL, gI_sA, gI_sM, gL_sI, gL_sL, gL_sA, gL_sM, aI_sI, aI_sL, aI_sA, aI_sM, aL_sI, aL_sL, aL_sA, aL_sM, Bcomplete_0, Bcomplete_12, Bcomplete_16, Bcomplete_17, Bcomplete_18, Bcomplete_22, Bcomplete_40, Bcomplete_45, Bcomplete_46, Bcomplete_82, Bcomplete_160, Bcomplete_217, Bcomplete_229, Bcomplete_233, Bcomplete_234, Bcomplete_238, oi_0, oi_1, oi_14, oi_17, oi_2, oi_5, oi_7]; try dsimp only
                  exact hW _ 18 [(0, .ref 1000), (1, .int 1)] _ _ _ (by simp [rdl, rky]) (loop _ (by omega) _ m36_ O36_ r36_ z36_ 1 hX36' hzz hO36 hb36' hB36' hP36 hf36' hy36' ⟨ht0_36, ht1_36, ht2⟩ (fun _ => (by first | lia | (dsimp only [Nat.beq, gI_sI, gI_sL, gI_sA, gI_sM, gL_sI, gL_sL, gL_sA, gL_sM, aI_sI, aI_sL, aI_sA, aI_sM, aL_sI, aL_sL, aL_sA, aL_sM]; lia))) (fun q => absurd q (by decide)))
              · exfalso; lia
            · refine hB _ _ _ _ _ (fun m42 hm42 => ?_)
              dsimp only [ugo, uwp, ust, uct, rfd, Bcomplete, Nat.beq, lv_args, rlk, rs1, rs2, rdl, rky, rcd, rno, rsw, Value.category, List.filter, List.take, List.drop, List.reverse, List.reverseAux, List.cons_append, List.nil_append, Option.toList, Int.toNat, Int.reduceToNat, if_pos, if_neg, reduceIte, ↓reduceIte, Nat.reduceAdd, Nat.reduceEqDiff, Nat.reduceBEq, beq_self_eq_true, Bool.not_true, Bool.not_false, Bool.and_true, Bool.and_false, Bool.true_and, Bool.false_and, gI_sI, gI_sL, gI_sA, gI_sM, gL_sI, gL_sL, gL_sA, gL_sM, aI_sI, aI_sL, aI_sA, aI_sM, aL_sI, aL_sL, aL_sA, aL_sM, Bcomplete_0, Bcomplete_12, Bcomplete_16, Bcomplete_17, Bcomplete_18, Bcomplete_22, Bcomplete_40, Bcomplete_45, Bcomplete_46, Bcomplete_82, Bcomplete_160, Bcomplete_217, Bcomplete_229, Bcomplete_233, Bcomplete_234, Bcomplete_238, oi_0, oi_1, oi_14, oi_17, oi_2, oi_5, oi_7]; try dsimp only
              unfold Qv_completeZ
              try dsimp only
              exact ⟨rfl, m, (k, x, t, st, l) :: O1, r', z', hX, hz, hO, hb, hBh, hPc, hf, hy, ht.1, ht.2.1, ht.2.2, (fun q => absurd (Int32.toInt_inj.mp (hx25.trans (show k = (5 : Int32).toInt from q))) (show ¬ aI Y 25 (gI Y 29 - 1).toNatClampNeg = 5 by lia)), (fun q => absurd (Int32.toInt_inj.mp (hx25.trans (show k = (7 : Int32).toInt from q))) (show ¬ aI Y 25 (gI Y 29 - 1).toNatClampNeg = 7 by lia))⟩
    intro n0
    refine hB _ _ _ _ _ (fun m1 hm1 => ?_)
    dsimp only [ugo, uwp, ust, uct, rfd, Bcomplete, Nat.beq, lv_args, rlk, rs1, rs2, rdl, rky, rcd, rno, rsw, Value.category, List.filter, List.take, List.drop, List.reverse, List.reverseAux, List.cons_append, List.nil_append, Option.toList, Int.toNat, Int.reduceToNat, if_pos, if_neg, reduceIte, ↓reduceIte, Nat.reduceAdd, Nat.reduceEqDiff, Nat.reduceBEq, beq_self_eq_true, Bool.not_true, Bool.not_false, Bool.and_true, Bool.and_false, Bool.true_and, Bool.false_and, gI_sI, gI_sL, gI_sA, gI_sM, gL_sI, gL_sL, gL_sA, gL_sM, aI_sI, aI_sL, aI_sA, aI_sM, aL_sI, aL_sL, aL_sA, aL_sM, Bcomplete_0, Bcomplete_12, Bcomplete_16, Bcomplete_17, Bcomplete_18, Bcomplete_22, Bcomplete_40, Bcomplete_45, Bcomplete_46, Bcomplete_82, Bcomplete_160, Bcomplete_217, Bcomplete_229, Bcomplete_233, Bcomplete_234, Bcomplete_238, oi_0, oi_1, oi_14, oi_17, oi_2, oi_5, oi_7]; try dsimp only
    refine ⟨trivial, fun w2 τ2 hq2 => ?_⟩
    have hq2 := hq2 N th σ0 z n O r ⟨hX, hO, hn, hBh, hPc, (fun q => absurd q hx1), (fun _ => rfl)⟩
    obtain ⟨rfl, m2_, O2_, r2_, z2_, hX2, hz2_, hO2, hb2, hB2, hP2, hf2, hy2, ht0_2, ht1_2, ht2_2⟩ := hq2
    dsimp only [Option.toList, List.cons_append, List.nil_append, Nat.beq, gI_sI, gI_sL, gI_sA, gI_sM, gL_sI, gL_sL, gL_sA, gL_sM, aI_sI, aI_sL, aI_sA, aI_sM, aL_sI, aL_sL, aL_sA, aL_sM]
    refine ⟨fun h3 => ?_, fun h3 => ?_⟩
    · refine hB _ _ _ _ _ (fun m4 hm4 => ?_)
      dsimp only [ugo, uwp, ust, uct, rfd, Bcomplete, Nat.beq, lv_args, rlk, rs1, rs2, rdl, rky, rcd, rno, rsw, Value.category, List.filter, List.take, List.drop, List.reverse, List.reverseAux, List.cons_append, List.nil_append, Option.toList, Int.toNat, Int.reduceToNat, if_pos, if_neg, reduceIte, ↓reduceIte, Nat.reduceAdd, Nat.reduceEqDiff, Nat.reduceBEq, beq_self_eq_true, Bool.not_true, Bool.not_false, Bool.and_true, Bool.and_false, Bool.true_and, Bool.false_and, gI_sI, gI_sL, gI_sA, gI_sM, gL_sI, gL_sL, gL_sA, gL_sM, aI_sI, aI_sL, aI_sA, aI_sM, aL_sI, aL_sL, aL_sA, aL_sM, Bcomplete_0, Bcomplete_12, Bcomplete_16, Bcomplete_17, Bcomplete_18, Bcomplete_22, Bcomplete_40, Bcomplete_45, Bcomplete_46, Bcomplete_82, Bcomplete_160, Bcomplete_217, Bcomplete_229, Bcomplete_233, Bcomplete_234, Bcomplete_238, oi_0, oi_1, oi_14, oi_17, oi_2, oi_5, oi_7]; try dsimp only
      refine hB _ _ _ _ _ (fun m5 hm5 => ?_)
      dsimp only [ugo, uwp, ust, uct, rfd, Bcomplete, Nat.beq, lv_args, rlk, rs1, rs2, rdl, rky, rcd, rno, rsw, Value.category, List.filter, List.take, List.drop, List.reverse, List.reverseAux, List.cons_append, List.nil_append, Option.toList, Int.toNat, Int.reduceToNat, if_pos, if_neg, reduceIte, ↓reduceIte, Nat.reduceAdd, Nat.reduceEqDiff, Nat.reduceBEq, beq_self_eq_true, Bool.not_true, Bool.not_false, Bool.and_true, Bool.and_false, Bool.true_and, Bool.false_and, gI_sI, gI_sL, gI_sA, gI_sM, gL_sI, gL_sL, gL_sA, gL_sM, aI_sI, aI_sL, aI_sA, aI_sM, aL_sI, aL_sL, aL_sA, aL_sM, Bcomplete_0, Bcomplete_12, Bcomplete_16, Bcomplete_17, Bcomplete_18, Bcomplete_22, Bcomplete_40, Bcomplete_45, Bcomplete_46, Bcomplete_82, Bcomplete_160, Bcomplete_217, Bcomplete_229, Bcomplete_233, Bcomplete_234, Bcomplete_238, oi_0, oi_1, oi_14, oi_17, oi_2, oi_5, oi_7]; try dsimp only
      exact hW _ 18 [(0, .ref 1000), (1, .int 0)] _ _ _ (by simp [rdl, rky]) (loop _ _ m2_ O2_ r2_ z2_ 0 hX2 hz2_ hO2 hb2 hB2 hP2 (by rw [← hf2]; exact (fo_endM ⟨ht0_2, ht1_2, rd_1 ht2_2 hO2⟩ (by rw [hz2_]; exact hx1) (by rw [hz2_]; exact hx7)).symm) (by rw [← hy2]; exact (fo_end ⟨ht0_2, ht1_2, rd_1 ht2_2 hO2⟩ hx1 hx7).symm) ⟨ht0_2, ht1_2, rd_1 ht2_2 hO2⟩ (fun q => absurd rfl q) (fun _ => by lia))
    · refine hB _ _ _ _ _ (fun m6 hm6 => ?_)
      dsimp only [ugo, uwp, ust, uct, rfd, Bcomplete, Nat.beq, lv_args, rlk, rs1, rs2, rdl, rky, rcd, rno, rsw, Value.category, List.filter, List.take, List.drop, List.reverse, List.reverseAux, List.cons_append, List.nil_append, Option.toList, Int.toNat, Int.reduceToNat, if_pos, if_neg, reduceIte, ↓reduceIte, Nat.reduceAdd, Nat.reduceEqDiff, Nat.reduceBEq, beq_self_eq_true, Bool.not_true, Bool.not_false, Bool.and_true, Bool.and_false, Bool.true_and, Bool.false_and, gI_sI, gI_sL, gI_sA, gI_sM, gL_sI, gL_sL, gL_sA, gL_sM, aI_sI, aI_sL, aI_sA, aI_sM, aL_sI, aL_sL, aL_sA, aL_sM, Bcomplete_0, Bcomplete_12, Bcomplete_16, Bcomplete_17, Bcomplete_18, Bcomplete_22, Bcomplete_40, Bcomplete_45, Bcomplete_46, Bcomplete_82, Bcomplete_160, Bcomplete_217, Bcomplete_229, Bcomplete_233, Bcomplete_234, Bcomplete_238, oi_0, oi_1, oi_14, oi_17, oi_2, oi_5, oi_7]; try dsimp only
      refine hB _ _ _ _ _ (fun m7 hm7 => ?_)
      dsimp only [ugo, uwp, ust, uct, rfd, Bcomplete, Nat.beq, lv_args, rlk, rs1, rs2, rdl, rky, rcd, rno, rsw, Value.category, List.filter, List.take, List.drop, List.reverse, List.reverseAux, List.cons_append, List.nil_append, Option.toList, Int.toNat, Int.reduceToNat, if_pos, if_neg, reduceIte, ↓reduceIte, Nat.reduceAdd, Nat.reduceEqDiff, Nat.reduceBEq, beq_self_eq_true, Bool.not_true, Bool.not_false, Bool.and_true, Bool.and_false, Bool.true_and, Bool.false_and, gI_sI, gI_sL, gI_sA, gI_sM, gL_sI, gL_sL, gL_sA, gL_sM, aI_sI, aI_sL, aI_sA, aI_sM, aL_sI, aL_sL, aL_sA, aL_sM, Bcomplete_0, Bcomplete_12, Bcomplete_16, Bcomplete_17, Bcomplete_18, Bcomplete_22, Bcomplete_40, Bcomplete_45, Bcomplete_46, Bcomplete_82, Bcomplete_160, Bcomplete_217, Bcomplete_229, Bcomplete_233, Bcomplete_234, Bcomplete_238, oi_0, oi_1, oi_14, oi_17, oi_2, oi_5, oi_7]; try dsimp only
      exact hW _ 18 [(0, .ref 1000), (1, .int 1)] _ _ _ (by simp [rdl, rky]) (loop _ _ m2_ O2_ r2_ z2_ 1 hX2 hz2_ hO2 hb2 hB2 hP2 (by rw [← hf2]; exact (fo_endM ⟨ht0_2, ht1_2, rd_1 ht2_2 hO2⟩ (by rw [hz2_]; exact hx1) (by rw [hz2_]; exact hx7)).symm) (by rw [← hy2]; exact (fo_end ⟨ht0_2, ht1_2, rd_1 ht2_2 hO2⟩ hx1 hx7).symm) ⟨ht0_2, ht1_2, rd_1 ht2_2 hO2⟩ (fun _ => by lia) (fun q => absurd q (by decide)))
  next => exact hP.elim
theorem w_completeZ : UMet 33 (fun _ _ => True) Qw_completeZ := fun A1 σ _ w τ h N th σ0 z n O r hP => v_completeZ N th σ0 z n O r A1 σ hP w τ h
