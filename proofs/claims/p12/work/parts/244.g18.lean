/-! params, methods -/
theorem gd_pa2 {i : Nat} {ty f : Int} : GdY (pa2Y i ty f) := by
  intro s
  unfold pa2Y
  split
  · exact (gd_dcl s).tr (gd_pad _)
  · exact gd_dcl s
theorem gd_pa1 {i : Nat} : GdY (pa1Y i) := by
  intro s
  unfold pa1Y
  split
  · exact ((gd_acc s).tr (gd_typ _)).tr (gd_pa2 _)
  · exact (gd_typ s).tr (gd_pa2 _)
theorem gd_pal : ∀ f i, GdY (palY f i) := by
  intro f
  induction f with
  | zero => exact fun i s => GpY.rf
  | succ f ih =>
    intro i s
    rw [palY]
    split
    · exact ((gd_pa1 s).tr (gd_acc _)).tr (ih _ _)
    · exact gd_pa1 s
theorem gd_par : GdY parY := by
  intro s
  unfold parY pa3Y
  refine GpY.tr ((gd_xp (c := 0) s).tr ?_) (gd_xp _)
  split
  · exact GpY.rf
  · exact gd_pal _ _ _
theorem gd_me2 : GdY me2Y := by
  intro s
  unfold me2Y
  split
  · split
    · exact gd_rai s
    · exact GpY.rf
  · exact gd_rai s
theorem gd_me3 {ty : Int} : GdY (me3Y ty) := by
  intro s
  unfold me3Y
  split
  · exact (((gd_met s).tr (gd_acc _)).tr (gd_par _)).tr (gd_blk (fun _ => gd_rw) _)
  · exact GpY.rf
theorem pa1_1 {i : Nat} {s : SpC} (h : codY s = 71) : pa1Y i s = pa2Y i (tyvY (accY s)) 1 (typY (accY s)) := by unfold pa1Y; rw [if_pos h]
theorem pa1_0 {i : Nat} {s : SpC} (h : ¬ codY s = 71) : pa1Y i s = pa2Y i (tyvY s) 0 (typY s) := by unfold pa1Y; rw [if_neg h]
theorem pa2_y {i : Nat} {ty f : Int} {s : SpC} (h : i < 6) : pa2Y i ty f s = padY ty (dclY ty f 1 s) := by unfold pa2Y; rw [if_pos h]
theorem pa2_n {i : Nat} {ty f : Int} {s : SpC} (h : ¬ i < 6) : pa2Y i ty f s = dclY ty f 0 s := by unfold pa2Y; rw [if_neg h]
theorem pa2_8 {i : Nat} {ty f : Int} {s : SpC} (h : ¬ codY s = 80) : GpY (raiY 2 s) (pa2Y i ty f s) := by
  unfold pa2Y
  split
  · rw [dcl_n h]
    exact gd_pad _
  · rw [dcl_n h]
    exact GpY.rf
/-- a method's params are read: its row stands, it does not count yet -/
def PaR (σ : RS) (s : SpC) (i : Nat) : Prop := ShR σ s ∧ ((gI σ 17).toInt = 0 ∧ gI σ 62 = 0) ∧ VvR σ s ∧ (0 ≤ gI σ 36 ∧ gI σ 36 < 10) ∧ zMs s = mlR σ (nT (gI σ 36) + 1) ∧ (nT (aI σ 40 (nT (gI σ 36))) + i = nT (gI σ 42) ∧ aI σ 39 (nT (gI σ 36)) = Int32.ofInt i ∧ i ≤ 6) ∧ (∀ m, m < nT (gI σ 36) → nT (aI σ 40 m) + nT (aI σ 39 m) ≤ nT (gI σ 42))
theorem PaR.x {σ : RS} {s : SpC} {i : Nat} (h : PaR σ s i) : XrR σ σ s 21 := ⟨h.1, ⟨by rw [h.2.1.1]; rfl, by decide⟩, KR.rf⟩
theorem PaR.c {σ τ : RS} {s t : SpC} {i : Nat} (h : PaR σ s i) (x : ShR τ t) (e2 : t.2.1 = s.2.1) (e : ∀ k, k = 17 ∨ k = 62 ∨ k = 36 ∨ k = 42 → gI τ k = gI σ k) (r : ∀ k, 37 ≤ k ∧ k ≤ 46 → aI τ k = aI σ k) : PaR τ t i := by
  have a : zVs t = zVs s := by unfold zVs; rw [e2]
  have b : zMs t = zMs s := by unfold zMs; rw [e2]
  unfold PaR VvR
  rw [a, b, e 17 (by omega), e 62 (by omega), e 36 (by omega), e 42 (by omega), vlR_c (r 43 (by omega)) (r 44 (by omega)) (r 45 (by omega)) (r 46 (by omega)), mlR_c (r 37 (by omega)) (r 38 (by omega)) (r 39 (by omega)) (r 40 (by omega)) (r 44 (by omega)), r 39 (by omega), r 40 (by omega)]
  exact ⟨x, h.2⟩
theorem PaR.s1 {σ τ : RS} {s : SpC} {i : Nat} (h : PaR σ s i) (x : XrR σ τ (accY s) 21) (s1 : S1 14 σ τ) : PaR τ (accY s) i := h.c x.1 (by rw [acc2]) (fun k hk => s1.1 k (by omega)) (fun k _ => s1.2 k)
theorem nT_of' {i : Nat} (h : i ≤ 7) : nT (Int32.ofInt i) = i := by
  have a : i = 0 ∨ i = 1 ∨ i = 2 ∨ i = 3 ∨ i = 4 ∨ i = 5 ∨ i = 6 ∨ i = 7 := by omega
  rcases a with rfl | rfl | rfl | rfl | rfl | rfl | rfl | rfl <;> rfl
theorem mlR_g {σ τ : RS} : ∀ n, (∀ m, m < n → aI τ 37 m = aI σ 37 m ∧ aI τ 38 m = aI σ 38 m ∧ plR (aI τ 44) (nT (aI τ 40 m)) (nT (aI τ 39 m)) = plR (aI σ 44) (nT (aI σ 40 m)) (nT (aI σ 39 m))) → mlR τ n = mlR σ n := by
  intro n
  induction n with
  | zero => exact fun _ => rfl
  | succ n ih =>
    intro h
    have q := h n (by omega)
    rw [mlR, mlR, ih (fun m hm => h m (by omega)), q.1, q.2.1, q.2.2]
/-- a param more -/
theorem PaR.va {σ τ : RS} {s : SpC} {i : Nat} {ty f : Int32} (h : PaR σ s i) (hi : i < 6) (v : VaR (sA σ 39 (upd (aI σ 39) (nT (gI σ 36)) (Int32.ofInt i + 1))) τ ty f) (x : ShR τ (accY s)) : PaR τ (padY ty.toInt (accY (vadY ty.toInt f.toInt s))) (i + 1) := by
  obtain ⟨hS, ⟨h17, h62⟩, hv, h36, hM, ⟨hA, hP, hL⟩, hB⟩ := h
  obtain ⟨p1, p2, p3, ⟨q1, q2, q3, q4⟩, p5⟩ := v
  have p2 : gI τ 42 = gI σ 42 + 1 := p2
  have p3 : 0 ≤ gI σ 42 ∧ gI σ 42 < 60 := p3
  have q1 : aI τ 43 = upd (aI σ 43) (nT (gI σ 42)) (gI σ 14) := q1
  have q2 : aI τ 44 = upd (aI σ 44) (nT (gI σ 42)) ty := q2
  have q3 : aI τ 45 = upd (aI σ 45) (nT (gI σ 42)) f := q3
  have q4 : aI τ 46 = upd (aI σ 46) (nT (gI σ 42)) (if gI σ 36 = 0 ∨ gI σ 62 = 0 then gI σ 36 else gI σ 36 - 1) := q4
  have en := nT_add p3.1 (show gI σ 42 < 2147483647 by lia)
  have g36 : gI τ 36 = gI σ 36 := p1 36 (by decide) (by decide)
  have e62 : gI τ 62 = gI σ 62 := p1 62 (by decide) (by decide)
  have r39 : aI τ 39 = upd (aI σ 39) (nT (gI σ 36)) (Int32.ofInt i + 1) := (p5 39 (by omega)).trans aI_eq
  have r37 : aI τ 37 = aI σ 37 := (p5 37 (by omega)).trans (aI_ne (by decide))
  have r38 : aI τ 38 = aI σ 38 := (p5 38 (by omega)).trans (aI_ne (by decide))
  have r40 : aI τ 40 = aI σ 40 := (p5 40 (by omega)).trans (aI_ne (by decide))
  have r44 : aI τ 44 = upd (aI σ 44) (nT (gI σ 42)) ty := q2
  have oi : Int32.ofInt i + 1 = Int32.ofInt (i + 1 : Nat) := by
    have a : i = 0 ∨ i = 1 ∨ i = 2 ∨ i = 3 ∨ i = 4 ∨ i = 5 := by omega
    rcases a with rfl | rfl | rfl | rfl | rfl | rfl <;> rfl
  have e1 := @acc_v ty.toInt f.toInt s
  have hl : (zMs s).length = nT (gI σ 36) + 1 := by rw [hM, mlR_l]
  have nn : (nT (gI σ 36) : Int) = (gI σ 36).toInt := by
    have q : 0 ≤ (gI σ 36).toInt := Int32.le_iff_toInt_le.mp h36.1
    show (((gI σ 36).toInt.toNat : Nat) : Int) = _
    omega
  have ml : mlR τ (nT (gI σ 36)) = mlR σ (nT (gI σ 36)) := mlR_g _ (fun m hm => ⟨by rw [r37], by rw [r38], by rw [r40, r39, upd_ne (by omega), r44, plR_up _ (hB m hm)]⟩)
  refine ⟨x.s2 e1.1 (by show (accY (vadY ty.toInt f.toInt s)).2.2 = _; rw [e1.2, acc2]; rfl), ⟨by rw [p1 17 (by decide) (by decide)]; exact h17, by rw [e62]; exact h62⟩, ?_, by rw [g36]; exact h36, ?_, ⟨by rw [r40, g36, p2, en]; omega, by rw [r39, g36, upd_eq]; exact oi, by omega⟩, ?_⟩
  · have e : zVs (padY ty.toInt (accY (vadY ty.toInt f.toInt s))) = (zAt s, ty.toInt, f.toInt, ((zMs s).length : Int) - 1) :: zVs s := by
      show (accY (vadY ty.toInt f.toInt s)).2.1.2 = _
      rw [e1.2]
      rfl
    refine ⟨?_, by rw [p2]; lia⟩
    rw [e, p2, en, vlR, vlR_up (σ := σ) q1 q2 q3 q4 _ (Nat.le_refl _), q1, q2, q3, q4, hv.1, upd_eq, upd_eq, upd_eq, upd_eq, if_pos (Or.inr h62), hS.2.1.1, hl]
    congr 4
    omega
  · have e : zMs (padY ty.toInt (accY (vadY ty.toInt f.toInt s))) = match zMs s with
      | [] => []
      | (a, b, l) :: r => (a, b, ty.toInt :: l) :: r := by
      have z : zMs (accY (vadY ty.toInt f.toInt s)) = zMs s := by unfold zMs; rw [e1.2]; rfl
      show (match zMs (accY (vadY ty.toInt f.toInt s)) with
        | [] => []
        | (a, b, l) :: r => (a, b, ty.toInt :: l) :: r) = _
      rw [z]
    rw [e, hM, g36, mlR, mlR, ml, r37, r38, r40, r39, upd_eq, hP, oi, nT_of' (i := i + 1) (by omega), nT_of' (i := i) (by omega), plR, r44, hA, upd_eq, plR_up _ (by omega)]
  · intro m hm
    rw [g36] at hm
    rw [r40, r39, upd_ne (by omega), p2, en]
    have := hB m hm
    omega
theorem i6 {i : Nat} (h : i ≤ 6) : Int32.ofInt i = 6 ↔ i = 6 := by
  have a : i = 0 ∨ i = 1 ∨ i = 2 ∨ i = 3 ∨ i = 4 ∨ i = 5 ∨ i = 6 := by omega
  rcases a with rfl | rfl | rfl | rfl | rfl | rfl | rfl <;> decide
def Pv_param (s : SpC) (i : Nat) : UP1 := fun A1 σ => match A1 with
  | [.int m, .int k] => PaR σ s i ∧ m = gI σ 36
  | _ => False
def Qv_param (s : SpC) (i : Nat) : UQ1 := fun A1 σ w τ => match A1 with
  | [.int m, .int k] => (w = some (.int 0) ∧ FlR τ (pa1Y i s)) ∨ (w = some (.int 1) ∧ i < 6 ∧ PaR τ (pa1Y i s) (i + 1) ∧ gI τ 36 = gI σ 36 ∧ gI τ 49 = gI σ 49)
  | _ => False
def Qw_param : UQ1 := fun A1 σ w τ => ∀ (s : SpC) (i : Nat), Pv_param s i A1 σ → Qv_param s i A1 σ w τ
set_option maxRecDepth 100000 in
set_option maxHeartbeats 4000000 in
theorem v_param (s : SpC) (i : Nat) : UMet 39 (Pv_param s i) (Qv_param s i) := by
  refine UMet.by Bparam [(13, (fun _ _ => True), Qw_cant), (23, (fun _ _ => True), Qw_isType), (15, (fun _ _ => True), Qw_isWord), (17, (fun _ _ => True), Qw_take), (40, (fun _ _ => True), Qw_variable), (12, (fun _ _ => True), Qw_wrong)] rfl (ucc w_cant (ucc w_isType (ucc w_isWord (ucc w_take (ucc w_variable (ucc w_wrong uc0)))))) ?_
  intro A1 σ hP K hB hW
  unfold Pv_param at hP
  split at hP
  next m k =>
    obtain ⟨hP, hm⟩ := hP
    intro n0_
    refine hB _ _ _ _ _ (fun m1 hm1 => ?_)
    dsimp only [ugo, uwp, ust, uct, rfd, Bparam, Nat.beq, lv_args, rlk, rs1, rs2, rdl, rky, rcd, rno, rsw, Value.category, List.filter, List.take, List.drop, List.reverse, List.reverseAux, List.cons_append, List.nil_append, Option.toList, Int.toNat, Int.reduceToNat, if_pos, if_neg, reduceIte, ↓reduceIte, Nat.reduceAdd, Nat.reduceEqDiff, Nat.reduceBEq, beq_self_eq_true, Bool.not_true, Bool.not_false, Bool.and_true, Bool.and_false, Bool.true_and, Bool.false_and, gI_sI, gI_sL, gI_sA, gI_sM, gL_sI, gL_sL, gL_sA, gL_sM, aI_sI, aI_sL, aI_sA, aI_sM, aL_sI, aL_sL, aL_sA, aL_sM, Bparam_0, Bparam_11, Bparam_18, Bparam_20, Bparam_31, Bparam_36, Bparam_54, Bparam_56, Bparam_69, Bparam_74, Bparam_85, Bparam_95, oi_0, oi_1, oi_21, oi_3, oi_6]; try dsimp only
    refine ⟨trivial, fun w2 τ2 hq2 => ?_⟩
    obtain ⟨rfl, b2, rfl, hb2⟩ := hq2 trivial
    have he2 := (XrR.s (PaR.x hP)).wd (x := 21) (by decide)
    rcases hb2 with ⟨rfl, hk2⟩ | ⟨rfl, hk2⟩
    · dsimp only [Option.toList, List.cons_append, List.nil_append, Nat.beq, gI_sI, gI_sL, gI_sA, gI_sM, gL_sI, gL_sL, gL_sA, gL_sM, aI_sI, aI_sL, aI_sA, aI_sM, aL_sI, aL_sL, aL_sA, aL_sM]
      have hc2 : codY s = 71 := he2.mp hk2
      refine ⟨fun h3 => absurd h3 (by decide), fun h3 => ?_⟩
      clear h3
      refine hB _ _ _ _ _ (fun m4 hm4 => ?_)
      dsimp only [ugo, uwp, ust, uct, rfd, Bparam, Nat.beq, lv_args, rlk, rs1, rs2, rdl, rky, rcd, rno, rsw, Value.category, List.filter, List.take, List.drop, List.reverse, List.reverseAux, List.cons_append, List.nil_append, Option.toList, Int.toNat, Int.reduceToNat, if_pos, if_neg, reduceIte, ↓reduceIte, Nat.reduceAdd, Nat.reduceEqDiff, Nat.reduceBEq, beq_self_eq_true, Bool.not_true, Bool.not_false, Bool.and_true, Bool.and_false, Bool.true_and, Bool.false_and, gI_sI, gI_sL, gI_sA, gI_sM, gL_sI, gL_sL, gL_sA, gL_sM, aI_sI, aI_sL, aI_sA, aI_sM, aL_sI, aL_sL, aL_sA, aL_sM, Bparam_0, Bparam_11, Bparam_18, Bparam_20, Bparam_31, Bparam_36, Bparam_54, Bparam_56, Bparam_69, Bparam_74, Bparam_85, Bparam_95, oi_0, oi_1, oi_21, oi_3, oi_6]; try dsimp only
      refine ⟨trivial, fun w5 τ5 hq5 => ?_⟩
      have hq5 := hq5 _ s 21 ⟨(PaR.x hP), by omega, by omega⟩
      rcases hq5 with ⟨rfl, hF5⟩ | ⟨rfl, hX5, hz5, hS5⟩
      · dsimp only [Option.toList, List.cons_append, List.nil_append, Nat.beq, gI_sI, gI_sL, gI_sA, gI_sM, gL_sI, gL_sL, gL_sA, gL_sM, aI_sI, aI_sL, aI_sA, aI_sM, aL_sI, aL_sL, aL_sA, aL_sM]
        refine ⟨fun h6 => absurd h6 (by decide), fun h6 => ?_⟩
        clear h6
        refine hB _ _ _ _ _ (fun m7 hm7 => ?_)
        dsimp only [ugo, uwp, ust, uct, rfd, Bparam, Nat.beq, lv_args, rlk, rs1, rs2, rdl, rky, rcd, rno, rsw, Value.category, List.filter, List.take, List.drop, List.reverse, List.reverseAux, List.cons_append, List.nil_append, Option.toList, Int.toNat, Int.reduceToNat, if_pos, if_neg, reduceIte, ↓reduceIte, Nat.reduceAdd, Nat.reduceEqDiff, Nat.reduceBEq, beq_self_eq_true, Bool.not_true, Bool.not_false, Bool.and_true, Bool.and_false, Bool.true_and, Bool.false_and, gI_sI, gI_sL, gI_sA, gI_sM, gL_sI, gL_sL, gL_sA, gL_sM, aI_sI, aI_sL, aI_sA, aI_sM, aL_sI, aL_sL, aL_sA, aL_sM, Bparam_0, Bparam_11, Bparam_18, Bparam_20, Bparam_31, Bparam_36, Bparam_54, Bparam_56, Bparam_69, Bparam_74, Bparam_85, Bparam_95, oi_0, oi_1, oi_21, oi_3, oi_6]; try dsimp only
        unfold Qv_param
        try dsimp only
        refine Or.inl ⟨rfl, FlR.g hF5 ?_⟩
        rw [pa1_1 hc2]
        exact (gd_typ _).tr (gd_pa2 _)
      · dsimp only [Option.toList, List.cons_append, List.nil_append, Nat.beq, gI_sI, gI_sL, gI_sA, gI_sM, gL_sI, gL_sL, gL_sA, gL_sM, aI_sI, aI_sL, aI_sA, aI_sM, aL_sI, aL_sL, aL_sA, aL_sM]
        have hP5 := PaR.s1 hP hX5 hS5
        have g6_5 : gI τ5 36 = gI σ 36 := (hS5.1 36 (by decide)).trans rfl
        have g9_5 : gI τ5 49 = gI σ 49 := (hS5.1 49 (by decide)).trans rfl
        refine ⟨fun h8 => ?_, fun h8 => absurd h8 (by decide)⟩
        clear h8
        refine hB _ _ _ _ _ (fun m9 hm9 => ?_)
        dsimp only [ugo, uwp, ust, uct, rfd, Bparam, Nat.beq, lv_args, rlk, rs1, rs2, rdl, rky, rcd, rno, rsw, Value.category, List.filter, List.take, List.drop, List.reverse, List.reverseAux, List.cons_append, List.nil_append, Option.toList, Int.toNat, Int.reduceToNat, if_pos, if_neg, reduceIte, ↓reduceIte, Nat.reduceAdd, Nat.reduceEqDiff, Nat.reduceBEq, beq_self_eq_true, Bool.not_true, Bool.not_false, Bool.and_true, Bool.and_false, Bool.true_and, Bool.false_and, gI_sI, gI_sL, gI_sA, gI_sM, gL_sI, gL_sL, gL_sA, gL_sM, aI_sI, aI_sL, aI_sA, aI_sM, aL_sI, aL_sL, aL_sA, aL_sM, Bparam_0, Bparam_11, Bparam_18, Bparam_20, Bparam_31, Bparam_36, Bparam_54, Bparam_56, Bparam_69, Bparam_74, Bparam_85, Bparam_95, oi_0, oi_1, oi_21, oi_3, oi_6]; try dsimp only
        refine ⟨trivial, fun w10 τ10 hq10 => ?_⟩
        obtain ⟨rfl, b10, rfl, hb10⟩ := hq10 trivial
        have he10 := (XrR.s (PaR.x hP5)).ty
        rcases hb10 with ⟨rfl, hk10⟩ | ⟨rfl, hk10⟩
        · dsimp only [Option.toList, List.cons_append, List.nil_append, Nat.beq, gI_sI, gI_sL, gI_sA, gI_sM, gL_sI, gL_sL, gL_sA, gL_sM, aI_sI, aI_sL, aI_sA, aI_sM, aL_sI, aL_sL, aL_sA, aL_sM]
          have hc10 : 50 ≤ codY (accY s) ∧ codY (accY s) ≤ 54 := he10.mp hk10
          refine ⟨fun h11 => ?_, fun h11 => absurd h11 (by decide)⟩
          clear h11
          refine hB _ _ _ _ _ (fun m12 hm12 => ?_)
          dsimp only [ugo, uwp, ust, uct, rfd, Bparam, Nat.beq, lv_args, rlk, rs1, rs2, rdl, rky, rcd, rno, rsw, Value.category, List.filter, List.take, List.drop, List.reverse, List.reverseAux, List.cons_append, List.nil_append, Option.toList, Int.toNat, Int.reduceToNat, if_pos, if_neg, reduceIte, ↓reduceIte, Nat.reduceAdd, Nat.reduceEqDiff, Nat.reduceBEq, beq_self_eq_true, Bool.not_true, Bool.not_false, Bool.and_true, Bool.and_false, Bool.true_and, Bool.false_and, gI_sI, gI_sL, gI_sA, gI_sM, gL_sI, gL_sL, gL_sA, gL_sM, aI_sI, aI_sL, aI_sA, aI_sM, aL_sI, aL_sL, aL_sA, aL_sM, Bparam_0, Bparam_11, Bparam_18, Bparam_20, Bparam_31, Bparam_36, Bparam_54, Bparam_56, Bparam_69, Bparam_74, Bparam_85, Bparam_95, oi_0, oi_1, oi_21, oi_3, oi_6]; try dsimp only
          have hty : 50 ≤ codY (accY s) ∧ codY (accY s) ≤ 54 := hc10
          have hty2 := hP5.1.ty2 (show 50 ≤ codY (accY s) ∧ codY (accY s) ≤ 55 by omega)
          have htv := (tyv_y hty).trans hty2.symm
          intro p13
          refine ⟨trivial, fun w14 τ14 hq14 => ?_⟩
          have hq14 := hq14 _ (accY s) 21 ⟨(PaR.x hP5), by omega, by omega⟩
          rcases hq14 with ⟨rfl, hF14⟩ | ⟨rfl, hX14, hz14, hS14⟩
          · dsimp only [Option.toList, List.cons_append, List.nil_append, Nat.beq, gI_sI, gI_sL, gI_sA, gI_sM, gL_sI, gL_sL, gL_sA, gL_sM, aI_sI, aI_sL, aI_sA, aI_sM, aL_sI, aL_sL, aL_sA, aL_sM]
            refine ⟨fun h15 => absurd h15 (by decide), fun h15 => ?_⟩
            clear h15
            refine hB _ _ _ _ _ (fun m16 hm16 => ?_)
            dsimp only [ugo, uwp, ust, uct, rfd, Bparam, Nat.beq, lv_args, rlk, rs1, rs2, rdl, rky, rcd, rno, rsw, Value.category, List.filter, List.take, List.drop, List.reverse, List.reverseAux, List.cons_append, List.nil_append, Option.toList, Int.toNat, Int.reduceToNat, if_pos, if_neg, reduceIte, ↓reduceIte, Nat.reduceAdd, Nat.reduceEqDiff, Nat.reduceBEq, beq_self_eq_true, Bool.not_true, Bool.not_false, Bool.and_true, Bool.and_false, Bool.true_and, Bool.false_and, gI_sI, gI_sL, gI_sA, gI_sM, gL_sI, gL_sL, gL_sA, gL_sM, aI_sI, aI_sL, aI_sA, aI_sM, aL_sI, aL_sL, aL_sA, aL_sM, Bparam_0, Bparam_11, Bparam_18, Bparam_20, Bparam_31, Bparam_36, Bparam_54, Bparam_56, Bparam_69, Bparam_74, Bparam_85, Bparam_95, oi_0, oi_1, oi_21, oi_3, oi_6]; try dsimp only
            unfold Qv_param
            try dsimp only
            refine Or.inl ⟨rfl, FlR.g hF14 ?_⟩
            rw [pa1_1 hc2, typ_y hty]
            exact gd_pa2 _
          · dsimp only [Option.toList, List.cons_append, List.nil_append, Nat.beq, gI_sI, gI_sL, gI_sA, gI_sM, gL_sI, gL_sL, gL_sA, gL_sM, aI_sI, aI_sL, aI_sA, aI_sM, aL_sI, aL_sL, aL_sA, aL_sM]
            have hP14 := PaR.s1 hP5 hX14 hS14
            have g6_14 : gI τ14 36 = gI σ 36 := (hS14.1 36 (by decide)).trans g6_5
            have g9_14 : gI τ14 49 = gI σ 49 := (hS14.1 49 (by decide)).trans g9_5
            refine ⟨fun h17 => ?_, fun h17 => absurd h17 (by decide)⟩
            clear h17
            refine hB _ _ _ _ _ (fun m18 hm18 => ?_)
            dsimp only [ugo, uwp, ust, uct, rfd, Bparam, Nat.beq, lv_args, rlk, rs1, rs2, rdl, rky, rcd, rno, rsw, Value.category, List.filter, List.take, List.drop, List.reverse, List.reverseAux, List.cons_append, List.nil_append, Option.toList, Int.toNat, Int.reduceToNat, if_pos, if_neg, reduceIte, ↓reduceIte, Nat.reduceAdd, Nat.reduceEqDiff, Nat.reduceBEq, beq_self_eq_true, Bool.not_true, Bool.not_false, Bool.and_true, Bool.and_false, Bool.true_and, Bool.false_and, gI_sI, gI_sL, gI_sA, gI_sM, gL_sI, gL_sL, gL_sA, gL_sM, aI_sI, aI_sL, aI_sA, aI_sM, aL_sI, aL_sL, aL_sA, aL_sM, Bparam_0, Bparam_11, Bparam_18, Bparam_20, Bparam_31, Bparam_36, Bparam_54, Bparam_56, Bparam_69, Bparam_74, Bparam_85, Bparam_95, oi_0, oi_1, oi_21, oi_3, oi_6]; try dsimp only
            intro p19
            refine ⟨fun h20 => ?_, fun h20 => ?_⟩
            · refine hB _ _ _ _ _ (fun m21 hm21 => ?_)
              dsimp only [ugo, uwp, ust, uct, rfd, Bparam, Nat.beq, lv_args, rlk, rs1, rs2, rdl, rky, rcd, rno, rsw, Value.category, List.filter, List.take, List.drop, List.reverse, List.reverseAux, List.cons_append, List.nil_append, Option.toList, Int.toNat, Int.reduceToNat, if_pos, if_neg, reduceIte, ↓reduceIte, Nat.reduceAdd, Nat.reduceEqDiff, Nat.reduceBEq, beq_self_eq_true, Bool.not_true, Bool.not_false, Bool.and_true, Bool.and_false, Bool.true_and, Bool.false_and, gI_sI, gI_sL, gI_sA, gI_sM, gL_sI, gL_sL, gL_sA, gL_sM, aI_sI, aI_sL, aI_sA, aI_sM, aL_sI, aL_sL, aL_sA, aL_sM, Bparam_0, Bparam_11, Bparam_18, Bparam_20, Bparam_31, Bparam_36, Bparam_54, Bparam_56, Bparam_69, Bparam_74, Bparam_85, Bparam_95, oi_0, oi_1, oi_21, oi_3, oi_6]; try dsimp only
              have hcn := hP14.1.ki.2.2.1.mp (by exact h20)
              have hm_ : m.toNatClampNeg = nT (gI τ14 36) := by rw [hm, ← g6_14]; rfl
              have hmp : aI τ14 39 m.toNatClampNeg = Int32.ofInt i := by rw [hm_]; exact hP14.2.2.2.2.2.1.2.1
              have hi7 : i ≤ 6 := hP14.2.2.2.2.2.1.2.2
              intro p22
              refine ⟨fun h23 => ?_, fun h23 => ?_⟩
              · refine hB _ _ _ _ _ (fun m24 hm24 => ?_)
                dsimp only [ugo, uwp, ust, uct, rfd, Bparam, Nat.beq, lv_args, rlk, rs1, rs2, rdl, rky, rcd, rno, rsw, Value.category, List.filter, List.take, List.drop, List.reverse, List.reverseAux, List.cons_append, List.nil_append, Option.toList, Int.toNat, Int.reduceToNat, if_pos, if_neg, reduceIte, ↓reduceIte, Nat.reduceAdd, Nat.reduceEqDiff, Nat.reduceBEq, beq_self_eq_true, Bool.not_true, Bool.not_false, Bool.and_true, Bool.and_false, Bool.true_and, Bool.false_and, gI_sI, gI_sL, gI_sA, gI_sM, gL_sI, gL_sL, gL_sA, gL_sM, aI_sI, aI_sL, aI_sA, aI_sM, aL_sI, aL_sL, aL_sA, aL_sM, Bparam_0, Bparam_11, Bparam_18, Bparam_20, Bparam_31, Bparam_36, Bparam_54, Bparam_56, Bparam_69, Bparam_74, Bparam_85, Bparam_95, oi_0, oi_1, oi_21, oi_3, oi_6]; try dsimp only
                have hi8 : ¬ i = 6 := fun q => h23 (hmp.trans ((i6 hi7).mpr q))
                have hi6 : i < 6 := by omega
                have hmi : upd (aI τ14 39) m.toNatClampNeg (aI τ14 39 m.toNatClampNeg + 1) = upd (aI τ14 39) (nT (gI τ14 36)) (Int32.ofInt i + 1) := by rw [hmp, hm_]
                intro p25
                intro p26
                refine ⟨trivial, fun w27 τ27 hq27 => ?_⟩
                have hV27 := hq27 (accY (accY s)) 21 ⟨(PaR.x hP14).1.kp rfl rfl rfl (aI_ne (by decide)) (aI_ne (by decide)) (aI_ne (by decide)), ⟨by show (gI τ14 17).toInt + _ = _; rw [hP14.2.1.1]; rfl, by decide⟩, by omega, ⟨(by rw [hP14.2.2.1.1]; exact (vlR_c (aI_ne (by decide)) (aI_ne (by decide)) (aI_ne (by decide)) (aI_ne (by decide)) _).symm), hP14.2.2.1.2⟩⟩
                rcases hV27 with ⟨rfl, hF27⟩ | ⟨rfl, hSh27, hz27, hl27, hva27⟩
                · dsimp only [Option.toList, List.cons_append, List.nil_append, Nat.beq, gI_sI, gI_sL, gI_sA, gI_sM, gL_sI, gL_sL, gL_sA, gL_sM, aI_sI, aI_sL, aI_sA, aI_sM, aL_sI, aL_sL, aL_sA, aL_sM]
                  have hF27 : FlR τ27 (dclY (aI τ5 6 (gI τ5 14).toNatClampNeg).toInt 1 1 (accY (accY s))) := hF27
                  unfold Qv_param
                  try dsimp only
                  refine Or.inl ⟨rfl, FlR.g hF27 ?_⟩
                  rw [pa1_1 hc2, typ_y hty, htv, pa2_y hi6]
                  exact gd_pad _
                · dsimp only [Option.toList, List.cons_append, List.nil_append, Nat.beq, gI_sI, gI_sL, gI_sA, gI_sM, gL_sI, gL_sL, gL_sA, gL_sM, aI_sI, aI_sL, aI_sA, aI_sM, aL_sI, aL_sL, aL_sA, aL_sM]
                  unfold Qv_param
                  try dsimp only
                  refine Or.inr ⟨rfl, hi6, ?_, (hva27.1 36 (by decide) (by decide)).trans g6_14, (hva27.1 49 (by decide) (by decide)).trans g9_14⟩
                  rw [pa1_1 hc2, typ_y hty, htv, pa2_y hi6, dcl_y (hP14.1.1.1) hcn hl27]
                  exact PaR.va hP14 hi6 (by rw [hmi] at hva27; exact hva27) hSh27
              · refine hB _ _ _ _ _ (fun m28 hm28 => ?_)
                dsimp only [ugo, uwp, ust, uct, rfd, Bparam, Nat.beq, lv_args, rlk, rs1, rs2, rdl, rky, rcd, rno, rsw, Value.category, List.filter, List.take, List.drop, List.reverse, List.reverseAux, List.cons_append, List.nil_append, Option.toList, Int.toNat, Int.reduceToNat, if_pos, if_neg, reduceIte, ↓reduceIte, Nat.reduceAdd, Nat.reduceEqDiff, Nat.reduceBEq, beq_self_eq_true, Bool.not_true, Bool.not_false, Bool.and_true, Bool.and_false, Bool.true_and, Bool.false_and, gI_sI, gI_sL, gI_sA, gI_sM, gL_sI, gL_sL, gL_sA, gL_sM, aI_sI, aI_sL, aI_sA, aI_sM, aL_sI, aL_sL, aL_sA, aL_sM, Bparam_0, Bparam_11, Bparam_18, Bparam_20, Bparam_31, Bparam_36, Bparam_54, Bparam_56, Bparam_69, Bparam_74, Bparam_85, Bparam_95, oi_0, oi_1, oi_21, oi_3, oi_6]; try dsimp only
                have hi6 := (i6 hi7).mp (hmp.symm.trans (by exact h23))
                refine ⟨trivial, fun w29 τ29 hq29 => ?_⟩
                obtain ⟨rfl, hf29⟩ := hq29 trivial
                dsimp only [Option.toList, List.cons_append, List.nil_append, Nat.beq, gI_sI, gI_sL, gI_sA, gI_sM, gL_sI, gL_sL, gL_sA, gL_sM, aI_sI, aI_sL, aI_sA, aI_sM, aL_sI, aL_sL, aL_sA, aL_sM]
                unfold Qv_param
                try dsimp only
                have e := hf29 hP14.1.1.2
                subst e
                refine Or.inl ⟨rfl, ?_⟩
                rw [pa1_1 hc2, typ_y hty, pa2_n (by omega), dcl_p hcn]
                exact FlR.rai hP14.1 (by decide) (by show (3 : Int32).toInt = _; rw [if_neg (by omega)]; rfl) rfl
            · refine hB _ _ _ _ _ (fun m30 hm30 => ?_)
              dsimp only [ugo, uwp, ust, uct, rfd, Bparam, Nat.beq, lv_args, rlk, rs1, rs2, rdl, rky, rcd, rno, rsw, Value.category, List.filter, List.take, List.drop, List.reverse, List.reverseAux, List.cons_append, List.nil_append, Option.toList, Int.toNat, Int.reduceToNat, if_pos, if_neg, reduceIte, ↓reduceIte, Nat.reduceAdd, Nat.reduceEqDiff, Nat.reduceBEq, beq_self_eq_true, Bool.not_true, Bool.not_false, Bool.and_true, Bool.and_false, Bool.true_and, Bool.false_and, gI_sI, gI_sL, gI_sA, gI_sM, gL_sI, gL_sL, gL_sA, gL_sM, aI_sI, aI_sL, aI_sA, aI_sM, aL_sI, aL_sL, aL_sA, aL_sM, Bparam_0, Bparam_11, Bparam_18, Bparam_20, Bparam_31, Bparam_36, Bparam_54, Bparam_56, Bparam_69, Bparam_74, Bparam_85, Bparam_95, oi_0, oi_1, oi_21, oi_3, oi_6]; try dsimp only
              have hnn : ¬ codY (accY (accY s)) = 80 := fun q => h20 (hP14.1.ki.2.2.1.mpr q)
              refine ⟨trivial, fun w31 τ31 hq31 => ?_⟩
              have hq31 := hq31 (accY (accY s)) (XrR.s (PaR.x hP14))
              obtain ⟨rfl, hF31⟩ := hq31
              dsimp only [Option.toList, List.cons_append, List.nil_append, Nat.beq, gI_sI, gI_sL, gI_sA, gI_sM, gL_sI, gL_sL, gL_sA, gL_sM, aI_sI, aI_sL, aI_sA, aI_sM, aL_sI, aL_sL, aL_sA, aL_sM]
              unfold Qv_param
              try dsimp only
              refine Or.inl ⟨rfl, FlR.g hF31 ?_⟩
              rw [pa1_1 hc2, typ_y hty]
              exact pa2_8 hnn
        · dsimp only [Option.toList, List.cons_append, List.nil_append, Nat.beq, gI_sI, gI_sL, gI_sA, gI_sM, gL_sI, gL_sL, gL_sA, gL_sM, aI_sI, aI_sL, aI_sA, aI_sM, aL_sI, aL_sL, aL_sA, aL_sM]
          have hc10 : ¬ (50 ≤ codY (accY s) ∧ codY (accY s) ≤ 54) := fun q => hk10 (he10.mpr q)
          refine ⟨fun h32 => absurd h32 (by decide), fun h32 => ?_⟩
          clear h32
          refine hB _ _ _ _ _ (fun m33 hm33 => ?_)
          dsimp only [ugo, uwp, ust, uct, rfd, Bparam, Nat.beq, lv_args, rlk, rs1, rs2, rdl, rky, rcd, rno, rsw, Value.category, List.filter, List.take, List.drop, List.reverse, List.reverseAux, List.cons_append, List.nil_append, Option.toList, Int.toNat, Int.reduceToNat, if_pos, if_neg, reduceIte, ↓reduceIte, Nat.reduceAdd, Nat.reduceEqDiff, Nat.reduceBEq, beq_self_eq_true, Bool.not_true, Bool.not_false, Bool.and_true, Bool.and_false, Bool.true_and, Bool.false_and, gI_sI, gI_sL, gI_sA, gI_sM, gL_sI, gL_sL, gL_sA, gL_sM, aI_sI, aI_sL, aI_sA, aI_sM, aL_sI, aL_sL, aL_sA, aL_sM, Bparam_0, Bparam_11, Bparam_18, Bparam_20, Bparam_31, Bparam_36, Bparam_54, Bparam_56, Bparam_69, Bparam_74, Bparam_85, Bparam_95, oi_0, oi_1, oi_21, oi_3, oi_6]; try dsimp only
          refine ⟨trivial, fun w34 τ34 hq34 => ?_⟩
          have hq34 := hq34 (accY s) (XrR.s (PaR.x hP5))
          obtain ⟨rfl, hF34⟩ := hq34
          dsimp only [Option.toList, List.cons_append, List.nil_append, Nat.beq, gI_sI, gI_sL, gI_sA, gI_sM, gL_sI, gL_sL, gL_sA, gL_sM, aI_sI, aI_sL, aI_sA, aI_sM, aL_sI, aL_sL, aL_sA, aL_sM]
          unfold Qv_param
          try dsimp only
          refine Or.inl ⟨rfl, FlR.g hF34 ?_⟩
          rw [pa1_1 hc2, typ_n hc10]
          exact gd_pa2 _
    · dsimp only [Option.toList, List.cons_append, List.nil_append, Nat.beq, gI_sI, gI_sL, gI_sA, gI_sM, gL_sI, gL_sL, gL_sA, gL_sM, aI_sI, aI_sL, aI_sA, aI_sM, aL_sI, aL_sL, aL_sA, aL_sM]
      have hc2 : ¬ codY s = 71 := fun q => hk2 (he2.mpr q)
      refine ⟨fun h35 => ?_, fun h35 => absurd h35 (by decide)⟩
      clear h35
      refine hB _ _ _ _ _ (fun m36 hm36 => ?_)
      dsimp only [ugo, uwp, ust, uct, rfd, Bparam, Nat.beq, lv_args, rlk, rs1, rs2, rdl, rky, rcd, rno, rsw, Value.category, List.filter, List.take, List.drop, List.reverse, List.reverseAux, List.cons_append, List.nil_append, Option.toList, Int.toNat, Int.reduceToNat, if_pos, if_neg, reduceIte, ↓reduceIte, Nat.reduceAdd, Nat.reduceEqDiff, Nat.reduceBEq, beq_self_eq_true, Bool.not_true, Bool.not_false, Bool.and_true, Bool.and_false, Bool.true_and, Bool.false_and, gI_sI, gI_sL, gI_sA, gI_sM, gL_sI, gL_sL, gL_sA, gL_sM, aI_sI, aI_sL, aI_sA, aI_sM, aL_sI, aL_sL, aL_sA, aL_sM, Bparam_0, Bparam_11, Bparam_18, Bparam_20, Bparam_31, Bparam_36, Bparam_54, Bparam_56, Bparam_69, Bparam_74, Bparam_85, Bparam_95, oi_0, oi_1, oi_21, oi_3, oi_6]; try dsimp only
      refine ⟨trivial, fun w37 τ37 hq37 => ?_⟩
      obtain ⟨rfl, b37, rfl, hb37⟩ := hq37 trivial
      have he37 := (XrR.s (PaR.x hP)).ty
      rcases hb37 with ⟨rfl, hk37⟩ | ⟨rfl, hk37⟩
      · dsimp only [Option.toList, List.cons_append, List.nil_append, Nat.beq, gI_sI, gI_sL, gI_sA, gI_sM, gL_sI, gL_sL, gL_sA, gL_sM, aI_sI, aI_sL, aI_sA, aI_sM, aL_sI, aL_sL, aL_sA, aL_sM]
        have hc37 : 50 ≤ codY s ∧ codY s ≤ 54 := he37.mp hk37
        refine ⟨fun h38 => ?_, fun h38 => absurd h38 (by decide)⟩
        clear h38
        refine hB _ _ _ _ _ (fun m39 hm39 => ?_)
        dsimp only [ugo, uwp, ust, uct, rfd, Bparam, Nat.beq, lv_args, rlk, rs1, rs2, rdl, rky, rcd, rno, rsw, Value.category, List.filter, List.take, List.drop, List.reverse, List.reverseAux, List.cons_append, List.nil_append, Option.toList, Int.toNat, Int.reduceToNat, if_pos, if_neg, reduceIte, ↓reduceIte, Nat.reduceAdd, Nat.reduceEqDiff, Nat.reduceBEq, beq_self_eq_true, Bool.not_true, Bool.not_false, Bool.and_true, Bool.and_false, Bool.true_and, Bool.false_and, gI_sI, gI_sL, gI_sA, gI_sM, gL_sI, gL_sL, gL_sA, gL_sM, aI_sI, aI_sL, aI_sA, aI_sM, aL_sI, aL_sL, aL_sA, aL_sM, Bparam_0, Bparam_11, Bparam_18, Bparam_20, Bparam_31, Bparam_36, Bparam_54, Bparam_56, Bparam_69, Bparam_74, Bparam_85, Bparam_95, oi_0, oi_1, oi_21, oi_3, oi_6]; try dsimp only
        have hty : 50 ≤ codY s ∧ codY s ≤ 54 := hc37
        have hty2 := hP.1.ty2 (show 50 ≤ codY s ∧ codY s ≤ 55 by omega)
        have htv := (tyv_y hty).trans hty2.symm
        intro p40
        refine ⟨trivial, fun w41 τ41 hq41 => ?_⟩
        have hq41 := hq41 _ s 21 ⟨(PaR.x hP), by omega, by omega⟩
        rcases hq41 with ⟨rfl, hF41⟩ | ⟨rfl, hX41, hz41, hS41⟩
        · dsimp only [Option.toList, List.cons_append, List.nil_append, Nat.beq, gI_sI, gI_sL, gI_sA, gI_sM, gL_sI, gL_sL, gL_sA, gL_sM, aI_sI, aI_sL, aI_sA, aI_sM, aL_sI, aL_sL, aL_sA, aL_sM]
          refine ⟨fun h42 => absurd h42 (by decide), fun h42 => ?_⟩
          clear h42
          refine hB _ _ _ _ _ (fun m43 hm43 => ?_)
          dsimp only [ugo, uwp, ust, uct, rfd, Bparam, Nat.beq, lv_args, rlk, rs1, rs2, rdl, rky, rcd, rno, rsw, Value.category, List.filter, List.take, List.drop, List.reverse, List.reverseAux, List.cons_append, List.nil_append, Option.toList, Int.toNat, Int.reduceToNat, if_pos, if_neg, reduceIte, ↓reduceIte, Nat.reduceAdd, Nat.reduceEqDiff, Nat.reduceBEq, beq_self_eq_true, Bool.not_true, Bool.not_false, Bool.and_true, Bool.and_false, Bool.true_and, Bool.false_and, gI_sI, gI_sL, gI_sA, gI_sM, gL_sI, gL_sL, gL_sA, gL_sM, aI_sI, aI_sL, aI_sA, aI_sM, aL_sI, aL_sL, aL_sA, aL_sM, Bparam_0, Bparam_11, Bparam_18, Bparam_20, Bparam_31, Bparam_36, Bparam_54, Bparam_56, Bparam_69, Bparam_74, Bparam_85, Bparam_95, oi_0, oi_1, oi_21, oi_3, oi_6]; try dsimp only
          unfold Qv_param
          try dsimp only
          refine Or.inl ⟨rfl, FlR.g hF41 ?_⟩
          rw [pa1_0 hc2, typ_y hty]
          exact gd_pa2 _
        · dsimp only [Option.toList, List.cons_append, List.nil_append, Nat.beq, gI_sI, gI_sL, gI_sA, gI_sM, gL_sI, gL_sL, gL_sA, gL_sM, aI_sI, aI_sL, aI_sA, aI_sM, aL_sI, aL_sL, aL_sA, aL_sM]
          have hP41 := PaR.s1 hP hX41 hS41
          have g6_41 : gI τ41 36 = gI σ 36 := (hS41.1 36 (by decide)).trans rfl
          have g9_41 : gI τ41 49 = gI σ 49 := (hS41.1 49 (by decide)).trans rfl
          refine ⟨fun h44 => ?_, fun h44 => absurd h44 (by decide)⟩
          clear h44
          refine hB _ _ _ _ _ (fun m45 hm45 => ?_)
          dsimp only [ugo, uwp, ust, uct, rfd, Bparam, Nat.beq, lv_args, rlk, rs1, rs2, rdl, rky, rcd, rno, rsw, Value.category, List.filter, List.take, List.drop, List.reverse, List.reverseAux, List.cons_append, List.nil_append, Option.toList, Int.toNat, Int.reduceToNat, if_pos, if_neg, reduceIte, ↓reduceIte, Nat.reduceAdd, Nat.reduceEqDiff, Nat.reduceBEq, beq_self_eq_true, Bool.not_true, Bool.not_false, Bool.and_true, Bool.and_false, Bool.true_and, Bool.false_and, gI_sI, gI_sL, gI_sA, gI_sM, gL_sI, gL_sL, gL_sA, gL_sM, aI_sI, aI_sL, aI_sA, aI_sM, aL_sI, aL_sL, aL_sA, aL_sM, Bparam_0, Bparam_11, Bparam_18, Bparam_20, Bparam_31, Bparam_36, Bparam_54, Bparam_56, Bparam_69, Bparam_74, Bparam_85, Bparam_95, oi_0, oi_1, oi_21, oi_3, oi_6]; try dsimp only
          intro p46
          refine ⟨fun h47 => ?_, fun h47 => ?_⟩
          · refine hB _ _ _ _ _ (fun m48 hm48 => ?_)
            dsimp only [ugo, uwp, ust, uct, rfd, Bparam, Nat.beq, lv_args, rlk, rs1, rs2, rdl, rky, rcd, rno, rsw, Value.category, List.filter, List.take, List.drop, List.reverse, List.reverseAux, List.cons_append, List.nil_append, Option.toList, Int.toNat, Int.reduceToNat, if_pos, if_neg, reduceIte, ↓reduceIte, Nat.reduceAdd, Nat.reduceEqDiff, Nat.reduceBEq, beq_self_eq_true, Bool.not_true, Bool.not_false, Bool.and_true, Bool.and_false, Bool.true_and, Bool.false_and, gI_sI, gI_sL, gI_sA, gI_sM, gL_sI, gL_sL, gL_sA, gL_sM, aI_sI, aI_sL, aI_sA, aI_sM, aL_sI, aL_sL, aL_sA, aL_sM, Bparam_0, Bparam_11, Bparam_18, Bparam_20, Bparam_31, Bparam_36, Bparam_54, Bparam_56, Bparam_69, Bparam_74, Bparam_85, Bparam_95, oi_0, oi_1, oi_21, oi_3, oi_6]; try dsimp only
            have hcn := hP41.1.ki.2.2.1.mp (by exact h47)
            have hm_ : m.toNatClampNeg = nT (gI τ41 36) := by rw [hm, ← g6_41]; rfl
            have hmp : aI τ41 39 m.toNatClampNeg = Int32.ofInt i := by rw [hm_]; exact hP41.2.2.2.2.2.1.2.1
            have hi7 : i ≤ 6 := hP41.2.2.2.2.2.1.2.2
            intro p49
            refine ⟨fun h50 => ?_, fun h50 => ?_⟩
            · refine hB _ _ _ _ _ (fun m51 hm51 => ?_)
              dsimp only [ugo, uwp, ust, uct, rfd, Bparam, Nat.beq, lv_args, rlk, rs1, rs2, rdl, rky, rcd, rno, rsw, Value.category, List.filter, List.take, List.drop, List.reverse, List.reverseAux, List.cons_append, List.nil_append, Option.toList, Int.toNat, Int.reduceToNat, if_pos, if_neg, reduceIte, ↓reduceIte, Nat.reduceAdd, Nat.reduceEqDiff, Nat.reduceBEq, beq_self_eq_true, Bool.not_true, Bool.not_false, Bool.and_true, Bool.and_false, Bool.true_and, Bool.false_and, gI_sI, gI_sL, gI_sA, gI_sM, gL_sI, gL_sL, gL_sA, gL_sM, aI_sI, aI_sL, aI_sA, aI_sM, aL_sI, aL_sL, aL_sA, aL_sM, Bparam_0, Bparam_11, Bparam_18, Bparam_20, Bparam_31, Bparam_36, Bparam_54, Bparam_56, Bparam_69, Bparam_74, Bparam_85, Bparam_95, oi_0, oi_1, oi_21, oi_3, oi_6]; try dsimp only
              have hi8 : ¬ i = 6 := fun q => h50 (hmp.trans ((i6 hi7).mpr q))
              have hi6 : i < 6 := by omega
              have hmi : upd (aI τ41 39) m.toNatClampNeg (aI τ41 39 m.toNatClampNeg + 1) = upd (aI τ41 39) (nT (gI τ41 36)) (Int32.ofInt i + 1) := by rw [hmp, hm_]
              intro p52
              intro p53
              refine ⟨trivial, fun w54 τ54 hq54 => ?_⟩
              have hV54 := hq54 (accY s) 21 ⟨(PaR.x hP41).1.kp rfl rfl rfl (aI_ne (by decide)) (aI_ne (by decide)) (aI_ne (by decide)), ⟨by show (gI τ41 17).toInt + _ = _; rw [hP41.2.1.1]; rfl, by decide⟩, by omega, ⟨(by rw [hP41.2.2.1.1]; exact (vlR_c (aI_ne (by decide)) (aI_ne (by decide)) (aI_ne (by decide)) (aI_ne (by decide)) _).symm), hP41.2.2.1.2⟩⟩
              rcases hV54 with ⟨rfl, hF54⟩ | ⟨rfl, hSh54, hz54, hl54, hva54⟩
              · dsimp only [Option.toList, List.cons_append, List.nil_append, Nat.beq, gI_sI, gI_sL, gI_sA, gI_sM, gL_sI, gL_sL, gL_sA, gL_sM, aI_sI, aI_sL, aI_sA, aI_sM, aL_sI, aL_sL, aL_sA, aL_sM]
                have hF54 : FlR τ54 (dclY (aI σ 6 (gI σ 14).toNatClampNeg).toInt 0 1 (accY s)) := hF54
                unfold Qv_param
                try dsimp only
                refine Or.inl ⟨rfl, FlR.g hF54 ?_⟩
                rw [pa1_0 hc2, typ_y hty, htv, pa2_y hi6]
                exact gd_pad _
              · dsimp only [Option.toList, List.cons_append, List.nil_append, Nat.beq, gI_sI, gI_sL, gI_sA, gI_sM, gL_sI, gL_sL, gL_sA, gL_sM, aI_sI, aI_sL, aI_sA, aI_sM, aL_sI, aL_sL, aL_sA, aL_sM]
                unfold Qv_param
                try dsimp only
                refine Or.inr ⟨rfl, hi6, ?_, (hva54.1 36 (by decide) (by decide)).trans g6_41, (hva54.1 49 (by decide) (by decide)).trans g9_41⟩
                rw [pa1_0 hc2, typ_y hty, htv, pa2_y hi6, dcl_y (hP41.1.1.1) hcn hl54]
                exact PaR.va hP41 hi6 (by rw [hmi] at hva54; exact hva54) hSh54
            · refine hB _ _ _ _ _ (fun m55 hm55 => ?_)
              dsimp only [ugo, uwp, ust, uct, rfd, Bparam, Nat.beq, lv_args, rlk, rs1, rs2, rdl, rky, rcd, rno, rsw, Value.category, List.filter, List.take, List.drop, List.reverse, List.reverseAux, List.cons_append, List.nil_append, Option.toList, Int.toNat, Int.reduceToNat, if_pos, if_neg, reduceIte, ↓reduceIte, Nat.reduceAdd, Nat.reduceEqDiff, Nat.reduceBEq, beq_self_eq_true, Bool.not_true, Bool.not_false, Bool.and_true, Bool.and_false, Bool.true_and, Bool.false_and, gI_sI, gI_sL, gI_sA, gI_sM, gL_sI, gL_sL, gL_sA, gL_sM, aI_sI, aI_sL, aI_sA, aI_sM, aL_sI, aL_sL, aL_sA, aL_sM, Bparam_0, Bparam_11, Bparam_18, Bparam_20, Bparam_31, Bparam_36, Bparam_54, Bparam_56, Bparam_69, Bparam_74, Bparam_85, Bparam_95, oi_0, oi_1, oi_21, oi_3, oi_6]; try dsimp only
              have hi6 := (i6 hi7).mp (hmp.symm.trans (by exact h50))
              refine ⟨trivial, fun w56 τ56 hq56 => ?_⟩
              obtain ⟨rfl, hf56⟩ := hq56 trivial
              dsimp only [Option.toList, List.cons_append, List.nil_append, Nat.beq, gI_sI, gI_sL, gI_sA, gI_sM, gL_sI, gL_sL, gL_sA, gL_sM, aI_sI, aI_sL, aI_sA, aI_sM, aL_sI, aL_sL, aL_sA, aL_sM]
              unfold Qv_param
              try dsimp only
              have e := hf56 hP41.1.1.2
              subst e
              refine Or.inl ⟨rfl, ?_⟩
              rw [pa1_0 hc2, typ_y hty, pa2_n (by omega), dcl_p hcn]
              exact FlR.rai hP41.1 (by decide) (by show (3 : Int32).toInt = _; rw [if_neg (by omega)]; rfl) rfl
          · refine hB _ _ _ _ _ (fun m57 hm57 => ?_)
            dsimp only [ugo, uwp, ust, uct, rfd, Bparam, Nat.beq, lv_args, rlk, rs1, rs2, rdl, rky, rcd, rno, rsw, Value.category, List.filter, List.take, List.drop, List.reverse, List.reverseAux, List.cons_append, List.nil_append, Option.toList, Int.toNat, Int.reduceToNat, if_pos, if_neg, reduceIte, ↓reduceIte, Nat.reduceAdd, Nat.reduceEqDiff, Nat.reduceBEq, beq_self_eq_true, Bool.not_true, Bool.not_false, Bool.and_true, Bool.and_false, Bool.true_and, Bool.false_and, gI_sI, gI_sL, gI_sA, gI_sM, gL_sI, gL_sL, gL_sA, gL_sM, aI_sI, aI_sL, aI_sA, aI_sM, aL_sI, aL_sL, aL_sA, aL_sM, Bparam_0, Bparam_11, Bparam_18, Bparam_20, Bparam_31, Bparam_36, Bparam_54, Bparam_56, Bparam_69, Bparam_74, Bparam_85, Bparam_95, oi_0, oi_1, oi_21, oi_3, oi_6]; try dsimp only
            have hnn : ¬ codY (accY s) = 80 := fun q => h47 (hP41.1.ki.2.2.1.mpr q)
            refine ⟨trivial, fun w58 τ58 hq58 => ?_⟩
            have hq58 := hq58 (accY s) (XrR.s (PaR.x hP41))
            obtain ⟨rfl, hF58⟩ := hq58
            dsimp only [Option.toList, List.cons_append, List.nil_append, Nat.beq, gI_sI, gI_sL, gI_sA, gI_sM, gL_sI, gL_sL, gL_sA, gL_sM, aI_sI, aI_sL, aI_sA, aI_sM, aL_sI, aL_sL, aL_sA, aL_sM]
            unfold Qv_param
            try dsimp only
            refine Or.inl ⟨rfl, FlR.g hF58 ?_⟩
            rw [pa1_0 hc2, typ_y hty]
            exact pa2_8 hnn
      · dsimp only [Option.toList, List.cons_append, List.nil_append, Nat.beq, gI_sI, gI_sL, gI_sA, gI_sM, gL_sI, gL_sL, gL_sA, gL_sM, aI_sI, aI_sL, aI_sA, aI_sM, aL_sI, aL_sL, aL_sA, aL_sM]
        have hc37 : ¬ (50 ≤ codY s ∧ codY s ≤ 54) := fun q => hk37 (he37.mpr q)
        refine ⟨fun h59 => absurd h59 (by decide), fun h59 => ?_⟩
        clear h59
        refine hB _ _ _ _ _ (fun m60 hm60 => ?_)
        dsimp only [ugo, uwp, ust, uct, rfd, Bparam, Nat.beq, lv_args, rlk, rs1, rs2, rdl, rky, rcd, rno, rsw, Value.category, List.filter, List.take, List.drop, List.reverse, List.reverseAux, List.cons_append, List.nil_append, Option.toList, Int.toNat, Int.reduceToNat, if_pos, if_neg, reduceIte, ↓reduceIte, Nat.reduceAdd, Nat.reduceEqDiff, Nat.reduceBEq, beq_self_eq_true, Bool.not_true, Bool.not_false, Bool.and_true, Bool.and_false, Bool.true_and, Bool.false_and, gI_sI, gI_sL, gI_sA, gI_sM, gL_sI, gL_sL, gL_sA, gL_sM, aI_sI, aI_sL, aI_sA, aI_sM, aL_sI, aL_sL, aL_sA, aL_sM, Bparam_0, Bparam_11, Bparam_18, Bparam_20, Bparam_31, Bparam_36, Bparam_54, Bparam_56, Bparam_69, Bparam_74, Bparam_85, Bparam_95, oi_0, oi_1, oi_21, oi_3, oi_6]; try dsimp only
        refine ⟨trivial, fun w61 τ61 hq61 => ?_⟩
        have hq61 := hq61 s (XrR.s (PaR.x hP))
        obtain ⟨rfl, hF61⟩ := hq61
        dsimp only [Option.toList, List.cons_append, List.nil_append, Nat.beq, gI_sI, gI_sL, gI_sA, gI_sM, gL_sI, gL_sL, gL_sA, gL_sM, aI_sI, aI_sL, aI_sA, aI_sM, aL_sI, aL_sL, aL_sA, aL_sM]
        unfold Qv_param
        try dsimp only
        refine Or.inl ⟨rfl, FlR.g hF61 ?_⟩
        rw [pa1_0 hc2, typ_n hc37]
        exact gd_pa2 _
  next => exact hP.elim
theorem w_param : UMet 39 (fun _ _ => True) Qw_param := fun A1 σ _ w τ h s i hP => v_param s i A1 σ hP w τ h
