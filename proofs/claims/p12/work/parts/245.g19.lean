def MhR (σ : RS) (s : SpC) : Prop := ShR σ s ∧ (gI σ 17).toInt = 0 ∧ MvR σ s
theorem MhR.x {σ : RS} {s : SpC} (h : MhR σ s) : XrR σ σ s 21 := ⟨h.1, ⟨by rw [h.2.1]; rfl, by decide⟩, KR.rf⟩
theorem MhR.s1 {σ τ : RS} {s : SpC} (h : MhR σ s) (x : XrR σ τ (accY s) 21) (s1 : S1 14 σ τ) : MhR τ (accY s) := ⟨x.1, by rw [s1.1 17 (by decide)]; exact h.2.1, h.2.2.c acc2 (s1.1 36 (by decide)) (s1.1 42 (by decide)) (fun k _ => s1.2 k)⟩
/-- a method's row -/
def mzR (σ : RS) (ty : Int32) : RS := sI (sA (sA (sA (sA σ 37 (upd (aI σ 37) (gI σ 36).toNatClampNeg (gI σ 14))) 38 (upd (aI σ 38) (gI σ 36).toNatClampNeg ty)) 39 (upd (aI σ 39) (gI σ 36).toNatClampNeg 0)) 40 (upd (aI σ 40) (gI σ 36).toNatClampNeg (gI σ 42))) 62 0
theorem PaR.new {σ τ : RS} {s : SpC} {ty : Int32} (h : MhR σ s) (h10 : ¬ gI σ 36 = 10) (e : Th (mzR σ ty) τ) : PaR τ (metY ty.toInt s) 0 := by
  obtain ⟨hS, h17, ⟨hv, hM, h36, hB⟩⟩ := h
  have p := e.2.2.2.1
  have g : ∀ k, k ≠ 49 → k ≠ 62 → gI τ k = gI σ k := fun k h1 h2 => (e.1 k h1).trans (by show gI (sI _ 62 0) k = _; rw [gI_sI, nb_ne h2]; rfl)
  have r37 : aI τ 37 = upd (aI σ 37) (nT (gI σ 36)) (gI σ 14) := (p 37 (by omega)).trans rfl
  have r38 : aI τ 38 = upd (aI σ 38) (nT (gI σ 36)) ty := (p 38 (by omega)).trans rfl
  have r39 : aI τ 39 = upd (aI σ 39) (nT (gI σ 36)) 0 := (p 39 (by omega)).trans rfl
  have r40 : aI τ 40 = upd (aI σ 40) (nT (gI σ 36)) (gI σ 42) := (p 40 (by omega)).trans rfl
  have r : ∀ k, k < 37 ∨ (40 < k ∧ k < 50) → aI τ k = aI σ k := fun k hk => (p k (by omega)).trans ((aI_ne (by omega)).trans ((aI_ne (by omega)).trans ((aI_ne (by omega)).trans ((aI_ne (by omega)).trans rfl))))
  have ml : mlR τ (nT (gI σ 36)) = mlR σ (nT (gI σ 36)) := mlR_g _ (fun m hm => ⟨by rw [r37, upd_ne (by omega)], by rw [r38, upd_ne (by omega)], by rw [r40, r39, upd_ne (by omega), upd_ne (by omega), r 44 (by omega)]⟩)
  refine ⟨(hS.kp (g 2 (by decide) (by decide)) (g 14 (by decide) (by decide)) (g 15 (by decide) (by decide)) (r 3 (by omega)) (r 4 (by omega)) (r 6 (by omega))).s2 rfl rfl, ⟨by rw [g 17 (by decide) (by decide)]; exact h17, (e.1 62 (by decide)).trans rfl⟩, ?_, ?_, ?_, ⟨?_, ?_, by omega⟩, ?_⟩
  · unfold VvR
    rw [g 42 (by decide) (by decide), vlR_c (r 43 (by omega)) (r 44 (by omega)) (r 45 (by omega)) (r 46 (by omega))]
    exact hv
  · rw [g 36 (by decide) (by decide)]
    exact ⟨h36.1, by lia⟩
  · rw [g 36 (by decide) (by decide), mlR, ml, r37, r38, r39, r40, upd_eq, upd_eq, upd_eq, upd_eq]
    show (zAt s, ty.toInt, []) :: zMs s = _
    rw [hM, hS.2.1.1]
    rfl
  · rw [g 36 (by decide) (by decide), g 42 (by decide) (by decide), r40, upd_eq]
    rfl
  · rw [g 36 (by decide) (by decide), r39, upd_eq]
    rfl
  · intro m hm
    rw [g 36 (by decide) (by decide)] at hm
    rw [r40, r39, upd_ne (by omega), upd_ne (by omega), g 42 (by decide) (by decide)]
    exact hB m hm
/-- its body begins -/
theorem SR.new {σ : RS} {s : SpC} {i : Nat} {f : Nat → Int32} (h : PaR σ s i) : SR (sI (sA σ 41 f) 36 (gI σ 36 + 1)) s 21 ∧ FgR (sI (sA σ 41 f) 36 (gI σ 36 + 1)) 0 ∧ frR (sI (sA σ 41 f) 36 (gI σ 36 + 1)) = [] ∧ 0 < gI σ 36 + 1 := by
  obtain ⟨hS, ⟨h17, h62⟩, hv, h36, hM, ⟨hA, hP, hL⟩, hB⟩ := h
  have en := nT_add h36.1 (show gI σ 36 < 2147483647 by lia)
  have f0 : frR (sI (sA σ 41 f) 36 (gI σ 36 + 1)) = [] := frR_nil (by show gI σ 62 ≤ 0; rw [h62]; decide)
  have n0 : nT (gI σ 62) = 0 := by rw [h62]; rfl
  refine ⟨⟨hS.kp rfl rfl rfl rfl rfl rfl, ⟨by show (gI σ 17).toInt + _ = _; rw [h17]; rfl, by decide, by rw [f0]; rfl⟩, ⟨by rw [f0]; trivial, by show 0 ≤ gI σ 62; rw [h62]; decide, Or.inl f0⟩, ?_, ⟨?_, hv.2⟩, ?_, ?_, ?_⟩, ⟨Or.inl rfl, ?_⟩, f0, by lia⟩
  · intro j hj
    have hj : j < nT (gI σ 62) := hj
    omega
  · rw [hv.1]
    exact (vlR_c (σ := σ) (τ := sI (sA σ 41 f) 36 (gI σ 36 + 1)) rfl rfl rfl rfl _).symm
  · show zMs s = mlR _ (nT (gI σ 36 + 1))
    rw [en, hM]
    exact (mlR_c (σ := σ) (τ := sI (sA σ 41 f) 36 (gI σ 36 + 1)) rfl rfl rfl rfl rfl _).symm
  · show 0 ≤ gI σ 36 + 1 ∧ gI σ 36 + 1 ≤ 10
    lia
  · intro m hm
    have hm : m < nT (gI σ 36 + 1) := hm
    show nT (aI σ 40 m) + nT (aI σ 39 m) ≤ nT (gI σ 42)
    rw [en] at hm
    by_cases q : m = nT (gI σ 36)
    · subst q
      rw [hP, nT_of' (by omega)]
      omega
    · exact hB m (by omega)
  · intro j hj
    have hj : j + 1 = nT (gI σ 62) := hj
    omega
theorem me1_y {s : SpC} (h : (50 ≤ codY s ∧ codY s ≤ 54) ∨ codY s = 55) : me1Y s = s := by unfold me1Y; rw [if_pos h]
theorem me1_n {s : SpC} (h : ¬ ((50 ≤ codY s ∧ codY s ≤ 54) ∨ codY s = 55)) : me1Y s = raiY 2 s := by unfold me1Y; rw [if_neg h]
theorem me2_n {s : SpC} (h : ¬ codY s = 80) : me2Y s = raiY 2 s := by unfold me2Y; rw [if_neg h]
theorem me2_3 {s : SpC} (h : codY s = 80) (h1 : 10 ≤ (zMs s).length) : me2Y s = raiY 3 s := by unfold me2Y; rw [if_pos h, if_pos h1]
theorem me2_y {s : SpC} (h : codY s = 80) (h1 : ¬ 10 ≤ (zMs s).length) : me2Y s = s := by unfold me2Y; rw [if_pos h, if_neg h1]
theorem me3_y {ty : Int} {s : SpC} (z : zFt s = 0) : me3Y ty s = xpY 3 (rwY 20 0 (xpY 2 (xpY 1 (pa3Y (xpY 0 (accY (metY ty s))))))) := by unfold me3Y; rw [if_pos z]; rfl
theorem pa3_y {s : SpC} (h : codY s = 1) : pa3Y s = s := by unfold pa3Y; rw [if_pos h]
theorem pa3_n {s : SpC} (h : ¬ codY s = 1) : pa3Y s = palY 7 0 s := by unfold pa3Y; rw [if_neg h]
theorem gd_pa3 : GdY pa3Y := by
  intro s
  unfold pa3Y
  split
  · exact GpY.rf
  · exact gd_pal _ _ _
theorem pal_y {i : Nat} {s : SpC} (hi : i < 7) (h : codY (pa1Y i s) = 5) : palY (7 - i) i s = palY (7 - (i + 1)) (i + 1) (accY (pa1Y i s)) := by
  obtain ⟨f, hf⟩ : ∃ f, 7 - i = f + 1 := ⟨6 - i, by omega⟩
  rw [hf, palY, if_pos h, show 7 - (i + 1) = f by omega]
theorem pal_n {i : Nat} {s : SpC} (hi : i < 7) (h : ¬ codY (pa1Y i s) = 5) : palY (7 - i) i s = pa1Y i s := by
  obtain ⟨f, hf⟩ : ∃ f, 7 - i = f + 1 := ⟨6 - i, by omega⟩
  rw [hf, palY, if_neg h]
theorem pal_g {i : Nat} {s : SpC} (hi : i < 7) : GpY (pa1Y i s) (palY (7 - i) i s) := by
  obtain ⟨f, hf⟩ : ∃ f, 7 - i = f + 1 := ⟨6 - i, by omega⟩
  rw [hf, palY]
  split
  · exact (gd_acc _).tr (gd_pal _ _ _)
  · exact GpY.rf
def bdY (s : SpC) : SpC := xpY 3 (rwY 20 0 (xpY 2 s))
theorem gd_bd : GdY bdY := fun s => ((gd_xp s).tr (gd_rw _)).tr (gd_xp _)
theorem bd_y {s : SpC} (h : codY s = 2) : bdY s = pcY 1 [0] 20 (accY s) := by
  unfold bdY
  rw [xp_y h]
  exact cl_rw (k := 0) (F := []) (n := 20) (by decide) (by decide)
theorem gd_prl : ∀ f, GdY (prlY f) := by
  intro f
  induction f with
  | zero => exact fun s => GpY.rf
  | succ f ih =>
    intro s
    rw [prlY]
    split
    · split
      · exact GpY.rf
      · refine GpY.tr ?_ (ih _)
        unfold mthY me1Y
        split
        · exact ((gd_acc s).tr (gd_me2 _)).tr (gd_me3 _)
        · exact (((gd_rai s).tr (gd_acc _)).tr (gd_me2 _)).tr (gd_me3 _)
    · exact GpY.rf
theorem mh_len {σ : RS} {s : SpC} (h : MhR σ s) : (zMs s).length ≤ 10 := by
  rw [h.2.2.2.1, mlR_l]
  exact nT_le (y := 10) h.2.2.2.2.1.1 h.2.2.2.2.1.2
def Pv_method (s : SpC) : UP1 := fun A1 σ => match A1 with
  | [] => MhR σ s
  | _ => False
def Qv_method (s : SpC) : UQ1 := fun A1 σ w τ => match A1 with
  | [] => (w = some (.int 0) ∧ FlR τ (mthY s)) ∨ (w = some (.int 1) ∧ MhR τ (mthY s))
  | _ => False
def Qw_method : UQ1 := fun A1 σ w τ => ∀ (s : SpC), Pv_method s A1 σ → Qv_method s A1 σ w τ
set_option maxRecDepth 100000 in
set_option maxHeartbeats 4000000 in
theorem v_method (s : SpC) : UMet 38 (Pv_method s) (Qv_method s) := by
  refine UMet.by Bmethod [(13, (fun _ _ => True), Qw_cant), (14, (fun _ _ => True), Qw_isSign), (23, (fun _ _ => True), Qw_isType), (15, (fun _ _ => True), Qw_isWord), (36, (fun _ _ => True), Qw_open), (39, (fun _ _ => True), Qw_param), (44, (fun _ _ => True), Qw_piece), (17, (fun _ _ => True), Qw_take), (35, Pu_thing, Qu_thing), (18, (fun _ _ => True), Qw_want), (12, (fun _ _ => True), Qw_wrong)] rfl (ucc w_cant (ucc w_isSign (ucc w_isType (ucc w_isWord (ucc w_open (ucc w_param (ucc w_piece (ucc w_take (ucc u_thing (ucc w_want (ucc w_wrong uc0))))))))))) ?_
  intro A1 σ hP K hB hW
  unfold Pv_method at hP
  split at hP
  next =>
    have hM := hP
    have t259 : ∀ (N : Nat) (Y : RS) (t : SpC) (m : Nat) (b : Int), SR Y t m → FgR Y b → pcY b (frR Y) m t = mthY s → K N 259 [(0, .ref 1000)] [] Y := by
      intro N
      induction N using Nat.strongRecOn with
      | ind N t259 =>
        intro Y t m b hR hg hPh
        refine hB _ _ _ _ _ (fun m1 hm1 => ?_)
        dsimp only [ugo, uwp, ust, uct, rfd, Bmethod, Nat.beq, lv_args, rlk, rs1, rs2, rdl, rky, rcd, rno, rsw, Value.category, List.filter, List.take, List.drop, List.reverse, List.reverseAux, List.cons_append, List.nil_append, Option.toList, Int.toNat, Int.reduceToNat, if_pos, if_neg, reduceIte, ↓reduceIte, Nat.reduceAdd, Nat.reduceEqDiff, Nat.reduceBEq, beq_self_eq_true, Bool.not_true, Bool.not_false, Bool.and_true, Bool.and_false, Bool.true_and, Bool.false_and, gI_sI, gI_sL, gI_sA, gI_sM, gL_sI, gL_sL, gL_sA, gL_sM, aI_sI, aI_sL, aI_sA, aI_sM, aL_sI, aL_sL, aL_sA, aL_sM, Bmethod_0, Bmethod_8, Bmethod_19, Bmethod_24, Bmethod_41, Bmethod_43, Bmethod_56, Bmethod_61, Bmethod_70, Bmethod_80, Bmethod_141, Bmethod_150, Bmethod_152, Bmethod_161, Bmethod_165, Bmethod_166, Bmethod_168, Bmethod_173, Bmethod_182, Bmethod_184, Bmethod_197, Bmethod_204, Bmethod_206, Bmethod_215, Bmethod_217, Bmethod_246, Bmethod_257, Bmethod_259, Bmethod_266, Bmethod_273, Bmethod_275, oi_0, oi_1, oi_10, oi_123, oi_3, oi_40, oi_41, oi_44, oi_5, oi_m2, Pu_thing]; try dsimp only
        refine ⟨fun h2 => ?_, fun h2 => ?_⟩
        · refine hB _ _ _ _ _ (fun m3 hm3 => ?_)
          dsimp only [ugo, uwp, ust, uct, rfd, Bmethod, Nat.beq, lv_args, rlk, rs1, rs2, rdl, rky, rcd, rno, rsw, Value.category, List.filter, List.take, List.drop, List.reverse, List.reverseAux, List.cons_append, List.nil_append, Option.toList, Int.toNat, Int.reduceToNat, if_pos, if_neg, reduceIte, ↓reduceIte, Nat.reduceAdd, Nat.reduceEqDiff, Nat.reduceBEq, beq_self_eq_true, Bool.not_true, Bool.not_false, Bool.and_true, Bool.and_false, Bool.true_and, Bool.false_and, gI_sI, gI_sL, gI_sA, gI_sM, gL_sI, gL_sL, gL_sA, gL_sM, aI_sI, aI_sL, aI_sA, aI_sM, aL_sI, aL_sL, aL_sA, aL_sM, Bmethod_0, Bmethod_8, Bmethod_19, Bmethod_24, Bmethod_41, Bmethod_43, Bmethod_56, Bmethod_61, Bmethod_70, Bmethod_80, Bmethod_141, Bmethod_150, Bmethod_152, Bmethod_161, Bmethod_165, Bmethod_166, Bmethod_168, Bmethod_173, Bmethod_182, Bmethod_184, Bmethod_197, Bmethod_204, Bmethod_206, Bmethod_215, Bmethod_217, Bmethod_246, Bmethod_257, Bmethod_259, Bmethod_266, Bmethod_273, Bmethod_275, oi_0, oi_1, oi_10, oi_123, oi_3, oi_40, oi_41, oi_44, oi_5, oi_m2, Pu_thing]; try dsimp only
          unfold Qv_method
          try dsimp only
          have e := frR_nil (σ := Y) (by lia)
          have hn := hR.2.1
          rw [e] at hn hPh
          have hn2 : m + 0 = 21 + 0 := hn.2.2
          have hPh : t = mthY s := hPh
          rw [← hPh]
          exact Or.inr ⟨rfl, hR.1, by omega, hR.2.2.2.2⟩
        · refine hB _ _ _ _ _ (fun m4 hm4 => ?_)
          dsimp only [ugo, uwp, ust, uct, rfd, Bmethod, Nat.beq, lv_args, rlk, rs1, rs2, rdl, rky, rcd, rno, rsw, Value.category, List.filter, List.take, List.drop, List.reverse, List.reverseAux, List.cons_append, List.nil_append, Option.toList, Int.toNat, Int.reduceToNat, if_pos, if_neg, reduceIte, ↓reduceIte, Nat.reduceAdd, Nat.reduceEqDiff, Nat.reduceBEq, beq_self_eq_true, Bool.not_true, Bool.not_false, Bool.and_true, Bool.and_false, Bool.true_and, Bool.false_and, gI_sI, gI_sL, gI_sA, gI_sM, gL_sI, gL_sL, gL_sA, gL_sM, aI_sI, aI_sL, aI_sA, aI_sM, aL_sI, aL_sL, aL_sA, aL_sM, Bmethod_0, Bmethod_8, Bmethod_19, Bmethod_24, Bmethod_41, Bmethod_43, Bmethod_56, Bmethod_61, Bmethod_70, Bmethod_80, Bmethod_141, Bmethod_150, Bmethod_152, Bmethod_161, Bmethod_165, Bmethod_166, Bmethod_168, Bmethod_173, Bmethod_182, Bmethod_184, Bmethod_197, Bmethod_204, Bmethod_206, Bmethod_215, Bmethod_217, Bmethod_246, Bmethod_257, Bmethod_259, Bmethod_266, Bmethod_273, Bmethod_275, oi_0, oi_1, oi_10, oi_123, oi_3, oi_40, oi_41, oi_44, oi_5, oi_m2, Pu_thing]; try dsimp only
          have hop : 0 < gI Y 62 := by lia
          refine ⟨trivial, fun w5 τ5 hq5 => ?_⟩
          have hq5 : StQ τ5 _ w5 := hq5 t m b ⟨hR, hg, hop⟩
          rw [hPh] at hq5
          rcases hq5 with ⟨rfl, hF5⟩ | ⟨rfl, s5_, n5_, b5_, hR5, hg5, hq5⟩
          · dsimp only [Option.toList, List.cons_append, List.nil_append, Nat.beq, gI_sI, gI_sL, gI_sA, gI_sM, gL_sI, gL_sL, gL_sA, gL_sM, aI_sI, aI_sL, aI_sA, aI_sM, aL_sI, aL_sL, aL_sA, aL_sM]
            refine ⟨fun h6 => absurd h6 (by decide), fun h6 => ?_⟩
            clear h6
            refine hB _ _ _ _ _ (fun m7 hm7 => ?_)
            dsimp only [ugo, uwp, ust, uct, rfd, Bmethod, Nat.beq, lv_args, rlk, rs1, rs2, rdl, rky, rcd, rno, rsw, Value.category, List.filter, List.take, List.drop, List.reverse, List.reverseAux, List.cons_append, List.nil_append, Option.toList, Int.toNat, Int.reduceToNat, if_pos, if_neg, reduceIte, ↓reduceIte, Nat.reduceAdd, Nat.reduceEqDiff, Nat.reduceBEq, beq_self_eq_true, Bool.not_true, Bool.not_false, Bool.and_true, Bool.and_false, Bool.true_and, Bool.false_and, gI_sI, gI_sL, gI_sA, gI_sM, gL_sI, gL_sL, gL_sA, gL_sM, aI_sI, aI_sL, aI_sA, aI_sM, aL_sI, aL_sL, aL_sA, aL_sM, Bmethod_0, Bmethod_8, Bmethod_19, Bmethod_24, Bmethod_41, Bmethod_43, Bmethod_56, Bmethod_61, Bmethod_70, Bmethod_80, Bmethod_141, Bmethod_150, Bmethod_152, Bmethod_161, Bmethod_165, Bmethod_166, Bmethod_168, Bmethod_173, Bmethod_182, Bmethod_184, Bmethod_197, Bmethod_204, Bmethod_206, Bmethod_215, Bmethod_217, Bmethod_246, Bmethod_257, Bmethod_259, Bmethod_266, Bmethod_273, Bmethod_275, oi_0, oi_1, oi_10, oi_123, oi_3, oi_40, oi_41, oi_44, oi_5, oi_m2, Pu_thing]; try dsimp only
            unfold Qv_method
            try dsimp only
            exact Or.inl ⟨rfl, hF5⟩
          · dsimp only [Option.toList, List.cons_append, List.nil_append, Nat.beq, gI_sI, gI_sL, gI_sA, gI_sM, gL_sI, gL_sL, gL_sA, gL_sM, aI_sI, aI_sL, aI_sA, aI_sM, aL_sI, aL_sL, aL_sA, aL_sM]
            refine ⟨fun h8 => ?_, fun h8 => absurd h8 (by decide)⟩
            clear h8
            exact hW _ 259 [(0, .ref 1000)] _ _ _ (by simp [rdl, rky]) (t259 _ (by omega) _ s5_ n5_ b5_ hR5 hg5 hq5)
    have t168 : ∀ (N : Nat) (Y : RS) (v : SpC) (i : Nat) (ty mm kk more : Int32), PaR Y v i → mm = gI Y 36 → nT kk < nT (gI Y 49) → ((more = 1 ∧ bdY (xpY 1 (palY (7 - i) i v)) = mthY s) ∨ (more = 0 ∧ bdY (xpY 1 v) = mthY s)) → K N 168 [(0, .ref 1000), (1, .int ty), (2, .int mm), (3, .int kk), (4, .int more)] [] Y := by
      intro N
      induction N using Nat.strongRecOn with
      | ind N t168 =>
        intro Y v i ty mm kk more hP hmm hkk hm
        refine hB _ _ _ _ _ (fun m1 hm1 => ?_)
        dsimp only [ugo, uwp, ust, uct, rfd, Bmethod, Nat.beq, lv_args, rlk, rs1, rs2, rdl, rky, rcd, rno, rsw, Value.category, List.filter, List.take, List.drop, List.reverse, List.reverseAux, List.cons_append, List.nil_append, Option.toList, Int.toNat, Int.reduceToNat, if_pos, if_neg, reduceIte, ↓reduceIte, Nat.reduceAdd, Nat.reduceEqDiff, Nat.reduceBEq, beq_self_eq_true, Bool.not_true, Bool.not_false, Bool.and_true, Bool.and_false, Bool.true_and, Bool.false_and, gI_sI, gI_sL, gI_sA, gI_sM, gL_sI, gL_sL, gL_sA, gL_sM, aI_sI, aI_sL, aI_sA, aI_sM, aL_sI, aL_sL, aL_sA, aL_sM, Bmethod_0, Bmethod_8, Bmethod_19, Bmethod_24, Bmethod_41, Bmethod_43, Bmethod_56, Bmethod_61, Bmethod_70, Bmethod_80, Bmethod_141, Bmethod_150, Bmethod_152, Bmethod_161, Bmethod_165, Bmethod_166, Bmethod_168, Bmethod_173, Bmethod_182, Bmethod_184, Bmethod_197, Bmethod_204, Bmethod_206, Bmethod_215, Bmethod_217, Bmethod_246, Bmethod_257, Bmethod_259, Bmethod_266, Bmethod_273, Bmethod_275, oi_0, oi_1, oi_10, oi_123, oi_3, oi_40, oi_41, oi_44, oi_5, oi_m2, Pu_thing]; try dsimp only
        refine ⟨fun h2 => ?_, fun h2 => ?_⟩
        · refine hB _ _ _ _ _ (fun m3 hm3 => ?_)
          dsimp only [ugo, uwp, ust, uct, rfd, Bmethod, Nat.beq, lv_args, rlk, rs1, rs2, rdl, rky, rcd, rno, rsw, Value.category, List.filter, List.take, List.drop, List.reverse, List.reverseAux, List.cons_append, List.nil_append, Option.toList, Int.toNat, Int.reduceToNat, if_pos, if_neg, reduceIte, ↓reduceIte, Nat.reduceAdd, Nat.reduceEqDiff, Nat.reduceBEq, beq_self_eq_true, Bool.not_true, Bool.not_false, Bool.and_true, Bool.and_false, Bool.true_and, Bool.false_and, gI_sI, gI_sL, gI_sA, gI_sM, gL_sI, gL_sL, gL_sA, gL_sM, aI_sI, aI_sL, aI_sA, aI_sM, aL_sI, aL_sL, aL_sA, aL_sM, Bmethod_0, Bmethod_8, Bmethod_19, Bmethod_24, Bmethod_41, Bmethod_43, Bmethod_56, Bmethod_61, Bmethod_70, Bmethod_80, Bmethod_141, Bmethod_150, Bmethod_152, Bmethod_161, Bmethod_165, Bmethod_166, Bmethod_168, Bmethod_173, Bmethod_182, Bmethod_184, Bmethod_197, Bmethod_204, Bmethod_206, Bmethod_215, Bmethod_217, Bmethod_246, Bmethod_257, Bmethod_259, Bmethod_266, Bmethod_273, Bmethod_275, oi_0, oi_1, oi_10, oi_123, oi_3, oi_40, oi_41, oi_44, oi_5, oi_m2, Pu_thing]; try dsimp only
          obtain ⟨-, hPh⟩ := hm.resolve_left (fun q => absurd q.1 (by lia))
          refine ⟨trivial, fun w4 τ4 hq4 => ?_⟩
          have hq4 := hq4 _ v 21 1 ⟨(PaR.x hP), by decide⟩
          rcases hq4 with ⟨rfl, hF4⟩ | ⟨rfl, hc4, hX4, hz4, hS4⟩
          · dsimp only [Option.toList, List.cons_append, List.nil_append, Nat.beq, gI_sI, gI_sL, gI_sA, gI_sM, gL_sI, gL_sL, gL_sA, gL_sM, aI_sI, aI_sL, aI_sA, aI_sM, aL_sI, aL_sL, aL_sA, aL_sM]
            refine ⟨fun h5 => absurd h5 (by decide), fun h5 => ?_⟩
            clear h5
            refine hB _ _ _ _ _ (fun m6 hm6 => ?_)
            dsimp only [ugo, uwp, ust, uct, rfd, Bmethod, Nat.beq, lv_args, rlk, rs1, rs2, rdl, rky, rcd, rno, rsw, Value.category, List.filter, List.take, List.drop, List.reverse, List.reverseAux, List.cons_append, List.nil_append, Option.toList, Int.toNat, Int.reduceToNat, if_pos, if_neg, reduceIte, ↓reduceIte, Nat.reduceAdd, Nat.reduceEqDiff, Nat.reduceBEq, beq_self_eq_true, Bool.not_true, Bool.not_false, Bool.and_true, Bool.and_false, Bool.true_and, Bool.false_and, gI_sI, gI_sL, gI_sA, gI_sM, gL_sI, gL_sL, gL_sA, gL_sM, aI_sI, aI_sL, aI_sA, aI_sM, aL_sI, aL_sL, aL_sA, aL_sM, Bmethod_0, Bmethod_8, Bmethod_19, Bmethod_24, Bmethod_41, Bmethod_43, Bmethod_56, Bmethod_61, Bmethod_70, Bmethod_80, Bmethod_141, Bmethod_150, Bmethod_152, Bmethod_161, Bmethod_165, Bmethod_166, Bmethod_168, Bmethod_173, Bmethod_182, Bmethod_184, Bmethod_197, Bmethod_204, Bmethod_206, Bmethod_215, Bmethod_217, Bmethod_246, Bmethod_257, Bmethod_259, Bmethod_266, Bmethod_273, Bmethod_275, oi_0, oi_1, oi_10, oi_123, oi_3, oi_40, oi_41, oi_44, oi_5, oi_m2, Pu_thing]; try dsimp only
            unfold Qv_method
            try dsimp only
            rw [← hPh]
            exact Or.inl ⟨rfl, FlR.g hF4 (gd_bd _)⟩
          · dsimp only [Option.toList, List.cons_append, List.nil_append, Nat.beq, gI_sI, gI_sL, gI_sA, gI_sM, gL_sI, gL_sL, gL_sA, gL_sM, aI_sI, aI_sL, aI_sA, aI_sM, aL_sI, aL_sL, aL_sA, aL_sM]
            have hP4 := PaR.s1 hP hX4 hS4
            have g6_4 : gI τ4 36 = gI Y 36 := (hS4.1 36 (by decide)).trans rfl
            have g9_4 : gI τ4 49 = gI Y 49 := (hS4.1 49 (by decide)).trans rfl
            refine ⟨fun h7 => ?_, fun h7 => absurd h7 (by decide)⟩
            clear h7
            refine hB _ _ _ _ _ (fun m8 hm8 => ?_)
            dsimp only [ugo, uwp, ust, uct, rfd, Bmethod, Nat.beq, lv_args, rlk, rs1, rs2, rdl, rky, rcd, rno, rsw, Value.category, List.filter, List.take, List.drop, List.reverse, List.reverseAux, List.cons_append, List.nil_append, Option.toList, Int.toNat, Int.reduceToNat, if_pos, if_neg, reduceIte, ↓reduceIte, Nat.reduceAdd, Nat.reduceEqDiff, Nat.reduceBEq, beq_self_eq_true, Bool.not_true, Bool.not_false, Bool.and_true, Bool.and_false, Bool.true_and, Bool.false_and, gI_sI, gI_sL, gI_sA, gI_sM, gL_sI, gL_sL, gL_sA, gL_sM, aI_sI, aI_sL, aI_sA, aI_sM, aL_sI, aL_sL, aL_sA, aL_sM, Bmethod_0, Bmethod_8, Bmethod_19, Bmethod_24, Bmethod_41, Bmethod_43, Bmethod_56, Bmethod_61, Bmethod_70, Bmethod_80, Bmethod_141, Bmethod_150, Bmethod_152, Bmethod_161, Bmethod_165, Bmethod_166, Bmethod_168, Bmethod_173, Bmethod_182, Bmethod_184, Bmethod_197, Bmethod_204, Bmethod_206, Bmethod_215, Bmethod_217, Bmethod_246, Bmethod_257, Bmethod_259, Bmethod_266, Bmethod_273, Bmethod_275, oi_0, oi_1, oi_10, oi_123, oi_3, oi_40, oi_41, oi_44, oi_5, oi_m2, Pu_thing]; try dsimp only
            intro p9
            obtain ⟨hRn, hgn, hfn, h6n⟩ := SR.new (f := upd (aI τ4 41) mm.toNatClampNeg (gI τ4 18)) hP4
            have k9n : nT kk < nT (gI τ4 49) := by rw [g9_4]; exact hkk
            refine ⟨trivial, fun w10 τ10 hq10 => ?_⟩
            have hq10 := hq10 _ (accY v) 21 2 ⟨(SR.x (e_ := 0) (by repeat (first | exact hRn | refine SR.i ?_ rfl | refine SR.a ?_ rfl))), by decide⟩
            rcases hq10 with ⟨rfl, hF10⟩ | ⟨rfl, hc10, hX10, hz10, hS10⟩
            · dsimp only [Option.toList, List.cons_append, List.nil_append, Nat.beq, gI_sI, gI_sL, gI_sA, gI_sM, gL_sI, gL_sL, gL_sA, gL_sM, aI_sI, aI_sL, aI_sA, aI_sM, aL_sI, aL_sL, aL_sA, aL_sM]
              refine ⟨fun h11 => ?_, fun h11 => absurd h11 (by decide)⟩
              clear h11
              refine hB _ _ _ _ _ (fun m12 hm12 => ?_)
              dsimp only [ugo, uwp, ust, uct, rfd, Bmethod, Nat.beq, lv_args, rlk, rs1, rs2, rdl, rky, rcd, rno, rsw, Value.category, List.filter, List.take, List.drop, List.reverse, List.reverseAux, List.cons_append, List.nil_append, Option.toList, Int.toNat, Int.reduceToNat, if_pos, if_neg, reduceIte, ↓reduceIte, Nat.reduceAdd, Nat.reduceEqDiff, Nat.reduceBEq, beq_self_eq_true, Bool.not_true, Bool.not_false, Bool.and_true, Bool.and_false, Bool.true_and, Bool.false_and, gI_sI, gI_sL, gI_sA, gI_sM, gL_sI, gL_sL, gL_sA, gL_sM, aI_sI, aI_sL, aI_sA, aI_sM, aL_sI, aL_sL, aL_sA, aL_sM, Bmethod_0, Bmethod_8, Bmethod_19, Bmethod_24, Bmethod_41, Bmethod_43, Bmethod_56, Bmethod_61, Bmethod_70, Bmethod_80, Bmethod_141, Bmethod_150, Bmethod_152, Bmethod_161, Bmethod_165, Bmethod_166, Bmethod_168, Bmethod_173, Bmethod_182, Bmethod_184, Bmethod_197, Bmethod_204, Bmethod_206, Bmethod_215, Bmethod_217, Bmethod_246, Bmethod_257, Bmethod_259, Bmethod_266, Bmethod_273, Bmethod_275, oi_0, oi_1, oi_10, oi_123, oi_3, oi_40, oi_41, oi_44, oi_5, oi_m2, Pu_thing]; try dsimp only
              unfold Qv_method
              try dsimp only
              rw [← hPh, xp_y hc4]
              unfold bdY
              exact Or.inl ⟨rfl, FlR.g hF10 ((gd_rw _).tr (gd_xp _))⟩
            · dsimp only [Option.toList, List.cons_append, List.nil_append, Nat.beq, gI_sI, gI_sL, gI_sA, gI_sM, gL_sI, gL_sL, gL_sA, gL_sM, aI_sI, aI_sL, aI_sA, aI_sM, aL_sI, aL_sL, aL_sA, aL_sM]
              have hR10 := SR.kr (e_ := 0) (by repeat (first | exact hRn | refine SR.i ?_ rfl | refine SR.a ?_ rfl)) hX10 acc2
              have hg10 := FgR.kr (e_ := 0) (s := (accY v)) (n := 21) (by repeat (first | exact hgn | refine FgR.i ?_ rfl | refine FgR.a ?_ rfl)) (by repeat (first | exact hRn | refine SR.i ?_ rfl | refine SR.a ?_ rfl)) hX10
              have hf10 := frR_kr hX10
              have k6_10 : 0 < gI τ10 36 := by rw [hX10.2.2.1.1 36 rfl]; exact h6n
              have k9_10 : nT kk < nT (gI τ10 49) := by rw [hX10.2.2.1.1 49 rfl]; exact k9n
              refine ⟨fun h13 => absurd h13 (by decide), fun h13 => ?_⟩
              clear h13
              refine hB _ _ _ _ _ (fun m14 hm14 => ?_)
              dsimp only [ugo, uwp, ust, uct, rfd, Bmethod, Nat.beq, lv_args, rlk, rs1, rs2, rdl, rky, rcd, rno, rsw, Value.category, List.filter, List.take, List.drop, List.reverse, List.reverseAux, List.cons_append, List.nil_append, Option.toList, Int.toNat, Int.reduceToNat, if_pos, if_neg, reduceIte, ↓reduceIte, Nat.reduceAdd, Nat.reduceEqDiff, Nat.reduceBEq, beq_self_eq_true, Bool.not_true, Bool.not_false, Bool.and_true, Bool.and_false, Bool.true_and, Bool.false_and, gI_sI, gI_sL, gI_sA, gI_sM, gL_sI, gL_sL, gL_sA, gL_sM, aI_sI, aI_sL, aI_sA, aI_sM, aL_sI, aL_sL, aL_sA, aL_sM, Bmethod_0, Bmethod_8, Bmethod_19, Bmethod_24, Bmethod_41, Bmethod_43, Bmethod_56, Bmethod_61, Bmethod_70, Bmethod_80, Bmethod_141, Bmethod_150, Bmethod_152, Bmethod_161, Bmethod_165, Bmethod_166, Bmethod_168, Bmethod_173, Bmethod_182, Bmethod_184, Bmethod_197, Bmethod_204, Bmethod_206, Bmethod_215, Bmethod_217, Bmethod_246, Bmethod_257, Bmethod_259, Bmethod_266, Bmethod_273, Bmethod_275, oi_0, oi_1, oi_10, oi_123, oi_3, oi_40, oi_41, oi_44, oi_5, oi_m2, Pu_thing]; try dsimp only
              refine ⟨trivial, fun w15 τ15 hq15 => ?_⟩
              have hq15 := hq15 (accY (accY v)) 21 ⟨(by repeat (first | exact hR10 | refine SR.i ?_ rfl | refine SR.a ?_ rfl)), (by repeat (first | exact hg10 | refine FgR.i ?_ rfl | refine FgR.a ?_ rfl)), k9_10, by decide, (iff_of_true (by decide) (by simp only [frR_i, frR_a, ne_eq, Nat.reduceEqDiff, not_false_eq_true, hf10, hfn])), k6_10, (fun q => absurd q (by decide))⟩
              rcases hq15 with ⟨rfl, hn15, hF15⟩ | ⟨rfl, hn15, hR15, hg15, hf15⟩
              · dsimp only [Option.toList, List.cons_append, List.nil_append, Nat.beq, gI_sI, gI_sL, gI_sA, gI_sM, gL_sI, gL_sL, gL_sA, gL_sM, aI_sI, aI_sL, aI_sA, aI_sM, aL_sI, aL_sL, aL_sA, aL_sM]
                refine ⟨fun h16 => absurd h16 (by decide), fun h16 => ?_⟩
                clear h16
                refine hB _ _ _ _ _ (fun m17 hm17 => ?_)
                dsimp only [ugo, uwp, ust, uct, rfd, Bmethod, Nat.beq, lv_args, rlk, rs1, rs2, rdl, rky, rcd, rno, rsw, Value.category, List.filter, List.take, List.drop, List.reverse, List.reverseAux, List.cons_append, List.nil_append, Option.toList, Int.toNat, Int.reduceToNat, if_pos, if_neg, reduceIte, ↓reduceIte, Nat.reduceAdd, Nat.reduceEqDiff, Nat.reduceBEq, beq_self_eq_true, Bool.not_true, Bool.not_false, Bool.and_true, Bool.and_false, Bool.true_and, Bool.false_and, gI_sI, gI_sL, gI_sA, gI_sM, gL_sI, gL_sL, gL_sA, gL_sM, aI_sI, aI_sL, aI_sA, aI_sM, aL_sI, aL_sL, aL_sA, aL_sM, Bmethod_0, Bmethod_8, Bmethod_19, Bmethod_24, Bmethod_41, Bmethod_43, Bmethod_56, Bmethod_61, Bmethod_70, Bmethod_80, Bmethod_141, Bmethod_150, Bmethod_152, Bmethod_161, Bmethod_165, Bmethod_166, Bmethod_168, Bmethod_173, Bmethod_182, Bmethod_184, Bmethod_197, Bmethod_204, Bmethod_206, Bmethod_215, Bmethod_217, Bmethod_246, Bmethod_257, Bmethod_259, Bmethod_266, Bmethod_273, Bmethod_275, oi_0, oi_1, oi_10, oi_123, oi_3, oi_40, oi_41, oi_44, oi_5, oi_m2, Pu_thing]; try dsimp only
                unfold Qv_method
                try dsimp only
                exfalso; omega
              · dsimp only [Option.toList, List.cons_append, List.nil_append, Nat.beq, gI_sI, gI_sL, gI_sA, gI_sM, gL_sI, gL_sL, gL_sA, gL_sM, aI_sI, aI_sL, aI_sA, aI_sM, aL_sI, aL_sL, aL_sA, aL_sM]
                have hf15 : frR τ15 = (0 : Int) :: _ := hf15
                refine ⟨fun h18 => ?_, fun h18 => absurd h18 (by decide)⟩
                clear h18
                exact hW _ 259 [(0, .ref 1000)] _ _ _ (by simp [rdl, rky]) (t259 _ _ (accY (accY v)) 20 1 (by repeat (first | exact hR15 | refine SR.i ?_ rfl | refine SR.a ?_ rfl)) (by repeat (first | exact hg15 | refine FgR.i ?_ rfl | refine FgR.a ?_ rfl)) (by rw [← hPh, xp_y hc4]; simp only [frR_i, frR_a, ne_eq, Nat.reduceEqDiff, not_false_eq_true, hf15, hf10, hfn]; exact (bd_y hc10).symm))
        · refine hB _ _ _ _ _ (fun m19 hm19 => ?_)
          dsimp only [ugo, uwp, ust, uct, rfd, Bmethod, Nat.beq, lv_args, rlk, rs1, rs2, rdl, rky, rcd, rno, rsw, Value.category, List.filter, List.take, List.drop, List.reverse, List.reverseAux, List.cons_append, List.nil_append, Option.toList, Int.toNat, Int.reduceToNat, if_pos, if_neg, reduceIte, ↓reduceIte, Nat.reduceAdd, Nat.reduceEqDiff, Nat.reduceBEq, beq_self_eq_true, Bool.not_true, Bool.not_false, Bool.and_true, Bool.and_false, Bool.true_and, Bool.false_and, gI_sI, gI_sL, gI_sA, gI_sM, gL_sI, gL_sL, gL_sA, gL_sM, aI_sI, aI_sL, aI_sA, aI_sM, aL_sI, aL_sL, aL_sA, aL_sM, Bmethod_0, Bmethod_8, Bmethod_19, Bmethod_24, Bmethod_41, Bmethod_43, Bmethod_56, Bmethod_61, Bmethod_70, Bmethod_80, Bmethod_141, Bmethod_150, Bmethod_152, Bmethod_161, Bmethod_165, Bmethod_166, Bmethod_168, Bmethod_173, Bmethod_182, Bmethod_184, Bmethod_197, Bmethod_204, Bmethod_206, Bmethod_215, Bmethod_217, Bmethod_246, Bmethod_257, Bmethod_259, Bmethod_266, Bmethod_273, Bmethod_275, oi_0, oi_1, oi_10, oi_123, oi_3, oi_40, oi_41, oi_44, oi_5, oi_m2, Pu_thing]; try dsimp only
          obtain ⟨-, hPh⟩ := hm.resolve_right (fun q => absurd q.1 (by lia))
          have hi7 : i ≤ 6 := hP.2.2.2.2.2.1.2.2
          refine ⟨trivial, fun w20 τ20 hq20 => ?_⟩
          have hq20 := hq20 v i ⟨hP, hmm⟩
          rcases hq20 with ⟨rfl, hF20⟩ | ⟨rfl, hi6, hP20, g6_20, g9_20⟩
          · dsimp only [Option.toList, List.cons_append, List.nil_append, Nat.beq, gI_sI, gI_sL, gI_sA, gI_sM, gL_sI, gL_sL, gL_sA, gL_sM, aI_sI, aI_sL, aI_sA, aI_sM, aL_sI, aL_sL, aL_sA, aL_sM]
            refine ⟨fun h21 => absurd h21 (by decide), fun h21 => ?_⟩
            clear h21
            refine hB _ _ _ _ _ (fun m22 hm22 => ?_)
            dsimp only [ugo, uwp, ust, uct, rfd, Bmethod, Nat.beq, lv_args, rlk, rs1, rs2, rdl, rky, rcd, rno, rsw, Value.category, List.filter, List.take, List.drop, List.reverse, List.reverseAux, List.cons_append, List.nil_append, Option.toList, Int.toNat, Int.reduceToNat, if_pos, if_neg, reduceIte, ↓reduceIte, Nat.reduceAdd, Nat.reduceEqDiff, Nat.reduceBEq, beq_self_eq_true, Bool.not_true, Bool.not_false, Bool.and_true, Bool.and_false, Bool.true_and, Bool.false_and, gI_sI, gI_sL, gI_sA, gI_sM, gL_sI, gL_sL, gL_sA, gL_sM, aI_sI, aI_sL, aI_sA, aI_sM, aL_sI, aL_sL, aL_sA, aL_sM, Bmethod_0, Bmethod_8, Bmethod_19, Bmethod_24, Bmethod_41, Bmethod_43, Bmethod_56, Bmethod_61, Bmethod_70, Bmethod_80, Bmethod_141, Bmethod_150, Bmethod_152, Bmethod_161, Bmethod_165, Bmethod_166, Bmethod_168, Bmethod_173, Bmethod_182, Bmethod_184, Bmethod_197, Bmethod_204, Bmethod_206, Bmethod_215, Bmethod_217, Bmethod_246, Bmethod_257, Bmethod_259, Bmethod_266, Bmethod_273, Bmethod_275, oi_0, oi_1, oi_10, oi_123, oi_3, oi_40, oi_41, oi_44, oi_5, oi_m2, Pu_thing]; try dsimp only
            unfold Qv_method
            try dsimp only
            rw [← hPh]
            exact Or.inl ⟨rfl, FlR.g hF20 ((pal_g (by omega)).tr ((gd_xp _).tr (gd_bd _)))⟩
          · dsimp only [Option.toList, List.cons_append, List.nil_append, Nat.beq, gI_sI, gI_sL, gI_sA, gI_sM, gL_sI, gL_sL, gL_sA, gL_sM, aI_sI, aI_sL, aI_sA, aI_sM, aL_sI, aL_sL, aL_sA, aL_sM]
            refine ⟨fun h23 => ?_, fun h23 => absurd h23 (by decide)⟩
            clear h23
            refine hB _ _ _ _ _ (fun m24 hm24 => ?_)
            dsimp only [ugo, uwp, ust, uct, rfd, Bmethod, Nat.beq, lv_args, rlk, rs1, rs2, rdl, rky, rcd, rno, rsw, Value.category, List.filter, List.take, List.drop, List.reverse, List.reverseAux, List.cons_append, List.nil_append, Option.toList, Int.toNat, Int.reduceToNat, if_pos, if_neg, reduceIte, ↓reduceIte, Nat.reduceAdd, Nat.reduceEqDiff, Nat.reduceBEq, beq_self_eq_true, Bool.not_true, Bool.not_false, Bool.and_true, Bool.and_false, Bool.true_and, Bool.false_and, gI_sI, gI_sL, gI_sA, gI_sM, gL_sI, gL_sL, gL_sA, gL_sM, aI_sI, aI_sL, aI_sA, aI_sM, aL_sI, aL_sL, aL_sA, aL_sM, Bmethod_0, Bmethod_8, Bmethod_19, Bmethod_24, Bmethod_41, Bmethod_43, Bmethod_56, Bmethod_61, Bmethod_70, Bmethod_80, Bmethod_141, Bmethod_150, Bmethod_152, Bmethod_161, Bmethod_165, Bmethod_166, Bmethod_168, Bmethod_173, Bmethod_182, Bmethod_184, Bmethod_197, Bmethod_204, Bmethod_206, Bmethod_215, Bmethod_217, Bmethod_246, Bmethod_257, Bmethod_259, Bmethod_266, Bmethod_273, Bmethod_275, oi_0, oi_1, oi_10, oi_123, oi_3, oi_40, oi_41, oi_44, oi_5, oi_m2, Pu_thing]; try dsimp only
            refine ⟨trivial, fun w25 τ25 hq25 => ?_⟩
            obtain ⟨rfl, b25, rfl, hb25⟩ := hq25 trivial
            have he25 := (XrR.s (PaR.x hP20)).sg (x := 44) (d := 5) (by decide)
            rcases hb25 with ⟨rfl, hk25⟩ | ⟨rfl, hk25⟩
            · dsimp only [Option.toList, List.cons_append, List.nil_append, Nat.beq, gI_sI, gI_sL, gI_sA, gI_sM, gL_sI, gL_sL, gL_sA, gL_sM, aI_sI, aI_sL, aI_sA, aI_sM, aL_sI, aL_sL, aL_sA, aL_sM]
              have hc25 : codY (pa1Y i v) = 5 := he25.mp hk25
              refine ⟨fun h26 => absurd h26 (by decide), fun h26 => ?_⟩
              clear h26
              refine hB _ _ _ _ _ (fun m27 hm27 => ?_)
              dsimp only [ugo, uwp, ust, uct, rfd, Bmethod, Nat.beq, lv_args, rlk, rs1, rs2, rdl, rky, rcd, rno, rsw, Value.category, List.filter, List.take, List.drop, List.reverse, List.reverseAux, List.cons_append, List.nil_append, Option.toList, Int.toNat, Int.reduceToNat, if_pos, if_neg, reduceIte, ↓reduceIte, Nat.reduceAdd, Nat.reduceEqDiff, Nat.reduceBEq, beq_self_eq_true, Bool.not_true, Bool.not_false, Bool.and_true, Bool.and_false, Bool.true_and, Bool.false_and, gI_sI, gI_sL, gI_sA, gI_sM, gL_sI, gL_sL, gL_sA, gL_sM, aI_sI, aI_sL, aI_sA, aI_sM, aL_sI, aL_sL, aL_sA, aL_sM, Bmethod_0, Bmethod_8, Bmethod_19, Bmethod_24, Bmethod_41, Bmethod_43, Bmethod_56, Bmethod_61, Bmethod_70, Bmethod_80, Bmethod_141, Bmethod_150, Bmethod_152, Bmethod_161, Bmethod_165, Bmethod_166, Bmethod_168, Bmethod_173, Bmethod_182, Bmethod_184, Bmethod_197, Bmethod_204, Bmethod_206, Bmethod_215, Bmethod_217, Bmethod_246, Bmethod_257, Bmethod_259, Bmethod_266, Bmethod_273, Bmethod_275, oi_0, oi_1, oi_10, oi_123, oi_3, oi_40, oi_41, oi_44, oi_5, oi_m2, Pu_thing]; try dsimp only
              refine ⟨trivial, fun w28 τ28 hq28 => ?_⟩
              have hq28 := hq28 _ (pa1Y i v) 21 ⟨(PaR.x hP20), by omega, by omega⟩
              rcases hq28 with ⟨rfl, hF28⟩ | ⟨rfl, hX28, hz28, hS28⟩
              · dsimp only [Option.toList, List.cons_append, List.nil_append, Nat.beq, gI_sI, gI_sL, gI_sA, gI_sM, gL_sI, gL_sL, gL_sA, gL_sM, aI_sI, aI_sL, aI_sA, aI_sM, aL_sI, aL_sL, aL_sA, aL_sM]
                refine ⟨fun h29 => absurd h29 (by decide), fun h29 => ?_⟩
                clear h29
                refine hB _ _ _ _ _ (fun m30 hm30 => ?_)
                dsimp only [ugo, uwp, ust, uct, rfd, Bmethod, Nat.beq, lv_args, rlk, rs1, rs2, rdl, rky, rcd, rno, rsw, Value.category, List.filter, List.take, List.drop, List.reverse, List.reverseAux, List.cons_append, List.nil_append, Option.toList, Int.toNat, Int.reduceToNat, if_pos, if_neg, reduceIte, ↓reduceIte, Nat.reduceAdd, Nat.reduceEqDiff, Nat.reduceBEq, beq_self_eq_true, Bool.not_true, Bool.not_false, Bool.and_true, Bool.and_false, Bool.true_and, Bool.false_and, gI_sI, gI_sL, gI_sA, gI_sM, gL_sI, gL_sL, gL_sA, gL_sM, aI_sI, aI_sL, aI_sA, aI_sM, aL_sI, aL_sL, aL_sA, aL_sM, Bmethod_0, Bmethod_8, Bmethod_19, Bmethod_24, Bmethod_41, Bmethod_43, Bmethod_56, Bmethod_61, Bmethod_70, Bmethod_80, Bmethod_141, Bmethod_150, Bmethod_152, Bmethod_161, Bmethod_165, Bmethod_166, Bmethod_168, Bmethod_173, Bmethod_182, Bmethod_184, Bmethod_197, Bmethod_204, Bmethod_206, Bmethod_215, Bmethod_217, Bmethod_246, Bmethod_257, Bmethod_259, Bmethod_266, Bmethod_273, Bmethod_275, oi_0, oi_1, oi_10, oi_123, oi_3, oi_40, oi_41, oi_44, oi_5, oi_m2, Pu_thing]; try dsimp only
                unfold Qv_method
                try dsimp only
                rw [← hPh, pal_y (i := i) (s := v) (by omega) (by assumption)]
                exact Or.inl ⟨rfl, FlR.g hF28 ((gd_pal _ _ _).tr ((gd_xp _).tr (gd_bd _)))⟩
              · dsimp only [Option.toList, List.cons_append, List.nil_append, Nat.beq, gI_sI, gI_sL, gI_sA, gI_sM, gL_sI, gL_sL, gL_sA, gL_sM, aI_sI, aI_sL, aI_sA, aI_sM, aL_sI, aL_sL, aL_sA, aL_sM]
                have hP28 := PaR.s1 hP20 hX28 hS28
                have g6_28 : gI τ28 36 = gI Y 36 := (hS28.1 36 (by decide)).trans g6_20
                have g9_28 : gI τ28 49 = gI Y 49 := (hS28.1 49 (by decide)).trans g9_20
                refine ⟨fun h31 => ?_, fun h31 => absurd h31 (by decide)⟩
                clear h31
                exact hW _ 168 [(0, .ref 1000), (1, .int ty), (2, .int mm), (3, .int kk), (4, .int 1)] _ _ _ (by simp [rdl, rky]) (t168 _ (by omega) _ (accY (pa1Y i v)) (i + 1) ty mm kk 1 hP28 (hmm.trans g6_28.symm) (by rw [g9_28]; exact hkk) (Or.inl ⟨rfl, by rw [← hPh, pal_y (i := i) (s := v) (by omega) (by assumption)]⟩))
            · dsimp only [Option.toList, List.cons_append, List.nil_append, Nat.beq, gI_sI, gI_sL, gI_sA, gI_sM, gL_sI, gL_sL, gL_sA, gL_sM, aI_sI, aI_sL, aI_sA, aI_sM, aL_sI, aL_sL, aL_sA, aL_sM]
              have hc25 : ¬ codY (pa1Y i v) = 5 := fun q => hk25 (he25.mpr q)
              refine ⟨fun h32 => ?_, fun h32 => absurd h32 (by decide)⟩
              clear h32
              exact hW _ 168 [(0, .ref 1000), (1, .int ty), (2, .int mm), (3, .int kk), (4, .int 0)] _ _ _ (by simp [rdl, rky]) (t168 _ (by omega) _ (pa1Y i v) (i + 1) ty mm kk 0 hP20 (hmm.trans g6_20.symm) (by rw [g9_20]; exact hkk) (Or.inr ⟨rfl, by rw [← hPh, pal_n (i := i) (s := v) (by omega) (by assumption)]⟩))
    intro n0_
    refine hB _ _ _ _ _ (fun m1 hm1 => ?_)
    dsimp only [ugo, uwp, ust, uct, rfd, Bmethod, Nat.beq, lv_args, rlk, rs1, rs2, rdl, rky, rcd, rno, rsw, Value.category, List.filter, List.take, List.drop, List.reverse, List.reverseAux, List.cons_append, List.nil_append, Option.toList, Int.toNat, Int.reduceToNat, if_pos, if_neg, reduceIte, ↓reduceIte, Nat.reduceAdd, Nat.reduceEqDiff, Nat.reduceBEq, beq_self_eq_true, Bool.not_true, Bool.not_false, Bool.and_true, Bool.and_false, Bool.true_and, Bool.false_and, gI_sI, gI_sL, gI_sA, gI_sM, gL_sI, gL_sL, gL_sA, gL_sM, aI_sI, aI_sL, aI_sA, aI_sM, aL_sI, aL_sL, aL_sA, aL_sM, Bmethod_0, Bmethod_8, Bmethod_19, Bmethod_24, Bmethod_41, Bmethod_43, Bmethod_56, Bmethod_61, Bmethod_70, Bmethod_80, Bmethod_141, Bmethod_150, Bmethod_152, Bmethod_161, Bmethod_165, Bmethod_166, Bmethod_168, Bmethod_173, Bmethod_182, Bmethod_184, Bmethod_197, Bmethod_204, Bmethod_206, Bmethod_215, Bmethod_217, Bmethod_246, Bmethod_257, Bmethod_259, Bmethod_266, Bmethod_273, Bmethod_275, oi_0, oi_1, oi_10, oi_123, oi_3, oi_40, oi_41, oi_44, oi_5, oi_m2, Pu_thing]; try dsimp only
    refine ⟨trivial, fun w2 τ2 hq2 => ?_⟩
    obtain ⟨rfl, b2, rfl, hb2⟩ := hq2 trivial
    have he2 := (XrR.s (MhR.x hM)).wd (x := 5) (by decide)
    rcases hb2 with ⟨rfl, hk2⟩ | ⟨rfl, hk2⟩
    · dsimp only [Option.toList, List.cons_append, List.nil_append, Nat.beq, gI_sI, gI_sL, gI_sA, gI_sM, gL_sI, gL_sL, gL_sA, gL_sM, aI_sI, aI_sL, aI_sA, aI_sM, aL_sI, aL_sL, aL_sA, aL_sM]
      have hc2 : codY s = 55 := he2.mp hk2
      refine ⟨fun h3 => ?_, fun h3 => absurd h3 (by decide)⟩
      clear h3
      refine hB _ _ _ _ _ (fun m4 hm4 => ?_)
      dsimp only [ugo, uwp, ust, uct, rfd, Bmethod, Nat.beq, lv_args, rlk, rs1, rs2, rdl, rky, rcd, rno, rsw, Value.category, List.filter, List.take, List.drop, List.reverse, List.reverseAux, List.cons_append, List.nil_append, Option.toList, Int.toNat, Int.reduceToNat, if_pos, if_neg, reduceIte, ↓reduceIte, Nat.reduceAdd, Nat.reduceEqDiff, Nat.reduceBEq, beq_self_eq_true, Bool.not_true, Bool.not_false, Bool.and_true, Bool.and_false, Bool.true_and, Bool.false_and, gI_sI, gI_sL, gI_sA, gI_sM, gL_sI, gL_sL, gL_sA, gL_sM, aI_sI, aI_sL, aI_sA, aI_sM, aL_sI, aL_sL, aL_sA, aL_sM, Bmethod_0, Bmethod_8, Bmethod_19, Bmethod_24, Bmethod_41, Bmethod_43, Bmethod_56, Bmethod_61, Bmethod_70, Bmethod_80, Bmethod_141, Bmethod_150, Bmethod_152, Bmethod_161, Bmethod_165, Bmethod_166, Bmethod_168, Bmethod_173, Bmethod_182, Bmethod_184, Bmethod_197, Bmethod_204, Bmethod_206, Bmethod_215, Bmethod_217, Bmethod_246, Bmethod_257, Bmethod_259, Bmethod_266, Bmethod_273, Bmethod_275, oi_0, oi_1, oi_10, oi_123, oi_3, oi_40, oi_41, oi_44, oi_5, oi_m2, Pu_thing]; try dsimp only
      have hcd : (50 ≤ codY s ∧ codY s ≤ 54) ∨ codY s = 55 := by omega
      intro p5
      refine ⟨trivial, fun w6 τ6 hq6 => ?_⟩
      have hq6 := hq6 _ s 21 ⟨MhR.x hM, by omega, by omega⟩
      rcases hq6 with ⟨rfl, hF6⟩ | ⟨rfl, hX6, hz6, hS6⟩
      · dsimp only [Option.toList, List.cons_append, List.nil_append, Nat.beq, gI_sI, gI_sL, gI_sA, gI_sM, gL_sI, gL_sL, gL_sA, gL_sM, aI_sI, aI_sL, aI_sA, aI_sM, aL_sI, aL_sL, aL_sA, aL_sM]
        refine ⟨fun h7 => absurd h7 (by decide), fun h7 => ?_⟩
        clear h7
        refine hB _ _ _ _ _ (fun m8 hm8 => ?_)
        dsimp only [ugo, uwp, ust, uct, rfd, Bmethod, Nat.beq, lv_args, rlk, rs1, rs2, rdl, rky, rcd, rno, rsw, Value.category, List.filter, List.take, List.drop, List.reverse, List.reverseAux, List.cons_append, List.nil_append, Option.toList, Int.toNat, Int.reduceToNat, if_pos, if_neg, reduceIte, ↓reduceIte, Nat.reduceAdd, Nat.reduceEqDiff, Nat.reduceBEq, beq_self_eq_true, Bool.not_true, Bool.not_false, Bool.and_true, Bool.and_false, Bool.true_and, Bool.false_and, gI_sI, gI_sL, gI_sA, gI_sM, gL_sI, gL_sL, gL_sA, gL_sM, aI_sI, aI_sL, aI_sA, aI_sM, aL_sI, aL_sL, aL_sA, aL_sM, Bmethod_0, Bmethod_8, Bmethod_19, Bmethod_24, Bmethod_41, Bmethod_43, Bmethod_56, Bmethod_61, Bmethod_70, Bmethod_80, Bmethod_141, Bmethod_150, Bmethod_152, Bmethod_161, Bmethod_165, Bmethod_166, Bmethod_168, Bmethod_173, Bmethod_182, Bmethod_184, Bmethod_197, Bmethod_204, Bmethod_206, Bmethod_215, Bmethod_217, Bmethod_246, Bmethod_257, Bmethod_259, Bmethod_266, Bmethod_273, Bmethod_275, oi_0, oi_1, oi_10, oi_123, oi_3, oi_40, oi_41, oi_44, oi_5, oi_m2, Pu_thing]; try dsimp only
        unfold Qv_method
        try dsimp only
        unfold mthY
        refine Or.inl ⟨rfl, FlR.g hF6 ?_⟩
        rw [me1_y hcd]
        exact (by repeat (first | with_reducible exact GpY.rf | with_reducible refine GpY.tr ?_ (gd_fo _) | with_reducible refine GpY.tr ?_ (gd_ef _) | with_reducible refine GpY.tr ?_ (gd_cf _) | with_reducible refine GpY.tr ?_ (gd_wt _) | with_reducible refine GpY.tr ?_ (gd_xp _) | with_reducible refine GpY.tr ?_ (gd_acc _) | with_reducible refine GpY.tr ?_ (gd_rai _) | with_reducible refine GpY.tr ?_ (gd_e _) | with_reducible refine GpY.tr ?_ (gd_o _) | with_reducible refine GpY.tr ?_ (gd_c _) | with_reducible refine GpY.tr ?_ (gd_op _) | with_reducible refine GpY.tr ?_ (gd_clp gd_e _ _) | with_reducible refine GpY.tr ?_ (gd_tl _) | with_reducible refine GpY.tr ?_ (gd_sf _ _ _) | with_reducible refine GpY.tr ?_ (gd_cl _) | with_reducible refine GpY.tr ?_ (gd_pc _) | with_reducible refine GpY.tr ?_ (gd_st _) | with_reducible refine GpY.tr ?_ (gd_rw _) | with_reducible refine GpY.tr ?_ (gd_typ _) | with_reducible refine GpY.tr ?_ (gd_dcl _) | with_reducible refine GpY.tr ?_ (gd_va2 _) | with_reducible refine GpY.tr ?_ (gd_cnd _) | with_reducible refine GpY.tr ?_ (gd_tr1 _) | with_reducible refine GpY.tr ?_ (gd_tr2 (fun _ => gd_rw) _) | with_reducible refine GpY.tr ?_ (gd_tr3 (fun _ => gd_rw) _) | with_reducible refine GpY.tr ?_ (gd_fo1 _) | with_reducible refine GpY.tr ?_ (gd_fo2 _) | with_reducible refine GpY.tr ?_ (gd_fo3 _) | with_reducible refine GpY.tr ?_ (gd_fex _) | with_reducible refine GpY.tr ?_ (pg_var.1) | with_reducible refine GpY.tr ?_ (pg_cas.1) | with_reducible refine GpY.tr ?_ (gd_bd _) | with_reducible refine GpY.tr ?_ (gd_pal _ _ _) | with_reducible refine GpY.tr ?_ (gd_pa3 _) | with_reducible refine GpY.tr ?_ (gd_par _) | with_reducible refine GpY.tr ?_ (gd_me2 _) | with_reducible refine GpY.tr ?_ (gd_me3 _) | with_reducible refine GpY.tr ?_ (gd_pa2 _) | with_reducible refine GpY.tr ?_ (gd_pa1 _) | with_reducible refine GpY.tr ?_ (gd_met _) | exact GpY.rf))
      · dsimp only [Option.toList, List.cons_append, List.nil_append, Nat.beq, gI_sI, gI_sL, gI_sA, gI_sM, gL_sI, gL_sL, gL_sA, gL_sM, aI_sI, aI_sL, aI_sA, aI_sM, aL_sI, aL_sL, aL_sA, aL_sM]
        have hM6 := MhR.s1 hM hX6 hS6
        refine ⟨fun h9 => ?_, fun h9 => absurd h9 (by decide)⟩
        clear h9
        refine hB _ _ _ _ _ (fun m10 hm10 => ?_)
        dsimp only [ugo, uwp, ust, uct, rfd, Bmethod, Nat.beq, lv_args, rlk, rs1, rs2, rdl, rky, rcd, rno, rsw, Value.category, List.filter, List.take, List.drop, List.reverse, List.reverseAux, List.cons_append, List.nil_append, Option.toList, Int.toNat, Int.reduceToNat, if_pos, if_neg, reduceIte, ↓reduceIte, Nat.reduceAdd, Nat.reduceEqDiff, Nat.reduceBEq, beq_self_eq_true, Bool.not_true, Bool.not_false, Bool.and_true, Bool.and_false, Bool.true_and, Bool.false_and, gI_sI, gI_sL, gI_sA, gI_sM, gL_sI, gL_sL, gL_sA, gL_sM, aI_sI, aI_sL, aI_sA, aI_sM, aL_sI, aL_sL, aL_sA, aL_sM, Bmethod_0, Bmethod_8, Bmethod_19, Bmethod_24, Bmethod_41, Bmethod_43, Bmethod_56, Bmethod_61, Bmethod_70, Bmethod_80, Bmethod_141, Bmethod_150, Bmethod_152, Bmethod_161, Bmethod_165, Bmethod_166, Bmethod_168, Bmethod_173, Bmethod_182, Bmethod_184, Bmethod_197, Bmethod_204, Bmethod_206, Bmethod_215, Bmethod_217, Bmethod_246, Bmethod_257, Bmethod_259, Bmethod_266, Bmethod_273, Bmethod_275, oi_0, oi_1, oi_10, oi_123, oi_3, oi_40, oi_41, oi_44, oi_5, oi_m2, Pu_thing]; try dsimp only
        intro p11
        refine ⟨fun h12 => ?_, fun h12 => ?_⟩
        · refine hB _ _ _ _ _ (fun m13 hm13 => ?_)
          dsimp only [ugo, uwp, ust, uct, rfd, Bmethod, Nat.beq, lv_args, rlk, rs1, rs2, rdl, rky, rcd, rno, rsw, Value.category, List.filter, List.take, List.drop, List.reverse, List.reverseAux, List.cons_append, List.nil_append, Option.toList, Int.toNat, Int.reduceToNat, if_pos, if_neg, reduceIte, ↓reduceIte, Nat.reduceAdd, Nat.reduceEqDiff, Nat.reduceBEq, beq_self_eq_true, Bool.not_true, Bool.not_false, Bool.and_true, Bool.and_false, Bool.true_and, Bool.false_and, gI_sI, gI_sL, gI_sA, gI_sM, gL_sI, gL_sL, gL_sA, gL_sM, aI_sI, aI_sL, aI_sA, aI_sM, aL_sI, aL_sL, aL_sA, aL_sM, Bmethod_0, Bmethod_8, Bmethod_19, Bmethod_24, Bmethod_41, Bmethod_43, Bmethod_56, Bmethod_61, Bmethod_70, Bmethod_80, Bmethod_141, Bmethod_150, Bmethod_152, Bmethod_161, Bmethod_165, Bmethod_166, Bmethod_168, Bmethod_173, Bmethod_182, Bmethod_184, Bmethod_197, Bmethod_204, Bmethod_206, Bmethod_215, Bmethod_217, Bmethod_246, Bmethod_257, Bmethod_259, Bmethod_266, Bmethod_273, Bmethod_275, oi_0, oi_1, oi_10, oi_123, oi_3, oi_40, oi_41, oi_44, oi_5, oi_m2, Pu_thing]; try dsimp only
          have hcn := hM6.1.ki.2.2.1.mp (by exact h12)
          refine ⟨fun h14 => ?_, fun h14 => ?_⟩
          · refine hB _ _ _ _ _ (fun m15 hm15 => ?_)
            dsimp only [ugo, uwp, ust, uct, rfd, Bmethod, Nat.beq, lv_args, rlk, rs1, rs2, rdl, rky, rcd, rno, rsw, Value.category, List.filter, List.take, List.drop, List.reverse, List.reverseAux, List.cons_append, List.nil_append, Option.toList, Int.toNat, Int.reduceToNat, if_pos, if_neg, reduceIte, ↓reduceIte, Nat.reduceAdd, Nat.reduceEqDiff, Nat.reduceBEq, beq_self_eq_true, Bool.not_true, Bool.not_false, Bool.and_true, Bool.and_false, Bool.true_and, Bool.false_and, gI_sI, gI_sL, gI_sA, gI_sM, gL_sI, gL_sL, gL_sA, gL_sM, aI_sI, aI_sL, aI_sA, aI_sM, aL_sI, aL_sL, aL_sA, aL_sM, Bmethod_0, Bmethod_8, Bmethod_19, Bmethod_24, Bmethod_41, Bmethod_43, Bmethod_56, Bmethod_61, Bmethod_70, Bmethod_80, Bmethod_141, Bmethod_150, Bmethod_152, Bmethod_161, Bmethod_165, Bmethod_166, Bmethod_168, Bmethod_173, Bmethod_182, Bmethod_184, Bmethod_197, Bmethod_204, Bmethod_206, Bmethod_215, Bmethod_217, Bmethod_246, Bmethod_257, Bmethod_259, Bmethod_266, Bmethod_273, Bmethod_275, oi_0, oi_1, oi_10, oi_123, oi_3, oi_40, oi_41, oi_44, oi_5, oi_m2, Pu_thing]; try dsimp only
            have h10 : ¬ gI τ6 36 = 10 := by lia
            have hl10 : ¬ 10 ≤ (zMs (accY s)).length := by
              rw [hM6.2.2.2.1, mlR_l]
              have q1 := hM6.2.2.2.2.1
              have q2 := nT_lt q1.1 (show gI τ6 36 < 10 by lia)
              have q3 : nT (10 : Int32) = 10 := rfl
              omega
            have hMt : mthY s = bdY (xpY 1 (pa3Y (xpY 0 (accY (metY (aI σ 6 (gI σ 14).toNatClampNeg).toInt (accY s)))))) := by
              unfold mthY
              rw [me1_y hcd, me2_y hcn hl10, me3_y hM6.1.1.1, ← hM.1.ty2 (by omega)]
              rfl
            intro p16
            intro p17
            intro p18
            intro p19
            refine ⟨trivial, fun w20 τ20 hq20 => ?_⟩
            obtain ⟨rfl, hT20⟩ := hq20
            have hP20 : PaR τ20 (metY (aI σ 6 (gI σ 14).toNatClampNeg).toInt (accY s)) 0 := PaR.new hM6 h10 hT20
            have hk20 := th49 hT20
            dsimp only [Option.toList, List.cons_append, List.nil_append, Nat.beq, gI_sI, gI_sL, gI_sA, gI_sM, gL_sI, gL_sL, gL_sA, gL_sM, aI_sI, aI_sL, aI_sA, aI_sM, aL_sI, aL_sL, aL_sA, aL_sM]
            have hcm : codY (metY (aI σ 6 (gI σ 14).toNatClampNeg).toInt (accY s)) = 80 := hcn
            refine ⟨trivial, fun w21 τ21 hq21 => ?_⟩
            have hq21 := hq21 _ (metY (aI σ 6 (gI σ 14).toNatClampNeg).toInt (accY s)) 21 ⟨(PaR.x hP20), by omega, by omega⟩
            rcases hq21 with ⟨rfl, hF21⟩ | ⟨rfl, hX21, hz21, hS21⟩
            · dsimp only [Option.toList, List.cons_append, List.nil_append, Nat.beq, gI_sI, gI_sL, gI_sA, gI_sM, gL_sI, gL_sL, gL_sA, gL_sM, aI_sI, aI_sL, aI_sA, aI_sM, aL_sI, aL_sL, aL_sA, aL_sM]
              refine ⟨fun h22 => ?_, fun h22 => absurd h22 (by decide)⟩
              clear h22
              refine hB _ _ _ _ _ (fun m23 hm23 => ?_)
              dsimp only [ugo, uwp, ust, uct, rfd, Bmethod, Nat.beq, lv_args, rlk, rs1, rs2, rdl, rky, rcd, rno, rsw, Value.category, List.filter, List.take, List.drop, List.reverse, List.reverseAux, List.cons_append, List.nil_append, Option.toList, Int.toNat, Int.reduceToNat, if_pos, if_neg, reduceIte, ↓reduceIte, Nat.reduceAdd, Nat.reduceEqDiff, Nat.reduceBEq, beq_self_eq_true, Bool.not_true, Bool.not_false, Bool.and_true, Bool.and_false, Bool.true_and, Bool.false_and, gI_sI, gI_sL, gI_sA, gI_sM, gL_sI, gL_sL, gL_sA, gL_sM, aI_sI, aI_sL, aI_sA, aI_sM, aL_sI, aL_sL, aL_sA, aL_sM, Bmethod_0, Bmethod_8, Bmethod_19, Bmethod_24, Bmethod_41, Bmethod_43, Bmethod_56, Bmethod_61, Bmethod_70, Bmethod_80, Bmethod_141, Bmethod_150, Bmethod_152, Bmethod_161, Bmethod_165, Bmethod_166, Bmethod_168, Bmethod_173, Bmethod_182, Bmethod_184, Bmethod_197, Bmethod_204, Bmethod_206, Bmethod_215, Bmethod_217, Bmethod_246, Bmethod_257, Bmethod_259, Bmethod_266, Bmethod_273, Bmethod_275, oi_0, oi_1, oi_10, oi_123, oi_3, oi_40, oi_41, oi_44, oi_5, oi_m2, Pu_thing]; try dsimp only
              unfold Qv_method
              try dsimp only
              rw [hMt]
              exact Or.inl ⟨rfl, FlR.g hF21 (by repeat (first | with_reducible exact GpY.rf | with_reducible refine GpY.tr ?_ (gd_fo _) | with_reducible refine GpY.tr ?_ (gd_ef _) | with_reducible refine GpY.tr ?_ (gd_cf _) | with_reducible refine GpY.tr ?_ (gd_wt _) | with_reducible refine GpY.tr ?_ (gd_xp _) | with_reducible refine GpY.tr ?_ (gd_acc _) | with_reducible refine GpY.tr ?_ (gd_rai _) | with_reducible refine GpY.tr ?_ (gd_e _) | with_reducible refine GpY.tr ?_ (gd_o _) | with_reducible refine GpY.tr ?_ (gd_c _) | with_reducible refine GpY.tr ?_ (gd_op _) | with_reducible refine GpY.tr ?_ (gd_clp gd_e _ _) | with_reducible refine GpY.tr ?_ (gd_tl _) | with_reducible refine GpY.tr ?_ (gd_sf _ _ _) | with_reducible refine GpY.tr ?_ (gd_cl _) | with_reducible refine GpY.tr ?_ (gd_pc _) | with_reducible refine GpY.tr ?_ (gd_st _) | with_reducible refine GpY.tr ?_ (gd_rw _) | with_reducible refine GpY.tr ?_ (gd_typ _) | with_reducible refine GpY.tr ?_ (gd_dcl _) | with_reducible refine GpY.tr ?_ (gd_va2 _) | with_reducible refine GpY.tr ?_ (gd_cnd _) | with_reducible refine GpY.tr ?_ (gd_tr1 _) | with_reducible refine GpY.tr ?_ (gd_tr2 (fun _ => gd_rw) _) | with_reducible refine GpY.tr ?_ (gd_tr3 (fun _ => gd_rw) _) | with_reducible refine GpY.tr ?_ (gd_fo1 _) | with_reducible refine GpY.tr ?_ (gd_fo2 _) | with_reducible refine GpY.tr ?_ (gd_fo3 _) | with_reducible refine GpY.tr ?_ (gd_fex _) | with_reducible refine GpY.tr ?_ (pg_var.1) | with_reducible refine GpY.tr ?_ (pg_cas.1) | with_reducible refine GpY.tr ?_ (gd_bd _) | with_reducible refine GpY.tr ?_ (gd_pal _ _ _) | with_reducible refine GpY.tr ?_ (gd_pa3 _) | with_reducible refine GpY.tr ?_ (gd_par _) | with_reducible refine GpY.tr ?_ (gd_me2 _) | with_reducible refine GpY.tr ?_ (gd_me3 _) | with_reducible refine GpY.tr ?_ (gd_pa2 _) | with_reducible refine GpY.tr ?_ (gd_pa1 _) | with_reducible refine GpY.tr ?_ (gd_met _) | exact GpY.rf))⟩
            · dsimp only [Option.toList, List.cons_append, List.nil_append, Nat.beq, gI_sI, gI_sL, gI_sA, gI_sM, gL_sI, gL_sL, gL_sA, gL_sM, aI_sI, aI_sL, aI_sA, aI_sM, aL_sI, aL_sL, aL_sA, aL_sM]
              have hP21 := PaR.s1 hP20 hX21 hS21
              have g6_21 : gI τ21 36 = gI τ20 36 := (hS21.1 36 (by decide)).trans rfl
              have g9_21 : gI τ21 49 = gI τ20 49 := (hS21.1 49 (by decide)).trans rfl
              refine ⟨fun h24 => absurd h24 (by decide), fun h24 => ?_⟩
              clear h24
              refine hB _ _ _ _ _ (fun m25 hm25 => ?_)
              dsimp only [ugo, uwp, ust, uct, rfd, Bmethod, Nat.beq, lv_args, rlk, rs1, rs2, rdl, rky, rcd, rno, rsw, Value.category, List.filter, List.take, List.drop, List.reverse, List.reverseAux, List.cons_append, List.nil_append, Option.toList, Int.toNat, Int.reduceToNat, if_pos, if_neg, reduceIte, ↓reduceIte, Nat.reduceAdd, Nat.reduceEqDiff, Nat.reduceBEq, beq_self_eq_true, Bool.not_true, Bool.not_false, Bool.and_true, Bool.and_false, Bool.true_and, Bool.false_and, gI_sI, gI_sL, gI_sA, gI_sM, gL_sI, gL_sL, gL_sA, gL_sM, aI_sI, aI_sL, aI_sA, aI_sM, aL_sI, aL_sL, aL_sA, aL_sM, Bmethod_0, Bmethod_8, Bmethod_19, Bmethod_24, Bmethod_41, Bmethod_43, Bmethod_56, Bmethod_61, Bmethod_70, Bmethod_80, Bmethod_141, Bmethod_150, Bmethod_152, Bmethod_161, Bmethod_165, Bmethod_166, Bmethod_168, Bmethod_173, Bmethod_182, Bmethod_184, Bmethod_197, Bmethod_204, Bmethod_206, Bmethod_215, Bmethod_217, Bmethod_246, Bmethod_257, Bmethod_259, Bmethod_266, Bmethod_273, Bmethod_275, oi_0, oi_1, oi_10, oi_123, oi_3, oi_40, oi_41, oi_44, oi_5, oi_m2, Pu_thing]; try dsimp only
              refine ⟨trivial, fun w26 τ26 hq26 => ?_⟩
              have hq26 := hq26 _ (accY (metY (aI σ 6 (gI σ 14).toNatClampNeg).toInt (accY s))) 21 0 ⟨(PaR.x hP21), by decide⟩
              rcases hq26 with ⟨rfl, hF26⟩ | ⟨rfl, hc26, hX26, hz26, hS26⟩
              · dsimp only [Option.toList, List.cons_append, List.nil_append, Nat.beq, gI_sI, gI_sL, gI_sA, gI_sM, gL_sI, gL_sL, gL_sA, gL_sM, aI_sI, aI_sL, aI_sA, aI_sM, aL_sI, aL_sL, aL_sA, aL_sM]
                refine ⟨fun h27 => absurd h27 (by decide), fun h27 => ?_⟩
                clear h27
                refine hB _ _ _ _ _ (fun m28 hm28 => ?_)
                dsimp only [ugo, uwp, ust, uct, rfd, Bmethod, Nat.beq, lv_args, rlk, rs1, rs2, rdl, rky, rcd, rno, rsw, Value.category, List.filter, List.take, List.drop, List.reverse, List.reverseAux, List.cons_append, List.nil_append, Option.toList, Int.toNat, Int.reduceToNat, if_pos, if_neg, reduceIte, ↓reduceIte, Nat.reduceAdd, Nat.reduceEqDiff, Nat.reduceBEq, beq_self_eq_true, Bool.not_true, Bool.not_false, Bool.and_true, Bool.and_false, Bool.true_and, Bool.false_and, gI_sI, gI_sL, gI_sA, gI_sM, gL_sI, gL_sL, gL_sA, gL_sM, aI_sI, aI_sL, aI_sA, aI_sM, aL_sI, aL_sL, aL_sA, aL_sM, Bmethod_0, Bmethod_8, Bmethod_19, Bmethod_24, Bmethod_41, Bmethod_43, Bmethod_56, Bmethod_61, Bmethod_70, Bmethod_80, Bmethod_141, Bmethod_150, Bmethod_152, Bmethod_161, Bmethod_165, Bmethod_166, Bmethod_168, Bmethod_173, Bmethod_182, Bmethod_184, Bmethod_197, Bmethod_204, Bmethod_206, Bmethod_215, Bmethod_217, Bmethod_246, Bmethod_257, Bmethod_259, Bmethod_266, Bmethod_273, Bmethod_275, oi_0, oi_1, oi_10, oi_123, oi_3, oi_40, oi_41, oi_44, oi_5, oi_m2, Pu_thing]; try dsimp only
                unfold Qv_method
                try dsimp only
                rw [hMt]
                exact Or.inl ⟨rfl, FlR.g hF26 (by repeat (first | with_reducible exact GpY.rf | with_reducible refine GpY.tr ?_ (gd_fo _) | with_reducible refine GpY.tr ?_ (gd_ef _) | with_reducible refine GpY.tr ?_ (gd_cf _) | with_reducible refine GpY.tr ?_ (gd_wt _) | with_reducible refine GpY.tr ?_ (gd_xp _) | with_reducible refine GpY.tr ?_ (gd_acc _) | with_reducible refine GpY.tr ?_ (gd_rai _) | with_reducible refine GpY.tr ?_ (gd_e _) | with_reducible refine GpY.tr ?_ (gd_o _) | with_reducible refine GpY.tr ?_ (gd_c _) | with_reducible refine GpY.tr ?_ (gd_op _) | with_reducible refine GpY.tr ?_ (gd_clp gd_e _ _) | with_reducible refine GpY.tr ?_ (gd_tl _) | with_reducible refine GpY.tr ?_ (gd_sf _ _ _) | with_reducible refine GpY.tr ?_ (gd_cl _) | with_reducible refine GpY.tr ?_ (gd_pc _) | with_reducible refine GpY.tr ?_ (gd_st _) | with_reducible refine GpY.tr ?_ (gd_rw _) | with_reducible refine GpY.tr ?_ (gd_typ _) | with_reducible refine GpY.tr ?_ (gd_dcl _) | with_reducible refine GpY.tr ?_ (gd_va2 _) | with_reducible refine GpY.tr ?_ (gd_cnd _) | with_reducible refine GpY.tr ?_ (gd_tr1 _) | with_reducible refine GpY.tr ?_ (gd_tr2 (fun _ => gd_rw) _) | with_reducible refine GpY.tr ?_ (gd_tr3 (fun _ => gd_rw) _) | with_reducible refine GpY.tr ?_ (gd_fo1 _) | with_reducible refine GpY.tr ?_ (gd_fo2 _) | with_reducible refine GpY.tr ?_ (gd_fo3 _) | with_reducible refine GpY.tr ?_ (gd_fex _) | with_reducible refine GpY.tr ?_ (pg_var.1) | with_reducible refine GpY.tr ?_ (pg_cas.1) | with_reducible refine GpY.tr ?_ (gd_bd _) | with_reducible refine GpY.tr ?_ (gd_pal _ _ _) | with_reducible refine GpY.tr ?_ (gd_pa3 _) | with_reducible refine GpY.tr ?_ (gd_par _) | with_reducible refine GpY.tr ?_ (gd_me2 _) | with_reducible refine GpY.tr ?_ (gd_me3 _) | with_reducible refine GpY.tr ?_ (gd_pa2 _) | with_reducible refine GpY.tr ?_ (gd_pa1 _) | with_reducible refine GpY.tr ?_ (gd_met _) | exact GpY.rf))⟩
              · dsimp only [Option.toList, List.cons_append, List.nil_append, Nat.beq, gI_sI, gI_sL, gI_sA, gI_sM, gL_sI, gL_sL, gL_sA, gL_sM, aI_sI, aI_sL, aI_sA, aI_sM, aL_sI, aL_sL, aL_sA, aL_sM]
                have hP26 := PaR.s1 hP21 hX26 hS26
                have g6_26 : gI τ26 36 = gI τ20 36 := (hS26.1 36 (by decide)).trans g6_21
                have g9_26 : gI τ26 49 = gI τ20 49 := (hS26.1 49 (by decide)).trans g9_21
                refine ⟨fun h29 => ?_, fun h29 => absurd h29 (by decide)⟩
                clear h29
                refine hB _ _ _ _ _ (fun m30 hm30 => ?_)
                dsimp only [ugo, uwp, ust, uct, rfd, Bmethod, Nat.beq, lv_args, rlk, rs1, rs2, rdl, rky, rcd, rno, rsw, Value.category, List.filter, List.take, List.drop, List.reverse, List.reverseAux, List.cons_append, List.nil_append, Option.toList, Int.toNat, Int.reduceToNat, if_pos, if_neg, reduceIte, ↓reduceIte, Nat.reduceAdd, Nat.reduceEqDiff, Nat.reduceBEq, beq_self_eq_true, Bool.not_true, Bool.not_false, Bool.and_true, Bool.and_false, Bool.true_and, Bool.false_and, gI_sI, gI_sL, gI_sA, gI_sM, gL_sI, gL_sL, gL_sA, gL_sM, aI_sI, aI_sL, aI_sA, aI_sM, aL_sI, aL_sL, aL_sA, aL_sM, Bmethod_0, Bmethod_8, Bmethod_19, Bmethod_24, Bmethod_41, Bmethod_43, Bmethod_56, Bmethod_61, Bmethod_70, Bmethod_80, Bmethod_141, Bmethod_150, Bmethod_152, Bmethod_161, Bmethod_165, Bmethod_166, Bmethod_168, Bmethod_173, Bmethod_182, Bmethod_184, Bmethod_197, Bmethod_204, Bmethod_206, Bmethod_215, Bmethod_217, Bmethod_246, Bmethod_257, Bmethod_259, Bmethod_266, Bmethod_273, Bmethod_275, oi_0, oi_1, oi_10, oi_123, oi_3, oi_40, oi_41, oi_44, oi_5, oi_m2, Pu_thing]; try dsimp only
                refine ⟨trivial, fun w31 τ31 hq31 => ?_⟩
                obtain ⟨rfl, b31, rfl, hb31⟩ := hq31 trivial
                have he31 := (XrR.s (PaR.x hP26)).sg (x := 41) (d := 1) (by decide)
                rcases hb31 with ⟨rfl, hk31⟩ | ⟨rfl, hk31⟩
                · dsimp only [Option.toList, List.cons_append, List.nil_append, Nat.beq, gI_sI, gI_sL, gI_sA, gI_sM, gL_sI, gL_sL, gL_sA, gL_sM, aI_sI, aI_sL, aI_sA, aI_sM, aL_sI, aL_sL, aL_sA, aL_sM]
                  have hc31 : codY (accY (accY (metY (aI σ 6 (gI σ 14).toNatClampNeg).toInt (accY s)))) = 1 := he31.mp hk31
                  refine ⟨fun h32 => ?_, fun h32 => absurd h32 (by decide)⟩
                  clear h32
                  refine hB _ _ _ _ _ (fun m33 hm33 => ?_)
                  dsimp only [ugo, uwp, ust, uct, rfd, Bmethod, Nat.beq, lv_args, rlk, rs1, rs2, rdl, rky, rcd, rno, rsw, Value.category, List.filter, List.take, List.drop, List.reverse, List.reverseAux, List.cons_append, List.nil_append, Option.toList, Int.toNat, Int.reduceToNat, if_pos, if_neg, reduceIte, ↓reduceIte, Nat.reduceAdd, Nat.reduceEqDiff, Nat.reduceBEq, beq_self_eq_true, Bool.not_true, Bool.not_false, Bool.and_true, Bool.and_false, Bool.true_and, Bool.false_and, gI_sI, gI_sL, gI_sA, gI_sM, gL_sI, gL_sL, gL_sA, gL_sM, aI_sI, aI_sL, aI_sA, aI_sM, aL_sI, aL_sL, aL_sA, aL_sM, Bmethod_0, Bmethod_8, Bmethod_19, Bmethod_24, Bmethod_41, Bmethod_43, Bmethod_56, Bmethod_61, Bmethod_70, Bmethod_80, Bmethod_141, Bmethod_150, Bmethod_152, Bmethod_161, Bmethod_165, Bmethod_166, Bmethod_168, Bmethod_173, Bmethod_182, Bmethod_184, Bmethod_197, Bmethod_204, Bmethod_206, Bmethod_215, Bmethod_217, Bmethod_246, Bmethod_257, Bmethod_259, Bmethod_266, Bmethod_273, Bmethod_275, oi_0, oi_1, oi_10, oi_123, oi_3, oi_40, oi_41, oi_44, oi_5, oi_m2, Pu_thing]; try dsimp only
                  refine hB _ _ _ _ _ (fun m34 hm34 => ?_)
                  dsimp only [ugo, uwp, ust, uct, rfd, Bmethod, Nat.beq, lv_args, rlk, rs1, rs2, rdl, rky, rcd, rno, rsw, Value.category, List.filter, List.take, List.drop, List.reverse, List.reverseAux, List.cons_append, List.nil_append, Option.toList, Int.toNat, Int.reduceToNat, if_pos, if_neg, reduceIte, ↓reduceIte, Nat.reduceAdd, Nat.reduceEqDiff, Nat.reduceBEq, beq_self_eq_true, Bool.not_true, Bool.not_false, Bool.and_true, Bool.and_false, Bool.true_and, Bool.false_and, gI_sI, gI_sL, gI_sA, gI_sM, gL_sI, gL_sL, gL_sA, gL_sM, aI_sI, aI_sL, aI_sA, aI_sM, aL_sI, aL_sL, aL_sA, aL_sM, Bmethod_0, Bmethod_8, Bmethod_19, Bmethod_24, Bmethod_41, Bmethod_43, Bmethod_56, Bmethod_61, Bmethod_70, Bmethod_80, Bmethod_141, Bmethod_150, Bmethod_152, Bmethod_161, Bmethod_165, Bmethod_166, Bmethod_168, Bmethod_173, Bmethod_182, Bmethod_184, Bmethod_197, Bmethod_204, Bmethod_206, Bmethod_215, Bmethod_217, Bmethod_246, Bmethod_257, Bmethod_259, Bmethod_266, Bmethod_273, Bmethod_275, oi_0, oi_1, oi_10, oi_123, oi_3, oi_40, oi_41, oi_44, oi_5, oi_m2, Pu_thing]; try dsimp only
                  exact hW _ 168 [(0, .ref 1000), (1, .int (aI σ 6 (gI σ 14).toNatClampNeg)), (2, .int (gI τ6 36)), (3, .int (gI τ6 49)), (4, .int 0)] _ _ _ (by simp [rdl, rky]) (t168 _ _ (accY (accY (metY (aI σ 6 (gI σ 14).toNatClampNeg).toInt (accY s)))) 0 _ _ _ 0 hP26 (by rw [g6_26]; exact ((hT20.1 36 (by decide)).trans rfl).symm) (by rw [g9_26]; exact kthx hk20) (Or.inr ⟨rfl, by rw [hMt, xp_y hc26, pa3_y (by assumption)]⟩))
                · dsimp only [Option.toList, List.cons_append, List.nil_append, Nat.beq, gI_sI, gI_sL, gI_sA, gI_sM, gL_sI, gL_sL, gL_sA, gL_sM, aI_sI, aI_sL, aI_sA, aI_sM, aL_sI, aL_sL, aL_sA, aL_sM]
                  have hc31 : ¬ codY (accY (accY (metY (aI σ 6 (gI σ 14).toNatClampNeg).toInt (accY s)))) = 1 := fun q => hk31 (he31.mpr q)
                  refine ⟨fun h35 => absurd h35 (by decide), fun h35 => ?_⟩
                  clear h35
                  refine hB _ _ _ _ _ (fun m36 hm36 => ?_)
                  dsimp only [ugo, uwp, ust, uct, rfd, Bmethod, Nat.beq, lv_args, rlk, rs1, rs2, rdl, rky, rcd, rno, rsw, Value.category, List.filter, List.take, List.drop, List.reverse, List.reverseAux, List.cons_append, List.nil_append, Option.toList, Int.toNat, Int.reduceToNat, if_pos, if_neg, reduceIte, ↓reduceIte, Nat.reduceAdd, Nat.reduceEqDiff, Nat.reduceBEq, beq_self_eq_true, Bool.not_true, Bool.not_false, Bool.and_true, Bool.and_false, Bool.true_and, Bool.false_and, gI_sI, gI_sL, gI_sA, gI_sM, gL_sI, gL_sL, gL_sA, gL_sM, aI_sI, aI_sL, aI_sA, aI_sM, aL_sI, aL_sL, aL_sA, aL_sM, Bmethod_0, Bmethod_8, Bmethod_19, Bmethod_24, Bmethod_41, Bmethod_43, Bmethod_56, Bmethod_61, Bmethod_70, Bmethod_80, Bmethod_141, Bmethod_150, Bmethod_152, Bmethod_161, Bmethod_165, Bmethod_166, Bmethod_168, Bmethod_173, Bmethod_182, Bmethod_184, Bmethod_197, Bmethod_204, Bmethod_206, Bmethod_215, Bmethod_217, Bmethod_246, Bmethod_257, Bmethod_259, Bmethod_266, Bmethod_273, Bmethod_275, oi_0, oi_1, oi_10, oi_123, oi_3, oi_40, oi_41, oi_44, oi_5, oi_m2, Pu_thing]; try dsimp only
                  refine hB _ _ _ _ _ (fun m37 hm37 => ?_)
                  dsimp only [ugo, uwp, ust, uct, rfd, Bmethod, Nat.beq, lv_args, rlk, rs1, rs2, rdl, rky, rcd, rno, rsw, Value.category, List.filter, List.take, List.drop, List.reverse, List.reverseAux, List.cons_append, List.nil_append, Option.toList, Int.toNat, Int.reduceToNat, if_pos, if_neg, reduceIte, ↓reduceIte, Nat.reduceAdd, Nat.reduceEqDiff, Nat.reduceBEq, beq_self_eq_true, Bool.not_true, Bool.not_false, Bool.and_true, Bool.and_false, Bool.true_and, Bool.false_and, gI_sI, gI_sL, gI_sA, gI_sM, gL_sI, gL_sL, gL_sA, gL_sM, aI_sI, aI_sL, aI_sA, aI_sM, aL_sI, aL_sL, aL_sA, aL_sM, Bmethod_0, Bmethod_8, Bmethod_19, Bmethod_24, Bmethod_41, Bmethod_43, Bmethod_56, Bmethod_61, Bmethod_70, Bmethod_80, Bmethod_141, Bmethod_150, Bmethod_152, Bmethod_161, Bmethod_165, Bmethod_166, Bmethod_168, Bmethod_173, Bmethod_182, Bmethod_184, Bmethod_197, Bmethod_204, Bmethod_206, Bmethod_215, Bmethod_217, Bmethod_246, Bmethod_257, Bmethod_259, Bmethod_266, Bmethod_273, Bmethod_275, oi_0, oi_1, oi_10, oi_123, oi_3, oi_40, oi_41, oi_44, oi_5, oi_m2, Pu_thing]; try dsimp only
                  exact hW _ 168 [(0, .ref 1000), (1, .int (aI σ 6 (gI σ 14).toNatClampNeg)), (2, .int (gI τ6 36)), (3, .int (gI τ6 49)), (4, .int 1)] _ _ _ (by simp [rdl, rky]) (t168 _ _ (accY (accY (metY (aI σ 6 (gI σ 14).toNatClampNeg).toInt (accY s)))) 0 _ _ _ 1 hP26 (by rw [g6_26]; exact ((hT20.1 36 (by decide)).trans rfl).symm) (by rw [g9_26]; exact kthx hk20) (Or.inl ⟨rfl, by rw [hMt, xp_y hc26, pa3_n (by assumption)]⟩))
          · refine hB _ _ _ _ _ (fun m38 hm38 => ?_)
            dsimp only [ugo, uwp, ust, uct, rfd, Bmethod, Nat.beq, lv_args, rlk, rs1, rs2, rdl, rky, rcd, rno, rsw, Value.category, List.filter, List.take, List.drop, List.reverse, List.reverseAux, List.cons_append, List.nil_append, Option.toList, Int.toNat, Int.reduceToNat, if_pos, if_neg, reduceIte, ↓reduceIte, Nat.reduceAdd, Nat.reduceEqDiff, Nat.reduceBEq, beq_self_eq_true, Bool.not_true, Bool.not_false, Bool.and_true, Bool.and_false, Bool.true_and, Bool.false_and, gI_sI, gI_sL, gI_sA, gI_sM, gL_sI, gL_sL, gL_sA, gL_sM, aI_sI, aI_sL, aI_sA, aI_sM, aL_sI, aL_sL, aL_sA, aL_sM, Bmethod_0, Bmethod_8, Bmethod_19, Bmethod_24, Bmethod_41, Bmethod_43, Bmethod_56, Bmethod_61, Bmethod_70, Bmethod_80, Bmethod_141, Bmethod_150, Bmethod_152, Bmethod_161, Bmethod_165, Bmethod_166, Bmethod_168, Bmethod_173, Bmethod_182, Bmethod_184, Bmethod_197, Bmethod_204, Bmethod_206, Bmethod_215, Bmethod_217, Bmethod_246, Bmethod_257, Bmethod_259, Bmethod_266, Bmethod_273, Bmethod_275, oi_0, oi_1, oi_10, oi_123, oi_3, oi_40, oi_41, oi_44, oi_5, oi_m2, Pu_thing]; try dsimp only
            refine ⟨trivial, fun w39 τ39 hq39 => ?_⟩
            obtain ⟨rfl, hf39⟩ := hq39 trivial
            dsimp only [Option.toList, List.cons_append, List.nil_append, Nat.beq, gI_sI, gI_sL, gI_sA, gI_sM, gL_sI, gL_sL, gL_sA, gL_sM, aI_sI, aI_sL, aI_sA, aI_sM, aL_sI, aL_sL, aL_sA, aL_sM]
            unfold Qv_method
            try dsimp only
            have e := hf39 hM6.1.1.2
            subst e
            refine Or.inl ⟨rfl, FlR.g (S := raiY 3 (accY s)) ?_ ?_⟩
            · exact FlR.rai hM6.1 (by decide) (by show (3 : Int32).toInt = _; rw [if_neg (by omega)]; rfl) rfl
            · unfold mthY
              rw [me1_y hcd, me2_3 hcn (by rw [hM6.2.2.2.1, mlR_l, show gI τ6 36 = 10 by lia]; decide)]
              exact gd_me3 _
        · refine hB _ _ _ _ _ (fun m40 hm40 => ?_)
          dsimp only [ugo, uwp, ust, uct, rfd, Bmethod, Nat.beq, lv_args, rlk, rs1, rs2, rdl, rky, rcd, rno, rsw, Value.category, List.filter, List.take, List.drop, List.reverse, List.reverseAux, List.cons_append, List.nil_append, Option.toList, Int.toNat, Int.reduceToNat, if_pos, if_neg, reduceIte, ↓reduceIte, Nat.reduceAdd, Nat.reduceEqDiff, Nat.reduceBEq, beq_self_eq_true, Bool.not_true, Bool.not_false, Bool.and_true, Bool.and_false, Bool.true_and, Bool.false_and, gI_sI, gI_sL, gI_sA, gI_sM, gL_sI, gL_sL, gL_sA, gL_sM, aI_sI, aI_sL, aI_sA, aI_sM, aL_sI, aL_sL, aL_sA, aL_sM, Bmethod_0, Bmethod_8, Bmethod_19, Bmethod_24, Bmethod_41, Bmethod_43, Bmethod_56, Bmethod_61, Bmethod_70, Bmethod_80, Bmethod_141, Bmethod_150, Bmethod_152, Bmethod_161, Bmethod_165, Bmethod_166, Bmethod_168, Bmethod_173, Bmethod_182, Bmethod_184, Bmethod_197, Bmethod_204, Bmethod_206, Bmethod_215, Bmethod_217, Bmethod_246, Bmethod_257, Bmethod_259, Bmethod_266, Bmethod_273, Bmethod_275, oi_0, oi_1, oi_10, oi_123, oi_3, oi_40, oi_41, oi_44, oi_5, oi_m2, Pu_thing]; try dsimp only
          have hnn : ¬ codY (accY s) = 80 := fun q => h12 (hM6.1.ki.2.2.1.mpr q)
          refine ⟨trivial, fun w41 τ41 hq41 => ?_⟩
          have hq41 := hq41 (accY s) hM6.1
          obtain ⟨rfl, hF41⟩ := hq41
          dsimp only [Option.toList, List.cons_append, List.nil_append, Nat.beq, gI_sI, gI_sL, gI_sA, gI_sM, gL_sI, gL_sL, gL_sA, gL_sM, aI_sI, aI_sL, aI_sA, aI_sM, aL_sI, aL_sL, aL_sA, aL_sM]
          unfold Qv_method
          try dsimp only
          unfold mthY
          refine Or.inl ⟨rfl, FlR.g hF41 ?_⟩
          rw [me1_y hcd, me2_n hnn]
          exact (by repeat (first | with_reducible exact GpY.rf | with_reducible refine GpY.tr ?_ (gd_fo _) | with_reducible refine GpY.tr ?_ (gd_ef _) | with_reducible refine GpY.tr ?_ (gd_cf _) | with_reducible refine GpY.tr ?_ (gd_wt _) | with_reducible refine GpY.tr ?_ (gd_xp _) | with_reducible refine GpY.tr ?_ (gd_acc _) | with_reducible refine GpY.tr ?_ (gd_rai _) | with_reducible refine GpY.tr ?_ (gd_e _) | with_reducible refine GpY.tr ?_ (gd_o _) | with_reducible refine GpY.tr ?_ (gd_c _) | with_reducible refine GpY.tr ?_ (gd_op _) | with_reducible refine GpY.tr ?_ (gd_clp gd_e _ _) | with_reducible refine GpY.tr ?_ (gd_tl _) | with_reducible refine GpY.tr ?_ (gd_sf _ _ _) | with_reducible refine GpY.tr ?_ (gd_cl _) | with_reducible refine GpY.tr ?_ (gd_pc _) | with_reducible refine GpY.tr ?_ (gd_st _) | with_reducible refine GpY.tr ?_ (gd_rw _) | with_reducible refine GpY.tr ?_ (gd_typ _) | with_reducible refine GpY.tr ?_ (gd_dcl _) | with_reducible refine GpY.tr ?_ (gd_va2 _) | with_reducible refine GpY.tr ?_ (gd_cnd _) | with_reducible refine GpY.tr ?_ (gd_tr1 _) | with_reducible refine GpY.tr ?_ (gd_tr2 (fun _ => gd_rw) _) | with_reducible refine GpY.tr ?_ (gd_tr3 (fun _ => gd_rw) _) | with_reducible refine GpY.tr ?_ (gd_fo1 _) | with_reducible refine GpY.tr ?_ (gd_fo2 _) | with_reducible refine GpY.tr ?_ (gd_fo3 _) | with_reducible refine GpY.tr ?_ (gd_fex _) | with_reducible refine GpY.tr ?_ (pg_var.1) | with_reducible refine GpY.tr ?_ (pg_cas.1) | with_reducible refine GpY.tr ?_ (gd_bd _) | with_reducible refine GpY.tr ?_ (gd_pal _ _ _) | with_reducible refine GpY.tr ?_ (gd_pa3 _) | with_reducible refine GpY.tr ?_ (gd_par _) | with_reducible refine GpY.tr ?_ (gd_me2 _) | with_reducible refine GpY.tr ?_ (gd_me3 _) | with_reducible refine GpY.tr ?_ (gd_pa2 _) | with_reducible refine GpY.tr ?_ (gd_pa1 _) | with_reducible refine GpY.tr ?_ (gd_met _) | exact GpY.rf))
    · dsimp only [Option.toList, List.cons_append, List.nil_append, Nat.beq, gI_sI, gI_sL, gI_sA, gI_sM, gL_sI, gL_sL, gL_sA, gL_sM, aI_sI, aI_sL, aI_sA, aI_sM, aL_sI, aL_sL, aL_sA, aL_sM]
      have hc2 : ¬ codY s = 55 := fun q => hk2 (he2.mpr q)
      refine ⟨fun h42 => absurd h42 (by decide), fun h42 => ?_⟩
      clear h42
      refine hB _ _ _ _ _ (fun m43 hm43 => ?_)
      dsimp only [ugo, uwp, ust, uct, rfd, Bmethod, Nat.beq, lv_args, rlk, rs1, rs2, rdl, rky, rcd, rno, rsw, Value.category, List.filter, List.take, List.drop, List.reverse, List.reverseAux, List.cons_append, List.nil_append, Option.toList, Int.toNat, Int.reduceToNat, if_pos, if_neg, reduceIte, ↓reduceIte, Nat.reduceAdd, Nat.reduceEqDiff, Nat.reduceBEq, beq_self_eq_true, Bool.not_true, Bool.not_false, Bool.and_true, Bool.and_false, Bool.true_and, Bool.false_and, gI_sI, gI_sL, gI_sA, gI_sM, gL_sI, gL_sL, gL_sA, gL_sM, aI_sI, aI_sL, aI_sA, aI_sM, aL_sI, aL_sL, aL_sA, aL_sM, Bmethod_0, Bmethod_8, Bmethod_19, Bmethod_24, Bmethod_41, Bmethod_43, Bmethod_56, Bmethod_61, Bmethod_70, Bmethod_80, Bmethod_141, Bmethod_150, Bmethod_152, Bmethod_161, Bmethod_165, Bmethod_166, Bmethod_168, Bmethod_173, Bmethod_182, Bmethod_184, Bmethod_197, Bmethod_204, Bmethod_206, Bmethod_215, Bmethod_217, Bmethod_246, Bmethod_257, Bmethod_259, Bmethod_266, Bmethod_273, Bmethod_275, oi_0, oi_1, oi_10, oi_123, oi_3, oi_40, oi_41, oi_44, oi_5, oi_m2, Pu_thing]; try dsimp only
      refine ⟨trivial, fun w44 τ44 hq44 => ?_⟩
      obtain ⟨rfl, b44, rfl, hb44⟩ := hq44 trivial
      have he44 := (XrR.s (MhR.x hM)).ty
      rcases hb44 with ⟨rfl, hk44⟩ | ⟨rfl, hk44⟩
      · dsimp only [Option.toList, List.cons_append, List.nil_append, Nat.beq, gI_sI, gI_sL, gI_sA, gI_sM, gL_sI, gL_sL, gL_sA, gL_sM, aI_sI, aI_sL, aI_sA, aI_sM, aL_sI, aL_sL, aL_sA, aL_sM]
        have hc44 : 50 ≤ codY s ∧ codY s ≤ 54 := he44.mp hk44
        refine ⟨fun h45 => ?_, fun h45 => absurd h45 (by decide)⟩
        clear h45
        refine hB _ _ _ _ _ (fun m46 hm46 => ?_)
        dsimp only [ugo, uwp, ust, uct, rfd, Bmethod, Nat.beq, lv_args, rlk, rs1, rs2, rdl, rky, rcd, rno, rsw, Value.category, List.filter, List.take, List.drop, List.reverse, List.reverseAux, List.cons_append, List.nil_append, Option.toList, Int.toNat, Int.reduceToNat, if_pos, if_neg, reduceIte, ↓reduceIte, Nat.reduceAdd, Nat.reduceEqDiff, Nat.reduceBEq, beq_self_eq_true, Bool.not_true, Bool.not_false, Bool.and_true, Bool.and_false, Bool.true_and, Bool.false_and, gI_sI, gI_sL, gI_sA, gI_sM, gL_sI, gL_sL, gL_sA, gL_sM, aI_sI, aI_sL, aI_sA, aI_sM, aL_sI, aL_sL, aL_sA, aL_sM, Bmethod_0, Bmethod_8, Bmethod_19, Bmethod_24, Bmethod_41, Bmethod_43, Bmethod_56, Bmethod_61, Bmethod_70, Bmethod_80, Bmethod_141, Bmethod_150, Bmethod_152, Bmethod_161, Bmethod_165, Bmethod_166, Bmethod_168, Bmethod_173, Bmethod_182, Bmethod_184, Bmethod_197, Bmethod_204, Bmethod_206, Bmethod_215, Bmethod_217, Bmethod_246, Bmethod_257, Bmethod_259, Bmethod_266, Bmethod_273, Bmethod_275, oi_0, oi_1, oi_10, oi_123, oi_3, oi_40, oi_41, oi_44, oi_5, oi_m2, Pu_thing]; try dsimp only
        have hcd : (50 ≤ codY s ∧ codY s ≤ 54) ∨ codY s = 55 := by omega
        intro p47
        refine ⟨trivial, fun w48 τ48 hq48 => ?_⟩
        have hq48 := hq48 _ s 21 ⟨MhR.x hM, by omega, by omega⟩
        rcases hq48 with ⟨rfl, hF48⟩ | ⟨rfl, hX48, hz48, hS48⟩
        · dsimp only [Option.toList, List.cons_append, List.nil_append, Nat.beq, gI_sI, gI_sL, gI_sA, gI_sM, gL_sI, gL_sL, gL_sA, gL_sM, aI_sI, aI_sL, aI_sA, aI_sM, aL_sI, aL_sL, aL_sA, aL_sM]
          refine ⟨fun h49 => absurd h49 (by decide), fun h49 => ?_⟩
          clear h49
          refine hB _ _ _ _ _ (fun m50 hm50 => ?_)
          dsimp only [ugo, uwp, ust, uct, rfd, Bmethod, Nat.beq, lv_args, rlk, rs1, rs2, rdl, rky, rcd, rno, rsw, Value.category, List.filter, List.take, List.drop, List.reverse, List.reverseAux, List.cons_append, List.nil_append, Option.toList, Int.toNat, Int.reduceToNat, if_pos, if_neg, reduceIte, ↓reduceIte, Nat.reduceAdd, Nat.reduceEqDiff, Nat.reduceBEq, beq_self_eq_true, Bool.not_true, Bool.not_false, Bool.and_true, Bool.and_false, Bool.true_and, Bool.false_and, gI_sI, gI_sL, gI_sA, gI_sM, gL_sI, gL_sL, gL_sA, gL_sM, aI_sI, aI_sL, aI_sA, aI_sM, aL_sI, aL_sL, aL_sA, aL_sM, Bmethod_0, Bmethod_8, Bmethod_19, Bmethod_24, Bmethod_41, Bmethod_43, Bmethod_56, Bmethod_61, Bmethod_70, Bmethod_80, Bmethod_141, Bmethod_150, Bmethod_152, Bmethod_161, Bmethod_165, Bmethod_166, Bmethod_168, Bmethod_173, Bmethod_182, Bmethod_184, Bmethod_197, Bmethod_204, Bmethod_206, Bmethod_215, Bmethod_217, Bmethod_246, Bmethod_257, Bmethod_259, Bmethod_266, Bmethod_273, Bmethod_275, oi_0, oi_1, oi_10, oi_123, oi_3, oi_40, oi_41, oi_44, oi_5, oi_m2, Pu_thing]; try dsimp only
          unfold Qv_method
          try dsimp only
          unfold mthY
          refine Or.inl ⟨rfl, FlR.g hF48 ?_⟩
          rw [me1_y hcd]
          exact (by repeat (first | with_reducible exact GpY.rf | with_reducible refine GpY.tr ?_ (gd_fo _) | with_reducible refine GpY.tr ?_ (gd_ef _) | with_reducible refine GpY.tr ?_ (gd_cf _) | with_reducible refine GpY.tr ?_ (gd_wt _) | with_reducible refine GpY.tr ?_ (gd_xp _) | with_reducible refine GpY.tr ?_ (gd_acc _) | with_reducible refine GpY.tr ?_ (gd_rai _) | with_reducible refine GpY.tr ?_ (gd_e _) | with_reducible refine GpY.tr ?_ (gd_o _) | with_reducible refine GpY.tr ?_ (gd_c _) | with_reducible refine GpY.tr ?_ (gd_op _) | with_reducible refine GpY.tr ?_ (gd_clp gd_e _ _) | with_reducible refine GpY.tr ?_ (gd_tl _) | with_reducible refine GpY.tr ?_ (gd_sf _ _ _) | with_reducible refine GpY.tr ?_ (gd_cl _) | with_reducible refine GpY.tr ?_ (gd_pc _) | with_reducible refine GpY.tr ?_ (gd_st _) | with_reducible refine GpY.tr ?_ (gd_rw _) | with_reducible refine GpY.tr ?_ (gd_typ _) | with_reducible refine GpY.tr ?_ (gd_dcl _) | with_reducible refine GpY.tr ?_ (gd_va2 _) | with_reducible refine GpY.tr ?_ (gd_cnd _) | with_reducible refine GpY.tr ?_ (gd_tr1 _) | with_reducible refine GpY.tr ?_ (gd_tr2 (fun _ => gd_rw) _) | with_reducible refine GpY.tr ?_ (gd_tr3 (fun _ => gd_rw) _) | with_reducible refine GpY.tr ?_ (gd_fo1 _) | with_reducible refine GpY.tr ?_ (gd_fo2 _) | with_reducible refine GpY.tr ?_ (gd_fo3 _) | with_reducible refine GpY.tr ?_ (gd_fex _) | with_reducible refine GpY.tr ?_ (pg_var.1) | with_reducible refine GpY.tr ?_ (pg_cas.1) | with_reducible refine GpY.tr ?_ (gd_bd _) | with_reducible refine GpY.tr ?_ (gd_pal _ _ _) | with_reducible refine GpY.tr ?_ (gd_pa3 _) | with_reducible refine GpY.tr ?_ (gd_par _) | with_reducible refine GpY.tr ?_ (gd_me2 _) | with_reducible refine GpY.tr ?_ (gd_me3 _) | with_reducible refine GpY.tr ?_ (gd_pa2 _) | with_reducible refine GpY.tr ?_ (gd_pa1 _) | with_reducible refine GpY.tr ?_ (gd_met _) | exact GpY.rf))
        · dsimp only [Option.toList, List.cons_append, List.nil_append, Nat.beq, gI_sI, gI_sL, gI_sA, gI_sM, gL_sI, gL_sL, gL_sA, gL_sM, aI_sI, aI_sL, aI_sA, aI_sM, aL_sI, aL_sL, aL_sA, aL_sM]
          have hM48 := MhR.s1 hM hX48 hS48
          refine ⟨fun h51 => ?_, fun h51 => absurd h51 (by decide)⟩
          clear h51
          refine hB _ _ _ _ _ (fun m52 hm52 => ?_)
          dsimp only [ugo, uwp, ust, uct, rfd, Bmethod, Nat.beq, lv_args, rlk, rs1, rs2, rdl, rky, rcd, rno, rsw, Value.category, List.filter, List.take, List.drop, List.reverse, List.reverseAux, List.cons_append, List.nil_append, Option.toList, Int.toNat, Int.reduceToNat, if_pos, if_neg, reduceIte, ↓reduceIte, Nat.reduceAdd, Nat.reduceEqDiff, Nat.reduceBEq, beq_self_eq_true, Bool.not_true, Bool.not_false, Bool.and_true, Bool.and_false, Bool.true_and, Bool.false_and, gI_sI, gI_sL, gI_sA, gI_sM, gL_sI, gL_sL, gL_sA, gL_sM, aI_sI, aI_sL, aI_sA, aI_sM, aL_sI, aL_sL, aL_sA, aL_sM, Bmethod_0, Bmethod_8, Bmethod_19, Bmethod_24, Bmethod_41, Bmethod_43, Bmethod_56, Bmethod_61, Bmethod_70, Bmethod_80, Bmethod_141, Bmethod_150, Bmethod_152, Bmethod_161, Bmethod_165, Bmethod_166, Bmethod_168, Bmethod_173, Bmethod_182, Bmethod_184, Bmethod_197, Bmethod_204, Bmethod_206, Bmethod_215, Bmethod_217, Bmethod_246, Bmethod_257, Bmethod_259, Bmethod_266, Bmethod_273, Bmethod_275, oi_0, oi_1, oi_10, oi_123, oi_3, oi_40, oi_41, oi_44, oi_5, oi_m2, Pu_thing]; try dsimp only
          intro p53
          refine ⟨fun h54 => ?_, fun h54 => ?_⟩
          · refine hB _ _ _ _ _ (fun m55 hm55 => ?_)
            dsimp only [ugo, uwp, ust, uct, rfd, Bmethod, Nat.beq, lv_args, rlk, rs1, rs2, rdl, rky, rcd, rno, rsw, Value.category, List.filter, List.take, List.drop, List.reverse, List.reverseAux, List.cons_append, List.nil_append, Option.toList, Int.toNat, Int.reduceToNat, if_pos, if_neg, reduceIte, ↓reduceIte, Nat.reduceAdd, Nat.reduceEqDiff, Nat.reduceBEq, beq_self_eq_true, Bool.not_true, Bool.not_false, Bool.and_true, Bool.and_false, Bool.true_and, Bool.false_and, gI_sI, gI_sL, gI_sA, gI_sM, gL_sI, gL_sL, gL_sA, gL_sM, aI_sI, aI_sL, aI_sA, aI_sM, aL_sI, aL_sL, aL_sA, aL_sM, Bmethod_0, Bmethod_8, Bmethod_19, Bmethod_24, Bmethod_41, Bmethod_43, Bmethod_56, Bmethod_61, Bmethod_70, Bmethod_80, Bmethod_141, Bmethod_150, Bmethod_152, Bmethod_161, Bmethod_165, Bmethod_166, Bmethod_168, Bmethod_173, Bmethod_182, Bmethod_184, Bmethod_197, Bmethod_204, Bmethod_206, Bmethod_215, Bmethod_217, Bmethod_246, Bmethod_257, Bmethod_259, Bmethod_266, Bmethod_273, Bmethod_275, oi_0, oi_1, oi_10, oi_123, oi_3, oi_40, oi_41, oi_44, oi_5, oi_m2, Pu_thing]; try dsimp only
            have hcn := hM48.1.ki.2.2.1.mp (by exact h54)
            refine ⟨fun h56 => ?_, fun h56 => ?_⟩
            · refine hB _ _ _ _ _ (fun m57 hm57 => ?_)
              dsimp only [ugo, uwp, ust, uct, rfd, Bmethod, Nat.beq, lv_args, rlk, rs1, rs2, rdl, rky, rcd, rno, rsw, Value.category, List.filter, List.take, List.drop, List.reverse, List.reverseAux, List.cons_append, List.nil_append, Option.toList, Int.toNat, Int.reduceToNat, if_pos, if_neg, reduceIte, ↓reduceIte, Nat.reduceAdd, Nat.reduceEqDiff, Nat.reduceBEq, beq_self_eq_true, Bool.not_true, Bool.not_false, Bool.and_true, Bool.and_false, Bool.true_and, Bool.false_and, gI_sI, gI_sL, gI_sA, gI_sM, gL_sI, gL_sL, gL_sA, gL_sM, aI_sI, aI_sL, aI_sA, aI_sM, aL_sI, aL_sL, aL_sA, aL_sM, Bmethod_0, Bmethod_8, Bmethod_19, Bmethod_24, Bmethod_41, Bmethod_43, Bmethod_56, Bmethod_61, Bmethod_70, Bmethod_80, Bmethod_141, Bmethod_150, Bmethod_152, Bmethod_161, Bmethod_165, Bmethod_166, Bmethod_168, Bmethod_173, Bmethod_182, Bmethod_184, Bmethod_197, Bmethod_204, Bmethod_206, Bmethod_215, Bmethod_217, Bmethod_246, Bmethod_257, Bmethod_259, Bmethod_266, Bmethod_273, Bmethod_275, oi_0, oi_1, oi_10, oi_123, oi_3, oi_40, oi_41, oi_44, oi_5, oi_m2, Pu_thing]; try dsimp only
              have h10 : ¬ gI τ48 36 = 10 := by lia
              have hl10 : ¬ 10 ≤ (zMs (accY s)).length := by
                rw [hM48.2.2.2.1, mlR_l]
                have q1 := hM48.2.2.2.2.1
                have q2 := nT_lt q1.1 (show gI τ48 36 < 10 by lia)
                have q3 : nT (10 : Int32) = 10 := rfl
                omega
              have hMt : mthY s = bdY (xpY 1 (pa3Y (xpY 0 (accY (metY (aI σ 6 (gI σ 14).toNatClampNeg).toInt (accY s)))))) := by
                unfold mthY
                rw [me1_y hcd, me2_y hcn hl10, me3_y hM48.1.1.1, ← hM.1.ty2 (by omega)]
                rfl
              intro p58
              intro p59
              intro p60
              intro p61
              refine ⟨trivial, fun w62 τ62 hq62 => ?_⟩
              obtain ⟨rfl, hT62⟩ := hq62
              have hP62 : PaR τ62 (metY (aI σ 6 (gI σ 14).toNatClampNeg).toInt (accY s)) 0 := PaR.new hM48 h10 hT62
              have hk62 := th49 hT62
              dsimp only [Option.toList, List.cons_append, List.nil_append, Nat.beq, gI_sI, gI_sL, gI_sA, gI_sM, gL_sI, gL_sL, gL_sA, gL_sM, aI_sI, aI_sL, aI_sA, aI_sM, aL_sI, aL_sL, aL_sA, aL_sM]
              have hcm : codY (metY (aI σ 6 (gI σ 14).toNatClampNeg).toInt (accY s)) = 80 := hcn
              refine ⟨trivial, fun w63 τ63 hq63 => ?_⟩
              have hq63 := hq63 _ (metY (aI σ 6 (gI σ 14).toNatClampNeg).toInt (accY s)) 21 ⟨(PaR.x hP62), by omega, by omega⟩
              rcases hq63 with ⟨rfl, hF63⟩ | ⟨rfl, hX63, hz63, hS63⟩
              · dsimp only [Option.toList, List.cons_append, List.nil_append, Nat.beq, gI_sI, gI_sL, gI_sA, gI_sM, gL_sI, gL_sL, gL_sA, gL_sM, aI_sI, aI_sL, aI_sA, aI_sM, aL_sI, aL_sL, aL_sA, aL_sM]
                refine ⟨fun h64 => ?_, fun h64 => absurd h64 (by decide)⟩
                clear h64
                refine hB _ _ _ _ _ (fun m65 hm65 => ?_)
                dsimp only [ugo, uwp, ust, uct, rfd, Bmethod, Nat.beq, lv_args, rlk, rs1, rs2, rdl, rky, rcd, rno, rsw, Value.category, List.filter, List.take, List.drop, List.reverse, List.reverseAux, List.cons_append, List.nil_append, Option.toList, Int.toNat, Int.reduceToNat, if_pos, if_neg, reduceIte, ↓reduceIte, Nat.reduceAdd, Nat.reduceEqDiff, Nat.reduceBEq, beq_self_eq_true, Bool.not_true, Bool.not_false, Bool.and_true, Bool.and_false, Bool.true_and, Bool.false_and, gI_sI, gI_sL, gI_sA, gI_sM, gL_sI, gL_sL, gL_sA, gL_sM, aI_sI, aI_sL, aI_sA, aI_sM, aL_sI, aL_sL, aL_sA, aL_sM, Bmethod_0, Bmethod_8, Bmethod_19, Bmethod_24, Bmethod_41, Bmethod_43, Bmethod_56, Bmethod_61, Bmethod_70, Bmethod_80, Bmethod_141, Bmethod_150, Bmethod_152, Bmethod_161, Bmethod_165, Bmethod_166, Bmethod_168, Bmethod_173, Bmethod_182, Bmethod_184, Bmethod_197, Bmethod_204, Bmethod_206, Bmethod_215, Bmethod_217, Bmethod_246, Bmethod_257, Bmethod_259, Bmethod_266, Bmethod_273, Bmethod_275, oi_0, oi_1, oi_10, oi_123, oi_3, oi_40, oi_41, oi_44, oi_5, oi_m2, Pu_thing]; try dsimp only
                unfold Qv_method
                try dsimp only
                rw [hMt]
                exact Or.inl ⟨rfl, FlR.g hF63 (by repeat (first | with_reducible exact GpY.rf | with_reducible refine GpY.tr ?_ (gd_fo _) | with_reducible refine GpY.tr ?_ (gd_ef _) | with_reducible refine GpY.tr ?_ (gd_cf _) | with_reducible refine GpY.tr ?_ (gd_wt _) | with_reducible refine GpY.tr ?_ (gd_xp _) | with_reducible refine GpY.tr ?_ (gd_acc _) | with_reducible refine GpY.tr ?_ (gd_rai _) | with_reducible refine GpY.tr ?_ (gd_e _) | with_reducible refine GpY.tr ?_ (gd_o _) | with_reducible refine GpY.tr ?_ (gd_c _) | with_reducible refine GpY.tr ?_ (gd_op _) | with_reducible refine GpY.tr ?_ (gd_clp gd_e _ _) | with_reducible refine GpY.tr ?_ (gd_tl _) | with_reducible refine GpY.tr ?_ (gd_sf _ _ _) | with_reducible refine GpY.tr ?_ (gd_cl _) | with_reducible refine GpY.tr ?_ (gd_pc _) | with_reducible refine GpY.tr ?_ (gd_st _) | with_reducible refine GpY.tr ?_ (gd_rw _) | with_reducible refine GpY.tr ?_ (gd_typ _) | with_reducible refine GpY.tr ?_ (gd_dcl _) | with_reducible refine GpY.tr ?_ (gd_va2 _) | with_reducible refine GpY.tr ?_ (gd_cnd _) | with_reducible refine GpY.tr ?_ (gd_tr1 _) | with_reducible refine GpY.tr ?_ (gd_tr2 (fun _ => gd_rw) _) | with_reducible refine GpY.tr ?_ (gd_tr3 (fun _ => gd_rw) _) | with_reducible refine GpY.tr ?_ (gd_fo1 _) | with_reducible refine GpY.tr ?_ (gd_fo2 _) | with_reducible refine GpY.tr ?_ (gd_fo3 _) | with_reducible refine GpY.tr ?_ (gd_fex _) | with_reducible refine GpY.tr ?_ (pg_var.1) | with_reducible refine GpY.tr ?_ (pg_cas.1) | with_reducible refine GpY.tr ?_ (gd_bd _) | with_reducible refine GpY.tr ?_ (gd_pal _ _ _) | with_reducible refine GpY.tr ?_ (gd_pa3 _) | with_reducible refine GpY.tr ?_ (gd_par _) | with_reducible refine GpY.tr ?_ (gd_me2 _) | with_reducible refine GpY.tr ?_ (gd_me3 _) | with_reducible refine GpY.tr ?_ (gd_pa2 _) | with_reducible refine GpY.tr ?_ (gd_pa1 _) | with_reducible refine GpY.tr ?_ (gd_met _) | exact GpY.rf))⟩
              · dsimp only [Option.toList, List.cons_append, List.nil_append, Nat.beq, gI_sI, gI_sL, gI_sA, gI_sM, gL_sI, gL_sL, gL_sA, gL_sM, aI_sI, aI_sL, aI_sA, aI_sM, aL_sI, aL_sL, aL_sA, aL_sM]
                have hP63 := PaR.s1 hP62 hX63 hS63
                have g6_63 : gI τ63 36 = gI τ62 36 := (hS63.1 36 (by decide)).trans rfl
                have g9_63 : gI τ63 49 = gI τ62 49 := (hS63.1 49 (by decide)).trans rfl
                refine ⟨fun h66 => absurd h66 (by decide), fun h66 => ?_⟩
                clear h66
                refine hB _ _ _ _ _ (fun m67 hm67 => ?_)
                dsimp only [ugo, uwp, ust, uct, rfd, Bmethod, Nat.beq, lv_args, rlk, rs1, rs2, rdl, rky, rcd, rno, rsw, Value.category, List.filter, List.take, List.drop, List.reverse, List.reverseAux, List.cons_append, List.nil_append, Option.toList, Int.toNat, Int.reduceToNat, if_pos, if_neg, reduceIte, ↓reduceIte, Nat.reduceAdd, Nat.reduceEqDiff, Nat.reduceBEq, beq_self_eq_true, Bool.not_true, Bool.not_false, Bool.and_true, Bool.and_false, Bool.true_and, Bool.false_and, gI_sI, gI_sL, gI_sA, gI_sM, gL_sI, gL_sL, gL_sA, gL_sM, aI_sI, aI_sL, aI_sA, aI_sM, aL_sI, aL_sL, aL_sA, aL_sM, Bmethod_0, Bmethod_8, Bmethod_19, Bmethod_24, Bmethod_41, Bmethod_43, Bmethod_56, Bmethod_61, Bmethod_70, Bmethod_80, Bmethod_141, Bmethod_150, Bmethod_152, Bmethod_161, Bmethod_165, Bmethod_166, Bmethod_168, Bmethod_173, Bmethod_182, Bmethod_184, Bmethod_197, Bmethod_204, Bmethod_206, Bmethod_215, Bmethod_217, Bmethod_246, Bmethod_257, Bmethod_259, Bmethod_266, Bmethod_273, Bmethod_275, oi_0, oi_1, oi_10, oi_123, oi_3, oi_40, oi_41, oi_44, oi_5, oi_m2, Pu_thing]; try dsimp only
                refine ⟨trivial, fun w68 τ68 hq68 => ?_⟩
                have hq68 := hq68 _ (accY (metY (aI σ 6 (gI σ 14).toNatClampNeg).toInt (accY s))) 21 0 ⟨(PaR.x hP63), by decide⟩
                rcases hq68 with ⟨rfl, hF68⟩ | ⟨rfl, hc68, hX68, hz68, hS68⟩
                · dsimp only [Option.toList, List.cons_append, List.nil_append, Nat.beq, gI_sI, gI_sL, gI_sA, gI_sM, gL_sI, gL_sL, gL_sA, gL_sM, aI_sI, aI_sL, aI_sA, aI_sM, aL_sI, aL_sL, aL_sA, aL_sM]
                  refine ⟨fun h69 => absurd h69 (by decide), fun h69 => ?_⟩
                  clear h69
                  refine hB _ _ _ _ _ (fun m70 hm70 => ?_)
                  dsimp only [ugo, uwp, ust, uct, rfd, Bmethod, Nat.beq, lv_args, rlk, rs1, rs2, rdl, rky, rcd, rno, rsw, Value.category, List.filter, List.take, List.drop, List.reverse, List.reverseAux, List.cons_append, List.nil_append, Option.toList, Int.toNat, Int.reduceToNat, if_pos, if_neg, reduceIte, ↓reduceIte, Nat.reduceAdd, Nat.reduceEqDiff, Nat.reduceBEq, beq_self_eq_true, Bool.not_true, Bool.not_false, Bool.and_true, Bool.and_false, Bool.true_and, Bool.false_and, gI_sI, gI_sL, gI_sA, gI_sM, gL_sI, gL_sL, gL_sA, gL_sM, aI_sI, aI_sL, aI_sA, aI_sM, aL_sI, aL_sL, aL_sA, aL_sM, Bmethod_0, Bmethod_8, Bmethod_19, Bmethod_24, Bmethod_41, Bmethod_43, Bmethod_56, Bmethod_61, Bmethod_70, Bmethod_80, Bmethod_141, Bmethod_150, Bmethod_152, Bmethod_161, Bmethod_165, Bmethod_166, Bmethod_168, Bmethod_173, Bmethod_182, Bmethod_184, Bmethod_197, Bmethod_204, Bmethod_206, Bmethod_215, Bmethod_217, Bmethod_246, Bmethod_257, Bmethod_259, Bmethod_266, Bmethod_273, Bmethod_275, oi_0, oi_1, oi_10, oi_123, oi_3, oi_40, oi_41, oi_44, oi_5, oi_m2, Pu_thing]; try dsimp only
                  unfold Qv_method
                  try dsimp only
                  rw [hMt]
                  exact Or.inl ⟨rfl, FlR.g hF68 (by repeat (first | with_reducible exact GpY.rf | with_reducible refine GpY.tr ?_ (gd_fo _) | with_reducible refine GpY.tr ?_ (gd_ef _) | with_reducible refine GpY.tr ?_ (gd_cf _) | with_reducible refine GpY.tr ?_ (gd_wt _) | with_reducible refine GpY.tr ?_ (gd_xp _) | with_reducible refine GpY.tr ?_ (gd_acc _) | with_reducible refine GpY.tr ?_ (gd_rai _) | with_reducible refine GpY.tr ?_ (gd_e _) | with_reducible refine GpY.tr ?_ (gd_o _) | with_reducible refine GpY.tr ?_ (gd_c _) | with_reducible refine GpY.tr ?_ (gd_op _) | with_reducible refine GpY.tr ?_ (gd_clp gd_e _ _) | with_reducible refine GpY.tr ?_ (gd_tl _) | with_reducible refine GpY.tr ?_ (gd_sf _ _ _) | with_reducible refine GpY.tr ?_ (gd_cl _) | with_reducible refine GpY.tr ?_ (gd_pc _) | with_reducible refine GpY.tr ?_ (gd_st _) | with_reducible refine GpY.tr ?_ (gd_rw _) | with_reducible refine GpY.tr ?_ (gd_typ _) | with_reducible refine GpY.tr ?_ (gd_dcl _) | with_reducible refine GpY.tr ?_ (gd_va2 _) | with_reducible refine GpY.tr ?_ (gd_cnd _) | with_reducible refine GpY.tr ?_ (gd_tr1 _) | with_reducible refine GpY.tr ?_ (gd_tr2 (fun _ => gd_rw) _) | with_reducible refine GpY.tr ?_ (gd_tr3 (fun _ => gd_rw) _) | with_reducible refine GpY.tr ?_ (gd_fo1 _) | with_reducible refine GpY.tr ?_ (gd_fo2 _) | with_reducible refine GpY.tr ?_ (gd_fo3 _) | with_reducible refine GpY.tr ?_ (gd_fex _) | with_reducible refine GpY.tr ?_ (pg_var.1) | with_reducible refine GpY.tr ?_ (pg_cas.1) | with_reducible refine GpY.tr ?_ (gd_bd _) | with_reducible refine GpY.tr ?_ (gd_pal _ _ _) | with_reducible refine GpY.tr ?_ (gd_pa3 _) | with_reducible refine GpY.tr ?_ (gd_par _) | with_reducible refine GpY.tr ?_ (gd_me2 _) | with_reducible refine GpY.tr ?_ (gd_me3 _) | with_reducible refine GpY.tr ?_ (gd_pa2 _) | with_reducible refine GpY.tr ?_ (gd_pa1 _) | with_reducible refine GpY.tr ?_ (gd_met _) | exact GpY.rf))⟩
                · dsimp only [Option.toList, List.cons_append, List.nil_append, Nat.beq, gI_sI, gI_sL, gI_sA, gI_sM, gL_sI, gL_sL, gL_sA, gL_sM, aI_sI, aI_sL, aI_sA, aI_sM, aL_sI, aL_sL, aL_sA, aL_sM]
                  have hP68 := PaR.s1 hP63 hX68 hS68
                  have g6_68 : gI τ68 36 = gI τ62 36 := (hS68.1 36 (by decide)).trans g6_63
                  have g9_68 : gI τ68 49 = gI τ62 49 := (hS68.1 49 (by decide)).trans g9_63
                  refine ⟨fun h71 => ?_, fun h71 => absurd h71 (by decide)⟩
                  clear h71
                  refine hB _ _ _ _ _ (fun m72 hm72 => ?_)
                  dsimp only [ugo, uwp, ust, uct, rfd, Bmethod, Nat.beq, lv_args, rlk, rs1, rs2, rdl, rky, rcd, rno, rsw, Value.category, List.filter, List.take, List.drop, List.reverse, List.reverseAux, List.cons_append, List.nil_append, Option.toList, Int.toNat, Int.reduceToNat, if_pos, if_neg, reduceIte, ↓reduceIte, Nat.reduceAdd, Nat.reduceEqDiff, Nat.reduceBEq, beq_self_eq_true, Bool.not_true, Bool.not_false, Bool.and_true, Bool.and_false, Bool.true_and, Bool.false_and, gI_sI, gI_sL, gI_sA, gI_sM, gL_sI, gL_sL, gL_sA, gL_sM, aI_sI, aI_sL, aI_sA, aI_sM, aL_sI, aL_sL, aL_sA, aL_sM, Bmethod_0, Bmethod_8, Bmethod_19, Bmethod_24, Bmethod_41, Bmethod_43, Bmethod_56, Bmethod_61, Bmethod_70, Bmethod_80, Bmethod_141, Bmethod_150, Bmethod_152, Bmethod_161, Bmethod_165, Bmethod_166, Bmethod_168, Bmethod_173, Bmethod_182, Bmethod_184, Bmethod_197, Bmethod_204, Bmethod_206, Bmethod_215, Bmethod_217, Bmethod_246, Bmethod_257, Bmethod_259, Bmethod_266, Bmethod_273, Bmethod_275, oi_0, oi_1, oi_10, oi_123, oi_3, oi_40, oi_41, oi_44, oi_5, oi_m2, Pu_thing]; try dsimp only
                  refine ⟨trivial, fun w73 τ73 hq73 => ?_⟩
                  obtain ⟨rfl, b73, rfl, hb73⟩ := hq73 trivial
                  have he73 := (XrR.s (PaR.x hP68)).sg (x := 41) (d := 1) (by decide)
                  rcases hb73 with ⟨rfl, hk73⟩ | ⟨rfl, hk73⟩
                  · dsimp only [Option.toList, List.cons_append, List.nil_append, Nat.beq, gI_sI, gI_sL, gI_sA, gI_sM, gL_sI, gL_sL, gL_sA, gL_sM, aI_sI, aI_sL, aI_sA, aI_sM, aL_sI, aL_sL, aL_sA, aL_sM]
                    have hc73 : codY (accY (accY (metY (aI σ 6 (gI σ 14).toNatClampNeg).toInt (accY s)))) = 1 := he73.mp hk73
                    refine ⟨fun h74 => ?_, fun h74 => absurd h74 (by decide)⟩
                    clear h74
                    refine hB _ _ _ _ _ (fun m75 hm75 => ?_)
                    dsimp only [ugo, uwp, ust, uct, rfd, Bmethod, Nat.beq, lv_args, rlk, rs1, rs2, rdl, rky, rcd, rno, rsw, Value.category, List.filter, List.take, List.drop, List.reverse, List.reverseAux, List.cons_append, List.nil_append, Option.toList, Int.toNat, Int.reduceToNat, if_pos, if_neg, reduceIte, ↓reduceIte, Nat.reduceAdd, Nat.reduceEqDiff, Nat.reduceBEq, beq_self_eq_true, Bool.not_true, Bool.not_false, Bool.and_true, Bool.and_false, Bool.true_and, Bool.false_and, gI_sI, gI_sL, gI_sA, gI_sM, gL_sI, gL_sL, gL_sA, gL_sM, aI_sI, aI_sL, aI_sA, aI_sM, aL_sI, aL_sL, aL_sA, aL_sM, Bmethod_0, Bmethod_8, Bmethod_19, Bmethod_24, Bmethod_41, Bmethod_43, Bmethod_56, Bmethod_61, Bmethod_70, Bmethod_80, Bmethod_141, Bmethod_150, Bmethod_152, Bmethod_161, Bmethod_165, Bmethod_166, Bmethod_168, Bmethod_173, Bmethod_182, Bmethod_184, Bmethod_197, Bmethod_204, Bmethod_206, Bmethod_215, Bmethod_217, Bmethod_246, Bmethod_257, Bmethod_259, Bmethod_266, Bmethod_273, Bmethod_275, oi_0, oi_1, oi_10, oi_123, oi_3, oi_40, oi_41, oi_44, oi_5, oi_m2, Pu_thing]; try dsimp only
                    refine hB _ _ _ _ _ (fun m76 hm76 => ?_)
                    dsimp only [ugo, uwp, ust, uct, rfd, Bmethod, Nat.beq, lv_args, rlk, rs1, rs2, rdl, rky, rcd, rno, rsw, Value.category, List.filter, List.take, List.drop, List.reverse, List.reverseAux, List.cons_append, List.nil_append, Option.toList, Int.toNat, Int.reduceToNat, if_pos, if_neg, reduceIte, ↓reduceIte, Nat.reduceAdd, Nat.reduceEqDiff, Nat.reduceBEq, beq_self_eq_true, Bool.not_true, Bool.not_false, Bool.and_true, Bool.and_false, Bool.true_and, Bool.false_and, gI_sI, gI_sL, gI_sA, gI_sM, gL_sI, gL_sL, gL_sA, gL_sM, aI_sI, aI_sL, aI_sA, aI_sM, aL_sI, aL_sL, aL_sA, aL_sM, Bmethod_0, Bmethod_8, Bmethod_19, Bmethod_24, Bmethod_41, Bmethod_43, Bmethod_56, Bmethod_61, Bmethod_70, Bmethod_80, Bmethod_141, Bmethod_150, Bmethod_152, Bmethod_161, Bmethod_165, Bmethod_166, Bmethod_168, Bmethod_173, Bmethod_182, Bmethod_184, Bmethod_197, Bmethod_204, Bmethod_206, Bmethod_215, Bmethod_217, Bmethod_246, Bmethod_257, Bmethod_259, Bmethod_266, Bmethod_273, Bmethod_275, oi_0, oi_1, oi_10, oi_123, oi_3, oi_40, oi_41, oi_44, oi_5, oi_m2, Pu_thing]; try dsimp only
                    exact hW _ 168 [(0, .ref 1000), (1, .int (aI σ 6 (gI σ 14).toNatClampNeg)), (2, .int (gI τ48 36)), (3, .int (gI τ48 49)), (4, .int 0)] _ _ _ (by simp [rdl, rky]) (t168 _ _ (accY (accY (metY (aI σ 6 (gI σ 14).toNatClampNeg).toInt (accY s)))) 0 _ _ _ 0 hP68 (by rw [g6_68]; exact ((hT62.1 36 (by decide)).trans rfl).symm) (by rw [g9_68]; exact kthx hk62) (Or.inr ⟨rfl, by rw [hMt, xp_y hc68, pa3_y (by assumption)]⟩))
                  · dsimp only [Option.toList, List.cons_append, List.nil_append, Nat.beq, gI_sI, gI_sL, gI_sA, gI_sM, gL_sI, gL_sL, gL_sA, gL_sM, aI_sI, aI_sL, aI_sA, aI_sM, aL_sI, aL_sL, aL_sA, aL_sM]
                    have hc73 : ¬ codY (accY (accY (metY (aI σ 6 (gI σ 14).toNatClampNeg).toInt (accY s)))) = 1 := fun q => hk73 (he73.mpr q)
                    refine ⟨fun h77 => absurd h77 (by decide), fun h77 => ?_⟩
                    clear h77
                    refine hB _ _ _ _ _ (fun m78 hm78 => ?_)
                    dsimp only [ugo, uwp, ust, uct, rfd, Bmethod, Nat.beq, lv_args, rlk, rs1, rs2, rdl, rky, rcd, rno, rsw, Value.category, List.filter, List.take, List.drop, List.reverse, List.reverseAux, List.cons_append, List.nil_append, Option.toList, Int.toNat, Int.reduceToNat, if_pos, if_neg, reduceIte, ↓reduceIte, Nat.reduceAdd, Nat.reduceEqDiff, Nat.reduceBEq, beq_self_eq_true, Bool.not_true, Bool.not_false, Bool.and_true, Bool.and_false, Bool.true_and, Bool.false_and, gI_sI, gI_sL, gI_sA, gI_sM, gL_sI, gL_sL, gL_sA, gL_sM, aI_sI, aI_sL, aI_sA, aI_sM, aL_sI, aL_sL, aL_sA, aL_sM, Bmethod_0, Bmethod_8, Bmethod_19, Bmethod_24, Bmethod_41, Bmethod_43, Bmethod_56, Bmethod_61, Bmethod_70, Bmethod_80, Bmethod_141, Bmethod_150, Bmethod_152, Bmethod_161, Bmethod_165, Bmethod_166, Bmethod_168, Bmethod_173, Bmethod_182, Bmethod_184, Bmethod_197, Bmethod_204, Bmethod_206, Bmethod_215, Bmethod_217, Bmethod_246, Bmethod_257, Bmethod_259, Bmethod_266, Bmethod_273, Bmethod_275, oi_0, oi_1, oi_10, oi_123, oi_3, oi_40, oi_41, oi_44, oi_5, oi_m2, Pu_thing]; try dsimp only
                    refine hB _ _ _ _ _ (fun m79 hm79 => ?_)
                    dsimp only [ugo, uwp, ust, uct, rfd, Bmethod, Nat.beq, lv_args, rlk, rs1, rs2, rdl, rky, rcd, rno, rsw, Value.category, List.filter, List.take, List.drop, List.reverse, List.reverseAux, List.cons_append, List.nil_append, Option.toList, Int.toNat, Int.reduceToNat, if_pos, if_neg, reduceIte, ↓reduceIte, Nat.reduceAdd, Nat.reduceEqDiff, Nat.reduceBEq, beq_self_eq_true, Bool.not_true, Bool.not_false, Bool.and_true, Bool.and_false, Bool.true_and, Bool.false_and, gI_sI, gI_sL, gI_sA, gI_sM, gL_sI, gL_sL, gL_sA, gL_sM, aI_sI, aI_sL, aI_sA, aI_sM, aL_sI, aL_sL, aL_sA, aL_sM, Bmethod_0, Bmethod_8, Bmethod_19, Bmethod_24, Bmethod_41, Bmethod_43, Bmethod_56, Bmethod_61, Bmethod_70, Bmethod_80, Bmethod_141, Bmethod_150, Bmethod_152, Bmethod_161, Bmethod_165, Bmethod_166, Bmethod_168, Bmethod_173, Bmethod_182, Bmethod_184, Bmethod_197, Bmethod_204, Bmethod_206, Bmethod_215, Bmethod_217, Bmethod_246, Bmethod_257, Bmethod_259, Bmethod_266, Bmethod_273, Bmethod_275, oi_0, oi_1, oi_10, oi_123, oi_3, oi_40, oi_41, oi_44, oi_5, oi_m2, Pu_thing]; try dsimp only
                    exact hW _ 168 [(0, .ref 1000), (1, .int (aI σ 6 (gI σ 14).toNatClampNeg)), (2, .int (gI τ48 36)), (3, .int (gI τ48 49)), (4, .int 1)] _ _ _ (by simp [rdl, rky]) (t168 _ _ (accY (accY (metY (aI σ 6 (gI σ 14).toNatClampNeg).toInt (accY s)))) 0 _ _ _ 1 hP68 (by rw [g6_68]; exact ((hT62.1 36 (by decide)).trans rfl).symm) (by rw [g9_68]; exact kthx hk62) (Or.inl ⟨rfl, by rw [hMt, xp_y hc68, pa3_n (by assumption)]⟩))
            · refine hB _ _ _ _ _ (fun m80 hm80 => ?_)
              dsimp only [ugo, uwp, ust, uct, rfd, Bmethod, Nat.beq, lv_args, rlk, rs1, rs2, rdl, rky, rcd, rno, rsw, Value.category, List.filter, List.take, List.drop, List.reverse, List.reverseAux, List.cons_append, List.nil_append, Option.toList, Int.toNat, Int.reduceToNat, if_pos, if_neg, reduceIte, ↓reduceIte, Nat.reduceAdd, Nat.reduceEqDiff, Nat.reduceBEq, beq_self_eq_true, Bool.not_true, Bool.not_false, Bool.and_true, Bool.and_false, Bool.true_and, Bool.false_and, gI_sI, gI_sL, gI_sA, gI_sM, gL_sI, gL_sL, gL_sA, gL_sM, aI_sI, aI_sL, aI_sA, aI_sM, aL_sI, aL_sL, aL_sA, aL_sM, Bmethod_0, Bmethod_8, Bmethod_19, Bmethod_24, Bmethod_41, Bmethod_43, Bmethod_56, Bmethod_61, Bmethod_70, Bmethod_80, Bmethod_141, Bmethod_150, Bmethod_152, Bmethod_161, Bmethod_165, Bmethod_166, Bmethod_168, Bmethod_173, Bmethod_182, Bmethod_184, Bmethod_197, Bmethod_204, Bmethod_206, Bmethod_215, Bmethod_217, Bmethod_246, Bmethod_257, Bmethod_259, Bmethod_266, Bmethod_273, Bmethod_275, oi_0, oi_1, oi_10, oi_123, oi_3, oi_40, oi_41, oi_44, oi_5, oi_m2, Pu_thing]; try dsimp only
              refine ⟨trivial, fun w81 τ81 hq81 => ?_⟩
              obtain ⟨rfl, hf81⟩ := hq81 trivial
              dsimp only [Option.toList, List.cons_append, List.nil_append, Nat.beq, gI_sI, gI_sL, gI_sA, gI_sM, gL_sI, gL_sL, gL_sA, gL_sM, aI_sI, aI_sL, aI_sA, aI_sM, aL_sI, aL_sL, aL_sA, aL_sM]
              unfold Qv_method
              try dsimp only
              have e := hf81 hM48.1.1.2
              subst e
              refine Or.inl ⟨rfl, FlR.g (S := raiY 3 (accY s)) ?_ ?_⟩
              · exact FlR.rai hM48.1 (by decide) (by show (3 : Int32).toInt = _; rw [if_neg (by omega)]; rfl) rfl
              · unfold mthY
                rw [me1_y hcd, me2_3 hcn (by rw [hM48.2.2.2.1, mlR_l, show gI τ48 36 = 10 by lia]; decide)]
                exact gd_me3 _
          · refine hB _ _ _ _ _ (fun m82 hm82 => ?_)
            dsimp only [ugo, uwp, ust, uct, rfd, Bmethod, Nat.beq, lv_args, rlk, rs1, rs2, rdl, rky, rcd, rno, rsw, Value.category, List.filter, List.take, List.drop, List.reverse, List.reverseAux, List.cons_append, List.nil_append, Option.toList, Int.toNat, Int.reduceToNat, if_pos, if_neg, reduceIte, ↓reduceIte, Nat.reduceAdd, Nat.reduceEqDiff, Nat.reduceBEq, beq_self_eq_true, Bool.not_true, Bool.not_false, Bool.and_true, Bool.and_false, Bool.true_and, Bool.false_and, gI_sI, gI_sL, gI_sA, gI_sM, gL_sI, gL_sL, gL_sA, gL_sM, aI_sI, aI_sL, aI_sA, aI_sM, aL_sI, aL_sL, aL_sA, aL_sM, Bmethod_0, Bmethod_8, Bmethod_19, Bmethod_24, Bmethod_41, Bmethod_43, Bmethod_56, Bmethod_61, Bmethod_70, Bmethod_80, Bmethod_141, Bmethod_150, Bmethod_152, Bmethod_161, Bmethod_165, Bmethod_166, Bmethod_168, Bmethod_173, Bmethod_182, Bmethod_184, Bmethod_197, Bmethod_204, Bmethod_206, Bmethod_215, Bmethod_217, Bmethod_246, Bmethod_257, Bmethod_259, Bmethod_266, Bmethod_273, Bmethod_275, oi_0, oi_1, oi_10, oi_123, oi_3, oi_40, oi_41, oi_44, oi_5, oi_m2, Pu_thing]; try dsimp only
            have hnn : ¬ codY (accY s) = 80 := fun q => h54 (hM48.1.ki.2.2.1.mpr q)
            refine ⟨trivial, fun w83 τ83 hq83 => ?_⟩
            have hq83 := hq83 (accY s) hM48.1
            obtain ⟨rfl, hF83⟩ := hq83
            dsimp only [Option.toList, List.cons_append, List.nil_append, Nat.beq, gI_sI, gI_sL, gI_sA, gI_sM, gL_sI, gL_sL, gL_sA, gL_sM, aI_sI, aI_sL, aI_sA, aI_sM, aL_sI, aL_sL, aL_sA, aL_sM]
            unfold Qv_method
            try dsimp only
            unfold mthY
            refine Or.inl ⟨rfl, FlR.g hF83 ?_⟩
            rw [me1_y hcd, me2_n hnn]
            exact (by repeat (first | with_reducible exact GpY.rf | with_reducible refine GpY.tr ?_ (gd_fo _) | with_reducible refine GpY.tr ?_ (gd_ef _) | with_reducible refine GpY.tr ?_ (gd_cf _) | with_reducible refine GpY.tr ?_ (gd_wt _) | with_reducible refine GpY.tr ?_ (gd_xp _) | with_reducible refine GpY.tr ?_ (gd_acc _) | with_reducible refine GpY.tr ?_ (gd_rai _) | with_reducible refine GpY.tr ?_ (gd_e _) | with_reducible refine GpY.tr ?_ (gd_o _) | with_reducible refine GpY.tr ?_ (gd_c _) | with_reducible refine GpY.tr ?_ (gd_op _) | with_reducible refine GpY.tr ?_ (gd_clp gd_e _ _) | with_reducible refine GpY.tr ?_ (gd_tl _) | with_reducible refine GpY.tr ?_ (gd_sf _ _ _) | with_reducible refine GpY.tr ?_ (gd_cl _) | with_reducible refine GpY.tr ?_ (gd_pc _) | with_reducible refine GpY.tr ?_ (gd_st _) | with_reducible refine GpY.tr ?_ (gd_rw _) | with_reducible refine GpY.tr ?_ (gd_typ _) | with_reducible refine GpY.tr ?_ (gd_dcl _) | with_reducible refine GpY.tr ?_ (gd_va2 _) | with_reducible refine GpY.tr ?_ (gd_cnd _) | with_reducible refine GpY.tr ?_ (gd_tr1 _) | with_reducible refine GpY.tr ?_ (gd_tr2 (fun _ => gd_rw) _) | with_reducible refine GpY.tr ?_ (gd_tr3 (fun _ => gd_rw) _) | with_reducible refine GpY.tr ?_ (gd_fo1 _) | with_reducible refine GpY.tr ?_ (gd_fo2 _) | with_reducible refine GpY.tr ?_ (gd_fo3 _) | with_reducible refine GpY.tr ?_ (gd_fex _) | with_reducible refine GpY.tr ?_ (pg_var.1) | with_reducible refine GpY.tr ?_ (pg_cas.1) | with_reducible refine GpY.tr ?_ (gd_bd _) | with_reducible refine GpY.tr ?_ (gd_pal _ _ _) | with_reducible refine GpY.tr ?_ (gd_pa3 _) | with_reducible refine GpY.tr ?_ (gd_par _) | with_reducible refine GpY.tr ?_ (gd_me2 _) | with_reducible refine GpY.tr ?_ (gd_me3 _) | with_reducible refine GpY.tr ?_ (gd_pa2 _) | with_reducible refine GpY.tr ?_ (gd_pa1 _) | with_reducible refine GpY.tr ?_ (gd_met _) | exact GpY.rf))
      · dsimp only [Option.toList, List.cons_append, List.nil_append, Nat.beq, gI_sI, gI_sL, gI_sA, gI_sM, gL_sI, gL_sL, gL_sA, gL_sM, aI_sI, aI_sL, aI_sA, aI_sM, aL_sI, aL_sL, aL_sA, aL_sM]
        have hc44 : ¬ (50 ≤ codY s ∧ codY s ≤ 54) := fun q => hk44 (he44.mpr q)
        refine ⟨fun h84 => absurd h84 (by decide), fun h84 => ?_⟩
        clear h84
        refine hB _ _ _ _ _ (fun m85 hm85 => ?_)
        dsimp only [ugo, uwp, ust, uct, rfd, Bmethod, Nat.beq, lv_args, rlk, rs1, rs2, rdl, rky, rcd, rno, rsw, Value.category, List.filter, List.take, List.drop, List.reverse, List.reverseAux, List.cons_append, List.nil_append, Option.toList, Int.toNat, Int.reduceToNat, if_pos, if_neg, reduceIte, ↓reduceIte, Nat.reduceAdd, Nat.reduceEqDiff, Nat.reduceBEq, beq_self_eq_true, Bool.not_true, Bool.not_false, Bool.and_true, Bool.and_false, Bool.true_and, Bool.false_and, gI_sI, gI_sL, gI_sA, gI_sM, gL_sI, gL_sL, gL_sA, gL_sM, aI_sI, aI_sL, aI_sA, aI_sM, aL_sI, aL_sL, aL_sA, aL_sM, Bmethod_0, Bmethod_8, Bmethod_19, Bmethod_24, Bmethod_41, Bmethod_43, Bmethod_56, Bmethod_61, Bmethod_70, Bmethod_80, Bmethod_141, Bmethod_150, Bmethod_152, Bmethod_161, Bmethod_165, Bmethod_166, Bmethod_168, Bmethod_173, Bmethod_182, Bmethod_184, Bmethod_197, Bmethod_204, Bmethod_206, Bmethod_215, Bmethod_217, Bmethod_246, Bmethod_257, Bmethod_259, Bmethod_266, Bmethod_273, Bmethod_275, oi_0, oi_1, oi_10, oi_123, oi_3, oi_40, oi_41, oi_44, oi_5, oi_m2, Pu_thing]; try dsimp only
        refine ⟨trivial, fun w86 τ86 hq86 => ?_⟩
        have hq86 := hq86 s hM.1
        obtain ⟨rfl, hF86⟩ := hq86
        dsimp only [Option.toList, List.cons_append, List.nil_append, Nat.beq, gI_sI, gI_sL, gI_sA, gI_sM, gL_sI, gL_sL, gL_sA, gL_sM, aI_sI, aI_sL, aI_sA, aI_sM, aL_sI, aL_sL, aL_sA, aL_sM]
        unfold Qv_method
        try dsimp only
        unfold mthY
        refine Or.inl ⟨rfl, FlR.g hF86 ?_⟩
        rw [me1_n (by omega)]
        exact (by repeat (first | with_reducible exact GpY.rf | with_reducible refine GpY.tr ?_ (gd_fo _) | with_reducible refine GpY.tr ?_ (gd_ef _) | with_reducible refine GpY.tr ?_ (gd_cf _) | with_reducible refine GpY.tr ?_ (gd_wt _) | with_reducible refine GpY.tr ?_ (gd_xp _) | with_reducible refine GpY.tr ?_ (gd_acc _) | with_reducible refine GpY.tr ?_ (gd_rai _) | with_reducible refine GpY.tr ?_ (gd_e _) | with_reducible refine GpY.tr ?_ (gd_o _) | with_reducible refine GpY.tr ?_ (gd_c _) | with_reducible refine GpY.tr ?_ (gd_op _) | with_reducible refine GpY.tr ?_ (gd_clp gd_e _ _) | with_reducible refine GpY.tr ?_ (gd_tl _) | with_reducible refine GpY.tr ?_ (gd_sf _ _ _) | with_reducible refine GpY.tr ?_ (gd_cl _) | with_reducible refine GpY.tr ?_ (gd_pc _) | with_reducible refine GpY.tr ?_ (gd_st _) | with_reducible refine GpY.tr ?_ (gd_rw _) | with_reducible refine GpY.tr ?_ (gd_typ _) | with_reducible refine GpY.tr ?_ (gd_dcl _) | with_reducible refine GpY.tr ?_ (gd_va2 _) | with_reducible refine GpY.tr ?_ (gd_cnd _) | with_reducible refine GpY.tr ?_ (gd_tr1 _) | with_reducible refine GpY.tr ?_ (gd_tr2 (fun _ => gd_rw) _) | with_reducible refine GpY.tr ?_ (gd_tr3 (fun _ => gd_rw) _) | with_reducible refine GpY.tr ?_ (gd_fo1 _) | with_reducible refine GpY.tr ?_ (gd_fo2 _) | with_reducible refine GpY.tr ?_ (gd_fo3 _) | with_reducible refine GpY.tr ?_ (gd_fex _) | with_reducible refine GpY.tr ?_ (pg_var.1) | with_reducible refine GpY.tr ?_ (pg_cas.1) | with_reducible refine GpY.tr ?_ (gd_bd _) | with_reducible refine GpY.tr ?_ (gd_pal _ _ _) | with_reducible refine GpY.tr ?_ (gd_pa3 _) | with_reducible refine GpY.tr ?_ (gd_par _) | with_reducible refine GpY.tr ?_ (gd_me2 _) | with_reducible refine GpY.tr ?_ (gd_me3 _) | with_reducible refine GpY.tr ?_ (gd_pa2 _) | with_reducible refine GpY.tr ?_ (gd_pa1 _) | with_reducible refine GpY.tr ?_ (gd_met _) | exact GpY.rf))
  next => exact hP.elim
theorem w_method : UMet 38 (fun _ _ => True) Qw_method := fun A1 σ _ w τ h s hP => v_method s A1 σ hP w τ h
def Pv_parse (s : SpC) : UP1 := fun A1 σ => match A1 with
  | [] => ShR (sI (sI σ 14 0) 15 0) s ∧ Z0Y s
  | _ => False
def Qv_parse (s : SpC) : UQ1 := fun A1 σ w τ => match A1 with
  | [] => (w = some (.int 0) ∧ FlR τ (prlY 11 s)) ∨ (w = some (.int 1) ∧ MhR τ (prlY 11 s) ∧ codY (prlY 11 s) = 84)
  | _ => False
def Qw_parse : UQ1 := fun A1 σ w τ => ∀ (s : SpC), Pv_parse s A1 σ → Qv_parse s A1 σ w τ
set_option maxRecDepth 100000 in
set_option maxHeartbeats 4000000 in
theorem v_parse (s : SpC) : UMet 37 (Pv_parse s) (Qv_parse s) := by
  refine UMet.by Bparse [(38, (fun _ _ => True), Qw_method)] rfl (ucc w_method uc0) ?_
  intro A1 σ hP K hB hW
  unfold Pv_parse at hP
  split at hP
  next =>
    obtain ⟨hS, hZ⟩ := hP
    have t35 : ∀ (N : Nat) (Y : RS) (t : SpC), MhR Y t → prlY (11 - (zMs t).length) t = prlY 11 s → K N 35 [(0, .ref 1000)] [] Y := by
      intro N
      induction N using Nat.strongRecOn with
      | ind N t35 =>
        intro Y t hM hPh
        refine hB _ _ _ _ _ (fun m1 hm1 => ?_)
        dsimp only [ugo, uwp, ust, uct, rfd, Bparse, Nat.beq, lv_args, rlk, rs1, rs2, rdl, rky, rcd, rno, rsw, Value.category, List.filter, List.take, List.drop, List.reverse, List.reverseAux, List.cons_append, List.nil_append, Option.toList, Int.toNat, Int.reduceToNat, if_pos, if_neg, reduceIte, ↓reduceIte, Nat.reduceAdd, Nat.reduceEqDiff, Nat.reduceBEq, beq_self_eq_true, Bool.not_true, Bool.not_false, Bool.and_true, Bool.and_false, Bool.true_and, Bool.false_and, gI_sI, gI_sL, gI_sA, gI_sM, gL_sI, gL_sL, gL_sA, gL_sM, aI_sI, aI_sL, aI_sA, aI_sM, aL_sI, aL_sL, aL_sA, aL_sM, Bparse_0, Bparse_35, Bparse_47, Bparse_54, Bparse_56, oi_0, oi_1]; try dsimp only
        intro p2
        refine ⟨fun h3 => ?_, fun h3 => ?_⟩
        · refine hB _ _ _ _ _ (fun m4 hm4 => ?_)
          dsimp only [ugo, uwp, ust, uct, rfd, Bparse, Nat.beq, lv_args, rlk, rs1, rs2, rdl, rky, rcd, rno, rsw, Value.category, List.filter, List.take, List.drop, List.reverse, List.reverseAux, List.cons_append, List.nil_append, Option.toList, Int.toNat, Int.reduceToNat, if_pos, if_neg, reduceIte, ↓reduceIte, Nat.reduceAdd, Nat.reduceEqDiff, Nat.reduceBEq, beq_self_eq_true, Bool.not_true, Bool.not_false, Bool.and_true, Bool.and_false, Bool.true_and, Bool.false_and, gI_sI, gI_sL, gI_sA, gI_sM, gL_sI, gL_sL, gL_sA, gL_sM, aI_sI, aI_sL, aI_sA, aI_sM, aL_sI, aL_sL, aL_sA, aL_sM, Bparse_0, Bparse_35, Bparse_47, Bparse_54, Bparse_56, oi_0, oi_1]; try dsimp only
          have hl := mh_len hM
          obtain ⟨f, hf⟩ : ∃ f, 11 - (zMs t).length = f + 1 := ⟨10 - (zMs t).length, by omega⟩
          rw [hf, prlY, if_pos hM.1.1.1, if_pos (hM.1.ki.1.mp (by exact h3))] at hPh
          unfold Qv_parse
          try dsimp only
          rw [← hPh]
          exact Or.inr ⟨rfl, hM, hM.1.ki.1.mp (by exact h3)⟩
        · refine hB _ _ _ _ _ (fun m5 hm5 => ?_)
          dsimp only [ugo, uwp, ust, uct, rfd, Bparse, Nat.beq, lv_args, rlk, rs1, rs2, rdl, rky, rcd, rno, rsw, Value.category, List.filter, List.take, List.drop, List.reverse, List.reverseAux, List.cons_append, List.nil_append, Option.toList, Int.toNat, Int.reduceToNat, if_pos, if_neg, reduceIte, ↓reduceIte, Nat.reduceAdd, Nat.reduceEqDiff, Nat.reduceBEq, beq_self_eq_true, Bool.not_true, Bool.not_false, Bool.and_true, Bool.and_false, Bool.true_and, Bool.false_and, gI_sI, gI_sL, gI_sA, gI_sM, gL_sI, gL_sL, gL_sA, gL_sM, aI_sI, aI_sL, aI_sA, aI_sM, aL_sI, aL_sL, aL_sA, aL_sM, Bparse_0, Bparse_35, Bparse_47, Bparse_54, Bparse_56, oi_0, oi_1]; try dsimp only
          have hl := mh_len hM
          obtain ⟨f, hf⟩ : ∃ f, 11 - (zMs t).length = f + 1 := ⟨10 - (zMs t).length, by omega⟩
          rw [hf, prlY, if_pos hM.1.1.1, if_neg (fun q => h3 (hM.1.ki.1.mpr q))] at hPh
          refine ⟨trivial, fun w6 τ6 hq6 => ?_⟩
          have hq6 := hq6 t hM
          rcases hq6 with ⟨rfl, hF6⟩ | ⟨rfl, hM6⟩
          · dsimp only [Option.toList, List.cons_append, List.nil_append, Nat.beq, gI_sI, gI_sL, gI_sA, gI_sM, gL_sI, gL_sL, gL_sA, gL_sM, aI_sI, aI_sL, aI_sA, aI_sM, aL_sI, aL_sL, aL_sA, aL_sM]
            refine ⟨fun h7 => absurd h7 (by decide), fun h7 => ?_⟩
            clear h7
            refine hB _ _ _ _ _ (fun m8 hm8 => ?_)
            dsimp only [ugo, uwp, ust, uct, rfd, Bparse, Nat.beq, lv_args, rlk, rs1, rs2, rdl, rky, rcd, rno, rsw, Value.category, List.filter, List.take, List.drop, List.reverse, List.reverseAux, List.cons_append, List.nil_append, Option.toList, Int.toNat, Int.reduceToNat, if_pos, if_neg, reduceIte, ↓reduceIte, Nat.reduceAdd, Nat.reduceEqDiff, Nat.reduceBEq, beq_self_eq_true, Bool.not_true, Bool.not_false, Bool.and_true, Bool.and_false, Bool.true_and, Bool.false_and, gI_sI, gI_sL, gI_sA, gI_sM, gL_sI, gL_sL, gL_sA, gL_sM, aI_sI, aI_sL, aI_sA, aI_sM, aL_sI, aL_sL, aL_sA, aL_sM, Bparse_0, Bparse_35, Bparse_47, Bparse_54, Bparse_56, oi_0, oi_1]; try dsimp only
            unfold Qv_parse
            try dsimp only
            rw [← hPh]
            exact Or.inl ⟨rfl, FlR.g hF6 (gd_prl _ _)⟩
          · dsimp only [Option.toList, List.cons_append, List.nil_append, Nat.beq, gI_sI, gI_sL, gI_sA, gI_sM, gL_sI, gL_sL, gL_sA, gL_sM, aI_sI, aI_sL, aI_sA, aI_sM, aL_sI, aL_sL, aL_sA, aL_sM]
            refine ⟨fun h9 => ?_, fun h9 => absurd h9 (by decide)⟩
            clear h9
            exact hW _ 35 [(0, .ref 1000)] _ _ _ (by simp [rdl, rky]) (t35 _ (by omega) _ (mthY t) hM6 (by have e := ml_mth hM6.1.1.1; rw [e, show 11 - ((zMs t).length + 1) = f by omega]; exact hPh))
    intro n0_
    refine hB _ _ _ _ _ (fun m1 hm1 => ?_)
    dsimp only [ugo, uwp, ust, uct, rfd, Bparse, Nat.beq, lv_args, rlk, rs1, rs2, rdl, rky, rcd, rno, rsw, Value.category, List.filter, List.take, List.drop, List.reverse, List.reverseAux, List.cons_append, List.nil_append, Option.toList, Int.toNat, Int.reduceToNat, if_pos, if_neg, reduceIte, ↓reduceIte, Nat.reduceAdd, Nat.reduceEqDiff, Nat.reduceBEq, beq_self_eq_true, Bool.not_true, Bool.not_false, Bool.and_true, Bool.and_false, Bool.true_and, Bool.false_and, gI_sI, gI_sL, gI_sA, gI_sM, gL_sI, gL_sL, gL_sA, gL_sM, aI_sI, aI_sL, aI_sA, aI_sM, aL_sI, aL_sL, aL_sA, aL_sM, Bparse_0, Bparse_35, Bparse_47, Bparse_54, Bparse_56, oi_0, oi_1]; try dsimp only
    exact hW _ 35 [(0, .ref 1000)] _ _ _ (by simp [rdl, rky]) (t35 _ _ s ⟨hS.kp rfl rfl rfl rfl rfl rfl, rfl, ⟨by rw [hZ.2.2.2]; rfl, (show (0 : Int32) ≤ 0 ∧ (0 : Int32) ≤ 60 by decide)⟩, by rw [hZ.2.2.1]; rfl, (show (0 : Int32) ≤ 0 ∧ (0 : Int32) ≤ 10 by decide), fun m hm => absurd hm (Nat.not_lt_zero _)⟩ (by rw [hZ.2.2.1]; rfl))
  next => exact hP.elim
theorem w_parse : UMet 37 (fun _ _ => True) Qw_parse := fun A1 σ _ w τ h s hP => v_parse s A1 σ hP w τ h
