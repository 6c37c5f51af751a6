abbrev P_X7_code : CpC := fun As σ => ∃ (p0 : Nat), As = [.inr (.inr (some p0))] ∧ HIC σ ∧ TyC σ p0 8 ∧ CdC σ p0
abbrev Q_X7_code : CqC := fun As σ w τ => match As with
  | [.inr (.inr (some p0))] => ∃ r : Int32, w = some (.inl r) ∧ σ = τ ∧ (¬ (fIC σ p0 243).toInt = 0 → r.toInt = -1) ∧ ((fIC σ p0 243).toInt = 0 → (fIC σ p0 242).toInt = CtC σ p0 → r.toInt = 84 ∨ r.toInt = 85) ∧ (r.toInt = CkC2 σ p0) ∧ (∀ s, ReC σ p0 s → (r.toInt = codY s))
  | _ => False
set_option maxRecDepth 100000 in
set_option maxHeartbeats 4000000 in
theorem b_X7_code : TbC KX7_code [] P_X7_code Q_X7_code := by
  · rintro As σ0 ⟨p0, rfl, H0, h_0_0, q_0⟩ hgr G hB hW
    change G 0 [(0, .inr (.inr (some p0)))] [] σ0
    refine hB _ _ _ _ (kgoC (is := KX7_code_0) rfl ?_)
    refine k_aload_n rfl ?_
    obtain ⟨x3, e1, c2, h4, h5⟩ := cg243 H0.1 h_0_0
    refine k_get kg243 h_0_0 e1 ?_
    refine k_if_ne (fun h6 => ?_) (fun h6 => ?_)
    · refine hB _ _ _ _ (kgoC (is := KX7_code_22) rfl ?_)
      refine k_iconst (m := (-1)) rfl (fun x7 h8 => ?_)
      refine k_nil ?_
      refine hB _ _ _ _ (kgoC (is := KX7_code_23) rfl ?_)
      refine k_ireturn (fun hz => absurd hz (by decide)) ?_
      have S10 : ∀ s, ReC σ0 p0 s → (x7.toInt = codY s) := by
        intro s hs
        have f9 := hs.ft c2
        exact (CkC2.n H0.1 h_0_0 (by rw [c2]; omega) (by omega)).trans (CkC2.re H0.1 h_0_0 hs)
      exact ⟨_, rfl, rfl, (by have z := congrArg Int32.toInt c2; omega), (by have z1 := congrArg Int32.toInt c2; intro z2; omega), (CkC2.n H0.1 h_0_0 (by rw [c2]; omega) (by omega)), S10⟩
    · refine k_nil ?_
      refine hB _ _ _ _ (kgoC (is := KX7_code_7) rfl ?_)
      refine k_aload_n rfl ?_
      obtain ⟨a13, e11, c12, t14⟩ := cg241 H0.1 h_0_0
      refine k_get kg241 h_0_0 e11 ?_
      obtain ⟨a17, e15, c16, t18, l19, l20⟩ := cg302 H0.1 t14
      refine k_get kg302 t14 e15 ?_
      refine k_aload_n rfl ?_
      obtain ⟨x23, e21, c22, h24, h25⟩ := cg242 H0.1 h_0_0
      refine k_get kg242 h_0_0 e21 ?_
      refine k_ialoadE t18 (by omega) (by omega) (fun x26 c27 => ?_)
      refine k_goto ?_
      refine hB _ _ _ _ (kgoC (is := KX7_code_23) rfl ?_)
      refine k_ireturn (fun hz => absurd hz (by decide)) ?_
      have S30 : ∀ s, ReC σ0 p0 s → (x26.toInt = codY s) := by
        intro s hs
        have f28 := hs.ft c2
        have f29 := hs.at_ c22
        exact (CkC2.y c12 c16 c22 (by rw [c2]; omega) c27).trans (CkC2.re H0.1 h_0_0 hs)
      exact ⟨_, rfl, rfl, (by have z := congrArg Int32.toInt c2; omega), (by intro _ z2; rw [c22] at z2; have z3 := CdC.code q_0 (x := x23) c12 c16 (by omega); rw [c27] at z3; omega), (CkC2.y c12 c16 c22 (by rw [c2]; omega) c27), S30⟩
theorem lg_X7_code : ∀ (As : List AvC) (σ : CsC), P_X7_code As σ → lgC As ≤ rX7_code.2.2.1 := by
  rintro As σ ⟨p0, rfl, -⟩
  exact Nat.le_of_ble_eq_true rfl
theorem m_X7_code (l : Launch) : CMetC l 1 125 P_X7_code Q_X7_code :=
  CMetC.of KX7_code [] hX7_code (by decide) (by decide) okX7_code cc0C (lg_X7_code) (b_X7_code)

abbrev P_X7_codeBehind : CpC := fun As σ => ∃ (p0 : Nat), As = [.inr (.inr (some p0))] ∧ HIC σ ∧ TyC σ p0 8 ∧ CdC σ p0
abbrev Q_X7_codeBehind : CqC := fun As σ w τ => match As with
  | [.inr (.inr (some p0))] => ∃ r : Int32, w = some (.inl r) ∧ σ = τ ∧ (¬ (fIC σ p0 243).toInt = 0 → r.toInt = -1) ∧ ((fIC σ p0 243).toInt = 0 → (fIC σ p0 242).toInt + 1 = CtC σ p0 → r.toInt = 84 ∨ r.toInt = 85 ∨ r.toInt = -1) ∧ (∀ s, ReC σ p0 s → (r.toInt = cobY s))
  | _ => False
set_option maxRecDepth 100000 in
set_option maxHeartbeats 4000000 in
theorem b_X7_codeBehind : TbC KX7_codeBehind [] P_X7_codeBehind Q_X7_codeBehind := by
  · rintro As σ0 ⟨p0, rfl, H0, h_0_0, q_0⟩ hgr G hB hW
    change G 0 [(0, .inr (.inr (some p0)))] [] σ0
    refine hB _ _ _ _ (kgoC (is := KX7_codeBehind_0) rfl ?_)
    refine k_aload_n rfl ?_
    obtain ⟨x3, e1, c2, h4, h5⟩ := cg243 H0.1 h_0_0
    refine k_get kg243 h_0_0 e1 ?_
    refine k_if_ne (fun h6 => ?_) (fun h6 => ?_)
    · refine hB _ _ _ _ (kgoC (is := KX7_codeBehind_34) rfl ?_)
      refine k_iconst (m := (-1)) rfl (fun x7 h8 => ?_)
      refine k_nil ?_
      refine hB _ _ _ _ (kgoC (is := KX7_codeBehind_35) rfl ?_)
      refine k_ireturn (fun hz => absurd hz (by decide)) ?_
      have S10 : ∀ s, ReC σ0 p0 s → (x7.toInt = cobY s) := by
        intro s hs
        have f9 := hs.ft c2
        unfold cobY
        repeat (split <;> try (exfalso; omega))
        all_goals omega
      exact ⟨_, rfl, rfl, (by have z := congrArg Int32.toInt c2; omega), (by omega), S10⟩
    · refine k_nil ?_
      refine hB _ _ _ _ (kgoC (is := KX7_codeBehind_7) rfl ?_)
      refine k_aload_n rfl ?_
      obtain ⟨x13, e11, c12, h14, h15⟩ := cg242 H0.1 h_0_0
      refine k_get kg242 h_0_0 e11 ?_
      refine k_sipush (m := 500) rfl (fun x16 h17 => ?_)
      refine k_ic_ge (fun h18 => ?_) (fun h18 => ?_)
      · refine hB _ _ _ _ (kgoC (is := KX7_codeBehind_34) rfl ?_)
        refine k_iconst (m := (-1)) rfl (fun x19 h20 => ?_)
        refine k_nil ?_
        refine hB _ _ _ _ (kgoC (is := KX7_codeBehind_35) rfl ?_)
        refine k_ireturn (fun hz => absurd hz (by decide)) ?_
        have S23 : ∀ s, ReC σ0 p0 s → (x19.toInt = cobY s) := by
          intro s hs
          have f21 := hs.ft c2
          have f22 := hs.at_ c12
          unfold cobY
          repeat (split <;> try (exfalso; omega))
          all_goals omega
        exact ⟨_, rfl, rfl, (by have z := congrArg Int32.toInt c2; omega), (by omega), S23⟩
      · refine k_nil ?_
        refine hB _ _ _ _ (kgoC (is := KX7_codeBehind_17) rfl ?_)
        refine k_aload_n rfl ?_
        obtain ⟨a26, e24, c25, t27⟩ := cg241 H0.1 h_0_0
        refine k_get kg241 h_0_0 e24 ?_
        obtain ⟨a30, e28, c29, t31, l32, l33⟩ := cg302 H0.1 t27
        refine k_get kg302 t27 e28 ?_
        refine k_aload_n rfl ?_
        refine k_get kg242 h_0_0 (congrArg (Sum.inl : Int32 → AvC) c12) ?_
        refine k_iconst (m := 1) rfl (fun x34 h35 => ?_)
        refine k_iadd (by omega) (by omega) (fun x36 h37 => ?_)
        refine k_ialoadE t31 (by omega) (by omega) (fun x38 c39 => ?_)
        refine k_goto ?_
        refine hB _ _ _ _ (kgoC (is := KX7_codeBehind_35) rfl ?_)
        refine k_ireturn (fun hz => absurd hz (by decide)) ?_
        have S43 : ∀ s, ReC σ0 p0 s → (x38.toInt = cobY s) := by
          intro s hs
          have f40 := hs.ft c2
          have f41 := hs.at_ c12
          have f42 := hs.at_ c12
          unfold cobY
          repeat (split <;> try (exfalso; omega))
          have g := (hs.1.2.2.1 _ c25).1 _ c29 x36.toNatClampNeg
          rw [c39, nT_toNat, show x36.toInt = zAt s + 1 from by omega] at g
          exact g
        exact ⟨_, rfl, rfl, (by have z := congrArg Int32.toInt c2; omega), (by intro _ z2; rw [c12] at z2; have z3 := CdC.code q_0 (x := x36) c25 c29 (by omega); rw [c39] at z3; omega), S43⟩
theorem lg_X7_codeBehind : ∀ (As : List AvC) (σ : CsC), P_X7_codeBehind As σ → lgC As ≤ rX7_codeBehind.2.2.1 := by
  rintro As σ ⟨p0, rfl, -⟩
  exact Nat.le_of_ble_eq_true rfl
theorem m_X7_codeBehind (l : Launch) : CMetC l 1 126 P_X7_codeBehind Q_X7_codeBehind :=
  CMetC.of KX7_codeBehind [] hX7_codeBehind (by decide) (by decide) okX7_codeBehind cc0C (lg_X7_codeBehind) (b_X7_codeBehind)

abbrev P_X7_raise : CpC := fun As σ => ∃ (p0 : Nat) (p1 : Int32), As = [.inr (.inr (some p0)), .inl p1] ∧ HIC σ ∧ TyC σ p0 8 ∧ 1 ≤ p1.toInt ∧ p1.toInt ≤ 3 ∧ CdC σ p0 ∧ (fIC σ p0 242).toInt ≤ CtC σ p0 ∧ BgC σ p0 (0) (0)
abbrev Q_X7_raise : CqC := fun As σ w τ => match As with
  | [.inr (.inr (some p0)), .inl p1] => w = none ∧ HIC τ ∧ ExC [243, 244] σ τ ∧ RdC p0 none (0) (0) (0) σ τ ∧ (¬ (fIC τ p0 243).toInt = 0) ∧ (∀ s, ReC σ p0 s → ReC τ p0 (raiY p1.toInt s))
  | _ => False
set_option maxRecDepth 100000 in
set_option maxHeartbeats 4000000 in
theorem b_X7_raise : TbC KX7_raise [] P_X7_raise Q_X7_raise := by
  · rintro As σ0 ⟨p0, p1, rfl, H0, h_0_0, h_1_0, h_1_1, rd_cd, rd_at, rd_bg⟩ hgr G hB hW
    change G 0 [(0, .inr (.inr (some p0))), (1, .inl p1)] [] σ0
    obtain ⟨x1, e2, c3, h4, h5⟩ := cg242 H0.1 h_0_0
    obtain ⟨x6, e7, c8, h9, h10⟩ := cg243 H0.1 h_0_0
    have z11 := congrArg Int32.toInt c3
    have z12 := congrArg Int32.toInt c8
    obtain ⟨a13, e14, c15, t16⟩ := cg241 H0.1 h_0_0
    obtain ⟨a17, e18, c19, t20, l21, l22⟩ := cg302 H0.1 t16
    obtain ⟨a23, e24, c25, t26, l27, l28⟩ := cg300 H0.1 t16
    refine hB _ _ _ _ (kgoC (is := KX7_raise_0) rfl ?_)
    refine k_aload_n rfl ?_
    refine k_get kg243 h_0_0 (congrArg (Sum.inl : Int32 → AvC) c8) ?_
    refine k_if_ne (fun h29 => ?_) (fun h29 => ?_)
    · refine hB _ _ _ _ (kgoC (is := KX7_raise_49) rfl ?_)
      refine k_return ?_
      have S31 : ∀ s, ReC σ0 p0 s → ReC σ0 p0 (raiY p1.toInt s) := by
        intro s hs
        have f30 := hs.ft c8
        refine hs.eq ?_
        unfold raiY
        repeat (split <;> try (exfalso; omega))
        all_goals rfl
      exact ⟨rfl, H0, (ExC.rf : ExC [243, 244] σ0 σ0), (((RdC.rf : RdC p0 none 0 0 0 σ0 σ0).ft (0) (by rw [c8]; omega)).mo (by omega) (by omega) (by omega)), (by rw [c8]; omega), S31⟩
    · refine k_nil ?_
      refine hB _ _ _ _ (kgoC (is := KX7_raise_7) rfl ?_)
      refine k_aload_n rfl ?_
      refine k_aload_n rfl ?_
      refine k_get kg241 h_0_0 (congrArg (fun z : Option Nat => (Sum.inr (Sum.inr z) : AvC)) c15) ?_
      refine k_get kg302 t16 (congrArg (fun z : Option Nat => (Sum.inr (Sum.inr z) : AvC)) c19) ?_
      refine k_aload_n rfl ?_
      refine k_get kg242 h_0_0 (congrArg (Sum.inl : Int32 → AvC) c3) ?_
      refine k_ialoadE t20 (by omega) (by omega) (fun x32 c33 => ?_)
      refine k_bipush (m := 85) rfl (fun x34 h35 => ?_)
      refine k_ic_ne (fun h36 => ?_) (fun h36 => ?_)
      · refine hB _ _ _ _ (kgoC (is := KX7_raise_29) rfl ?_)
        refine k_iload_n rfl ?_
        refine k_nil ?_
        refine hB _ _ _ _ (kgoC (is := KX7_raise_30) rfl ?_)
        refine k_putI kp243 H0 h_0_0 (Or.inl fk243) (by show 0 ≤ _; omega) (by show _ ≤ 3; omega) (fun σ37 H38 e39 c40 => ?_)
        have R41 := (RdC.rf : RdC p0 none 0 0 0 σ0 σ0).nf (-1000) (-1000) (by rw [c8]; omega)
        have c42 := (h_0_0.mi e39 (by decide)).trans c3
        have z43 := congrArg Int32.toInt c42
        have z44 := congrArg Int32.toInt c40
        refine k_aload_n rfl ?_
        refine k_aload_n rfl ?_
        have t45 := h_0_0.x e39
        have c46 := (h_0_0.mr e39 (by decide)).trans c15
        refine k_get kg241 t45 (congrArg (fun z : Option Nat => (Sum.inr (Sum.inr z) : AvC)) c46) ?_
        have t47 := t16.x e39
        have c48 := (t16.mr e39 (by decide)).trans c25
        refine k_get kg300 t47 (congrArg (fun z : Option Nat => (Sum.inr (Sum.inr z) : AvC)) c48) ?_
        refine k_aload_n rfl ?_
        refine k_get kg242 t45 (congrArg (Sum.inl : Int32 → AvC) c42) ?_
        have l49 := (t26.al e39).trans l27
        have t52 := t26.x e39
        refine k_ialoadE t52 (by omega) (by omega) (fun x50 c51 => ?_)
        refine k_putI kp244 H38 t45 (Or.inl fk244) (tiC x50).1 (tiC x50).2 (fun σ53 H54 e55 c56 => ?_)
        refine k_nil ?_
        refine hB _ _ _ _ (kgoC (is := KX7_raise_49) rfl ?_)
        refine k_return ?_
        have X57 : ExC [243, 244] σ0 σ37 := ExC.rf.tr (e39.mo (by decide))
        have X58 : ExC [243, 244] σ0 σ53 := X57.tr (e55.mo (by decide))
        have R59 : RdC p0 none (0) (0) (-1000) σ0 σ37 := R41.tr ⟨(e39.gw H0.1 (by decide)), (e39.c243 H0.1 h_0_0 (by rw [c8]; omega) (by rw [c40]; omega))⟩ (by omega) (by omega) (by omega) (by omega)
        have R60 : RdC p0 none (0) (0) (-1000) σ0 σ53 := R59.tr ⟨(e55.gw H38.1 (by decide)), (e55.cou (u := 0) H38.1 t45 (by decide) (by rw [e55.cn (by decide)]; omega))⟩ (by omega) (by omega) (by omega) (by omega)
        have c61 := (t45.mi e55 (by decide)).trans c40
        have c62 := (t45.mi e55 (by decide)).trans c42
        have S65 : ∀ s, ReC σ0 p0 s → ReC σ53 p0 (raiY p1.toInt s) := by
          intro s hs
          have f63 := hs.ft c8
          have f64 := hs.at_ c3
          have g1 := (hs.1.2.2.1 _ c15).1 _ c19 x1.toNatClampNeg
          rw [c33, nT_toNat, show x1.toInt = zAt s from by omega] at g1
          have g2 := (hs.1.2.2.1 _ c15).2 _ c25 x1.toNatClampNeg (by show x1.toInt.toNat < 900; omega)
          rw [← (e39.2.1.2.2 a23 t26.1 (by rw [t26.2.1, l28]; rfl)).1, c51, nT_toNat, show x1.toInt = zAt s from by omega] at g2
          have hF : zFt s = 0 := by omega
          refine hs.x3 H0.1 h_0_0 X58 (by decide) ?_ ?_
          · unfold raiY; rw [if_pos hF]
          · unfold raiY; rw [if_pos hF]; exact ⟨by rw [c62]; show _ = zAt s; omega, by rw [c61]; show _ = (if zK s (zAt s).toNat = 85 then 1 else p1.toInt); split <;> omega, fun _ => by rw [c56]; show _ = zL s _; omega⟩
        exact ⟨rfl, H54, X58, ((R60.ft (0) (by rw [c61]; omega)).mo (by omega) (by omega) (by omega)), (by rw [c61]; omega), S65⟩
      · refine k_nil ?_
        refine hB _ _ _ _ (kgoC (is := KX7_raise_25) rfl ?_)
        refine k_iconst (m := 1) rfl (fun x66 h67 => ?_)
        refine k_goto ?_
        refine hB _ _ _ _ (kgoC (is := KX7_raise_30) rfl ?_)
        refine k_putI kp243 H0 h_0_0 (Or.inl fk243) (by show 0 ≤ _; omega) (by show _ ≤ 3; omega) (fun σ68 H69 e70 c71 => ?_)
        have R72 := (RdC.rf : RdC p0 none 0 0 0 σ0 σ0).nf (-1000) (-1000) (by rw [c8]; omega)
        have c73 := (h_0_0.mi e70 (by decide)).trans c3
        have z74 := congrArg Int32.toInt c73
        have z75 := congrArg Int32.toInt c71
        refine k_aload_n rfl ?_
        refine k_aload_n rfl ?_
        have t76 := h_0_0.x e70
        have c77 := (h_0_0.mr e70 (by decide)).trans c15
        refine k_get kg241 t76 (congrArg (fun z : Option Nat => (Sum.inr (Sum.inr z) : AvC)) c77) ?_
        have t78 := t16.x e70
        have c79 := (t16.mr e70 (by decide)).trans c25
        refine k_get kg300 t78 (congrArg (fun z : Option Nat => (Sum.inr (Sum.inr z) : AvC)) c79) ?_
        refine k_aload_n rfl ?_
        refine k_get kg242 t76 (congrArg (Sum.inl : Int32 → AvC) c73) ?_
        have l80 := (t26.al e70).trans l27
        have t83 := t26.x e70
        refine k_ialoadE t83 (by omega) (by omega) (fun x81 c82 => ?_)
        refine k_putI kp244 H69 t76 (Or.inl fk244) (tiC x81).1 (tiC x81).2 (fun σ84 H85 e86 c87 => ?_)
        refine k_nil ?_
        refine hB _ _ _ _ (kgoC (is := KX7_raise_49) rfl ?_)
        refine k_return ?_
        have X88 : ExC [243, 244] σ0 σ68 := ExC.rf.tr (e70.mo (by decide))
        have X89 : ExC [243, 244] σ0 σ84 := X88.tr (e86.mo (by decide))
        have R90 : RdC p0 none (0) (0) (-1000) σ0 σ68 := R72.tr ⟨(e70.gw H0.1 (by decide)), (e70.c243 H0.1 h_0_0 (by rw [c8]; omega) (by rw [c71]; omega))⟩ (by omega) (by omega) (by omega) (by omega)
        have R91 : RdC p0 none (0) (0) (-1000) σ0 σ84 := R90.tr ⟨(e86.gw H69.1 (by decide)), (e86.cou (u := 0) H69.1 t76 (by decide) (by rw [e86.cn (by decide)]; omega))⟩ (by omega) (by omega) (by omega) (by omega)
        have c92 := (t76.mi e86 (by decide)).trans c71
        have c93 := (t76.mi e86 (by decide)).trans c73
        have S96 : ∀ s, ReC σ0 p0 s → ReC σ84 p0 (raiY p1.toInt s) := by
          intro s hs
          have f94 := hs.ft c8
          have f95 := hs.at_ c3
          have g1 := (hs.1.2.2.1 _ c15).1 _ c19 x1.toNatClampNeg
          rw [c33, nT_toNat, show x1.toInt = zAt s from by omega] at g1
          have g2 := (hs.1.2.2.1 _ c15).2 _ c25 x1.toNatClampNeg (by show x1.toInt.toNat < 900; omega)
          rw [← (e70.2.1.2.2 a23 t26.1 (by rw [t26.2.1, l28]; rfl)).1, c82, nT_toNat, show x1.toInt = zAt s from by omega] at g2
          have hF : zFt s = 0 := by omega
          refine hs.x3 H0.1 h_0_0 X89 (by decide) ?_ ?_
          · unfold raiY; rw [if_pos hF]
          · unfold raiY; rw [if_pos hF]; exact ⟨by rw [c93]; show _ = zAt s; omega, by rw [c92]; show _ = (if zK s (zAt s).toNat = 85 then 1 else p1.toInt); split <;> omega, fun _ => by rw [c87]; show _ = zL s _; omega⟩
        exact ⟨rfl, H85, X89, ((R91.ft (0) (by rw [c92]; omega)).mo (by omega) (by omega) (by omega)), (by rw [c92]; omega), S96⟩
theorem lg_X7_raise : ∀ (As : List AvC) (σ : CsC), P_X7_raise As σ → lgC As ≤ rX7_raise.2.2.1 := by
  rintro As σ ⟨p0, p1, rfl, -⟩
  exact Nat.le_of_ble_eq_true rfl
theorem m_X7_raise (l : Launch) : CMetC l 1 127 P_X7_raise Q_X7_raise :=
  CMetC.of KX7_raise [] hX7_raise (by decide) (by decide) okX7_raise cc0C (lg_X7_raise) (b_X7_raise)

abbrev P_X7_accept : CpC := fun As σ => ∃ (p0 : Nat), As = [.inr (.inr (some p0))] ∧ HIC σ ∧ TyC σ p0 8 ∧ CdC σ p0 ∧ (fIC σ p0 242).toInt ≤ CtC σ p0 ∧ BgC σ p0 (0) (0) ∧ ((fIC σ p0 243).toInt = 0 → (fIC σ p0 242).toInt + 1 ≤ CtC σ p0)
abbrev Q_X7_accept : CqC := fun As σ w τ => match As with
  | [.inr (.inr (some p0))] => w = none ∧ HIC τ ∧ ExC [242, 243, 244] σ τ ∧ RdC p0 none (-8) (0) (0) σ τ ∧ ((fIC τ p0 243).toInt = 0 → (fIC τ p0 242).toInt = (fIC σ p0 242).toInt + 1) ∧ (∀ s, ReC σ p0 s → ReC τ p0 (accY s))
  | _ => False
set_option maxRecDepth 100000 in
set_option maxHeartbeats 4000000 in
theorem b_X7_accept : TbC KX7_accept [(127, P_X7_raise, Q_X7_raise)] P_X7_accept Q_X7_accept := by
  · rintro As σ0 ⟨p0, rfl, H0, h_0_0, rd_cd, rd_at, rd_bg, rd_tk⟩ hgr G hB hW
    change G 0 [(0, .inr (.inr (some p0)))] [] σ0
    obtain ⟨x1, e2, c3, h4, h5⟩ := cg242 H0.1 h_0_0
    obtain ⟨x6, e7, c8, h9, h10⟩ := cg243 H0.1 h_0_0
    have z11 := congrArg Int32.toInt c3
    have z12 := congrArg Int32.toInt c8
    refine hB _ _ _ _ (kgoC (is := KX7_accept_0) rfl ?_)
    refine k_aload_n rfl ?_
    refine k_get kg242 h_0_0 (congrArg (Sum.inl : Int32 → AvC) c3) ?_
    refine k_sipush (m := 500) rfl (fun x13 h14 => ?_)
    refine k_ic_lt (fun h15 => ?_) (fun h15 => ?_)
    · refine hB _ _ _ _ (kgoC (is := KX7_accept_18) rfl ?_)
      refine k_aload_n rfl ?_
      refine k_get kg243 h_0_0 (congrArg (Sum.inl : Int32 → AvC) c8) ?_
      refine k_if_ne (fun h16 => ?_) (fun h16 => ?_)
      · refine hB _ _ _ _ (kgoC (is := KX7_accept_35) rfl ?_)
        refine k_return ?_
        have S19 : ∀ s, ReC σ0 p0 s → ReC σ0 p0 (accY s) := by
          intro s hs
          have f17 := hs.at_ c3
          have f18 := hs.ft c8
          refine hs.eq ?_
          try unfold accY
          repeat (split <;> try (exfalso; omega))
          try unfold tkY
          repeat (split <;> try (exfalso; omega))
          try unfold dpY
          repeat (split <;> try (exfalso; omega))
          all_goals rfl
        exact ⟨rfl, H0, (ExC.rf : ExC [242, 243, 244] σ0 σ0), (((RdC.rf : RdC p0 none 0 0 0 σ0 σ0).ft (-8) (by rw [c8]; omega)).mo (by omega) (by omega) (by omega)), (by rw [c8, c3]; omega), S19⟩
      · refine k_nil ?_
        refine hB _ _ _ _ (kgoC (is := KX7_accept_25) rfl ?_)
        refine k_aload_n rfl ?_
        refine k_dupR ?_
        refine k_get kg242 h_0_0 (congrArg (Sum.inl : Int32 → AvC) c3) ?_
        refine k_iconst (m := 1) rfl (fun x20 h21 => ?_)
        refine k_iadd (by omega) (by omega) (fun x22 h23 => ?_)
        refine k_putI kp242 H0 h_0_0 (Or.inl fk242) (by show 0 ≤ _; omega) (by show _ ≤ 500; omega) (fun σ24 H25 e26 c27 => ?_)
        have R28 := (RdC.rf : RdC p0 none 0 0 0 σ0 σ0).nf (-1000) (-1000) (by rw [c8]; omega)
        have c29 := (h_0_0.mi e26 (by decide)).trans c8
        have z30 := congrArg Int32.toInt c27
        have z31 := congrArg Int32.toInt c29
        refine k_nil ?_
        refine hB _ _ _ _ (kgoC (is := KX7_accept_35) rfl ?_)
        refine k_return ?_
        have X32 : ExC [242, 243, 244] σ0 σ24 := ExC.rf.tr (e26.mo (by decide))
        have R33 : RdC p0 none (-8) (0) (-1000) σ0 σ24 := R28.tr ⟨(e26.gw H0.1 (by decide)), (e26.c242 H0.1 h_0_0 (by rw [c8]; omega) (by rw [c27, c3]; omega) (by have ct := R28.2.2.1; rw [c3, ct]; omega))⟩ (by omega) (by omega) (by omega) (by omega)
        have R34 := R33.nf (-1000) (-1000) (by rw [c29]; omega)
        have S39 : ∀ s, ReC σ0 p0 s → ReC σ24 p0 (accY s) := by
          intro s hs
          have f35 := hs.at_ c3
          have f36 := hs.ft c8
          have f37 := hs.at_ c3
          have y38 := hs.x3 (s' := ((zAt s + 1, zFt s, zPl s), s.2)) H0.1 h_0_0 e26 (by decide) rfl ⟨by rw [c27]; show _ = zAt s + 1; omega, by rw [c29]; show _ = zFt s; omega, fun z => absurd (show zFt s = 0 by omega) z⟩
          refine y38.eq ?_
          try unfold accY
          repeat (split <;> try (exfalso; omega))
          try unfold tkY
          repeat (split <;> try (exfalso; omega))
          try unfold dpY
          repeat (split <;> try (exfalso; omega))
          all_goals rfl
        exact ⟨rfl, H25, X32, ((R34.nf (0) (0) (by rw [c29]; omega)).mo (by omega) (by omega) (by omega)), (by rw [c29, c27]; omega), S39⟩
    · refine k_nil ?_
      refine hB _ _ _ _ (kgoC (is := KX7_accept_10) rfl ?_)
      refine k_aload_n rfl ?_
      refine k_iconst (m := 3) rfl (fun x40 h41 => ?_)
      refine k_inv (P := P_X7_raise) (Q := Q_X7_raise) rfl rfl rfl rfl (Nat.le_of_ble_eq_true rfl) (h_0_0.rc (by decide)) ⟨_, _, rfl, H0, h_0_0, (by omega), (by omega), (rd_cd.st H0 h_0_0 (ExC.rf : ExC [242, 243, 244] σ0 σ0) (RdC.rf : RdC p0 none 0 0 0 σ0 σ0).1 (by decide)), ((RdC.rf : RdC p0 none 0 0 0 σ0 σ0).2.2.2.1 rd_at), (rd_bg.st H0 h_0_0 (ExC.rf : ExC [242, 243, 244] σ0 σ0) (RdC.rf : RdC p0 none 0 0 0 σ0 σ0) (by decide) (by omega) (by omega) (by omega))⟩ (fun w42 σ43 q44 => ?_)
      obtain ⟨rfl, H45, e46, R47, q48, q49⟩ := q44
      have c50 := (h_0_0.mi e46 (by decide)).trans c3
      have t56 := h_0_0.x e46
      obtain ⟨x51, e52, c53, h54, h55⟩ := cg243 H45.1 t56
      have z57 := congrArg Int32.toInt c50
      have z58 := congrArg Int32.toInt c53
      refine k_st (st' := []) rfl ?_
      have h59 : 1 ≤ x51.toInt := by have hq := q48; rw [c53] at hq; omega
      refine k_goto ?_
      refine hB _ _ _ _ (kgoC (is := KX7_accept_35) rfl ?_)
      refine k_return ?_
      have X60 : ExC [242, 243, 244] σ0 σ43 := ExC.rf.tr (e46.mo (by decide))
      have R61 : RdC p0 none (0) (0) (0) σ0 σ43 := (RdC.rf : RdC p0 none 0 0 0 σ0 σ0).tr ⟨R47.1, R47.2⟩ (by omega) (by omega) (by omega) (by omega)
      have S65 : ∀ s, ReC σ0 p0 s → ReC σ43 p0 (accY s) := by
        intro s hs
        have f62 := hs.at_ c3
        have y63 := q49 _ hs
        rw [h41] at y63
        refine y63.eq ?_
        try unfold accY
        repeat (split <;> try (exfalso; omega))
        try unfold tkY
        repeat (split <;> try (exfalso; omega))
        try unfold dpY
        repeat (split <;> try (exfalso; omega))
        all_goals rfl
      exact ⟨rfl, H45, X60, ((R61.ft (-8) (by rw [c53]; omega)).mo (by omega) (by omega) (by omega)), (by rw [c53, c50]; omega), S65⟩
theorem lg_X7_accept : ∀ (As : List AvC) (σ : CsC), P_X7_accept As σ → lgC As ≤ rX7_accept.2.2.1 := by
  rintro As σ ⟨p0, rfl, -⟩
  exact Nat.le_of_ble_eq_true rfl
theorem m_X7_accept (l : Launch) : CMetC l 2 128 P_X7_accept Q_X7_accept :=
  CMetC.of KX7_accept [(127, P_X7_raise, Q_X7_raise)] hX7_accept (by decide) (by decide) okX7_accept (cc1C (m_X7_raise l) (by decide) cc0C) (lg_X7_accept) (b_X7_accept)

abbrev P_X7_expect : CpC := fun As σ => ∃ (p0 : Nat) (p1 : Int32), As = [.inr (.inr (some p0)), .inl p1] ∧ HIC σ ∧ TyC σ p0 8 ∧ 0 ≤ p1.toInt ∧ p1.toInt ≤ 83 ∧ CdC σ p0 ∧ (fIC σ p0 242).toInt ≤ CtC σ p0 ∧ BgC σ p0 (0) (0)
abbrev Q_X7_expect : CqC := fun As σ w τ => match As with
  | [.inr (.inr (some p0)), .inl p1] => w = none ∧ HIC τ ∧ ExC [242, 243, 244] σ τ ∧ RdC p0 none (-8) (0) (0) σ τ ∧ ((fIC τ p0 243).toInt = 0 → (fIC τ p0 242).toInt = (fIC σ p0 242).toInt + 1) ∧ (∀ s, ReC σ p0 s → ReC τ p0 (xpY p1.toInt s))
  | _ => False
set_option maxRecDepth 100000 in
set_option maxHeartbeats 4000000 in
theorem b_X7_expect : TbC KX7_expect [(125, P_X7_code, Q_X7_code), (127, P_X7_raise, Q_X7_raise), (128, P_X7_accept, Q_X7_accept)] P_X7_expect Q_X7_expect := by
  · rintro As σ0 ⟨p0, p1, rfl, H0, h_0_0, h_1_0, h_1_1, rd_cd, rd_at, rd_bg⟩ hgr G hB hW
    change G 0 [(0, .inr (.inr (some p0))), (1, .inl p1)] [] σ0
    obtain ⟨x1, e2, c3, h4, h5⟩ := cg242 H0.1 h_0_0
    obtain ⟨x6, e7, c8, h9, h10⟩ := cg243 H0.1 h_0_0
    have z11 := congrArg Int32.toInt c3
    have z12 := congrArg Int32.toInt c8
    refine hB _ _ _ _ (kgoC (is := KX7_expect_0) rfl ?_)
    refine k_aload_n rfl ?_
    refine k_inv (P := P_X7_code) (Q := Q_X7_code) rfl rfl rfl rfl (Nat.le_of_ble_eq_true rfl) (h_0_0.rc (by decide)) ⟨_, rfl, H0, h_0_0, (rd_cd.st H0 h_0_0 (ExC.rf : ExC [242, 243, 244] σ0 σ0) (RdC.rf : RdC p0 none 0 0 0 σ0 σ0).1 (by decide))⟩ (fun w13 σ14 q15 => ?_)
    obtain ⟨x16, rfl, rfl, q17, q18, q19, q20⟩ := q15
    refine k_st (st' := [.inl x16]) rfl ?_
    have z21 := (RdC.rf : RdC p0 none 0 0 0 σ0 σ0).2.2.1
    have z22 := (RdC.rf : RdC p0 none 0 0 0 σ0 σ0).2.2.2.1 rd_at
    refine k_iload_n rfl ?_
    refine k_ic_ne (fun h23 => ?_) (fun h23 => ?_)
    · refine hB _ _ _ _ (kgoC (is := KX7_expect_15) rfl ?_)
      refine k_aload_n rfl ?_
      refine k_iconst (m := 2) rfl (fun x24 h25 => ?_)
      refine k_inv (P := P_X7_raise) (Q := Q_X7_raise) rfl rfl rfl rfl (Nat.le_of_ble_eq_true rfl) (h_0_0.rc (by decide)) ⟨_, _, rfl, H0, h_0_0, (by omega), (by omega), (rd_cd.st H0 h_0_0 (ExC.rf : ExC [242, 243, 244] σ0 σ0) (RdC.rf : RdC p0 none 0 0 0 σ0 σ0).1 (by decide)), ((RdC.rf : RdC p0 none 0 0 0 σ0 σ0).2.2.2.1 rd_at), (rd_bg.st H0 h_0_0 (ExC.rf : ExC [242, 243, 244] σ0 σ0) (RdC.rf : RdC p0 none 0 0 0 σ0 σ0) (by decide) (by omega) (by omega) (by omega))⟩ (fun w26 σ27 q28 => ?_)
      obtain ⟨rfl, H29, e30, R31, q32, q33⟩ := q28
      have c34 := (h_0_0.mi e30 (by decide)).trans c3
      have t40 := h_0_0.x e30
      obtain ⟨x35, e36, c37, h38, h39⟩ := cg243 H29.1 t40
      have z41 := congrArg Int32.toInt c34
      have z42 := congrArg Int32.toInt c37
      refine k_st (st' := []) rfl ?_
      have h43 : 1 ≤ x35.toInt := by have hq := q32; rw [c37] at hq; omega
      refine k_nil ?_
      refine hB _ _ _ _ (kgoC (is := KX7_expect_20) rfl ?_)
      refine k_return ?_
      have X44 : ExC [242, 243, 244] σ0 σ27 := ExC.rf.tr (e30.mo (by decide))
      have R45 : RdC p0 none (0) (0) (0) σ0 σ27 := (RdC.rf : RdC p0 none 0 0 0 σ0 σ0).tr ⟨R31.1, R31.2⟩ (by omega) (by omega) (by omega) (by omega)
      have S49 : ∀ s, ReC σ0 p0 s → ReC σ27 p0 (xpY p1.toInt s) := by
        intro s hs
        have f46 := q20 _ hs
        have y47 := q33 _ hs
        rw [h25] at y47
        refine y47.eq ?_
        try unfold xpY
        repeat (split <;> try (exfalso; omega))
        try unfold tkY
        repeat (split <;> try (exfalso; omega))
        try unfold dpY
        repeat (split <;> try (exfalso; omega))
        all_goals rfl
      exact ⟨rfl, H29, X44, ((R45.ft (-8) (by rw [c37]; omega)).mo (by omega) (by omega) (by omega)), (by rw [c37, c34]; omega), S49⟩
    · have h50 : x6.toInt = 0 := by omega
      refine k_nil ?_
      refine hB _ _ _ _ (kgoC (is := KX7_expect_8) rfl ?_)
      refine k_aload_n rfl ?_
      have R51 := (RdC.rf : RdC p0 none 0 0 0 σ0 σ0).nf (-1000) (-1000) (by rw [c8]; omega)
      refine k_inv (P := P_X7_accept) (Q := Q_X7_accept) rfl rfl rfl rfl (Nat.le_of_ble_eq_true rfl) (h_0_0.rc (by decide)) ⟨_, rfl, H0, h_0_0, (rd_cd.st H0 h_0_0 (ExC.rf : ExC [242, 243, 244] σ0 σ0) R51.1 (by decide)), (R51.2.2.2.1 rd_at), (rd_bg.stn H0 h_0_0 (ExC.rf : ExC [242, 243, 244] σ0 σ0) R51 (by decide) (by rw [c8]; omega) (by omega)), (by have ct := R51.2.2.1; rw [c8, c3, ct]; omega)⟩ (fun w52 σ53 q54 => ?_)
      obtain ⟨rfl, H55, e56, R57, q58, q59⟩ := q54
      have t65 := h_0_0.x e56
      obtain ⟨x60, e61, c62, h63, h64⟩ := cg242 H55.1 t65
      obtain ⟨x66, e67, c68, h69, h70⟩ := cg243 H55.1 t65
      have z71 := congrArg Int32.toInt c62
      have z72 := congrArg Int32.toInt c68
      refine k_st (st' := []) rfl ?_
      have R73 : RdC p0 none (-8) (0) (-1000) σ0 σ53 := R51.tr ⟨R57.1, R57.2⟩ (by omega) (by omega) (by omega) (by omega)
      have z74 := R73.2.2.1
      have z75 := R73.2.2.2.1 rd_at
      refine k_goto ?_
      refine hB _ _ _ _ (kgoC (is := KX7_expect_20) rfl ?_)
      refine k_return ?_
      have X76 : ExC [242, 243, 244] σ0 σ53 := ExC.rf.tr (e56.mo (by decide))
      have S80 : ∀ s, ReC σ0 p0 s → ReC σ53 p0 (xpY p1.toInt s) := by
        intro s hs
        have f77 := q20 _ hs
        have y78 := q59 _ hs
        refine y78.eq ?_
        try unfold xpY
        repeat (split <;> try (exfalso; omega))
        try unfold tkY
        repeat (split <;> try (exfalso; omega))
        try unfold dpY
        repeat (split <;> try (exfalso; omega))
        all_goals rfl
      exact ⟨rfl, H55, X76, (R73.mo (by omega) (by omega) (by omega)), (by rw [c68, c62]; omega), S80⟩
theorem lg_X7_expect : ∀ (As : List AvC) (σ : CsC), P_X7_expect As σ → lgC As ≤ rX7_expect.2.2.1 := by
  rintro As σ ⟨p0, p1, rfl, -⟩
  exact Nat.le_of_ble_eq_true rfl
theorem m_X7_expect (l : Launch) : CMetC l 3 129 P_X7_expect Q_X7_expect :=
  CMetC.of KX7_expect [(125, P_X7_code, Q_X7_code), (127, P_X7_raise, Q_X7_raise), (128, P_X7_accept, Q_X7_accept)] hX7_expect (by decide) (by decide) okX7_expect (cc1C (m_X7_code l) (by decide) (cc1C (m_X7_raise l) (by decide) (cc1C (m_X7_accept l) (by decide) cc0C))) (lg_X7_expect) (b_X7_expect)

abbrev P_X7_takes : CpC := fun As σ => ∃ (p0 : Nat) (p1 : Int32), As = [.inr (.inr (some p0)), .inl p1] ∧ HIC σ ∧ TyC σ p0 8 ∧ 0 ≤ p1.toInt ∧ p1.toInt ≤ 83 ∧ CdC σ p0 ∧ (fIC σ p0 242).toInt ≤ CtC σ p0 ∧ BgC σ p0 (0) (0)
abbrev Q_X7_takes : CqC := fun As σ w τ => match As with
  | [.inr (.inr (some p0)), .inl p1] => ∃ r : Int32, w = some (.inl r) ∧ HIC τ ∧ ExC [242, 243, 244] σ τ ∧ 0 ≤ r.toInt ∧ r.toInt ≤ 1 ∧ RdC p0 none (0) (0) (0) σ τ ∧ (r.toInt = 1 → (fIC σ p0 243).toInt = 0 ∧ RdC p0 none (-8) 0 0 σ τ) ∧ (∀ s, ReC σ p0 s → ReC τ p0 (tkY p1.toInt s) ∧ ((r.toInt = 1 → codY s = p1.toInt) ∧ (r.toInt = 0 → ¬ codY s = p1.toInt)))
  | _ => False
set_option maxRecDepth 100000 in
set_option maxHeartbeats 4000000 in
theorem b_X7_takes : TbC KX7_takes [(125, P_X7_code, Q_X7_code), (128, P_X7_accept, Q_X7_accept)] P_X7_takes Q_X7_takes := by
  · rintro As σ0 ⟨p0, p1, rfl, H0, h_0_0, h_1_0, h_1_1, rd_cd, rd_at, rd_bg⟩ hgr G hB hW
    change G 0 [(0, .inr (.inr (some p0))), (1, .inl p1)] [] σ0
    obtain ⟨x1, e2, c3, h4, h5⟩ := cg242 H0.1 h_0_0
    obtain ⟨x6, e7, c8, h9, h10⟩ := cg243 H0.1 h_0_0
    have z11 := congrArg Int32.toInt c3
    have z12 := congrArg Int32.toInt c8
    refine hB _ _ _ _ (kgoC (is := KX7_takes_0) rfl ?_)
    refine k_aload_n rfl ?_
    refine k_inv (P := P_X7_code) (Q := Q_X7_code) rfl rfl rfl rfl (Nat.le_of_ble_eq_true rfl) (h_0_0.rc (by decide)) ⟨_, rfl, H0, h_0_0, (rd_cd.st H0 h_0_0 (ExC.rf : ExC [242, 243, 244] σ0 σ0) (RdC.rf : RdC p0 none 0 0 0 σ0 σ0).1 (by decide))⟩ (fun w13 σ14 q15 => ?_)
    obtain ⟨x16, rfl, rfl, q17, q18, q19, q20⟩ := q15
    refine k_st (st' := [.inl x16]) rfl ?_
    have z21 := (RdC.rf : RdC p0 none 0 0 0 σ0 σ0).2.2.1
    have z22 := (RdC.rf : RdC p0 none 0 0 0 σ0 σ0).2.2.2.1 rd_at
    refine k_iload_n rfl ?_
    refine k_ic_eq (fun h23 => ?_) (fun h23 => ?_)
    · have h24 : x6.toInt = 0 := by omega
      refine hB _ _ _ _ (kgoC (is := KX7_takes_10) rfl ?_)
      refine k_aload_n rfl ?_
      have R25 := (RdC.rf : RdC p0 none 0 0 0 σ0 σ0).nf (-1000) (-1000) (by rw [c8]; omega)
      refine k_inv (P := P_X7_accept) (Q := Q_X7_accept) rfl rfl rfl rfl (Nat.le_of_ble_eq_true rfl) (h_0_0.rc (by decide)) ⟨_, rfl, H0, h_0_0, (rd_cd.st H0 h_0_0 (ExC.rf : ExC [242, 243, 244] σ0 σ0) R25.1 (by decide)), (R25.2.2.2.1 rd_at), (rd_bg.stn H0 h_0_0 (ExC.rf : ExC [242, 243, 244] σ0 σ0) R25 (by decide) (by rw [c8]; omega) (by omega)), (by have ct := R25.2.2.1; rw [c8, c3, ct]; omega)⟩ (fun w26 σ27 q28 => ?_)
      obtain ⟨rfl, H29, e30, R31, q32, q33⟩ := q28
      have t39 := h_0_0.x e30
      obtain ⟨x34, e35, c36, h37, h38⟩ := cg242 H29.1 t39
      obtain ⟨x40, e41, c42, h43, h44⟩ := cg243 H29.1 t39
      have z45 := congrArg Int32.toInt c36
      have z46 := congrArg Int32.toInt c42
      refine k_st (st' := []) rfl ?_
      have R47 : RdC p0 none (-8) (0) (-1000) σ0 σ27 := R25.tr ⟨R31.1, R31.2⟩ (by omega) (by omega) (by omega) (by omega)
      have z48 := R47.2.2.1
      have z49 := R47.2.2.2.1 rd_at
      refine k_iconst (m := 1) rfl (fun x50 h51 => ?_)
      refine k_ireturn (fun _ => b01C (by omega) (by omega)) ?_
      have X52 : ExC [242, 243, 244] σ0 σ27 := ExC.rf.tr (e30.mo (by decide))
      have S56 : ∀ s, ReC σ0 p0 s → ReC σ27 p0 (tkY p1.toInt s) ∧ ((x50.toInt = 1 → codY s = p1.toInt) ∧ (x50.toInt = 0 → ¬ codY s = p1.toInt)) := by
        intro s hs
        have f53 := q20 _ hs
        have y54 := q33 _ hs
        refine ⟨y54.eq ?_, ?_⟩
        · skip
          try unfold tkY
          repeat (split <;> try (exfalso; omega))
          try unfold dpY
          repeat (split <;> try (exfalso; omega))
          all_goals rfl
        · skip
          try unfold tkY
          repeat (split <;> try (exfalso; omega))
          try unfold dpY
          repeat (split <;> try (exfalso; omega))
          exact ⟨fun _ => by omega, fun _ => by omega⟩
      exact ⟨_, rfl, H29, X52, (by omega), (by omega), (R47.mo (by omega) (by omega) (by omega)), (fun _ => ⟨by omega, R47.mo (by omega) (by omega) (by omega)⟩), S56⟩
    · refine k_nil ?_
      refine hB _ _ _ _ (kgoC (is := KX7_takes_8) rfl ?_)
      refine k_iconst (m := 0) rfl (fun x57 h58 => ?_)
      refine k_ireturn (fun _ => b01C (by omega) (by omega)) ?_
      have S60 : ∀ s, ReC σ0 p0 s → ReC σ0 p0 (tkY p1.toInt s) ∧ ((x57.toInt = 1 → codY s = p1.toInt) ∧ (x57.toInt = 0 → ¬ codY s = p1.toInt)) := by
        intro s hs
        have f59 := q20 _ hs
        refine ⟨hs.eq ?_, ?_⟩
        · skip
          try unfold tkY
          repeat (split <;> try (exfalso; omega))
          try unfold dpY
          repeat (split <;> try (exfalso; omega))
          all_goals rfl
        · skip
          try unfold tkY
          repeat (split <;> try (exfalso; omega))
          try unfold dpY
          repeat (split <;> try (exfalso; omega))
          exact ⟨fun _ => by omega, fun _ => by omega⟩
      exact ⟨_, rfl, H0, (ExC.rf : ExC [242, 243, 244] σ0 σ0), (by omega), (by omega), ((RdC.rf : RdC p0 none 0 0 0 σ0 σ0).mo (by omega) (by omega) (by omega)), (fun hz => by exfalso; omega), S60⟩
theorem lg_X7_takes : ∀ (As : List AvC) (σ : CsC), P_X7_takes As σ → lgC As ≤ rX7_takes.2.2.1 := by
  rintro As σ ⟨p0, p1, rfl, -⟩
  exact Nat.le_of_ble_eq_true rfl
theorem m_X7_takes (l : Launch) : CMetC l 3 130 P_X7_takes Q_X7_takes :=
  CMetC.of KX7_takes [(125, P_X7_code, Q_X7_code), (128, P_X7_accept, Q_X7_accept)] hX7_takes (by decide) (by decide) okX7_takes (cc1C (m_X7_code l) (by decide) (cc1C (m_X7_accept l) (by decide) cc0C)) (lg_X7_takes) (b_X7_takes)

abbrev P_X7_isTooDeep : CpC := fun As σ => ∃ (p0 : Nat) (p1 : Int32), As = [.inr (.inr (some p0)), .inl p1] ∧ HIC σ ∧ TyC σ p0 8 ∧ CdC σ p0 ∧ (fIC σ p0 242).toInt ≤ CtC σ p0 ∧ BgC σ p0 (0) (0)
abbrev Q_X7_isTooDeep : CqC := fun As σ w τ => match As with
  | [.inr (.inr (some p0)), .inl p1] => ∃ r : Int32, w = some (.inl r) ∧ HIC τ ∧ ExC [243, 244] σ τ ∧ 0 ≤ r.toInt ∧ r.toInt ≤ 1 ∧ RdC p0 none (0) (0) (0) σ τ ∧ (r.toInt = 1 → 20 < p1.toInt ∧ ¬ (fIC τ p0 243).toInt = 0) ∧ (r.toInt = 0 → p1.toInt ≤ 20) ∧ (∀ s, ReC σ p0 s → ReC τ p0 (dpY p1.toInt s))
  | _ => False
set_option maxRecDepth 100000 in
set_option maxHeartbeats 4000000 in
theorem b_X7_isTooDeep : TbC KX7_isTooDeep [(127, P_X7_raise, Q_X7_raise)] P_X7_isTooDeep Q_X7_isTooDeep := by
  · rintro As σ0 ⟨p0, p1, rfl, H0, h_0_0, rd_cd, rd_at, rd_bg⟩ hgr G hB hW
    change G 0 [(0, .inr (.inr (some p0))), (1, .inl p1)] [] σ0
    obtain ⟨x1, e2, c3, h4, h5⟩ := cg242 H0.1 h_0_0
    obtain ⟨x6, e7, c8, h9, h10⟩ := cg243 H0.1 h_0_0
    have z11 := congrArg Int32.toInt c3
    have z12 := congrArg Int32.toInt c8
    refine hB _ _ _ _ (kgoC (is := KX7_isTooDeep_0) rfl ?_)
    refine k_iload_n rfl ?_
    refine k_bipush (m := 20) rfl (fun x13 h14 => ?_)
    refine k_ic_le (fun h15 => ?_) (fun h15 => ?_)
    · refine hB _ _ _ _ (kgoC (is := KX7_isTooDeep_11) rfl ?_)
      refine k_iload_n rfl ?_
      refine k_bipush (m := 20) rfl (fun x16 h17 => ?_)
      refine k_ic_le (fun h18 => ?_) (fun h18 => by exfalso; omega)
      refine hB _ _ _ _ (kgoC (is := KX7_isTooDeep_21) rfl ?_)
      refine k_iconst (m := 0) rfl (fun x19 h20 => ?_)
      refine k_nil ?_
      refine hB _ _ _ _ (kgoC (is := KX7_isTooDeep_22) rfl ?_)
      refine k_ireturn (fun _ => b01C (by omega) (by omega)) ?_
      have S21 : ∀ s, ReC σ0 p0 s → ReC σ0 p0 (dpY p1.toInt s) := by
        intro s hs
        refine hs.eq ?_
        try unfold tkY
        repeat (split <;> try (exfalso; omega))
        try unfold dpY
        repeat (split <;> try (exfalso; omega))
        all_goals rfl
      exact ⟨_, rfl, H0, (ExC.rf : ExC [243, 244] σ0 σ0), (by omega), (by omega), ((RdC.rf : RdC p0 none 0 0 0 σ0 σ0).mo (by omega) (by omega) (by omega)), (by rw [c8]; omega), (by omega), S21⟩
    · refine k_nil ?_
      refine hB _ _ _ _ (kgoC (is := KX7_isTooDeep_6) rfl ?_)
      refine k_aload_n rfl ?_
      refine k_iconst (m := 3) rfl (fun x22 h23 => ?_)
      refine k_inv (P := P_X7_raise) (Q := Q_X7_raise) rfl rfl rfl rfl (Nat.le_of_ble_eq_true rfl) (h_0_0.rc (by decide)) ⟨_, _, rfl, H0, h_0_0, (by omega), (by omega), (rd_cd.st H0 h_0_0 (ExC.rf : ExC [243, 244] σ0 σ0) (RdC.rf : RdC p0 none 0 0 0 σ0 σ0).1 (by decide)), ((RdC.rf : RdC p0 none 0 0 0 σ0 σ0).2.2.2.1 rd_at), (rd_bg.st H0 h_0_0 (ExC.rf : ExC [243, 244] σ0 σ0) (RdC.rf : RdC p0 none 0 0 0 σ0 σ0) (by decide) (by omega) (by omega) (by omega))⟩ (fun w24 σ25 q26 => ?_)
      obtain ⟨rfl, H27, e28, R29, q30, q31⟩ := q26
      have c32 := (h_0_0.mi e28 (by decide)).trans c3
      have t38 := h_0_0.x e28
      obtain ⟨x33, e34, c35, h36, h37⟩ := cg243 H27.1 t38
      have z39 := congrArg Int32.toInt c32
      have z40 := congrArg Int32.toInt c35
      refine k_st (st' := []) rfl ?_
      have h41 : 1 ≤ x33.toInt := by have hq := q30; rw [c35] at hq; omega
      refine k_nil ?_
      refine hB _ _ _ _ (kgoC (is := KX7_isTooDeep_11) rfl ?_)
      refine k_iload_n rfl ?_
      refine k_bipush (m := 20) rfl (fun x42 h43 => ?_)
      refine k_ic_le (fun h44 => by exfalso; omega) (fun h44 => ?_)
      refine k_nil ?_
      refine hB _ _ _ _ (kgoC (is := KX7_isTooDeep_17) rfl ?_)
      refine k_iconst (m := 1) rfl (fun x45 h46 => ?_)
      refine k_goto ?_
      refine hB _ _ _ _ (kgoC (is := KX7_isTooDeep_22) rfl ?_)
      refine k_ireturn (fun _ => b01C (by omega) (by omega)) ?_
      have X47 : ExC [243, 244] σ0 σ25 := ExC.rf.tr (e28.mo (by decide))
      have R48 : RdC p0 none (0) (0) (0) σ0 σ25 := (RdC.rf : RdC p0 none 0 0 0 σ0 σ0).tr ⟨R29.1, R29.2⟩ (by omega) (by omega) (by omega) (by omega)
      have S51 : ∀ s, ReC σ0 p0 s → ReC σ25 p0 (dpY p1.toInt s) := by
        intro s hs
        have y49 := q31 _ hs
        rw [h23] at y49
        refine y49.eq ?_
        try unfold tkY
        repeat (split <;> try (exfalso; omega))
        try unfold dpY
        repeat (split <;> try (exfalso; omega))
        all_goals rfl
      exact ⟨_, rfl, H27, X47, (by omega), (by omega), ((R48.ft (0) (by rw [c35]; omega)).mo (by omega) (by omega) (by omega)), (by rw [c35]; omega), (by omega), S51⟩
theorem lg_X7_isTooDeep : ∀ (As : List AvC) (σ : CsC), P_X7_isTooDeep As σ → lgC As ≤ rX7_isTooDeep.2.2.1 := by
  rintro As σ ⟨p0, p1, rfl, -⟩
  exact Nat.le_of_ble_eq_true rfl
theorem m_X7_isTooDeep (l : Launch) : CMetC l 2 131 P_X7_isTooDeep Q_X7_isTooDeep :=
  CMetC.of KX7_isTooDeep [(127, P_X7_raise, Q_X7_raise)] hX7_isTooDeep (by decide) (by decide) okX7_isTooDeep (cc1C (m_X7_raise l) (by decide) cc0C) (lg_X7_isTooDeep) (b_X7_isTooDeep)

abbrev P_X7_isType : CpC := fun As σ => ∃ (p0 : Int32), As = [.inl p0] ∧ HIC σ
abbrev Q_X7_isType : CqC := fun As σ w τ => match As with
  | [.inl p0] => ∃ r : Int32, w = some (.inl r) ∧ σ = τ ∧ 0 ≤ r.toInt ∧ r.toInt ≤ 1 ∧ (r.toInt = 1 → 50 ≤ p0.toInt ∧ p0.toInt ≤ 54) ∧ (r.toInt = 0 → ¬ (50 ≤ p0.toInt ∧ p0.toInt ≤ 54))
  | _ => False
set_option maxRecDepth 100000 in
set_option maxHeartbeats 4000000 in
theorem b_X7_isType : TbC KX7_isType [] P_X7_isType Q_X7_isType := by
  · rintro As σ0 ⟨p0, rfl, H0⟩ hgr G hB hW
    change G 0 [(0, .inl p0)] [] σ0
    refine hB _ _ _ _ (kgoC (is := KX7_isType_0) rfl ?_)
    refine k_iload_n rfl ?_
    refine k_bipush (m := 50) rfl (fun x1 h2 => ?_)
    refine k_ic_lt (fun h3 => ?_) (fun h3 => ?_)
    · refine hB _ _ _ _ (kgoC (is := KX7_isType_16) rfl ?_)
      refine k_iconst (m := 0) rfl (fun x4 h5 => ?_)
      refine k_nil ?_
      refine hB _ _ _ _ (kgoC (is := KX7_isType_17) rfl ?_)
      refine k_ireturn (fun _ => b01C (by omega) (by omega)) ?_
      exact ⟨_, rfl, rfl, (by omega), (by omega), (by omega), (by omega)⟩
    · refine k_nil ?_
      refine hB _ _ _ _ (kgoC (is := KX7_isType_6) rfl ?_)
      refine k_iload_n rfl ?_
      refine k_bipush (m := 55) rfl (fun x6 h7 => ?_)
      refine k_ic_ge (fun h8 => ?_) (fun h8 => ?_)
      · refine hB _ _ _ _ (kgoC (is := KX7_isType_16) rfl ?_)
        refine k_iconst (m := 0) rfl (fun x9 h10 => ?_)
        refine k_nil ?_
        refine hB _ _ _ _ (kgoC (is := KX7_isType_17) rfl ?_)
        refine k_ireturn (fun _ => b01C (by omega) (by omega)) ?_
        exact ⟨_, rfl, rfl, (by omega), (by omega), (by omega), (by omega)⟩
      · refine k_nil ?_
        refine hB _ _ _ _ (kgoC (is := KX7_isType_12) rfl ?_)
        refine k_iconst (m := 1) rfl (fun x11 h12 => ?_)
        refine k_goto ?_
        refine hB _ _ _ _ (kgoC (is := KX7_isType_17) rfl ?_)
        refine k_ireturn (fun _ => b01C (by omega) (by omega)) ?_
        exact ⟨_, rfl, rfl, (by omega), (by omega), (by omega), (by omega)⟩
theorem lg_X7_isType : ∀ (As : List AvC) (σ : CsC), P_X7_isType As σ → lgC As ≤ rX7_isType.2.2.1 := by
  rintro As σ ⟨p0, rfl, -⟩
  exact Nat.le_of_ble_eq_true rfl
theorem m_X7_isType (l : Launch) : CMetC l 1 132 P_X7_isType Q_X7_isType :=
  CMetC.of KX7_isType [] hX7_isType (by decide) (by decide) okX7_isType cc0C (lg_X7_isType) (b_X7_isType)

abbrev P_X7_isAssign : CpC := fun As σ => ∃ (p0 : Int32), As = [.inl p0] ∧ HIC σ
abbrev Q_X7_isAssign : CqC := fun As σ w τ => match As with
  | [.inl p0] => ∃ r : Int32, w = some (.inl r) ∧ σ = τ ∧ 0 ≤ r.toInt ∧ r.toInt ≤ 1 ∧ (r.toInt = 1 → 8 ≤ p0.toInt ∧ p0.toInt ≤ 19) ∧ (r.toInt = 0 → ¬ (8 ≤ p0.toInt ∧ p0.toInt ≤ 19))
  | _ => False
set_option maxRecDepth 100000 in
set_option maxHeartbeats 4000000 in
theorem b_X7_isAssign : TbC KX7_isAssign [] P_X7_isAssign Q_X7_isAssign := by
  · rintro As σ0 ⟨p0, rfl, H0⟩ hgr G hB hW
    change G 0 [(0, .inl p0)] [] σ0
    refine hB _ _ _ _ (kgoC (is := KX7_isAssign_0) rfl ?_)
    refine k_iload_n rfl ?_
    refine k_bipush (m := 8) rfl (fun x1 h2 => ?_)
    refine k_ic_lt (fun h3 => ?_) (fun h3 => ?_)
    · refine hB _ _ _ _ (kgoC (is := KX7_isAssign_16) rfl ?_)
      refine k_iconst (m := 0) rfl (fun x4 h5 => ?_)
      refine k_nil ?_
      refine hB _ _ _ _ (kgoC (is := KX7_isAssign_17) rfl ?_)
      refine k_ireturn (fun _ => b01C (by omega) (by omega)) ?_
      exact ⟨_, rfl, rfl, (by omega), (by omega), (by omega), (by omega)⟩
    · refine k_nil ?_
      refine hB _ _ _ _ (kgoC (is := KX7_isAssign_6) rfl ?_)
      refine k_iload_n rfl ?_
      refine k_bipush (m := 19) rfl (fun x6 h7 => ?_)
      refine k_ic_gt (fun h8 => ?_) (fun h8 => ?_)
      · refine hB _ _ _ _ (kgoC (is := KX7_isAssign_16) rfl ?_)
        refine k_iconst (m := 0) rfl (fun x9 h10 => ?_)
        refine k_nil ?_
        refine hB _ _ _ _ (kgoC (is := KX7_isAssign_17) rfl ?_)
        refine k_ireturn (fun _ => b01C (by omega) (by omega)) ?_
        exact ⟨_, rfl, rfl, (by omega), (by omega), (by omega), (by omega)⟩
      · refine k_nil ?_
        refine hB _ _ _ _ (kgoC (is := KX7_isAssign_12) rfl ?_)
        refine k_iconst (m := 1) rfl (fun x11 h12 => ?_)
        refine k_goto ?_
        refine hB _ _ _ _ (kgoC (is := KX7_isAssign_17) rfl ?_)
        refine k_ireturn (fun _ => b01C (by omega) (by omega)) ?_
        exact ⟨_, rfl, rfl, (by omega), (by omega), (by omega), (by omega)⟩
theorem lg_X7_isAssign : ∀ (As : List AvC) (σ : CsC), P_X7_isAssign As σ → lgC As ≤ rX7_isAssign.2.2.1 := by
  rintro As σ ⟨p0, rfl, -⟩
  exact Nat.le_of_ble_eq_true rfl
theorem m_X7_isAssign (l : Launch) : CMetC l 1 133 P_X7_isAssign Q_X7_isAssign :=
  CMetC.of KX7_isAssign [] hX7_isAssign (by decide) (by decide) okX7_isAssign cc0C (lg_X7_isAssign) (b_X7_isAssign)

abbrev P_X7_faultPlace : CpC := fun As σ => ∃ (p0 : Nat), As = [.inr (.inr (some p0))] ∧ HIC σ ∧ TyC σ p0 8
abbrev Q_X7_faultPlace : CqC := fun As σ w τ => match As with
  | [.inr (.inr (some p0))] => ∃ r : Int32, w = some (.inl r) ∧ σ = τ
  | _ => False
set_option maxRecDepth 100000 in
set_option maxHeartbeats 4000000 in
theorem b_X7_faultPlace : TbC KX7_faultPlace [] P_X7_faultPlace Q_X7_faultPlace := by
  · rintro As σ0 ⟨p0, rfl, H0, h_0_0⟩ hgr G hB hW
    change G 0 [(0, .inr (.inr (some p0)))] [] σ0
    refine hB _ _ _ _ (kgoC (is := KX7_faultPlace_0) rfl ?_)
    refine k_aload_n rfl ?_
    obtain ⟨x3, e1, c2, h4, h5⟩ := cg244 H0.1 h_0_0
    refine k_get kg244 h_0_0 e1 ?_
    refine k_ireturn (fun hz => absurd hz (by decide)) ?_
    exact ⟨_, rfl, rfl⟩
theorem lg_X7_faultPlace : ∀ (As : List AvC) (σ : CsC), P_X7_faultPlace As σ → lgC As ≤ rX7_faultPlace.2.2.1 := by
  rintro As σ ⟨p0, rfl, -⟩
  exact Nat.le_of_ble_eq_true rfl
theorem m_X7_faultPlace (l : Launch) : CMetC l 1 124 P_X7_faultPlace Q_X7_faultPlace :=
  CMetC.of KX7_faultPlace [] hX7_faultPlace (by decide) (by decide) okX7_faultPlace cc0C (lg_X7_faultPlace) (b_X7_faultPlace)

abbrev P_X7_readType : CpC := fun As σ => ∃ (p0 : Nat), As = [.inr (.inr (some p0))] ∧ HIC σ ∧ TyC σ p0 8 ∧ CdC σ p0 ∧ (fIC σ p0 242).toInt ≤ CtC σ p0 ∧ BgC σ p0 (0) (0)
abbrev Q_X7_readType : CqC := fun As σ w τ => match As with
  | [.inr (.inr (some p0))] => ∃ r : Int32, w = some (.inl r) ∧ HIC τ ∧ ExC [242, 243, 244] σ τ ∧ RdC p0 none (-8) (0) (0) σ τ ∧ (∀ s, ReC σ p0 s → ReC τ p0 (typY s) ∧ (r.toInt = tyvY s))
  | _ => False
set_option maxRecDepth 100000 in
set_option maxHeartbeats 4000000 in
theorem b_X7_readType : TbC KX7_readType [(125, P_X7_code, Q_X7_code), (132, P_X7_isType, Q_X7_isType), (127, P_X7_raise, Q_X7_raise), (128, P_X7_accept, Q_X7_accept)] P_X7_readType Q_X7_readType := by
  · rintro As σ0 ⟨p0, rfl, H0, h_0_0, rd_cd, rd_at, rd_bg⟩ hgr G hB hW
    change G 0 [(0, .inr (.inr (some p0)))] [] σ0
    obtain ⟨x1, e2, c3, h4, h5⟩ := cg242 H0.1 h_0_0
    obtain ⟨x6, e7, c8, h9, h10⟩ := cg243 H0.1 h_0_0
    have z11 := congrArg Int32.toInt c3
    have z12 := congrArg Int32.toInt c8
    refine hB _ _ _ _ (kgoC (is := KX7_readType_0) rfl ?_)
    refine k_aload_n rfl ?_
    refine k_inv (P := P_X7_code) (Q := Q_X7_code) rfl rfl rfl rfl (Nat.le_of_ble_eq_true rfl) (h_0_0.rc (by decide)) ⟨_, rfl, H0, h_0_0, (rd_cd.st H0 h_0_0 (ExC.rf : ExC [242, 243, 244] σ0 σ0) (RdC.rf : RdC p0 none 0 0 0 σ0 σ0).1 (by decide))⟩ (fun w13 σ14 q15 => ?_)
    obtain ⟨x16, rfl, rfl, q17, q18, q19, q20⟩ := q15
    refine k_st (st' := [.inl x16]) rfl ?_
    have z21 := (RdC.rf : RdC p0 none 0 0 0 σ0 σ0).2.2.1
    have z22 := (RdC.rf : RdC p0 none 0 0 0 σ0 σ0).2.2.2.1 rd_at
    refine k_bipush (m := 50) rfl (fun x23 h24 => ?_)
    have z27 := tiC x16
    refine k_isub_w (fun x25 h26 => ?_)
    refine k_istore_n (ls' := [(1, .inl x25), (0, .inr (.inr (some p0)))]) rfl ?_
    refine k_aload_n rfl ?_
    refine k_inv (P := P_X7_code) (Q := Q_X7_code) rfl rfl rfl rfl (Nat.le_of_ble_eq_true rfl) (h_0_0.rc (by decide)) ⟨_, rfl, H0, h_0_0, (rd_cd.st H0 h_0_0 (ExC.rf : ExC [242, 243, 244] σ0 σ0) (RdC.rf : RdC p0 none 0 0 0 σ0 σ0).1 (by decide))⟩ (fun w28 σ29 q30 => ?_)
    obtain ⟨x31, rfl, rfl, q32, q33, q34, q35⟩ := q30
    refine k_st (st' := [.inl x31]) rfl ?_
    refine k_stat (P := P_X7_isType) (Q := Q_X7_isType) rfl rfl (Nat.le_of_ble_eq_true rfl) rfl rfl (Nat.le_of_ble_eq_true rfl) ⟨_, rfl, H0⟩ (fun w36 σ37 q38 => ?_)
    obtain ⟨x39, rfl, rfl, h40, h41, q42, q43⟩ := q38
    refine k_st (st' := [.inl x39]) rfl ?_
    rcases (by omega : x39.toInt = 0 ∨ x39.toInt = 1) with g44 | g44
    · refine k_if_ne (fun h45 => by exfalso; omega) (fun h45 => ?_)
      refine k_nil ?_
      refine hB _ _ _ _ (kgoC (is := KX7_readType_18) rfl ?_)
      refine k_aload_n rfl ?_
      refine k_iconst (m := 2) rfl (fun x46 h47 => ?_)
      refine k_inv (P := P_X7_raise) (Q := Q_X7_raise) rfl rfl rfl rfl (Nat.le_of_ble_eq_true rfl) (h_0_0.rc (by decide)) ⟨_, _, rfl, H0, h_0_0, (by omega), (by omega), (rd_cd.st H0 h_0_0 (ExC.rf : ExC [242, 243, 244] σ0 σ0) (RdC.rf : RdC p0 none 0 0 0 σ0 σ0).1 (by decide)), ((RdC.rf : RdC p0 none 0 0 0 σ0 σ0).2.2.2.1 rd_at), (rd_bg.st H0 h_0_0 (ExC.rf : ExC [242, 243, 244] σ0 σ0) (RdC.rf : RdC p0 none 0 0 0 σ0 σ0) (by decide) (by omega) (by omega) (by omega))⟩ (fun w48 σ49 q50 => ?_)
      obtain ⟨rfl, H51, e52, R53, q54, q55⟩ := q50
      have c56 := (h_0_0.mi e52 (by decide)).trans c3
      have t62 := h_0_0.x e52
      obtain ⟨x57, e58, c59, h60, h61⟩ := cg243 H51.1 t62
      have z63 := congrArg Int32.toInt c56
      have z64 := congrArg Int32.toInt c59
      refine k_st (st' := []) rfl ?_
      have h65 : 1 ≤ x57.toInt := by have hq := q54; rw [c59] at hq; omega
      refine k_iconst (m := 3) rfl (fun x66 h67 => ?_)
      refine k_ireturn (fun hz => absurd hz (by decide)) ?_
      have X68 : ExC [242, 243, 244] σ0 σ49 := ExC.rf.tr (e52.mo (by decide))
      have R69 : RdC p0 none (0) (0) (0) σ0 σ49 := (RdC.rf : RdC p0 none 0 0 0 σ0 σ0).tr ⟨R53.1, R53.2⟩ (by omega) (by omega) (by omega) (by omega)
      have S74 : ∀ s, ReC σ0 p0 s → ReC σ49 p0 (typY s) ∧ (x66.toInt = tyvY s) := by
        intro s hs
        have f70 := q20 _ hs
        have f71 := q35 _ hs
        have y72 := q55 _ hs
        rw [h47] at y72
        refine ⟨y72.eq ?_, ?_⟩
        · skip
          try unfold typY
          repeat (split <;> try (exfalso; omega))
          try unfold tyvY
          repeat (split <;> try (exfalso; omega))
          try unfold tkY
          repeat (split <;> try (exfalso; omega))
          try unfold dpY
          repeat (split <;> try (exfalso; omega))
          all_goals rfl
        · skip
          try unfold typY
          repeat (split <;> try (exfalso; omega))
          try unfold tyvY
          repeat (split <;> try (exfalso; omega))
          try unfold tkY
          repeat (split <;> try (exfalso; omega))
          try unfold dpY
          repeat (split <;> try (exfalso; omega))
          all_goals omega
      exact ⟨_, rfl, H51, X68, ((R69.ft (-8) (by rw [c59]; omega)).mo (by omega) (by omega) (by omega)), S74⟩
    · have h75 := q42 (by omega)
      have h76 : x6.toInt = 0 := by omega
      refine k_if_ne (fun h77 => ?_) (fun h77 => by exfalso; omega)
      refine hB _ _ _ _ (kgoC (is := KX7_readType_25) rfl ?_)
      refine k_aload_n rfl ?_
      have R78 := (RdC.rf : RdC p0 none 0 0 0 σ0 σ0).nf (-1000) (-1000) (by rw [c8]; omega)
      refine k_inv (P := P_X7_accept) (Q := Q_X7_accept) rfl rfl rfl rfl (Nat.le_of_ble_eq_true rfl) (h_0_0.rc (by decide)) ⟨_, rfl, H0, h_0_0, (rd_cd.st H0 h_0_0 (ExC.rf : ExC [242, 243, 244] σ0 σ0) R78.1 (by decide)), (R78.2.2.2.1 rd_at), (rd_bg.stn H0 h_0_0 (ExC.rf : ExC [242, 243, 244] σ0 σ0) R78 (by decide) (by rw [c8]; omega) (by omega)), (by have ct := R78.2.2.1; rw [c8, c3, ct]; omega)⟩ (fun w79 σ80 q81 => ?_)
      obtain ⟨rfl, H82, e83, R84, q85, q86⟩ := q81
      have t92 := h_0_0.x e83
      obtain ⟨x87, e88, c89, h90, h91⟩ := cg242 H82.1 t92
      obtain ⟨x93, e94, c95, h96, h97⟩ := cg243 H82.1 t92
      have z98 := congrArg Int32.toInt c89
      have z99 := congrArg Int32.toInt c95
      refine k_st (st' := []) rfl ?_
      have R100 : RdC p0 none (-8) (0) (-1000) σ0 σ80 := R78.tr ⟨R84.1, R84.2⟩ (by omega) (by omega) (by omega) (by omega)
      have z101 := R100.2.2.1
      have z102 := R100.2.2.2.1 rd_at
      refine k_iload_n rfl ?_
      refine k_ireturn (fun hz => absurd hz (by decide)) ?_
      have X103 : ExC [242, 243, 244] σ0 σ80 := ExC.rf.tr (e83.mo (by decide))
      have S108 : ∀ s, ReC σ0 p0 s → ReC σ80 p0 (typY s) ∧ (x25.toInt = tyvY s) := by
        intro s hs
        have f104 := q20 _ hs
        have f105 := q35 _ hs
        have y106 := q86 _ hs
        refine ⟨y106.eq ?_, ?_⟩
        · skip
          try unfold typY
          repeat (split <;> try (exfalso; omega))
          try unfold tyvY
          repeat (split <;> try (exfalso; omega))
          try unfold tkY
          repeat (split <;> try (exfalso; omega))
          try unfold dpY
          repeat (split <;> try (exfalso; omega))
          all_goals rfl
        · skip
          try unfold typY
          repeat (split <;> try (exfalso; omega))
          try unfold tyvY
          repeat (split <;> try (exfalso; omega))
          try unfold tkY
          repeat (split <;> try (exfalso; omega))
          try unfold dpY
          repeat (split <;> try (exfalso; omega))
          all_goals omega
      exact ⟨_, rfl, H82, X103, (R100.mo (by omega) (by omega) (by omega)), S108⟩
theorem lg_X7_readType : ∀ (As : List AvC) (σ : CsC), P_X7_readType As σ → lgC As ≤ rX7_readType.2.2.1 := by
  rintro As σ ⟨p0, rfl, -⟩
  exact Nat.le_of_ble_eq_true rfl
theorem m_X7_readType (l : Launch) : CMetC l 3 136 P_X7_readType Q_X7_readType :=
  CMetC.of KX7_readType [(125, P_X7_code, Q_X7_code), (132, P_X7_isType, Q_X7_isType), (127, P_X7_raise, Q_X7_raise), (128, P_X7_accept, Q_X7_accept)] hX7_readType (by decide) (by decide) okX7_readType (cc1C (m_X7_code l) (by decide) (cc1C (m_X7_isType l) (by decide) (cc1C (m_X7_raise l) (by decide) (cc1C (m_X7_accept l) (by decide) cc0C)))) (lg_X7_readType) (b_X7_readType)

abbrev P_X7_know : CpC := fun As σ => ∃ (p0 : Nat) (p1 : Int32), As = [.inr (.inr (some p0)), .inl p1] ∧ HIC σ ∧ TyC σ p0 8
abbrev Q_X7_know : CqC := fun As σ w τ => match As with
  | [.inr (.inr (some p0)), .inl p1] => w = none ∧ HIC τ ∧ ExC [] σ τ
  | _ => False
set_option maxRecDepth 100000 in
set_option maxHeartbeats 4000000 in
theorem b_X7_know : TbC KX7_know [(222, P_X11_bit, Q_X11_bit)] P_X7_know Q_X7_know := by
  · rintro As σ0 ⟨p0, p1, rfl, H0, h_0_0⟩ hgr G hB hW
    change G 0 [(0, .inr (.inr (some p0))), (1, .inl p1)] [] σ0
    refine hB _ _ _ _ (kgoC (is := KX7_know_0) rfl ?_)
    refine k_iload_n rfl ?_
    refine k_if_lt (fun h1 => ?_) (fun h1 => ?_)
    · refine hB _ _ _ _ (kgoC (is := KX7_know_17) rfl ?_)
      refine k_return ?_
      exact ⟨rfl, H0, (ExC.rf : ExC [] σ0 σ0)⟩
    · refine k_nil ?_
      refine hB _ _ _ _ (kgoC (is := KX7_know_4) rfl ?_)
      refine k_aload_n rfl ?_
      refine k_dupR ?_
      obtain ⟨y4, e2, c3⟩ := cg245 (σ := σ0) (a := p0)
      refine k_get kg245 h_0_0 e2 ?_
      refine k_iload_n rfl ?_
      refine k_stat (P := P_X11_bit) (Q := Q_X11_bit) rfl rfl (Nat.le_of_ble_eq_true rfl) rfl rfl (Nat.le_of_ble_eq_true rfl) ⟨_, rfl, H0⟩ (fun w5 σ6 q7 => ?_)
      obtain ⟨y8, rfl, rfl⟩ := q7
      refine k_st (st' := [.inr (.inl y8), .inr (.inl y4), .inr (.inr (some p0))]) rfl ?_
      refine k_lor (fun y9 => ?_)
      refine k_putL kg245 H0 h_0_0 fk245 (fun σ10 H11 e12 c13 => ?_)
      refine k_nil ?_
      refine hB _ _ _ _ (kgoC (is := KX7_know_17) rfl ?_)
      refine k_return ?_
      have X14 : ExC [] σ0 σ10 := ExC.rf.tr (e12.mo (by decide))
      exact ⟨rfl, H11, X14⟩
theorem lg_X7_know : ∀ (As : List AvC) (σ : CsC), P_X7_know As σ → lgC As ≤ rX7_know.2.2.1 := by
  rintro As σ ⟨p0, p1, rfl, -⟩
  exact Nat.le_of_ble_eq_true rfl
theorem m_X7_know (l : Launch) : CMetC l 2 138 P_X7_know Q_X7_know :=
  CMetC.of KX7_know [(222, P_X11_bit, Q_X11_bit)] hX7_know (by decide) (by decide) okX7_know (cc1C (m_X11_bit l) (by decide) cc0C) (lg_X7_know) (b_X7_know)

abbrev P_X7_lookUp : CpC := fun As σ => ∃ (p0 : Nat) (p1 : Int64), As = [.inr (.inr (some p0)), .inr (.inl p1)] ∧ HIC σ ∧ TyC σ p0 8
abbrev Q_X7_lookUp : CqC := fun As σ w τ => match As with
  | [.inr (.inr (some p0)), .inr (.inl p1)] => ∃ r : Int32, w = some (.inl r) ∧ σ = τ ∧ (-1) ≤ r.toInt
  | _ => False
set_option maxRecDepth 100000 in
set_option maxHeartbeats 4000000 in
theorem b_X7_lookUp : TbC KX7_lookUp [(234, P_Jx4a65c_size_8abf5, Q_Jx4a65c_size_8abf5), (221, P_X11_has, Q_X11_has), (235, P_Jx4a65c_get_915e3, Q_Jx4a65c_get_915e3)] P_X7_lookUp Q_X7_lookUp := by
  · rintro As σ0 ⟨p0, p1, rfl, H0, h_0_0⟩ hgr G hB hW
    change G 0 [(0, .inr (.inr (some p0))), (1, .inr (.inl p1))] [] σ0
    have L13 : ∀ (n13 : Nat), ∀ (v13_3 : Int32), (v13_3.toInt + 2147483648).toNat = n13 → (-1) ≤ v13_3.toInt → v13_3.toInt ≤ 19999 → (∀ q m, fRC σ0 p0 240 = some q → fRC σ0 q 212 = some m → v13_3.toInt < (fIC σ0 m 2).toInt) → G 13 [(0, .inr (.inr (some p0))), (1, .inr (.inl p1)), (3, .inl v13_3)] [] σ0 := by
      intro n13
      induction n13 using Nat.strongRecOn with
      | _ n13 ih13 =>
        intro v13_3 n13_ h1 h2 h3
        refine hB _ _ _ _ (kgoC (is := KX7_lookUp_13) rfl ?_)
        refine k_iload_n rfl ?_
        refine k_if_lt (fun h4 => ?_) (fun h4 => ?_)
        · refine hB _ _ _ _ (kgoC (is := KX7_lookUp_66) rfl ?_)
          refine k_iconst (m := (-1)) rfl (fun x5 h6 => ?_)
          refine k_ireturn (fun hz => absurd hz (by decide)) ?_
          exact ⟨_, rfl, rfl, (by omega)⟩
        · refine k_nil ?_
          refine hB _ _ _ _ (kgoC (is := KX7_lookUp_17) rfl ?_)
          refine k_aload_n rfl ?_
          obtain ⟨y9, e7, c8⟩ := cg245 (σ := σ0) (a := p0)
          refine k_get kg245 h_0_0 e7 ?_
          refine k_iload_n rfl ?_
          refine k_stat (P := P_X11_has) (Q := Q_X11_has) rfl rfl (Nat.le_of_ble_eq_true rfl) rfl rfl (Nat.le_of_ble_eq_true rfl) ⟨_, _, rfl, H0⟩ (fun w10 σ11 q12 => ?_)
          obtain ⟨x13, rfl, rfl, h14, h15⟩ := q12
          refine k_st (st' := [.inl x13]) rfl ?_
          refine k_if_eq (fun h16 => ?_) (fun h16 => ?_)
          · refine hB _ _ _ _ (kgoC (is := KX7_lookUp_60) rfl ?_)
            obtain ⟨x17, e19, h18⟩ := iincC (n := (-1)) (m := (-1)) (v := v13_3) rfl (by omega) (by omega)
            refine k_iinc (ls' := [(3, .inl x17), (0, .inr (.inr (some p0))), (1, .inr (.inl p1))]) rfl e19 rfl ?_
            refine k_goto ?_
            exact hW _ _ _ _ _ (List.forall_mem_cons.2 ⟨List.Mem.tail _ (List.Mem.head _), (List.forall_mem_cons.2 ⟨List.Mem.tail _ (List.Mem.tail _ (List.Mem.head _)), (List.forall_mem_cons.2 ⟨List.Mem.head _, fun _ h => absurd h List.not_mem_nil⟩)⟩)⟩) (ih13 ((x17.toInt + 2147483648).toNat) (by omega) x17 rfl (by omega) (by omega) (fun q m hq hm => by have hz := h3 q m hq hm; omega))
          · refine k_nil ?_
            refine hB _ _ _ _ (kgoC (is := KX7_lookUp_28) rfl ?_)
            refine k_aload_n rfl ?_
            obtain ⟨a22, e20, c21, t23⟩ := cg241 H0.1 h_0_0
            refine k_get kg241 h_0_0 e20 ?_
            obtain ⟨a26, e24, c25, t27, l28, l29⟩ := cg304 H0.1 t23
            refine k_get kg304 t23 e24 ?_
            refine k_aload_n rfl ?_
            obtain ⟨a32, e30, c31, t33⟩ := cg240 H0.1 h_0_0
            refine k_get kg240 h_0_0 e30 ?_
            obtain ⟨a36, e34, c35, t37, l38⟩ := cg212 H0.1 t33
            refine k_get kg212 t33 e34 ?_
            refine k_iload_n rfl ?_
            refine k_inv (P := P_Jx4a65c_get_915e3) (Q := Q_Jx4a65c_get_915e3) rfl rfl rfl rfl (Nat.le_of_ble_eq_true rfl) (t37.rc (by decide)) ⟨_, _, rfl, H0, t37, (by omega), (h3 _ _ c31 c35)⟩ (fun w39 σ40 q41 => ?_)
            obtain ⟨a42, rfl, rfl, h43⟩ := q41
            rw [l38] at h43
            have t44 := h43.1
            refine k_st (st' := [.inr (.inr (some a42)), .inr (.inr (some a26))]) rfl ?_
            refine k_castS (t44.ob (by decide)) ?_
            obtain ⟨x47, e45, c46, h48, h49⟩ := cg330 H0.1 t44
            refine k_get kg330 t44 e45 ?_
            refine k_laload t27 (by omega) (by omega) (fun y50 => ?_)
            refine k_lload_n rfl ?_
            refine k_lcmp (fun x51 h52 g53 => ?_)
            refine k_if_ne (fun h54 => ?_) (fun h54 => ?_)
            · refine hB _ _ _ _ (kgoC (is := KX7_lookUp_60) rfl ?_)
              obtain ⟨x55, e57, h56⟩ := iincC (n := (-1)) (m := (-1)) (v := v13_3) rfl (by omega) (by omega)
              refine k_iinc (ls' := [(3, .inl x55), (0, .inr (.inr (some p0))), (1, .inr (.inl p1))]) rfl e57 rfl ?_
              refine k_goto ?_
              exact hW _ _ _ _ _ (List.forall_mem_cons.2 ⟨List.Mem.tail _ (List.Mem.head _), (List.forall_mem_cons.2 ⟨List.Mem.tail _ (List.Mem.tail _ (List.Mem.head _)), (List.forall_mem_cons.2 ⟨List.Mem.head _, fun _ h => absurd h List.not_mem_nil⟩)⟩)⟩) (ih13 ((x55.toInt + 2147483648).toNat) (by omega) x55 rfl (by omega) (by omega) (fun q m hq hm => by have hz := h3 q m hq hm; omega))
            · refine k_nil ?_
              refine hB _ _ _ _ (kgoC (is := KX7_lookUp_58) rfl ?_)
              refine k_iload_n rfl ?_
              refine k_ireturn (fun hz => absurd hz (by decide)) ?_
              exact ⟨_, rfl, rfl, (by omega)⟩
    refine hB _ _ _ _ (kgoC (is := KX7_lookUp_0) rfl ?_)
    refine k_aload_n rfl ?_
    obtain ⟨a60, e58, c59, t61⟩ := cg240 H0.1 h_0_0
    refine k_get kg240 h_0_0 e58 ?_
    obtain ⟨a64, e62, c63, t65, l66⟩ := cg212 H0.1 t61
    refine k_get kg212 t61 e62 ?_
    refine k_inv (P := P_Jx4a65c_size_8abf5) (Q := Q_Jx4a65c_size_8abf5) rfl rfl rfl rfl (Nat.le_of_ble_eq_true rfl) (t65.rc (by decide)) ⟨_, rfl, H0, t65⟩ (fun w67 σ68 q69 => ?_)
    obtain ⟨x70, rfl, rfl, h71, h72, q73, q74⟩ := q69
    refine k_st (st' := [.inl x70]) rfl ?_
    refine k_iconst (m := 1) rfl (fun x75 h76 => ?_)
    refine k_isub (by omega) (by omega) (fun x77 h78 => ?_)
    refine k_istore_n (ls' := [(3, .inl x77), (0, .inr (.inr (some p0))), (1, .inr (.inl p1))]) rfl ?_
    refine k_nil ?_
    exact hW _ _ _ _ _ (List.forall_mem_cons.2 ⟨List.Mem.tail _ (List.Mem.head _), (List.forall_mem_cons.2 ⟨List.Mem.tail _ (List.Mem.tail _ (List.Mem.head _)), (List.forall_mem_cons.2 ⟨List.Mem.head _, fun _ h => absurd h List.not_mem_nil⟩)⟩)⟩) (L13 _ x77 rfl (by omega) (by omega) (fun q m hq hm => by cases c59.symm.trans hq; cases c63.symm.trans hm; have hz := congrArg Int32.toInt q73; omega))
theorem lg_X7_lookUp : ∀ (As : List AvC) (σ : CsC), P_X7_lookUp As σ → lgC As ≤ rX7_lookUp.2.2.1 := by
  rintro As σ ⟨p0, p1, rfl, -⟩
  exact Nat.le_of_ble_eq_true rfl
theorem m_X7_lookUp (l : Launch) : CMetC l 11 139 P_X7_lookUp Q_X7_lookUp :=
  CMetC.of KX7_lookUp [(234, P_Jx4a65c_size_8abf5, Q_Jx4a65c_size_8abf5), (221, P_X11_has, Q_X11_has), (235, P_Jx4a65c_get_915e3, Q_Jx4a65c_get_915e3)] hX7_lookUp (by decide) (by decide) okX7_lookUp (cc1C (m_Jx4a65c_size_8abf5 l) (by decide) (cc1C (m_X11_has l) (by decide) (cc1C (m_Jx4a65c_get_915e3 l) (by decide) cc0C))) (lg_X7_lookUp) (b_X7_lookUp)

abbrev P_X7_meant : CpC := fun As σ => ∃ (p0 : Nat) (p1 : Int32), As = [.inr (.inr (some p0)), .inl p1] ∧ HIC σ ∧ TyC σ p0 8 ∧ 0 ≤ p1.toInt ∧ p1.toInt ≤ 502
abbrev Q_X7_meant : CqC := fun As σ w τ => match As with
  | [.inr (.inr (some p0)), .inl p1] => ∃ r : Int32, w = some (.inl r) ∧ HIC τ ∧ ExC [] σ τ ∧ (-1) ≤ r.toInt
  | _ => False
set_option maxRecDepth 100000 in
set_option maxHeartbeats 4000000 in
theorem b_X7_meant : TbC KX7_meant [(139, P_X7_lookUp, Q_X7_lookUp)] P_X7_meant Q_X7_meant := by
  · rintro As σ0 ⟨p0, p1, rfl, H0, h_0_0, h_1_0, h_1_1⟩ hgr G hB hW
    change G 0 [(0, .inr (.inr (some p0))), (1, .inl p1)] [] σ0
    refine hB _ _ _ _ (kgoC (is := KX7_meant_0) rfl ?_)
    refine k_aload_n rfl ?_
    refine k_aload_n rfl ?_
    obtain ⟨a3, e1, c2, t4⟩ := cg241 H0.1 h_0_0
    refine k_get kg241 h_0_0 e1 ?_
    obtain ⟨a7, e5, c6, t8, l9, l10⟩ := cg304 H0.1 t4
    refine k_get kg304 t4 e5 ?_
    refine k_iload_n rfl ?_
    refine k_laload t8 (by omega) (by omega) (fun y11 => ?_)
    refine k_inv (P := P_X7_lookUp) (Q := Q_X7_lookUp) rfl rfl rfl rfl (Nat.le_of_ble_eq_true rfl) (h_0_0.rc (by decide)) ⟨_, _, rfl, H0, h_0_0⟩ (fun w12 σ13 q14 => ?_)
    obtain ⟨x15, rfl, rfl, h16⟩ := q14
    refine k_st (st' := [.inl x15]) rfl ?_
    refine k_istore_n (ls' := [(2, .inl x15), (0, .inr (.inr (some p0))), (1, .inl p1)]) rfl ?_
    refine k_aload_n rfl ?_
    refine k_get kg241 h_0_0 (congrArg (fun z : Option Nat => (Sum.inr (Sum.inr z) : AvC)) c2) ?_
    obtain ⟨a19, e17, c18, t20, l21, l22⟩ := cg303 H0.1 t4
    refine k_get kg303 t4 e17 ?_
    refine k_iload_n rfl ?_
    refine k_iload_n rfl ?_
    refine k_iastore H0 t20 l22 (by omega) (by omega) (fun σ23 H24 e25 => ?_)
    refine k_iload_n rfl ?_
    refine k_ireturn (fun hz => absurd hz (by decide)) ?_
    have X26 : ExC [] σ0 σ23 := ExC.rf.tr (e25.mo (by decide))
    exact ⟨_, rfl, H24, X26, (by omega)⟩
theorem lg_X7_meant : ∀ (As : List AvC) (σ : CsC), P_X7_meant As σ → lgC As ≤ rX7_meant.2.2.1 := by
  rintro As σ ⟨p0, p1, rfl, -⟩
  exact Nat.le_of_ble_eq_true rfl
theorem m_X7_meant (l : Launch) : CMetC l 12 140 P_X7_meant Q_X7_meant :=
  CMetC.of KX7_meant [(139, P_X7_lookUp, Q_X7_lookUp)] hX7_meant (by decide) (by decide) okX7_meant (cc1C (m_X7_lookUp l) (by decide) cc0C) (lg_X7_meant) (b_X7_meant)

abbrev P_X7_declare : CpC := fun As σ => ∃ (p0 : Nat) (p1 : Int32) (p2 : Int32) (p3 : Int32), As = [.inr (.inr (some p0)), .inl p1, .inl p2, .inl p3] ∧ HIC σ ∧ TyC σ p0 8 ∧ 0 ≤ p2.toInt ∧ p2.toInt ≤ 1 ∧ 0 ≤ p3.toInt ∧ p3.toInt ≤ 1 ∧ CdC σ p0 ∧ (fIC σ p0 242).toInt ≤ CtC σ p0 ∧ BgC σ p0 (2) (0)
abbrev Q_X7_declare : CqC := fun As σ w τ => match As with
  | [.inr (.inr (some p0)), .inl p1, .inl p2, .inl p3] => ∃ r : Int32, w = some (.inl r) ∧ HIC τ ∧ ExC [0, 1, 2, 242, 243, 244, 330, 331, 332, 333, 334, 999] σ τ ∧ (-1) ≤ r.toInt ∧ r.toInt ≤ 59 ∧ RdC p0 none (-6) (2) (0) σ τ ∧ (∀ s, ReC σ p0 s → ReC τ p0 (dclY p1.toInt p2.toInt p3.toInt s))
  | _ => False
set_option maxRecDepth 100000 in
set_option maxHeartbeats 4000000 in
theorem b_X7_declare : TbC KX7_declare [(234, P_Jx4a65c_size_8abf5, Q_Jx4a65c_size_8abf5), (125, P_X7_code, Q_X7_code), (127, P_X7_raise, Q_X7_raise), (199, P_X10_init, Q_X10_init), (139, P_X7_lookUp, Q_X7_lookUp), (236, P_Jx4a65c_add_9ea2d, Q_Jx4a65c_add_9ea2d), (128, P_X7_accept, Q_X7_accept)] P_X7_declare Q_X7_declare := by
  · rintro As σ0 ⟨p0, p1, p2, p3, rfl, H0, h_0_0, h_2_0, h_2_1, h_3_0, h_3_1, rd_cd, rd_at, rd_bg⟩ hgr G hB hW
    change G 0 [(0, .inr (.inr (some p0))), (1, .inl p1), (2, .inl p2), (3, .inl p3)] [] σ0
    obtain ⟨x1, e2, c3, h4, h5⟩ := cg242 H0.1 h_0_0
    obtain ⟨x6, e7, c8, h9, h10⟩ := cg243 H0.1 h_0_0
    have z11 := congrArg Int32.toInt c3
    have z12 := congrArg Int32.toInt c8
    refine hB _ _ _ _ (kgoC (is := KX7_declare_0) rfl ?_)
    refine k_aload_n rfl ?_
    obtain ⟨a15, e13, c14, t16⟩ := cg240 H0.1 h_0_0
    refine k_get kg240 h_0_0 e13 ?_
    obtain ⟨a19, e17, c18, t20, l21⟩ := cg212 H0.1 t16
    refine k_get kg212 t16 e17 ?_
    refine k_inv (P := P_Jx4a65c_size_8abf5) (Q := Q_Jx4a65c_size_8abf5) rfl rfl rfl rfl (Nat.le_of_ble_eq_true rfl) (t20.rc (by decide)) ⟨_, rfl, H0, t20⟩ (fun w22 σ23 q24 => ?_)
    obtain ⟨x25, rfl, rfl, h26, h27, q28, q29⟩ := q24
    refine k_st (st' := [.inl x25]) rfl ?_
    refine k_istore (ls' := [(4, .inl x25), (0, .inr (.inr (some p0))), (1, .inl p1), (2, .inl p2), (3, .inl p3)]) rfl ?_
    refine k_aload_n rfl ?_
    refine k_inv (P := P_X7_code) (Q := Q_X7_code) rfl rfl rfl rfl (Nat.le_of_ble_eq_true rfl) (h_0_0.rc (by decide)) ⟨_, rfl, H0, h_0_0, (rd_cd.st H0 h_0_0 (ExC.rf : ExC [0, 1, 2, 242, 243, 244, 330, 331, 332, 333, 334, 999] σ0 σ0) (RdC.rf : RdC p0 none 0 0 0 σ0 σ0).1 (by decide))⟩ (fun w30 σ31 q32 => ?_)
    obtain ⟨x33, rfl, rfl, q34, q35, q36, q37⟩ := q32
    refine k_st (st' := [.inl x33]) rfl ?_
    have z38 := (RdC.rf : RdC p0 none 0 0 0 σ0 σ0).2.2.1
    have z39 := (RdC.rf : RdC p0 none 0 0 0 σ0 σ0).2.2.2.1 rd_at
    refine k_bipush (m := 80) rfl (fun x40 h41 => ?_)
    refine k_ic_eq (fun h42 => ?_) (fun h42 => ?_)
    · have h43 : x6.toInt = 0 := by omega
      refine hB _ _ _ _ (kgoC (is := KX7_declare_29) rfl ?_)
      refine k_iload_n rfl ?_
      refine k_if_eq (fun h44 => ?_) (fun h44 => ?_)
      · refine hB _ _ _ _ (kgoC (is := KX7_declare_40) rfl ?_)
        refine k_aload_n rfl ?_
        refine k_iconst (m := 3) rfl (fun x45 h46 => ?_)
        have R47 := (RdC.rf : RdC p0 none 0 0 0 σ0 σ0).nf (-1000) (-1000) (by rw [c8]; omega)
        refine k_inv (P := P_X7_raise) (Q := Q_X7_raise) rfl rfl rfl rfl (Nat.le_of_ble_eq_true rfl) (h_0_0.rc (by decide)) ⟨_, _, rfl, H0, h_0_0, (by omega), (by omega), (rd_cd.st H0 h_0_0 (ExC.rf : ExC [0, 1, 2, 242, 243, 244, 330, 331, 332, 333, 334, 999] σ0 σ0) R47.1 (by decide)), (R47.2.2.2.1 rd_at), (rd_bg.stn H0 h_0_0 (ExC.rf : ExC [0, 1, 2, 242, 243, 244, 330, 331, 332, 333, 334, 999] σ0 σ0) R47 (by decide) (by rw [c8]; omega) (by omega))⟩ (fun w48 σ49 q50 => ?_)
        obtain ⟨rfl, H51, e52, R53, q54, q55⟩ := q50
        have c56 := (h_0_0.mi e52 (by decide)).trans c3
        have t62 := h_0_0.x e52
        obtain ⟨x57, e58, c59, h60, h61⟩ := cg243 H51.1 t62
        have z63 := congrArg Int32.toInt c56
        have z64 := congrArg Int32.toInt c59
        refine k_st (st' := []) rfl ?_
        have h65 : 1 ≤ x57.toInt := by have hq := q54; rw [c59] at hq; omega
        refine k_nil ?_
        refine hB _ _ _ _ (kgoC (is := KX7_declare_45) rfl ?_)
        refine k_aload_n rfl ?_
        refine k_get kg243 t62 (congrArg (Sum.inl : Int32 → AvC) c59) ?_
        refine k_if_eq (fun h66 => by exfalso; omega) (fun h66 => ?_)
        refine k_nil ?_
        refine hB _ _ _ _ (kgoC (is := KX7_declare_52) rfl ?_)
        refine k_iconst (m := (-1)) rfl (fun x67 h68 => ?_)
        refine k_ireturn (fun hz => absurd hz (by decide)) ?_
        have X69 : ExC [0, 1, 2, 242, 243, 244, 330, 331, 332, 333, 334, 999] σ0 σ49 := ExC.rf.tr (e52.mo (by decide))
        have R70 : RdC p0 none (0) (0) (-1000) σ0 σ49 := R47.tr ⟨R53.1, R53.2⟩ (by omega) (by omega) (by omega) (by omega)
        have S76 : ∀ s, ReC σ0 p0 s → ReC σ49 p0 (dclY p1.toInt p2.toInt p3.toInt s) := by
          intro s hs
          have f71 := hs.nv c14 c18 q28
          have f72 := q37 _ hs
          have y73 := q55 _ hs
          rw [h46] at y73
          have f75 := y73.ft c59
          refine y73.eq ?_
          try unfold dclY
          repeat (split <;> try (exfalso; omega))
          try unfold dc1Y
          repeat (split <;> try (exfalso; omega))
          try unfold dc2Y
          repeat (split <;> try (exfalso; omega))
          try unfold tkY
          repeat (split <;> try (exfalso; omega))
          try unfold dpY
          repeat (split <;> try (exfalso; omega))
          all_goals rfl
        exact ⟨_, rfl, H51, X69, (by omega), (by omega), ((R70.ft (-6) (by rw [c59]; omega)).mo (by omega) (by omega) (by omega)), S76⟩
      · refine k_nil ?_
        refine hB _ _ _ _ (kgoC (is := KX7_declare_33) rfl ?_)
        refine k_iload rfl ?_
        refine k_bipush (m := 60) rfl (fun x77 h78 => ?_)
        refine k_ic_lt (fun h79 => ?_) (fun h79 => ?_)
        · refine hB _ _ _ _ (kgoC (is := KX7_declare_45) rfl ?_)
          refine k_aload_n rfl ?_
          refine k_get kg243 h_0_0 (congrArg (Sum.inl : Int32 → AvC) c8) ?_
          refine k_if_eq (fun h80 => ?_) (fun h80 => by exfalso; omega)
          refine hB _ _ _ _ (kgoC (is := KX7_declare_54) rfl ?_)
          have R81 := (RdC.rf : RdC p0 none 0 0 0 σ0 σ0).nf (-1000) (-1000) (by rw [c8]; omega)
          have B82 : BgC σ0 p0 1 1 := rd_bg.stn H0 h_0_0 (ExC.rf : ExC [0, 1, 2, 242, 243, 244, 330, 331, 332, 333, 334, 999] σ0 σ0) R81 (by decide) (by rw [c8]; omega) (by omega)
          obtain ⟨h83, h84⟩ := B82.new H0.1 h_0_0 (u := 1) (by omega) (by omega)
          have z85 := R81.1.1
          refine k_new (c := 11) (g := 0) H0 (by decide) rfl (by omega) (by have hn : nfC 11 = 7 := rfl; omega) (fun a86 σ87 q88 H89 e90 r91 z92 l93 u94 u95 => ?_)
          rw [show nfC 11 = 7 from rfl] at u95
          have u96 : cpC σ87 = cpC σ0 := congrArg Prod.fst e90.2.1.1
          have u97 : spC σ87 = spC σ0 := congrArg Prod.snd e90.2.1.1
          refine k_dupR ?_
          refine k_aload_n rfl ?_
          have t98 := h_0_0.x e90
          have c99 := (h_0_0.mi e90 (by decide)).trans c3
          refine k_get kg242 t98 (congrArg (Sum.inl : Int32 → AvC) c99) ?_
          refine k_iload_n rfl ?_
          refine k_iload_n rfl ?_
          refine k_aload_n rfl ?_
          have c100 := (h_0_0.mr e90 (by decide)).trans c14
          refine k_get kg240 t98 (congrArg (fun z : Option Nat => (Sum.inr (Sum.inr z) : AvC)) c100) ?_
          have t101 := t16.x e90
          obtain ⟨a104, e102, c103, t105, l106⟩ := cg211 H89.1 t101
          refine k_get kg211 t101 e102 ?_
          refine k_inv (P := P_Jx4a65c_size_8abf5) (Q := Q_Jx4a65c_size_8abf5) rfl rfl rfl rfl (Nat.le_of_ble_eq_true rfl) (t105.rc (by decide)) ⟨_, rfl, H89, t105⟩ (fun w107 σ108 q109 => ?_)
          obtain ⟨x110, rfl, rfl, h111, h112, q113, q114⟩ := q109
          refine k_st (st' := [.inl x110, .inl p2, .inl p1, .inl x1, .inr (.inr (some a86)), .inr (.inr (some a86))]) rfl ?_
          have z115 := q114 l106
          refine k_iconst (m := 1) rfl (fun x116 h117 => ?_)
          refine k_isub (by omega) (by omega) (fun x118 h119 => ?_)
          refine k_spec (P := P_X10_init) (Q := Q_X10_init) rfl rfl rfl rfl (Nat.le_of_ble_eq_true rfl) ⟨_, _, _, _, _, rfl, H89, r91, z92, (by omega), (by omega), (by omega), (by omega), (by omega), (by omega)⟩ (fun w120 σ121 q122 => ?_)
          obtain ⟨rfl, H123, e124, t125, l126, u127, u128, g129, q131, q132, q133, q134⟩ := q122
          have l130 := l126.trans l93
          have c135 := (t98.mit r91 (by decide) e124 (by decide)).trans c99
          have c136 := (h_0_0.mi e90 (by decide)).trans c8
          have c137 := (t98.mit r91 (by decide) e124 (by decide)).trans c136
          have z138 := congrArg Int32.toInt c135
          have z139 := congrArg Int32.toInt c137
          refine k_st (st' := [.inr (.inr (some a86))]) rfl ?_
          refine k_astore (ls' := [(5, .inr (.inr (some a86))), (4, .inl x25), (0, .inr (.inr (some p0))), (1, .inl p1), (2, .inl p2), (3, .inl p3)]) rfl ?_
          refine k_aload rfl ?_
          refine k_aload_n rfl ?_
          refine k_aload_n rfl ?_
          have t140 := t98.xt r91 (by decide) e124
          obtain ⟨a143, e141, c142, t144⟩ := cg241 H123.1 t140
          refine k_get kg241 t140 e141 ?_
          obtain ⟨a147, e145, c146, t148, l149, l150⟩ := cg304 H123.1 t144
          refine k_get kg304 t144 e145 ?_
          refine k_aload_n rfl ?_
          refine k_get kg242 t140 (congrArg (Sum.inl : Int32 → AvC) c135) ?_
          refine k_laload t148 (by omega) (by omega) (fun y151 => ?_)
          refine k_inv (P := P_X7_lookUp) (Q := Q_X7_lookUp) rfl rfl rfl rfl (Nat.le_of_ble_eq_true rfl) (t140.rc (by decide)) ⟨_, _, rfl, H123, t140⟩ (fun w152 σ153 q154 => ?_)
          obtain ⟨x155, rfl, rfl, h156⟩ := q154
          refine k_st (st' := [.inl x155, .inr (.inr (some a86))]) rfl ?_
          refine k_if_lt (fun h157 => ?_) (fun h157 => ?_)
          · refine hB _ _ _ _ (kgoC (is := KX7_declare_106) rfl ?_)
            refine k_iconst (m := 0) rfl (fun x158 h159 => ?_)
            refine k_nil ?_
            refine hB _ _ _ _ (kgoC (is := KX7_declare_107) rfl ?_)
            refine k_putI kp334 H123 t125 (Or.inr ⟨fk334, b01C (by omega) (by omega)⟩) (by show 0 ≤ _; omega) (by show _ ≤ 1; omega) (fun σ160 H161 e162 c163 => ?_)
            refine k_aload_n rfl ?_
            have t164 := t140.x e162
            have c165 := (t98.mrt r91 (by decide) e124 (by decide)).trans c100
            have c166 := (t140.mr e162 (by decide)).trans c165
            refine k_get kg240 t164 (congrArg (fun z : Option Nat => (Sum.inr (Sum.inr z) : AvC)) c166) ?_
            have t167 := t101.xt r91 (by decide) e124
            have t168 := t167.x e162
            have c169 := (t16.mr e90 (by decide)).trans c18
            have c170 := (t101.mrt r91 (by decide) e124 (by decide)).trans c169
            have c171 := (t167.mr e162 (by decide)).trans c170
            refine k_get kg212 t168 (congrArg (fun z : Option Nat => (Sum.inr (Sum.inr z) : AvC)) c171) ?_
            refine k_aload rfl ?_
            have t172 := t125.x e162
            have c173 := (t125.mi e162 (by decide)).trans q131
            have c174 := (t125.mi e162 (by decide)).trans q132
            have c175 := (t125.mi e162 (by decide)).trans q133
            have c176 := (t125.mi e162 (by decide)).trans q134
            have c177 := (t140.mi e162 (by decide)).trans c135
            have t178 := t20.x e90
            have t179 := t178.xt r91 (by decide) e124
            have t180 := t179.x e162
            have l181 := (t20.gh e90).trans l21
            have l182 := (t178.ght r91 (by decide) e124).trans l181
            have l183 := (t179.gh e162).trans l182
            have R184 : RdC p0 none (1) (1) (-999) σ0 σ87 := R81.tr ⟨(e90.gwn H0.1 u94 u95 (by decide) (by rw [← q88]; exact r91.n0)), (e90.cou (u := 1) H0.1 h_0_0 (by decide) (by omega))⟩ (by omega) (by omega) (by omega) (by omega)
            have R185 : RdC p0 none (1) (1) (-999) σ0 σ121 := R184.tr ⟨g129, (e124.co (u := 0) H89.1 t98 r91 (by decide) (by omega))⟩ (by omega) (by omega) (by omega) (by omega)
            have R186 : RdC p0 none (1) (1) (-999) σ0 σ160 := R185.tr ⟨(e162.gw H123.1 (by decide)), (e162.cou (u := 0) H123.1 t140 (by decide) (by rw [e162.cn (by decide)]; omega))⟩ (by omega) (by omega) (by omega) (by omega)
            have c187 := (t140.mi e162 (by decide)).trans c137
            have R188 := R186.nf (-1000) (-1000) (by rw [c187]; omega)
            have X189 : ExC [0, 1, 2, 242, 243, 244, 330, 331, 332, 333, 334, 999] σ0 σ87 := ExC.rf.tr (e90.mo (by decide))
            have X190 : ExC [0, 1, 2, 242, 243, 244, 330, 331, 332, 333, 334, 999] σ0 σ121 := (X189 : ExC [0, 1, 2, 242, 243, 244, 330, 331, 332, 333, 334, 999] σ0 σ87).nt (Nat.le_of_eq q88.symm) (e124.mo (by decide))
            have X191 : ExC [0, 1, 2, 242, 243, 244, 330, 331, 332, 333, 334, 999] σ0 σ121 := ExC.rf.tr X190
            have X192 : ExC [0, 1, 2, 242, 243, 244, 330, 331, 332, 333, 334, 999] σ0 σ160 := X191.tr (e162.mo (by decide))
            have B193 : BgC σ160 p0 1 1 := rd_bg.stn H0 h_0_0 X192 R188 (by decide) (by rw [c187]; omega) (by omega)
            obtain ⟨h194, h195⟩ := B193.new H161.1 t164 (u := 1) (by omega) (by omega)
            refine k_inv (P := P_Jx4a65c_add_9ea2d) (Q := Q_Jx4a65c_add_9ea2d) rfl rfl rfl rfl (Nat.le_of_ble_eq_true rfl) (t180.rc (by decide)) ⟨_, _, rfl, H161, t180, (by rw [l183]; exact ⟨t172, by decide, fun hz => absurd hz (by decide)⟩), (B193.sz H161.1 t164 (by omega) (by omega) c166 (by decide) c171), h194, (by omega), (fun hz => absurd (l183.symm.trans hz) (by decide))⟩ (fun w196 σ197 q198 => ?_)
            obtain ⟨x199, rfl, H200, e201, h203, h204, g202, q205, q206, q207, q208, q209⟩ := q198
            have c210 := (t164.mi e201 (by decide)).trans c177
            have c211 := (t164.mi e201 (by decide)).trans c187
            have z212 := congrArg Int32.toInt c210
            have z213 := congrArg Int32.toInt c211
            refine k_st (st' := [.inl x199]) rfl ?_
            refine k_popI ?_
            refine k_aload_n rfl ?_
            have t214 := t164.x e201
            have c215 := (t140.mr e162 (by decide)).trans c142
            have c216 := (t164.mr e201 (by decide)).trans c215
            refine k_get kg241 t214 (congrArg (fun z : Option Nat => (Sum.inr (Sum.inr z) : AvC)) c216) ?_
            have t217 := t144.x e162
            have t218 := t217.x e201
            obtain ⟨a221, e219, c220, t222, l223, l224⟩ := cg303 H200.1 t218
            refine k_get kg303 t218 e219 ?_
            refine k_aload_n rfl ?_
            refine k_get kg242 t214 (congrArg (Sum.inl : Int32 → AvC) c210) ?_
            refine k_iload rfl ?_
            refine k_iastore H200 t222 l224 (by omega) (by omega) (fun σ225 H226 e227 => ?_)
            refine k_aload_n rfl ?_
            have t228 := t214.x e227
            have R229 : RdC p0 none (2) (2) (-999) σ0 σ197 := R188.tr ⟨g202, (e201.cou2 (u := 1) H161.1 t164 (by decide) (by omega) q206)⟩ (by omega) (by omega) (by omega) (by omega)
            have R230 : RdC p0 none (2) (2) (-999) σ0 σ225 := R229.tr ⟨(e227.gw H200.1 (by decide)), (e227.cou (u := 0) H200.1 t214 (by decide) (by rw [e227.cn (by decide)]; omega))⟩ (by omega) (by omega) (by omega) (by omega)
            have c231 := (t214.mi e227 (by decide)).trans c211
            have R232 := R230.nf (-1000) (-1000) (by rw [c231]; omega)
            have X233 : ExC [0, 1, 2, 242, 243, 244, 330, 331, 332, 333, 334, 999] σ0 σ197 := X192.tr (e201.mo (by decide))
            have X234 : ExC [0, 1, 2, 242, 243, 244, 330, 331, 332, 333, 334, 999] σ0 σ225 := X233.tr (e227.mo (by decide))
            have c235 := (t214.mi e227 (by decide)).trans c210
            have z236 := congrArg Int32.toInt c235
            have z237 := congrArg Int32.toInt c231
            refine k_inv (P := P_X7_accept) (Q := Q_X7_accept) rfl rfl rfl rfl (Nat.le_of_ble_eq_true rfl) (t228.rc (by decide)) ⟨_, rfl, H226, t228, (rd_cd.st H0 h_0_0 X234 R232.1 (by decide)), (R232.2.2.2.1 rd_at), (rd_bg.stn H0 h_0_0 X234 R232 (by decide) (by rw [c231]; omega) (by omega)), (by have ct := R232.2.2.1; rw [c231, c235, ct]; omega)⟩ (fun w238 σ239 q240 => ?_)
            obtain ⟨rfl, H241, e242, R243, q244, q245⟩ := q240
            have t251 := t228.x e242
            obtain ⟨x246, e247, c248, h249, h250⟩ := cg242 H241.1 t251
            obtain ⟨x252, e253, c254, h255, h256⟩ := cg243 H241.1 t251
            have z257 := congrArg Int32.toInt c248
            have z258 := congrArg Int32.toInt c254
            refine k_st (st' := []) rfl ?_
            have R259 : RdC p0 none (-6) (2) (-1000) σ0 σ239 := R232.tr ⟨R243.1, R243.2⟩ (by omega) (by omega) (by omega) (by omega)
            have z260 := R259.2.2.1
            have z261 := R259.2.2.2.1 rd_at
            refine k_iload rfl ?_
            refine k_ireturn (fun hz => absurd hz (by decide)) ?_
            have X262 : ExC [0, 1, 2, 242, 243, 244, 330, 331, 332, 333, 334, 999] σ0 σ239 := X234.tr (e242.mo (by decide))
            have S277 : ∀ s, ReC σ0 p0 s → ReC σ239 p0 (dclY p1.toInt p2.toInt p3.toInt s) := by
              intro s hs
              have f263 := hs.nv c14 c18 q28
              have f264 := q37 _ hs
              have f265 := hs.ft c8
              have y266 := hs.x H0.1 h_0_0 e90 (by decide)
              have f267 := y266.at_ c99
              have f268 := y266.nm c100 c103 q113
              have y269 := y266.xt H89.1 t98 r91 e124 (by decide)
              have f270 := y269.at_ c135
              have y271 := y269.x H123.1 t140 e162 (by decide)
              have y272 := y271.adv (ty := p1.toInt) (f := p2.toInt) H161.1 t164 e201 q208 q207 c166 c171 q209 t172 ⟨(congrArg Int32.toInt c173).trans (y271.at_ c177), congrArg Int32.toInt c174, congrArg Int32.toInt c175, (congrArg Int32.toInt c176).trans (by show x118.toInt = ((zMs s).length : Int) - 1; omega)⟩
              have f273 := y272.at_ c210
              have y274 := y272.x H200.1 t214 e227 (by decide)
              have y275 := q245 _ y274
              refine y275.eq ?_
              try unfold dclY
              repeat (split <;> try (exfalso; omega))
              try unfold dc1Y
              repeat (split <;> try (exfalso; omega))
              try unfold dc2Y
              repeat (split <;> try (exfalso; omega))
              try unfold tkY
              repeat (split <;> try (exfalso; omega))
              try unfold dpY
              repeat (split <;> try (exfalso; omega))
              all_goals rfl
            exact ⟨_, rfl, H241, X262, (by omega), (by omega), (R259.mo (by omega) (by omega) (by omega)), S277⟩
          · refine k_nil ?_
            refine hB _ _ _ _ (kgoC (is := KX7_declare_102) rfl ?_)
            refine k_iconst (m := 1) rfl (fun x278 h279 => ?_)
            refine k_goto ?_
            refine hB _ _ _ _ (kgoC (is := KX7_declare_107) rfl ?_)
            refine k_putI kp334 H123 t125 (Or.inr ⟨fk334, b01C (by omega) (by omega)⟩) (by show 0 ≤ _; omega) (by show _ ≤ 1; omega) (fun σ280 H281 e282 c283 => ?_)
            refine k_aload_n rfl ?_
            have t284 := t140.x e282
            have c285 := (t98.mrt r91 (by decide) e124 (by decide)).trans c100
            have c286 := (t140.mr e282 (by decide)).trans c285
            refine k_get kg240 t284 (congrArg (fun z : Option Nat => (Sum.inr (Sum.inr z) : AvC)) c286) ?_
            have t287 := t101.xt r91 (by decide) e124
            have t288 := t287.x e282
            have c289 := (t16.mr e90 (by decide)).trans c18
            have c290 := (t101.mrt r91 (by decide) e124 (by decide)).trans c289
            have c291 := (t287.mr e282 (by decide)).trans c290
            refine k_get kg212 t288 (congrArg (fun z : Option Nat => (Sum.inr (Sum.inr z) : AvC)) c291) ?_
            refine k_aload rfl ?_
            have t292 := t125.x e282
            have c293 := (t125.mi e282 (by decide)).trans q131
            have c294 := (t125.mi e282 (by decide)).trans q132
            have c295 := (t125.mi e282 (by decide)).trans q133
            have c296 := (t125.mi e282 (by decide)).trans q134
            have c297 := (t140.mi e282 (by decide)).trans c135
            have t298 := t20.x e90
            have t299 := t298.xt r91 (by decide) e124
            have t300 := t299.x e282
            have l301 := (t20.gh e90).trans l21
            have l302 := (t298.ght r91 (by decide) e124).trans l301
            have l303 := (t299.gh e282).trans l302
            have R304 : RdC p0 none (1) (1) (-999) σ0 σ87 := R81.tr ⟨(e90.gwn H0.1 u94 u95 (by decide) (by rw [← q88]; exact r91.n0)), (e90.cou (u := 1) H0.1 h_0_0 (by decide) (by omega))⟩ (by omega) (by omega) (by omega) (by omega)
            have R305 : RdC p0 none (1) (1) (-999) σ0 σ121 := R304.tr ⟨g129, (e124.co (u := 0) H89.1 t98 r91 (by decide) (by omega))⟩ (by omega) (by omega) (by omega) (by omega)
            have R306 : RdC p0 none (1) (1) (-999) σ0 σ280 := R305.tr ⟨(e282.gw H123.1 (by decide)), (e282.cou (u := 0) H123.1 t140 (by decide) (by rw [e282.cn (by decide)]; omega))⟩ (by omega) (by omega) (by omega) (by omega)
            have c307 := (t140.mi e282 (by decide)).trans c137
            have R308 := R306.nf (-1000) (-1000) (by rw [c307]; omega)
            have X309 : ExC [0, 1, 2, 242, 243, 244, 330, 331, 332, 333, 334, 999] σ0 σ87 := ExC.rf.tr (e90.mo (by decide))
            have X310 : ExC [0, 1, 2, 242, 243, 244, 330, 331, 332, 333, 334, 999] σ0 σ121 := (X309 : ExC [0, 1, 2, 242, 243, 244, 330, 331, 332, 333, 334, 999] σ0 σ87).nt (Nat.le_of_eq q88.symm) (e124.mo (by decide))
            have X311 : ExC [0, 1, 2, 242, 243, 244, 330, 331, 332, 333, 334, 999] σ0 σ121 := ExC.rf.tr X310
            have X312 : ExC [0, 1, 2, 242, 243, 244, 330, 331, 332, 333, 334, 999] σ0 σ280 := X311.tr (e282.mo (by decide))
            have B313 : BgC σ280 p0 1 1 := rd_bg.stn H0 h_0_0 X312 R308 (by decide) (by rw [c307]; omega) (by omega)
            obtain ⟨h314, h315⟩ := B313.new H281.1 t284 (u := 1) (by omega) (by omega)
            refine k_inv (P := P_Jx4a65c_add_9ea2d) (Q := Q_Jx4a65c_add_9ea2d) rfl rfl rfl rfl (Nat.le_of_ble_eq_true rfl) (t300.rc (by decide)) ⟨_, _, rfl, H281, t300, (by rw [l303]; exact ⟨t292, by decide, fun hz => absurd hz (by decide)⟩), (B313.sz H281.1 t284 (by omega) (by omega) c286 (by decide) c291), h314, (by omega), (fun hz => absurd (l303.symm.trans hz) (by decide))⟩ (fun w316 σ317 q318 => ?_)
            obtain ⟨x319, rfl, H320, e321, h323, h324, g322, q325, q326, q327, q328, q329⟩ := q318
            have c330 := (t284.mi e321 (by decide)).trans c297
            have c331 := (t284.mi e321 (by decide)).trans c307
            have z332 := congrArg Int32.toInt c330
            have z333 := congrArg Int32.toInt c331
            refine k_st (st' := [.inl x319]) rfl ?_
            refine k_popI ?_
            refine k_aload_n rfl ?_
            have t334 := t284.x e321
            have c335 := (t140.mr e282 (by decide)).trans c142
            have c336 := (t284.mr e321 (by decide)).trans c335
            refine k_get kg241 t334 (congrArg (fun z : Option Nat => (Sum.inr (Sum.inr z) : AvC)) c336) ?_
            have t337 := t144.x e282
            have t338 := t337.x e321
            obtain ⟨a341, e339, c340, t342, l343, l344⟩ := cg303 H320.1 t338
            refine k_get kg303 t338 e339 ?_
            refine k_aload_n rfl ?_
            refine k_get kg242 t334 (congrArg (Sum.inl : Int32 → AvC) c330) ?_
            refine k_iload rfl ?_
            refine k_iastore H320 t342 l344 (by omega) (by omega) (fun σ345 H346 e347 => ?_)
            refine k_aload_n rfl ?_
            have t348 := t334.x e347
            have R349 : RdC p0 none (2) (2) (-999) σ0 σ317 := R308.tr ⟨g322, (e321.cou2 (u := 1) H281.1 t284 (by decide) (by omega) q326)⟩ (by omega) (by omega) (by omega) (by omega)
            have R350 : RdC p0 none (2) (2) (-999) σ0 σ345 := R349.tr ⟨(e347.gw H320.1 (by decide)), (e347.cou (u := 0) H320.1 t334 (by decide) (by rw [e347.cn (by decide)]; omega))⟩ (by omega) (by omega) (by omega) (by omega)
            have c351 := (t334.mi e347 (by decide)).trans c331
            have R352 := R350.nf (-1000) (-1000) (by rw [c351]; omega)
            have X353 : ExC [0, 1, 2, 242, 243, 244, 330, 331, 332, 333, 334, 999] σ0 σ317 := X312.tr (e321.mo (by decide))
            have X354 : ExC [0, 1, 2, 242, 243, 244, 330, 331, 332, 333, 334, 999] σ0 σ345 := X353.tr (e347.mo (by decide))
            have c355 := (t334.mi e347 (by decide)).trans c330
            have z356 := congrArg Int32.toInt c355
            have z357 := congrArg Int32.toInt c351
            refine k_inv (P := P_X7_accept) (Q := Q_X7_accept) rfl rfl rfl rfl (Nat.le_of_ble_eq_true rfl) (t348.rc (by decide)) ⟨_, rfl, H346, t348, (rd_cd.st H0 h_0_0 X354 R352.1 (by decide)), (R352.2.2.2.1 rd_at), (rd_bg.stn H0 h_0_0 X354 R352 (by decide) (by rw [c351]; omega) (by omega)), (by have ct := R352.2.2.1; rw [c351, c355, ct]; omega)⟩ (fun w358 σ359 q360 => ?_)
            obtain ⟨rfl, H361, e362, R363, q364, q365⟩ := q360
            have t371 := t348.x e362
            obtain ⟨x366, e367, c368, h369, h370⟩ := cg242 H361.1 t371
            obtain ⟨x372, e373, c374, h375, h376⟩ := cg243 H361.1 t371
            have z377 := congrArg Int32.toInt c368
            have z378 := congrArg Int32.toInt c374
            refine k_st (st' := []) rfl ?_
            have R379 : RdC p0 none (-6) (2) (-1000) σ0 σ359 := R352.tr ⟨R363.1, R363.2⟩ (by omega) (by omega) (by omega) (by omega)
            have z380 := R379.2.2.1
            have z381 := R379.2.2.2.1 rd_at
            refine k_iload rfl ?_
            refine k_ireturn (fun hz => absurd hz (by decide)) ?_
            have X382 : ExC [0, 1, 2, 242, 243, 244, 330, 331, 332, 333, 334, 999] σ0 σ359 := X354.tr (e362.mo (by decide))
            have S397 : ∀ s, ReC σ0 p0 s → ReC σ359 p0 (dclY p1.toInt p2.toInt p3.toInt s) := by
              intro s hs
              have f383 := hs.nv c14 c18 q28
              have f384 := q37 _ hs
              have f385 := hs.ft c8
              have y386 := hs.x H0.1 h_0_0 e90 (by decide)
              have f387 := y386.at_ c99
              have f388 := y386.nm c100 c103 q113
              have y389 := y386.xt H89.1 t98 r91 e124 (by decide)
              have f390 := y389.at_ c135
              have y391 := y389.x H123.1 t140 e282 (by decide)
              have y392 := y391.adv (ty := p1.toInt) (f := p2.toInt) H281.1 t284 e321 q328 q327 c286 c291 q329 t292 ⟨(congrArg Int32.toInt c293).trans (y391.at_ c297), congrArg Int32.toInt c294, congrArg Int32.toInt c295, (congrArg Int32.toInt c296).trans (by show x118.toInt = ((zMs s).length : Int) - 1; omega)⟩
              have f393 := y392.at_ c330
              have y394 := y392.x H320.1 t334 e347 (by decide)
              have y395 := q365 _ y394
              refine y395.eq ?_
              try unfold dclY
              repeat (split <;> try (exfalso; omega))
              try unfold dc1Y
              repeat (split <;> try (exfalso; omega))
              try unfold dc2Y
              repeat (split <;> try (exfalso; omega))
              try unfold tkY
              repeat (split <;> try (exfalso; omega))
              try unfold dpY
              repeat (split <;> try (exfalso; omega))
              all_goals rfl
            exact ⟨_, rfl, H361, X382, (by omega), (by omega), (R379.mo (by omega) (by omega) (by omega)), S397⟩
        · refine k_nil ?_
          refine hB _ _ _ _ (kgoC (is := KX7_declare_40) rfl ?_)
          refine k_aload_n rfl ?_
          refine k_iconst (m := 3) rfl (fun x398 h399 => ?_)
          have R400 := (RdC.rf : RdC p0 none 0 0 0 σ0 σ0).nf (-1000) (-1000) (by rw [c8]; omega)
          refine k_inv (P := P_X7_raise) (Q := Q_X7_raise) rfl rfl rfl rfl (Nat.le_of_ble_eq_true rfl) (h_0_0.rc (by decide)) ⟨_, _, rfl, H0, h_0_0, (by omega), (by omega), (rd_cd.st H0 h_0_0 (ExC.rf : ExC [0, 1, 2, 242, 243, 244, 330, 331, 332, 333, 334, 999] σ0 σ0) R400.1 (by decide)), (R400.2.2.2.1 rd_at), (rd_bg.stn H0 h_0_0 (ExC.rf : ExC [0, 1, 2, 242, 243, 244, 330, 331, 332, 333, 334, 999] σ0 σ0) R400 (by decide) (by rw [c8]; omega) (by omega))⟩ (fun w401 σ402 q403 => ?_)
          obtain ⟨rfl, H404, e405, R406, q407, q408⟩ := q403
          have c409 := (h_0_0.mi e405 (by decide)).trans c3
          have t415 := h_0_0.x e405
          obtain ⟨x410, e411, c412, h413, h414⟩ := cg243 H404.1 t415
          have z416 := congrArg Int32.toInt c409
          have z417 := congrArg Int32.toInt c412
          refine k_st (st' := []) rfl ?_
          have h418 : 1 ≤ x410.toInt := by have hq := q407; rw [c412] at hq; omega
          refine k_nil ?_
          refine hB _ _ _ _ (kgoC (is := KX7_declare_45) rfl ?_)
          refine k_aload_n rfl ?_
          refine k_get kg243 t415 (congrArg (Sum.inl : Int32 → AvC) c412) ?_
          refine k_if_eq (fun h419 => by exfalso; omega) (fun h419 => ?_)
          refine k_nil ?_
          refine hB _ _ _ _ (kgoC (is := KX7_declare_52) rfl ?_)
          refine k_iconst (m := (-1)) rfl (fun x420 h421 => ?_)
          refine k_ireturn (fun hz => absurd hz (by decide)) ?_
          have X422 : ExC [0, 1, 2, 242, 243, 244, 330, 331, 332, 333, 334, 999] σ0 σ402 := ExC.rf.tr (e405.mo (by decide))
          have R423 : RdC p0 none (0) (0) (-1000) σ0 σ402 := R400.tr ⟨R406.1, R406.2⟩ (by omega) (by omega) (by omega) (by omega)
          have S429 : ∀ s, ReC σ0 p0 s → ReC σ402 p0 (dclY p1.toInt p2.toInt p3.toInt s) := by
            intro s hs
            have f424 := hs.nv c14 c18 q28
            have f425 := q37 _ hs
            have y426 := q408 _ hs
            rw [h399] at y426
            have f428 := y426.ft c412
            refine y426.eq ?_
            try unfold dclY
            repeat (split <;> try (exfalso; omega))
            try unfold dc1Y
            repeat (split <;> try (exfalso; omega))
            try unfold dc2Y
            repeat (split <;> try (exfalso; omega))
            try unfold tkY
            repeat (split <;> try (exfalso; omega))
            try unfold dpY
            repeat (split <;> try (exfalso; omega))
            all_goals rfl
          exact ⟨_, rfl, H404, X422, (by omega), (by omega), ((R423.ft (-6) (by rw [c412]; omega)).mo (by omega) (by omega) (by omega)), S429⟩
    · refine k_nil ?_
      refine hB _ _ _ _ (kgoC (is := KX7_declare_21) rfl ?_)
      refine k_aload_n rfl ?_
      refine k_iconst (m := 2) rfl (fun x430 h431 => ?_)
      refine k_inv (P := P_X7_raise) (Q := Q_X7_raise) rfl rfl rfl rfl (Nat.le_of_ble_eq_true rfl) (h_0_0.rc (by decide)) ⟨_, _, rfl, H0, h_0_0, (by omega), (by omega), (rd_cd.st H0 h_0_0 (ExC.rf : ExC [0, 1, 2, 242, 243, 244, 330, 331, 332, 333, 334, 999] σ0 σ0) (RdC.rf : RdC p0 none 0 0 0 σ0 σ0).1 (by decide)), ((RdC.rf : RdC p0 none 0 0 0 σ0 σ0).2.2.2.1 rd_at), (rd_bg.st H0 h_0_0 (ExC.rf : ExC [0, 1, 2, 242, 243, 244, 330, 331, 332, 333, 334, 999] σ0 σ0) (RdC.rf : RdC p0 none 0 0 0 σ0 σ0) (by decide) (by omega) (by omega) (by omega))⟩ (fun w432 σ433 q434 => ?_)
      obtain ⟨rfl, H435, e436, R437, q438, q439⟩ := q434
      have c440 := (h_0_0.mi e436 (by decide)).trans c3
      have t446 := h_0_0.x e436
      obtain ⟨x441, e442, c443, h444, h445⟩ := cg243 H435.1 t446
      have z447 := congrArg Int32.toInt c440
      have z448 := congrArg Int32.toInt c443
      refine k_st (st' := []) rfl ?_
      have h449 : 1 ≤ x441.toInt := by have hq := q438; rw [c443] at hq; omega
      refine k_goto ?_
      refine hB _ _ _ _ (kgoC (is := KX7_declare_45) rfl ?_)
      refine k_aload_n rfl ?_
      refine k_get kg243 t446 (congrArg (Sum.inl : Int32 → AvC) c443) ?_
      refine k_if_eq (fun h450 => by exfalso; omega) (fun h450 => ?_)
      refine k_nil ?_
      refine hB _ _ _ _ (kgoC (is := KX7_declare_52) rfl ?_)
      refine k_iconst (m := (-1)) rfl (fun x451 h452 => ?_)
      refine k_ireturn (fun hz => absurd hz (by decide)) ?_
      have X453 : ExC [0, 1, 2, 242, 243, 244, 330, 331, 332, 333, 334, 999] σ0 σ433 := ExC.rf.tr (e436.mo (by decide))
      have R454 : RdC p0 none (0) (0) (0) σ0 σ433 := (RdC.rf : RdC p0 none 0 0 0 σ0 σ0).tr ⟨R437.1, R437.2⟩ (by omega) (by omega) (by omega) (by omega)
      have S460 : ∀ s, ReC σ0 p0 s → ReC σ433 p0 (dclY p1.toInt p2.toInt p3.toInt s) := by
        intro s hs
        have f455 := hs.nv c14 c18 q28
        have f456 := q37 _ hs
        have y457 := q439 _ hs
        rw [h431] at y457
        have f459 := y457.ft c443
        refine y457.eq ?_
        try unfold dclY
        repeat (split <;> try (exfalso; omega))
        try unfold dc1Y
        repeat (split <;> try (exfalso; omega))
        try unfold dc2Y
        repeat (split <;> try (exfalso; omega))
        try unfold tkY
        repeat (split <;> try (exfalso; omega))
        try unfold dpY
        repeat (split <;> try (exfalso; omega))
        all_goals rfl
      exact ⟨_, rfl, H435, X453, (by omega), (by omega), ((R454.ft (-6) (by rw [c443]; omega)).mo (by omega) (by omega) (by omega)), S460⟩
theorem lg_X7_declare : ∀ (As : List AvC) (σ : CsC), P_X7_declare As σ → lgC As ≤ rX7_declare.2.2.1 := by
  rintro As σ ⟨p0, p1, p2, p3, rfl, -⟩
  exact Nat.le_of_ble_eq_true rfl
theorem m_X7_declare (l : Launch) : CMetC l 12 137 P_X7_declare Q_X7_declare :=
  CMetC.of KX7_declare [(234, P_Jx4a65c_size_8abf5, Q_Jx4a65c_size_8abf5), (125, P_X7_code, Q_X7_code), (127, P_X7_raise, Q_X7_raise), (199, P_X10_init, Q_X10_init), (139, P_X7_lookUp, Q_X7_lookUp), (236, P_Jx4a65c_add_9ea2d, Q_Jx4a65c_add_9ea2d), (128, P_X7_accept, Q_X7_accept)] hX7_declare (by decide) (by decide) okX7_declare (cc1C (m_Jx4a65c_size_8abf5 l) (by decide) (cc1C (m_X7_code l) (by decide) (cc1C (m_X7_raise l) (by decide) (cc1C (m_X10_init l) (by decide) (cc1C (m_X7_lookUp l) (by decide) (cc1C (m_Jx4a65c_add_9ea2d l) (by decide) (cc1C (m_X7_accept l) (by decide) cc0C))))))) (lg_X7_declare) (b_X7_declare)

abbrev P_X7_begin : CpC := fun As σ => ∃ (p0 : Nat) (p1 : Int32) (p2 : Int32), As = [.inr (.inr (some p0)), .inl p1, .inl p2] ∧ HIC σ ∧ TyC σ p0 8 ∧ 0 ≤ p2.toInt ∧ p2.toInt ≤ 22 ∧ CdC σ p0 ∧ (fIC σ p0 242).toInt ≤ CtC σ p0 ∧ BgC σ p0 (2) (2) ∧ ¬ p1.toInt = 6
abbrev Q_X7_begin : CqC := fun As σ w τ => match As with
  | [.inr (.inr (some p0)), .inl p1, .inl p2] => ∃ r : Nat, w = some (.inr (.inr (some r))) ∧ HIC τ ∧ ExC [0, 1, 2, 270, 271, 272, 273, 280, 999] σ τ ∧ TyC τ r 9 ∧ RdC p0 none (2) (2) (2) σ τ ∧ (cnC σ ≤ r) ∧ (fIC τ r 270 = p1) ∧ (fIC τ r 272 = p2) ∧ (∀ s, ReC σ p0 s → ReC τ p0 ( s))
  | _ => False
set_option maxRecDepth 100000 in
set_option maxHeartbeats 4000000 in
theorem b_X7_begin : TbC KX7_begin [(178, P_X8_init, Q_X8_init), (236, P_Jx4a65c_add_9ea2d, Q_Jx4a65c_add_9ea2d)] P_X7_begin Q_X7_begin := by
  · rintro As σ0 ⟨p0, p1, p2, rfl, H0, h_0_0, h_2_0, h_2_1, rd_cd, rd_at, rd_bg, q_0⟩ hgr G hB hW
    change G 0 [(0, .inr (.inr (some p0))), (1, .inl p1), (2, .inl p2)] [] σ0
    obtain ⟨x1, e2, c3, h4, h5⟩ := cg242 H0.1 h_0_0
    obtain ⟨x6, e7, c8, h9, h10⟩ := cg243 H0.1 h_0_0
    have z11 := congrArg Int32.toInt c3
    have z12 := congrArg Int32.toInt c8
    refine hB _ _ _ _ (kgoC (is := KX7_begin_0) rfl ?_)
    have B13 : BgC σ0 p0 1 1 := rd_bg.st H0 h_0_0 (ExC.rf : ExC [0, 1, 2, 270, 271, 272, 273, 280, 999] σ0 σ0) (RdC.rf : RdC p0 none 0 0 0 σ0 σ0) (by decide) (by omega) (by omega) (by omega)
    obtain ⟨h14, h15⟩ := B13.new H0.1 h_0_0 (u := 1) (by omega) (by omega)
    have z16 := (RdC.rf : RdC p0 none 0 0 0 σ0 σ0).1.1
    refine k_new (c := 9) (g := 0) H0 (by decide) rfl (by omega) (by have hn : nfC 9 = 21 := rfl; omega) (fun a17 σ18 q19 H20 e21 r22 z23 l24 u25 u26 => ?_)
    rw [show nfC 9 = 21 from rfl] at u26
    have u27 : cpC σ18 = cpC σ0 := congrArg Prod.fst e21.2.1.1
    have u28 : spC σ18 = spC σ0 := congrArg Prod.snd e21.2.1.1
    refine k_dupR ?_
    refine k_iload_n rfl ?_
    refine k_aload_n rfl ?_
    have t29 := h_0_0.x e21
    have c30 := (h_0_0.mi e21 (by decide)).trans c3
    refine k_get kg242 t29 (congrArg (Sum.inl : Int32 → AvC) c30) ?_
    refine k_iload_n rfl ?_
    refine k_aload_n rfl ?_
    obtain ⟨o33, e31, c32, t34⟩ := cg246 H20.1 t29
    refine k_get kg246 t29 e31 ?_
    refine k_aload_n rfl ?_
    obtain ⟨y37, e35, c36⟩ := cg245 (σ := σ18) (a := p0)
    refine k_get kg245 t29 e35 ?_
    refine k_spec (P := P_X8_init) (Q := Q_X8_init) rfl rfl rfl rfl (Nat.le_of_ble_eq_true rfl) ⟨_, _, _, _, o33, _, rfl, H20, r22, z23, (by omega), (by omega), (by omega), (by omega), t34, (by omega), (by omega), (by omega), (fun b hb => by have z := t34 b hb; have z1 := z.1; have z2 := r22.ne z (by decide); omega)⟩ (fun w38 σ39 q40 => ?_)
    obtain ⟨rfl, H41, e42, t43, l44, u45, u46, g47, q49, q50⟩ := q40
    have l48 := l44.trans l24
    have c51 := (t29.mit r22 (by decide) e42 (by decide)).trans c30
    have c52 := (h_0_0.mi e21 (by decide)).trans c8
    have c53 := (t29.mit r22 (by decide) e42 (by decide)).trans c52
    have z54 := congrArg Int32.toInt c51
    have z55 := congrArg Int32.toInt c53
    refine k_st (st' := [.inr (.inr (some a17))]) rfl ?_
    refine k_astore_n (ls' := [(3, .inr (.inr (some a17))), (0, .inr (.inr (some p0))), (1, .inl p1), (2, .inl p2)]) rfl ?_
    refine k_aload_n rfl ?_
    have t56 := t29.xt r22 (by decide) e42
    obtain ⟨a59, e57, c58, t60⟩ := cg240 H41.1 t56
    refine k_get kg240 t56 e57 ?_
    obtain ⟨a63, e61, c62, t64, l65⟩ := cg214 H41.1 t60
    refine k_get kg214 t60 e61 ?_
    refine k_aload_n rfl ?_
    have R66 : RdC p0 none (1) (1) (1) σ0 σ18 := (RdC.rf : RdC p0 none 0 0 0 σ0 σ0).tr ⟨(e21.gwn H0.1 u25 u26 (by decide) (by rw [← q19]; exact r22.n0)), (e21.cou (u := 1) H0.1 h_0_0 (by decide) (by omega))⟩ (by omega) (by omega) (by omega) (by omega)
    have R67 : RdC p0 none (1) (1) (1) σ0 σ39 := R66.tr ⟨g47, (e42.co (u := 0) H20.1 t29 r22 (by decide) (by omega))⟩ (by omega) (by omega) (by omega) (by omega)
    have X68 : ExC [0, 1, 2, 270, 271, 272, 273, 280, 999] σ0 σ18 := ExC.rf.tr (e21.mo (by decide))
    have X69 : ExC [0, 1, 2, 270, 271, 272, 273, 280, 999] σ0 σ39 := (X68 : ExC [0, 1, 2, 270, 271, 272, 273, 280, 999] σ0 σ18).nt (Nat.le_of_eq q19.symm) (e42.mo (by decide))
    have X70 : ExC [0, 1, 2, 270, 271, 272, 273, 280, 999] σ0 σ39 := ExC.rf.tr X69
    have B71 : BgC σ39 p0 1 1 := rd_bg.st H0 h_0_0 X70 R67 (by decide) (by omega) (by omega) (by omega)
    obtain ⟨h72, h73⟩ := B71.new H41.1 t56 (u := 1) (by omega) (by omega)
    refine k_inv (P := P_Jx4a65c_add_9ea2d) (Q := Q_Jx4a65c_add_9ea2d) rfl rfl rfl rfl (Nat.le_of_ble_eq_true rfl) (t64.rc (by decide)) ⟨_, _, rfl, H41, t64, (by rw [l65]; exact ⟨t43, by decide, fun hz => absurd hz (by decide)⟩), (B71.sz H41.1 t56 (by omega) (by omega) c58 (by decide) c62), h72, (by omega), (fun hz => absurd (l65.symm.trans hz) (by decide))⟩ (fun w74 σ75 q76 => ?_)
    obtain ⟨x77, rfl, H78, e79, h81, h82, g80, q83, q84, q85, q86, q87⟩ := q76
    have c88 := (t56.mi e79 (by decide)).trans c51
    have c89 := (t56.mi e79 (by decide)).trans c53
    have z90 := congrArg Int32.toInt c88
    have z91 := congrArg Int32.toInt c89
    refine k_st (st' := [.inl x77]) rfl ?_
    refine k_popI ?_
    refine k_aload_n rfl ?_
    refine k_areturn ?_
    have X92 : ExC [0, 1, 2, 270, 271, 272, 273, 280, 999] σ0 σ75 := X70.tr (e79.mo (by decide))
    have t93 := t43.x e79
    have R94 : RdC p0 none (2) (2) (2) σ0 σ75 := R67.tr ⟨g80, (e79.cou2 (u := 1) H41.1 t56 (by decide) (by omega) q84)⟩ (by omega) (by omega) (by omega) (by omega)
    have c95 := (t43.mi e79 (by decide)).trans q49
    have c96 := (t43.mi e79 (by decide)).trans q50
    have S101 : ∀ s, ReC σ0 p0 s → ReC σ75 p0 ( s) := by
      intro s hs
      have y97 := hs.x H0.1 h_0_0 e21 (by decide)
      have f98 := y97.at_ c30
      have y99 := y97.xt H20.1 t29 r22 e42 (by decide)
      have y100 := y99.ad0 H41.1 t56 e79 q86 (by rw [l65]; decide) q87
      refine y100.eq ?_
      try unfold tkY
      repeat (split <;> try (exfalso; omega))
      try unfold dpY
      repeat (split <;> try (exfalso; omega))
      all_goals rfl
    exact ⟨_, rfl, H78, X92, t93, (R94.mo (by omega) (by omega) (by omega)), (by omega), c95, c96, S101⟩
theorem lg_X7_begin : ∀ (As : List AvC) (σ : CsC), P_X7_begin As σ → lgC As ≤ rX7_begin.2.2.1 := by
  rintro As σ ⟨p0, p1, p2, rfl, -⟩
  exact Nat.le_of_ble_eq_true rfl
theorem m_X7_begin (l : Launch) : CMetC l 11 142 P_X7_begin Q_X7_begin :=
  CMetC.of KX7_begin [(178, P_X8_init, Q_X8_init), (236, P_Jx4a65c_add_9ea2d, Q_Jx4a65c_add_9ea2d)] hX7_begin (by decide) (by decide) okX7_begin (cc1C (m_X8_init l) (by decide) (cc1C (m_Jx4a65c_add_9ea2d l) (by decide) cc0C)) (lg_X7_begin) (b_X7_begin)

abbrev P_X7_put : CpC := fun As σ => ∃ (p0 : Nat) (p1 : Nat), As = [.inr (.inr (some p0)), .inr (.inr (some p1))] ∧ HIC σ ∧ TyC σ p0 8 ∧ TyC σ p1 2 ∧ CdC σ p0 ∧ (fIC σ p0 242).toInt ≤ CtC σ p0 ∧ BgC σ p0 (1) (1)
abbrev Q_X7_put : CqC := fun As σ w τ => match As with
  | [.inr (.inr (some p0)), .inr (.inr (some p1))] => ∃ r : Nat, w = some (.inr (.inr (some r))) ∧ HIC τ ∧ ExC [0, 1, 2, 64, 65, 999] σ τ ∧ TyC τ r 2 ∧ RdC p0 none (1) (1) (1) σ τ ∧ (r = p1) ∧ (∀ s, ReC σ p0 s → ReC τ p0 ( s))
  | _ => False
set_option maxRecDepth 100000 in
set_option maxHeartbeats 4000000 in
theorem b_X7_put : TbC KX7_put [(234, P_Jx4a65c_size_8abf5, Q_Jx4a65c_size_8abf5), (236, P_Jx4a65c_add_9ea2d, Q_Jx4a65c_add_9ea2d)] P_X7_put Q_X7_put := by
  · rintro As σ0 ⟨p0, p1, rfl, H0, h_0_0, h_1_0, rd_cd, rd_at, rd_bg⟩ hgr G hB hW
    change G 0 [(0, .inr (.inr (some p0))), (1, .inr (.inr (some p1)))] [] σ0
    obtain ⟨x1, e2, c3, h4, h5⟩ := cg242 H0.1 h_0_0
    obtain ⟨x6, e7, c8, h9, h10⟩ := cg243 H0.1 h_0_0
    have z11 := congrArg Int32.toInt c3
    have z12 := congrArg Int32.toInt c8
    refine hB _ _ _ _ (kgoC (is := KX7_put_0) rfl ?_)
    refine k_aload_n rfl ?_
    refine k_aload_n rfl ?_
    obtain ⟨a15, e13, c14, t16⟩ := cg240 H0.1 h_0_0
    refine k_get kg240 h_0_0 e13 ?_
    obtain ⟨a19, e17, c18, t20, l21⟩ := cg213 H0.1 t16
    refine k_get kg213 t16 e17 ?_
    refine k_inv (P := P_Jx4a65c_size_8abf5) (Q := Q_Jx4a65c_size_8abf5) rfl rfl rfl rfl (Nat.le_of_ble_eq_true rfl) (t20.rc (by decide)) ⟨_, rfl, H0, t20⟩ (fun w22 σ23 q24 => ?_)
    obtain ⟨x25, rfl, rfl, h26, h27, q28, q29⟩ := q24
    refine k_st (st' := [.inl x25, .inr (.inr (some p1))]) rfl ?_
    refine k_putI kp65 H0 h_1_0 (Or.inl fk65) (tiC x25).1 (tiC x25).2 (fun σ30 H31 e32 c33 => ?_)
    refine k_aload_n rfl ?_
    refine k_aload_n rfl ?_
    have t34 := h_0_0.x e32
    have c35 := (h_0_0.mi e32 (by decide)).trans c3
    refine k_get kg242 t34 (congrArg (Sum.inl : Int32 → AvC) c35) ?_
    refine k_iconst (m := 1) rfl (fun x36 h37 => ?_)
    refine k_isub (by omega) (by omega) (fun x38 h39 => ?_)
    have t40 := h_1_0.x e32
    refine k_putI kp64 H31 t40 (Or.inl fk64) (tiC x38).1 (tiC x38).2 (fun σ41 H42 e43 c44 => ?_)
    refine k_aload_n rfl ?_
    have t45 := t34.x e43
    have c46 := (h_0_0.mr e32 (by decide)).trans c14
    have c47 := (t34.mr e43 (by decide)).trans c46
    refine k_get kg240 t45 (congrArg (fun z : Option Nat => (Sum.inr (Sum.inr z) : AvC)) c47) ?_
    have t48 := t16.x e32
    have t49 := t48.x e43
    have c50 := (t16.mr e32 (by decide)).trans c18
    have c51 := (t48.mr e43 (by decide)).trans c50
    refine k_get kg213 t49 (congrArg (fun z : Option Nat => (Sum.inr (Sum.inr z) : AvC)) c51) ?_
    refine k_aload_n rfl ?_
    have l52 := (t20.gh e32).trans l21
    have t54 := t20.x e32
    have l53 := (t54.gh e43).trans l52
    have t55 := t54.x e43
    have t56 := t40.x e43
    have R57 : RdC p0 none (0) (0) (0) σ0 σ30 := (RdC.rf : RdC p0 none 0 0 0 σ0 σ0).tr ⟨(e32.gw H0.1 (by decide)), (e32.cou (u := 0) H0.1 h_0_0 (by decide) (by rw [e32.cn (by decide)]; omega))⟩ (by omega) (by omega) (by omega) (by omega)
    have R58 : RdC p0 none (0) (0) (0) σ0 σ41 := R57.tr ⟨(e43.gw H31.1 (by decide)), (e43.cou (u := 0) H31.1 t34 (by decide) (by rw [e43.cn (by decide)]; omega))⟩ (by omega) (by omega) (by omega) (by omega)
    have c59 := (h_0_0.mi e32 (by decide)).trans c8
    have c60 := (t34.mi e43 (by decide)).trans c59
    have X61 : ExC [0, 1, 2, 64, 65, 999] σ0 σ30 := ExC.rf.tr (e32.mo (by decide))
    have X62 : ExC [0, 1, 2, 64, 65, 999] σ0 σ41 := X61.tr (e43.mo (by decide))
    have B63 : BgC σ41 p0 1 1 := rd_bg.st H0 h_0_0 X62 R58 (by decide) (by omega) (by omega) (by omega)
    obtain ⟨h64, h65⟩ := B63.new H42.1 t45 (u := 1) (by omega) (by omega)
    refine k_inv (P := P_Jx4a65c_add_9ea2d) (Q := Q_Jx4a65c_add_9ea2d) rfl rfl rfl rfl (Nat.le_of_ble_eq_true rfl) (t55.rc (by decide)) ⟨_, _, rfl, H42, t55, (by rw [l53]; exact ⟨t56, by decide, fun hz => absurd hz (by decide)⟩), (B63.sz H42.1 t45 (by omega) (by omega) c47 (by decide) c51), h64, (by omega), (fun hz => absurd (l53.symm.trans hz) (by decide))⟩ (fun w66 σ67 q68 => ?_)
    obtain ⟨x69, rfl, H70, e71, h73, h74, g72, q75, q76, q77, q78, q79⟩ := q68
    have c80 := (t34.mi e43 (by decide)).trans c35
    have c81 := (t45.mi e71 (by decide)).trans c80
    have c82 := (t45.mi e71 (by decide)).trans c60
    have z83 := congrArg Int32.toInt c81
    have z84 := congrArg Int32.toInt c82
    refine k_st (st' := [.inl x69]) rfl ?_
    refine k_popI ?_
    refine k_aload_n rfl ?_
    refine k_areturn ?_
    have X85 : ExC [0, 1, 2, 64, 65, 999] σ0 σ67 := X62.tr (e71.mo (by decide))
    have t86 := t56.x e71
    have R87 : RdC p0 none (1) (1) (1) σ0 σ67 := R58.tr ⟨g72, (e71.cou2 (u := 1) H42.1 t45 (by decide) (by omega) q76)⟩ (by omega) (by omega) (by omega) (by omega)
    have S92 : ∀ s, ReC σ0 p0 s → ReC σ67 p0 ( s) := by
      intro s hs
      have y88 := hs.x H0.1 h_0_0 e32 (by decide)
      have f89 := y88.at_ c35
      have y90 := y88.x H31.1 t34 e43 (by decide)
      have y91 := y90.ad0 H42.1 t45 e71 q78 (by rw [l53]; decide) q79
      refine y91.eq ?_
      try unfold tkY
      repeat (split <;> try (exfalso; omega))
      try unfold dpY
      repeat (split <;> try (exfalso; omega))
      all_goals rfl
    exact ⟨_, rfl, H70, X85, t86, (R87.mo (by omega) (by omega) (by omega)), (by omega), S92⟩
theorem lg_X7_put : ∀ (As : List AvC) (σ : CsC), P_X7_put As σ → lgC As ≤ rX7_put.2.2.1 := by
  rintro As σ ⟨p0, p1, rfl, -⟩
  exact Nat.le_of_ble_eq_true rfl
theorem m_X7_put (l : Launch) : CMetC l 11 161 P_X7_put Q_X7_put :=
  CMetC.of KX7_put [(234, P_Jx4a65c_size_8abf5, Q_Jx4a65c_size_8abf5), (236, P_Jx4a65c_add_9ea2d, Q_Jx4a65c_add_9ea2d)] hX7_put (by decide) (by decide) okX7_put (cc1C (m_Jx4a65c_size_8abf5 l) (by decide) (cc1C (m_Jx4a65c_add_9ea2d l) (by decide) cc0C)) (lg_X7_put) (b_X7_put)

abbrev P_X7_opened : CpC := fun As σ => ∃ (p0 : Nat) (p1 : Int32) (p2 : Int32), As = [.inr (.inr (some p0)), .inl p1, .inl p2] ∧ HIC σ ∧ TyC σ p0 8 ∧ CdC σ p0 ∧ (fIC σ p0 242).toInt ≤ CtC σ p0 ∧ BgC σ p0 (1) (1) ∧ ¬ p1.toInt = 7
abbrev Q_X7_opened : CqC := fun As σ w τ => match As with
  | [.inr (.inr (some p0)), .inl p1, .inl p2] => ∃ r : Nat, w = some (.inr (.inr (some r))) ∧ HIC τ ∧ ExC [60, 61, 62, 63, 66, 67, 68, 999] σ τ ∧ TyC τ r 2 ∧ RdC p0 none (1) (1) (1) σ τ ∧ (cnC σ ≤ r) ∧ (∀ s, ReC σ p0 s → ReC τ p0 ( s))
  | _ => False
set_option maxRecDepth 100000 in
set_option maxHeartbeats 4000000 in
theorem b_X7_opened : TbC KX7_opened [(234, P_Jx4a65c_size_8abf5, Q_Jx4a65c_size_8abf5), (17, P_X1_init, Q_X1_init)] P_X7_opened Q_X7_opened := by
  · rintro As σ0 ⟨p0, p1, p2, rfl, H0, h_0_0, rd_cd, rd_at, rd_bg, q_0⟩ hgr G hB hW
    change G 0 [(0, .inr (.inr (some p0))), (1, .inl p1), (2, .inl p2)] [] σ0
    obtain ⟨x1, e2, c3, h4, h5⟩ := cg242 H0.1 h_0_0
    obtain ⟨x6, e7, c8, h9, h10⟩ := cg243 H0.1 h_0_0
    have z11 := congrArg Int32.toInt c3
    have z12 := congrArg Int32.toInt c8
    refine hB _ _ _ _ (kgoC (is := KX7_opened_0) rfl ?_)
    have B13 : BgC σ0 p0 1 1 := rd_bg.st H0 h_0_0 (ExC.rf : ExC [60, 61, 62, 63, 66, 67, 68, 999] σ0 σ0) (RdC.rf : RdC p0 none 0 0 0 σ0 σ0) (by decide) (by omega) (by omega) (by omega)
    obtain ⟨h14, h15⟩ := B13.new H0.1 h_0_0 (u := 1) (by omega) (by omega)
    have z16 := (RdC.rf : RdC p0 none 0 0 0 σ0 σ0).1.1
    refine k_new (c := 2) (g := 0) H0 (by decide) rfl (by omega) (by have hn : nfC 2 = 18 := rfl; omega) (fun a17 σ18 q19 H20 e21 r22 z23 l24 u25 u26 => ?_)
    rw [show nfC 2 = 18 from rfl] at u26
    have u27 : cpC σ18 = cpC σ0 := congrArg Prod.fst e21.2.1.1
    have u28 : spC σ18 = spC σ0 := congrArg Prod.snd e21.2.1.1
    refine k_dupR ?_
    refine k_iload_n rfl ?_
    refine k_iload_n rfl ?_
    refine k_aload_n rfl ?_
    have t29 := h_0_0.x e21
    have c30 := (h_0_0.mi e21 (by decide)).trans c3
    refine k_get kg242 t29 (congrArg (Sum.inl : Int32 → AvC) c30) ?_
    refine k_aload_n rfl ?_
    obtain ⟨a33, e31, c32, t34⟩ := cg240 H20.1 t29
    refine k_get kg240 t29 e31 ?_
    obtain ⟨a37, e35, c36, t38, l39⟩ := cg213 H20.1 t34
    refine k_get kg213 t34 e35 ?_
    refine k_inv (P := P_Jx4a65c_size_8abf5) (Q := Q_Jx4a65c_size_8abf5) rfl rfl rfl rfl (Nat.le_of_ble_eq_true rfl) (t38.rc (by decide)) ⟨_, rfl, H20, t38⟩ (fun w40 σ41 q42 => ?_)
    obtain ⟨x43, rfl, rfl, h44, h45, q46, q47⟩ := q42
    refine k_st (st' := [.inl x43, .inl x1, .inl p2, .inl p1, .inr (.inr (some a17)), .inr (.inr (some a17))]) rfl ?_
    refine k_spec (P := P_X1_init) (Q := Q_X1_init) rfl rfl rfl rfl (Nat.le_of_ble_eq_true rfl) ⟨_, _, _, _, _, rfl, H20, r22, z23, (by omega), (by omega), (by omega), (by omega), (by omega)⟩ (fun w48 σ49 q50 => ?_)
    obtain ⟨rfl, H51, e52, t53, t53', l54, u55, u56, g57, q59, q60, q61, q62⟩ := q50
    have l58 := l54.trans l24
    have c63 := (t29.mit r22 (by decide) e52 (by decide)).trans c30
    have c64 := (h_0_0.mi e21 (by decide)).trans c8
    have c65 := (t29.mit r22 (by decide) e52 (by decide)).trans c64
    have z66 := congrArg Int32.toInt c63
    have z67 := congrArg Int32.toInt c65
    refine k_st (st' := [.inr (.inr (some a17))]) rfl ?_
    have t68 : TyC σ49 a17 2 := ⟨t53, t53', fun _ hz => by have z1 := congrArg Int32.toInt (q59.symm.trans hz.1); have z2 : (7 : Int32).toInt = 7 := rfl; omega⟩
    refine k_areturn ?_
    have X69 : ExC [60, 61, 62, 63, 66, 67, 68, 999] σ0 σ18 := ExC.rf.tr (e21.mo (by decide))
    have X70 : ExC [60, 61, 62, 63, 66, 67, 68, 999] σ0 σ49 := (X69 : ExC [60, 61, 62, 63, 66, 67, 68, 999] σ0 σ18).nt (Nat.le_of_eq q19.symm) (e52.mo (by decide))
    have X71 : ExC [60, 61, 62, 63, 66, 67, 68, 999] σ0 σ49 := ExC.rf.tr X70
    have R72 : RdC p0 none (1) (1) (1) σ0 σ18 := (RdC.rf : RdC p0 none 0 0 0 σ0 σ0).tr ⟨(e21.gwn H0.1 u25 u26 (by decide) (by rw [← q19]; exact r22.n0)), (e21.cou (u := 1) H0.1 h_0_0 (by decide) (by omega))⟩ (by omega) (by omega) (by omega) (by omega)
    have R73 : RdC p0 none (1) (1) (1) σ0 σ49 := R72.tr ⟨g57, (e52.co (u := 0) H20.1 t29 r22 (by decide) (by omega))⟩ (by omega) (by omega) (by omega) (by omega)
    have S77 : ∀ s, ReC σ0 p0 s → ReC σ49 p0 ( s) := by
      intro s hs
      have y74 := hs.x H0.1 h_0_0 e21 (by decide)
      have f75 := y74.at_ c30
      have y76 := y74.xt H20.1 t29 r22 e52 (by decide)
      refine y76.eq ?_
      try unfold tkY
      repeat (split <;> try (exfalso; omega))
      try unfold dpY
      repeat (split <;> try (exfalso; omega))
      all_goals rfl
    exact ⟨_, rfl, H51, X71, t68, (R73.mo (by omega) (by omega) (by omega)), (by omega), S77⟩
theorem lg_X7_opened : ∀ (As : List AvC) (σ : CsC), P_X7_opened As σ → lgC As ≤ rX7_opened.2.2.1 := by
  rintro As σ ⟨p0, p1, p2, rfl, -⟩
  exact Nat.le_of_ble_eq_true rfl
theorem m_X7_opened (l : Launch) : CMetC l 11 162 P_X7_opened Q_X7_opened :=
  CMetC.of KX7_opened [(234, P_Jx4a65c_size_8abf5, Q_Jx4a65c_size_8abf5), (17, P_X1_init, Q_X1_init)] hX7_opened (by decide) (by decide) okX7_opened (cc1C (m_Jx4a65c_size_8abf5 l) (by decide) (cc1C (m_X1_init l) (by decide) cc0C)) (lg_X7_opened) (b_X7_opened)

abbrev P_X7_putMark : CpC := fun As σ => ∃ (p0 : Nat) (p1 : Int32) (p2 : Int32), As = [.inr (.inr (some p0)), .inl p1, .inl p2] ∧ HIC σ ∧ TyC σ p0 8 ∧ CdC σ p0 ∧ (fIC σ p0 242).toInt ≤ CtC σ p0 ∧ BgC σ p0 (2) (2) ∧ ¬ p1.toInt = 7
abbrev Q_X7_putMark : CqC := fun As σ w τ => match As with
  | [.inr (.inr (some p0)), .inl p1, .inl p2] => ∃ r : Nat, w = some (.inr (.inr (some r))) ∧ HIC τ ∧ ExC [0, 1, 2, 60, 61, 62, 63, 64, 65, 66, 67, 68, 999] σ τ ∧ TyC τ r 2 ∧ RdC p0 none (2) (2) (2) σ τ ∧ (cnC σ ≤ r) ∧ (∀ s, ReC σ p0 s → ReC τ p0 ( s))
  | _ => False
set_option maxRecDepth 100000 in
set_option maxHeartbeats 4000000 in
theorem b_X7_putMark : TbC KX7_putMark [(162, P_X7_opened, Q_X7_opened), (161, P_X7_put, Q_X7_put)] P_X7_putMark Q_X7_putMark := by
  · rintro As σ0 ⟨p0, p1, p2, rfl, H0, h_0_0, rd_cd, rd_at, rd_bg, q_0⟩ hgr G hB hW
    change G 0 [(0, .inr (.inr (some p0))), (1, .inl p1), (2, .inl p2)] [] σ0
    obtain ⟨x1, e2, c3, h4, h5⟩ := cg242 H0.1 h_0_0
    obtain ⟨x6, e7, c8, h9, h10⟩ := cg243 H0.1 h_0_0
    have z11 := congrArg Int32.toInt c3
    have z12 := congrArg Int32.toInt c8
    refine hB _ _ _ _ (kgoC (is := KX7_putMark_0) rfl ?_)
    refine k_aload_n rfl ?_
    refine k_aload_n rfl ?_
    refine k_iload_n rfl ?_
    refine k_iload_n rfl ?_
    refine k_inv (P := P_X7_opened) (Q := Q_X7_opened) rfl rfl rfl rfl (Nat.le_of_ble_eq_true rfl) (h_0_0.rc (by decide)) ⟨_, _, _, rfl, H0, h_0_0, (rd_cd.st H0 h_0_0 (ExC.rf : ExC [0, 1, 2, 60, 61, 62, 63, 64, 65, 66, 67, 68, 999] σ0 σ0) (RdC.rf : RdC p0 none 0 0 0 σ0 σ0).1 (by decide)), ((RdC.rf : RdC p0 none 0 0 0 σ0 σ0).2.2.2.1 rd_at), (rd_bg.st H0 h_0_0 (ExC.rf : ExC [0, 1, 2, 60, 61, 62, 63, 64, 65, 66, 67, 68, 999] σ0 σ0) (RdC.rf : RdC p0 none 0 0 0 σ0 σ0) (by decide) (by omega) (by omega) (by omega)), (by omega)⟩ (fun w13 σ14 q15 => ?_)
    obtain ⟨a16, rfl, H17, e18, h20, R19, q21, q22⟩ := q15
    have c23 := (h_0_0.mi e18 (by decide)).trans c3
    have c24 := (h_0_0.mi e18 (by decide)).trans c8
    have z25 := congrArg Int32.toInt c23
    have z26 := congrArg Int32.toInt c24
    refine k_st (st' := [.inr (.inr (some a16)), .inr (.inr (some p0))]) rfl ?_
    have t27 := h_0_0.x e18
    have R28 : RdC p0 none (1) (1) (1) σ0 σ14 := (RdC.rf : RdC p0 none 0 0 0 σ0 σ0).tr ⟨R19.1, R19.2⟩ (by omega) (by omega) (by omega) (by omega)
    have X29 : ExC [0, 1, 2, 60, 61, 62, 63, 64, 65, 66, 67, 68, 999] σ0 σ14 := ExC.rf.tr (e18.mo (by decide))
    refine k_inv (P := P_X7_put) (Q := Q_X7_put) rfl rfl rfl rfl (Nat.le_of_ble_eq_true rfl) (t27.rc (by decide)) ⟨_, _, rfl, H17, t27, h20, (rd_cd.st H0 h_0_0 X29 R28.1 (by decide)), (R28.2.2.2.1 rd_at), (rd_bg.st H0 h_0_0 X29 R28 (by decide) (by omega) (by omega) (by omega))⟩ (fun w30 σ31 q32 => ?_)
    obtain ⟨a33, rfl, H34, e35, h37, R36, q38, q39⟩ := q32
    have c40 := (t27.mi e35 (by decide)).trans c23
    have c41 := (t27.mi e35 (by decide)).trans c24
    have z42 := congrArg Int32.toInt c40
    have z43 := congrArg Int32.toInt c41
    refine k_st (st' := [.inr (.inr (some a33))]) rfl ?_
    refine k_areturn ?_
    have X44 : ExC [0, 1, 2, 60, 61, 62, 63, 64, 65, 66, 67, 68, 999] σ0 σ31 := X29.tr (e35.mo (by decide))
    have R45 : RdC p0 none (2) (2) (2) σ0 σ31 := R28.tr ⟨R36.1, R36.2⟩ (by omega) (by omega) (by omega) (by omega)
    have S50 : ∀ s, ReC σ0 p0 s → ReC σ31 p0 ( s) := by
      intro s hs
      have y46 := q22 _ hs
      have y48 := q39 _ y46
      refine y48.eq ?_
      try unfold tkY
      repeat (split <;> try (exfalso; omega))
      try unfold dpY
      repeat (split <;> try (exfalso; omega))
      all_goals rfl
    exact ⟨_, rfl, H34, X44, h37, (R45.mo (by omega) (by omega) (by omega)), (by omega), S50⟩
theorem lg_X7_putMark : ∀ (As : List AvC) (σ : CsC), P_X7_putMark As σ → lgC As ≤ rX7_putMark.2.2.1 := by
  rintro As σ ⟨p0, p1, p2, rfl, -⟩
  exact Nat.le_of_ble_eq_true rfl
theorem m_X7_putMark (l : Launch) : CMetC l 12 163 P_X7_putMark Q_X7_putMark :=
  CMetC.of KX7_putMark [(162, P_X7_opened, Q_X7_opened), (161, P_X7_put, Q_X7_put)] hX7_putMark (by decide) (by decide) okX7_putMark (cc1C (m_X7_opened l) (by decide) (cc1C (m_X7_put l) (by decide) cc0C)) (lg_X7_putMark) (b_X7_putMark)
