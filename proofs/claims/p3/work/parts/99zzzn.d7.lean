abbrev P_X7_code : CpC := fun As σ => ∃ (p0 : Nat), As = [.inr (.inr (some p0))] ∧ HIC σ ∧ TyC σ p0 8 ∧ CdC σ p0
abbrev Q_X7_code : CqC := fun As σ w τ => match As with
  | [.inr (.inr (some p0))] => ∃ r : Int32, w = some (.inl r) ∧ σ = τ ∧ (¬ (fIC σ p0 243).toInt = 0 → r.toInt = -1) ∧ ((fIC σ p0 243).toInt = 0 → (fIC σ p0 242).toInt = CtC σ p0 → r.toInt = 84 ∨ r.toInt = 85) ∧ (r.toInt = CkC2 σ p0)
  | _ => False
set_option maxRecDepth 100000 in
set_option maxHeartbeats 4000000 in
theorem m_X7_code (l : Launch) : CMetC l 1 125 P_X7_code Q_X7_code := by
  refine CMetC.of KX7_code [] hX7_code (by decide) (by decide) okX7_code cc0C ?_ ?_
  · rintro As σ ⟨p0, rfl, -⟩
    exact Nat.le_of_ble_eq_true rfl
  · rintro As σ0 ⟨p0, rfl, H0, h_0_0, q_0⟩ hgr G hB hW
    change G 0 [(0, .inr (.inr (some p0)))] [] σ0
    refine hB _ _ _ _ (kgoC (is := KX7_code_0) rfl ?_)
    refine k_aload_n rfl ?_
    obtain ⟨x3, e1, c2, h4, h5⟩ := cg243 H0.1 h_0_0
    refine k_get kg243 h_0_0 e1 ?_
    refine k_if_ne (fun h6 => ?_) (fun h6 => ?_)
    · refine hB _ _ _ _ (kgoC (is := KX7_code_22) rfl ?_)
      refine k_iconst (m := (-1)) rfl (fun x7 h8 => ?_)
      refine k_nil ?_
      refine hB _ _ _ _ (kgoC (is := KX7_code_23) rfl ?_)
      refine k_ireturn (fun hz => absurd hz (by decide)) ?_
      exact ⟨_, rfl, rfl, (by have z := congrArg Int32.toInt c2; omega), (by have z1 := congrArg Int32.toInt c2; intro z2; omega), (CkC2.n H0.1 h_0_0 (by rw [c2]; omega) (by omega))⟩
    · refine k_nil ?_
      refine hB _ _ _ _ (kgoC (is := KX7_code_7) rfl ?_)
      refine k_aload_n rfl ?_
      obtain ⟨a11, e9, c10, t12⟩ := cg241 H0.1 h_0_0
      refine k_get kg241 h_0_0 e9 ?_
      obtain ⟨a15, e13, c14, t16, l17, l18⟩ := cg302 H0.1 t12
      refine k_get kg302 t12 e13 ?_
      refine k_aload_n rfl ?_
      obtain ⟨x21, e19, c20, h22, h23⟩ := cg242 H0.1 h_0_0
      refine k_get kg242 h_0_0 e19 ?_
      refine k_ialoadE t16 (by omega) (by omega) (fun x24 c25 => ?_)
      refine k_goto ?_
      refine hB _ _ _ _ (kgoC (is := KX7_code_23) rfl ?_)
      refine k_ireturn (fun hz => absurd hz (by decide)) ?_
      exact ⟨_, rfl, rfl, (by have z := congrArg Int32.toInt c2; omega), (by intro _ z2; rw [c20] at z2; have z3 := CdC.code q_0 (x := x21) c10 c14 (by omega); rw [c25] at z3; omega), (CkC2.y c10 c14 c20 (by rw [c2]; omega) c25)⟩

abbrev P_X7_codeBehind : CpC := fun As σ => ∃ (p0 : Nat), As = [.inr (.inr (some p0))] ∧ HIC σ ∧ TyC σ p0 8 ∧ CdC σ p0
abbrev Q_X7_codeBehind : CqC := fun As σ w τ => match As with
  | [.inr (.inr (some p0))] => ∃ r : Int32, w = some (.inl r) ∧ σ = τ ∧ (¬ (fIC σ p0 243).toInt = 0 → r.toInt = -1) ∧ ((fIC σ p0 243).toInt = 0 → (fIC σ p0 242).toInt + 1 = CtC σ p0 → r.toInt = 84 ∨ r.toInt = 85 ∨ r.toInt = -1)
  | _ => False
set_option maxRecDepth 100000 in
set_option maxHeartbeats 4000000 in
theorem m_X7_codeBehind (l : Launch) : CMetC l 1 126 P_X7_codeBehind Q_X7_codeBehind := by
  refine CMetC.of KX7_codeBehind [] hX7_codeBehind (by decide) (by decide) okX7_codeBehind cc0C ?_ ?_
  · rintro As σ ⟨p0, rfl, -⟩
    exact Nat.le_of_ble_eq_true rfl
  · rintro As σ0 ⟨p0, rfl, H0, h_0_0, q_0⟩ hgr G hB hW
    change G 0 [(0, .inr (.inr (some p0)))] [] σ0
    refine hB _ _ _ _ (kgoC (is := KX7_codeBehind_0) rfl ?_)
    refine k_aload_n rfl ?_
    obtain ⟨x3, e1, c2, h4, h5⟩ := cg243 H0.1 h_0_0
    refine k_get kg243 h_0_0 e1 ?_
    refine k_if_ne (fun h6 => ?_) (fun h6 => ?_)
    · refine hB _ _ _ _ (kgoC (is := KX7_codeBehind_34) rfl ?_)
      refine k_iconst (m := (-1)) rfl (fun x7 h8 => ?_)
      refine k_nil ?_
      refine hB _ _ _ _ (kgoC (is := KX7_codeBehind_35) rfl ?_)
      refine k_ireturn (fun hz => absurd hz (by decide)) ?_
      exact ⟨_, rfl, rfl, (by have z := congrArg Int32.toInt c2; omega), (by omega)⟩
    · refine k_nil ?_
      refine hB _ _ _ _ (kgoC (is := KX7_codeBehind_7) rfl ?_)
      refine k_aload_n rfl ?_
      obtain ⟨x11, e9, c10, h12, h13⟩ := cg242 H0.1 h_0_0
      refine k_get kg242 h_0_0 e9 ?_
      refine k_sipush (m := 500) rfl (fun x14 h15 => ?_)
      refine k_ic_ge (fun h16 => ?_) (fun h16 => ?_)
      · refine hB _ _ _ _ (kgoC (is := KX7_codeBehind_34) rfl ?_)
        refine k_iconst (m := (-1)) rfl (fun x17 h18 => ?_)
        refine k_nil ?_
        refine hB _ _ _ _ (kgoC (is := KX7_codeBehind_35) rfl ?_)
        refine k_ireturn (fun hz => absurd hz (by decide)) ?_
        exact ⟨_, rfl, rfl, (by have z := congrArg Int32.toInt c2; omega), (by omega)⟩
      · refine k_nil ?_
        refine hB _ _ _ _ (kgoC (is := KX7_codeBehind_17) rfl ?_)
        refine k_aload_n rfl ?_
        obtain ⟨a21, e19, c20, t22⟩ := cg241 H0.1 h_0_0
        refine k_get kg241 h_0_0 e19 ?_
        obtain ⟨a25, e23, c24, t26, l27, l28⟩ := cg302 H0.1 t22
        refine k_get kg302 t22 e23 ?_
        refine k_aload_n rfl ?_
        refine k_get kg242 h_0_0 (congrArg (Sum.inl : Int32 → AvC) c10) ?_
        refine k_iconst (m := 1) rfl (fun x29 h30 => ?_)
        refine k_iadd (by omega) (by omega) (fun x31 h32 => ?_)
        refine k_ialoadE t26 (by omega) (by omega) (fun x33 c34 => ?_)
        refine k_goto ?_
        refine hB _ _ _ _ (kgoC (is := KX7_codeBehind_35) rfl ?_)
        refine k_ireturn (fun hz => absurd hz (by decide)) ?_
        exact ⟨_, rfl, rfl, (by have z := congrArg Int32.toInt c2; omega), (by intro _ z2; rw [c10] at z2; have z3 := CdC.code q_0 (x := x31) c20 c24 (by omega); rw [c34] at z3; omega)⟩

abbrev P_X7_raise : CpC := fun As σ => ∃ (p0 : Nat) (p1 : Int32), As = [.inr (.inr (some p0)), .inl p1] ∧ HIC σ ∧ TyC σ p0 8 ∧ 1 ≤ p1.toInt ∧ p1.toInt ≤ 3 ∧ CdC σ p0 ∧ (fIC σ p0 242).toInt ≤ CtC σ p0 ∧ BgC σ p0 (0) (0)
abbrev Q_X7_raise : CqC := fun As σ w τ => match As with
  | [.inr (.inr (some p0)), .inl p1] => w = none ∧ HIC τ ∧ ExC [243, 244] σ τ ∧ RdC p0 none (0) (0) (0) σ τ ∧ (¬ (fIC τ p0 243).toInt = 0)
  | _ => False
set_option maxRecDepth 100000 in
set_option maxHeartbeats 4000000 in
theorem m_X7_raise (l : Launch) : CMetC l 1 127 P_X7_raise Q_X7_raise := by
  refine CMetC.of KX7_raise [] hX7_raise (by decide) (by decide) okX7_raise cc0C ?_ ?_
  · rintro As σ ⟨p0, p1, rfl, -⟩
    exact Nat.le_of_ble_eq_true rfl
  · rintro As σ0 ⟨p0, p1, rfl, H0, h_0_0, h_1_0, h_1_1, rd_cd, rd_at, rd_bg⟩ hgr G hB hW
    change G 0 [(0, .inr (.inr (some p0))), (1, .inl p1)] [] σ0
    obtain ⟨x1, e2, c3, h4, h5⟩ := cg242 H0.1 h_0_0
    obtain ⟨x6, e7, c8, h9, h10⟩ := cg243 H0.1 h_0_0
    have z11 := congrArg Int32.toInt c3
    have z12 := congrArg Int32.toInt c8
    refine hB _ _ _ _ (kgoC (is := KX7_raise_0) rfl ?_)
    refine k_aload_n rfl ?_
    refine k_get kg243 h_0_0 (congrArg (Sum.inl : Int32 → AvC) c8) ?_
    refine k_if_ne (fun h13 => ?_) (fun h13 => ?_)
    · refine hB _ _ _ _ (kgoC (is := KX7_raise_49) rfl ?_)
      refine k_return ?_
      exact ⟨rfl, H0, (ExC.rf : ExC [243, 244] σ0 σ0), (((RdC.rf : RdC p0 none 0 0 0 σ0 σ0).ft (0) (by rw [c8]; omega)).mo (by omega) (by omega) (by omega)), (by rw [c8]; omega)⟩
    · refine k_nil ?_
      refine hB _ _ _ _ (kgoC (is := KX7_raise_7) rfl ?_)
      refine k_aload_n rfl ?_
      refine k_aload_n rfl ?_
      obtain ⟨a16, e14, c15, t17⟩ := cg241 H0.1 h_0_0
      refine k_get kg241 h_0_0 e14 ?_
      obtain ⟨a20, e18, c19, t21, l22, l23⟩ := cg302 H0.1 t17
      refine k_get kg302 t17 e18 ?_
      refine k_aload_n rfl ?_
      refine k_get kg242 h_0_0 (congrArg (Sum.inl : Int32 → AvC) c3) ?_
      refine k_iaload t21 (by omega) (by omega) (fun x24 => ?_)
      refine k_bipush (m := 85) rfl (fun x25 h26 => ?_)
      refine k_ic_ne (fun h27 => ?_) (fun h27 => ?_)
      · refine hB _ _ _ _ (kgoC (is := KX7_raise_29) rfl ?_)
        refine k_iload_n rfl ?_
        refine k_nil ?_
        refine hB _ _ _ _ (kgoC (is := KX7_raise_30) rfl ?_)
        refine k_putI kp243 H0 h_0_0 (Or.inl fk243) (by show 0 ≤ _; omega) (by show _ ≤ 3; omega) (fun σ28 H29 e30 c31 => ?_)
        have R32 := (RdC.rf : RdC p0 none 0 0 0 σ0 σ0).nf (-1000) (-1000) (by rw [c8]; omega)
        have c33 := (h_0_0.mi e30 (by decide)).trans c3
        have z34 := congrArg Int32.toInt c33
        have z35 := congrArg Int32.toInt c31
        refine k_aload_n rfl ?_
        refine k_aload_n rfl ?_
        have t36 := h_0_0.x e30
        have c37 := (h_0_0.mr e30 (by decide)).trans c15
        refine k_get kg241 t36 (congrArg (fun z : Option Nat => (Sum.inr (Sum.inr z) : AvC)) c37) ?_
        have t38 := t17.x e30
        obtain ⟨a41, e39, c40, t42, l43, l44⟩ := cg300 H29.1 t38
        refine k_get kg300 t38 e39 ?_
        refine k_aload_n rfl ?_
        refine k_get kg242 t36 (congrArg (Sum.inl : Int32 → AvC) c33) ?_
        refine k_iaload t42 (by omega) (by omega) (fun x45 => ?_)
        refine k_putI kp244 H29 t36 (Or.inl fk244) (tiC x45).1 (tiC x45).2 (fun σ46 H47 e48 c49 => ?_)
        refine k_nil ?_
        refine hB _ _ _ _ (kgoC (is := KX7_raise_49) rfl ?_)
        refine k_return ?_
        have X50 : ExC [243, 244] σ0 σ28 := ExC.rf.tr (e30.mo (by decide))
        have X51 : ExC [243, 244] σ0 σ46 := X50.tr (e48.mo (by decide))
        have R52 : RdC p0 none (0) (0) (-1000) σ0 σ28 := R32.tr ⟨(e30.gw H0.1 (by decide)), (e30.c243 H0.1 h_0_0 (by rw [c8]; omega) (by rw [c31]; omega))⟩ (by omega) (by omega) (by omega) (by omega)
        have R53 : RdC p0 none (0) (0) (-1000) σ0 σ46 := R52.tr ⟨(e48.gw H29.1 (by decide)), (e48.cou (u := 0) H29.1 t36 (by decide) (by rw [e48.cn (by decide)]; omega))⟩ (by omega) (by omega) (by omega) (by omega)
        have c54 := (t36.mi e48 (by decide)).trans c31
        have c55 := (t36.mi e48 (by decide)).trans c33
        exact ⟨rfl, H47, X51, ((R53.ft (0) (by rw [c54]; omega)).mo (by omega) (by omega) (by omega)), (by rw [c54]; omega)⟩
      · refine k_nil ?_
        refine hB _ _ _ _ (kgoC (is := KX7_raise_25) rfl ?_)
        refine k_iconst (m := 1) rfl (fun x56 h57 => ?_)
        refine k_goto ?_
        refine hB _ _ _ _ (kgoC (is := KX7_raise_30) rfl ?_)
        refine k_putI kp243 H0 h_0_0 (Or.inl fk243) (by show 0 ≤ _; omega) (by show _ ≤ 3; omega) (fun σ58 H59 e60 c61 => ?_)
        have R62 := (RdC.rf : RdC p0 none 0 0 0 σ0 σ0).nf (-1000) (-1000) (by rw [c8]; omega)
        have c63 := (h_0_0.mi e60 (by decide)).trans c3
        have z64 := congrArg Int32.toInt c63
        have z65 := congrArg Int32.toInt c61
        refine k_aload_n rfl ?_
        refine k_aload_n rfl ?_
        have t66 := h_0_0.x e60
        have c67 := (h_0_0.mr e60 (by decide)).trans c15
        refine k_get kg241 t66 (congrArg (fun z : Option Nat => (Sum.inr (Sum.inr z) : AvC)) c67) ?_
        have t68 := t17.x e60
        obtain ⟨a71, e69, c70, t72, l73, l74⟩ := cg300 H59.1 t68
        refine k_get kg300 t68 e69 ?_
        refine k_aload_n rfl ?_
        refine k_get kg242 t66 (congrArg (Sum.inl : Int32 → AvC) c63) ?_
        refine k_iaload t72 (by omega) (by omega) (fun x75 => ?_)
        refine k_putI kp244 H59 t66 (Or.inl fk244) (tiC x75).1 (tiC x75).2 (fun σ76 H77 e78 c79 => ?_)
        refine k_nil ?_
        refine hB _ _ _ _ (kgoC (is := KX7_raise_49) rfl ?_)
        refine k_return ?_
        have X80 : ExC [243, 244] σ0 σ58 := ExC.rf.tr (e60.mo (by decide))
        have X81 : ExC [243, 244] σ0 σ76 := X80.tr (e78.mo (by decide))
        have R82 : RdC p0 none (0) (0) (-1000) σ0 σ58 := R62.tr ⟨(e60.gw H0.1 (by decide)), (e60.c243 H0.1 h_0_0 (by rw [c8]; omega) (by rw [c61]; omega))⟩ (by omega) (by omega) (by omega) (by omega)
        have R83 : RdC p0 none (0) (0) (-1000) σ0 σ76 := R82.tr ⟨(e78.gw H59.1 (by decide)), (e78.cou (u := 0) H59.1 t66 (by decide) (by rw [e78.cn (by decide)]; omega))⟩ (by omega) (by omega) (by omega) (by omega)
        have c84 := (t66.mi e78 (by decide)).trans c61
        have c85 := (t66.mi e78 (by decide)).trans c63
        exact ⟨rfl, H77, X81, ((R83.ft (0) (by rw [c84]; omega)).mo (by omega) (by omega) (by omega)), (by rw [c84]; omega)⟩

abbrev P_X7_accept : CpC := fun As σ => ∃ (p0 : Nat), As = [.inr (.inr (some p0))] ∧ HIC σ ∧ TyC σ p0 8 ∧ CdC σ p0 ∧ (fIC σ p0 242).toInt ≤ CtC σ p0 ∧ BgC σ p0 (0) (0) ∧ ((fIC σ p0 243).toInt = 0 → (fIC σ p0 242).toInt + 1 ≤ CtC σ p0)
abbrev Q_X7_accept : CqC := fun As σ w τ => match As with
  | [.inr (.inr (some p0))] => w = none ∧ HIC τ ∧ ExC [242, 243, 244] σ τ ∧ RdC p0 none (-8) (0) (0) σ τ ∧ ((fIC τ p0 243).toInt = 0 → (fIC τ p0 242).toInt = (fIC σ p0 242).toInt + 1)
  | _ => False
set_option maxRecDepth 100000 in
set_option maxHeartbeats 4000000 in
theorem m_X7_accept (l : Launch) : CMetC l 2 128 P_X7_accept Q_X7_accept := by
  refine CMetC.of KX7_accept [(127, P_X7_raise, Q_X7_raise)] hX7_accept (by decide) (by decide) okX7_accept (cc1C (m_X7_raise l) (by decide) cc0C) ?_ ?_
  · rintro As σ ⟨p0, rfl, -⟩
    exact Nat.le_of_ble_eq_true rfl
  · rintro As σ0 ⟨p0, rfl, H0, h_0_0, rd_cd, rd_at, rd_bg, rd_tk⟩ hgr G hB hW
    change G 0 [(0, .inr (.inr (some p0)))] [] σ0
    obtain ⟨x1, e2, c3, h4, h5⟩ := cg242 H0.1 h_0_0
    obtain ⟨x6, e7, c8, h9, h10⟩ := cg243 H0.1 h_0_0
    have z11 := congrArg Int32.toInt c3
    have z12 := congrArg Int32.toInt c8
    refine hB _ _ _ _ (kgoC (is := KX7_accept_0) rfl ?_)
    refine k_aload_n rfl ?_
    refine k_get kg242 h_0_0 (congrArg (Sum.inl : Int32 → AvC) c3) ?_
    refine k_sipush (m := 500) rfl (fun x13 h14 => ?_)
    refine k_ic_lt (fun h15 => ?_) (fun h15 => ?_)
    · refine hB _ _ _ _ (kgoC (is := KX7_accept_18) rfl ?_)
      refine k_aload_n rfl ?_
      refine k_get kg243 h_0_0 (congrArg (Sum.inl : Int32 → AvC) c8) ?_
      refine k_if_ne (fun h16 => ?_) (fun h16 => ?_)
      · refine hB _ _ _ _ (kgoC (is := KX7_accept_35) rfl ?_)
        refine k_return ?_
        exact ⟨rfl, H0, (ExC.rf : ExC [242, 243, 244] σ0 σ0), (((RdC.rf : RdC p0 none 0 0 0 σ0 σ0).ft (-8) (by rw [c8]; omega)).mo (by omega) (by omega) (by omega)), (by rw [c8, c3]; omega)⟩
      · refine k_nil ?_
        refine hB _ _ _ _ (kgoC (is := KX7_accept_25) rfl ?_)
        refine k_aload_n rfl ?_
        refine k_dupR ?_
        refine k_get kg242 h_0_0 (congrArg (Sum.inl : Int32 → AvC) c3) ?_
        refine k_iconst (m := 1) rfl (fun x17 h18 => ?_)
        refine k_iadd (by omega) (by omega) (fun x19 h20 => ?_)
        refine k_putI kp242 H0 h_0_0 (Or.inl fk242) (by show 0 ≤ _; omega) (by show _ ≤ 500; omega) (fun σ21 H22 e23 c24 => ?_)
        have R25 := (RdC.rf : RdC p0 none 0 0 0 σ0 σ0).nf (-1000) (-1000) (by rw [c8]; omega)
        have c26 := (h_0_0.mi e23 (by decide)).trans c8
        have z27 := congrArg Int32.toInt c24
        have z28 := congrArg Int32.toInt c26
        refine k_nil ?_
        refine hB _ _ _ _ (kgoC (is := KX7_accept_35) rfl ?_)
        refine k_return ?_
        have X29 : ExC [242, 243, 244] σ0 σ21 := ExC.rf.tr (e23.mo (by decide))
        have R30 : RdC p0 none (-8) (0) (-1000) σ0 σ21 := R25.tr ⟨(e23.gw H0.1 (by decide)), (e23.c242 H0.1 h_0_0 (by rw [c8]; omega) (by rw [c24, c3]; omega) (by have ct := R25.2.2.1; rw [c3, ct]; omega))⟩ (by omega) (by omega) (by omega) (by omega)
        have R31 := R30.nf (-1000) (-1000) (by rw [c26]; omega)
        exact ⟨rfl, H22, X29, ((R31.nf (0) (0) (by rw [c26]; omega)).mo (by omega) (by omega) (by omega)), (by rw [c26, c24]; omega)⟩
    · refine k_nil ?_
      refine hB _ _ _ _ (kgoC (is := KX7_accept_10) rfl ?_)
      refine k_aload_n rfl ?_
      refine k_iconst (m := 3) rfl (fun x32 h33 => ?_)
      refine k_inv (P := P_X7_raise) (Q := Q_X7_raise) rfl rfl rfl rfl (Nat.le_of_ble_eq_true rfl) (h_0_0.rc (by decide)) ⟨_, _, rfl, H0, h_0_0, (by omega), (by omega), (rd_cd.st H0 h_0_0 (ExC.rf : ExC [242, 243, 244] σ0 σ0) (RdC.rf : RdC p0 none 0 0 0 σ0 σ0).1 (by decide)), ((RdC.rf : RdC p0 none 0 0 0 σ0 σ0).2.2.2.1 rd_at), (rd_bg.st H0 h_0_0 (ExC.rf : ExC [242, 243, 244] σ0 σ0) (RdC.rf : RdC p0 none 0 0 0 σ0 σ0) (by decide) (by omega) (by omega) (by omega))⟩ (fun w34 σ35 q36 => ?_)
      obtain ⟨rfl, H37, e38, R39, q40⟩ := q36
      have c41 := (h_0_0.mi e38 (by decide)).trans c3
      have t47 := h_0_0.x e38
      obtain ⟨x42, e43, c44, h45, h46⟩ := cg243 H37.1 t47
      have z48 := congrArg Int32.toInt c41
      have z49 := congrArg Int32.toInt c44
      refine k_st (st' := []) rfl ?_
      have h50 : 1 ≤ x42.toInt := by have hq := q40; rw [c44] at hq; omega
      refine k_goto ?_
      refine hB _ _ _ _ (kgoC (is := KX7_accept_35) rfl ?_)
      refine k_return ?_
      have X51 : ExC [242, 243, 244] σ0 σ35 := ExC.rf.tr (e38.mo (by decide))
      have R52 : RdC p0 none (0) (0) (0) σ0 σ35 := (RdC.rf : RdC p0 none 0 0 0 σ0 σ0).tr ⟨R39.1, R39.2⟩ (by omega) (by omega) (by omega) (by omega)
      exact ⟨rfl, H37, X51, ((R52.ft (-8) (by rw [c44]; omega)).mo (by omega) (by omega) (by omega)), (by rw [c44, c41]; omega)⟩

abbrev P_X7_expect : CpC := fun As σ => ∃ (p0 : Nat) (p1 : Int32), As = [.inr (.inr (some p0)), .inl p1] ∧ HIC σ ∧ TyC σ p0 8 ∧ 0 ≤ p1.toInt ∧ p1.toInt ≤ 83 ∧ CdC σ p0 ∧ (fIC σ p0 242).toInt ≤ CtC σ p0 ∧ BgC σ p0 (0) (0)
abbrev Q_X7_expect : CqC := fun As σ w τ => match As with
  | [.inr (.inr (some p0)), .inl p1] => w = none ∧ HIC τ ∧ ExC [242, 243, 244] σ τ ∧ RdC p0 none (-8) (0) (0) σ τ ∧ ((fIC τ p0 243).toInt = 0 → (fIC τ p0 242).toInt = (fIC σ p0 242).toInt + 1)
  | _ => False
set_option maxRecDepth 100000 in
set_option maxHeartbeats 4000000 in
theorem m_X7_expect (l : Launch) : CMetC l 3 129 P_X7_expect Q_X7_expect := by
  refine CMetC.of KX7_expect [(125, P_X7_code, Q_X7_code), (127, P_X7_raise, Q_X7_raise), (128, P_X7_accept, Q_X7_accept)] hX7_expect (by decide) (by decide) okX7_expect (cc1C (m_X7_code l) (by decide) (cc1C (m_X7_raise l) (by decide) (cc1C (m_X7_accept l) (by decide) cc0C))) ?_ ?_
  · rintro As σ ⟨p0, p1, rfl, -⟩
    exact Nat.le_of_ble_eq_true rfl
  · rintro As σ0 ⟨p0, p1, rfl, H0, h_0_0, h_1_0, h_1_1, rd_cd, rd_at, rd_bg⟩ hgr G hB hW
    change G 0 [(0, .inr (.inr (some p0))), (1, .inl p1)] [] σ0
    obtain ⟨x1, e2, c3, h4, h5⟩ := cg242 H0.1 h_0_0
    obtain ⟨x6, e7, c8, h9, h10⟩ := cg243 H0.1 h_0_0
    have z11 := congrArg Int32.toInt c3
    have z12 := congrArg Int32.toInt c8
    refine hB _ _ _ _ (kgoC (is := KX7_expect_0) rfl ?_)
    refine k_aload_n rfl ?_
    refine k_inv (P := P_X7_code) (Q := Q_X7_code) rfl rfl rfl rfl (Nat.le_of_ble_eq_true rfl) (h_0_0.rc (by decide)) ⟨_, rfl, H0, h_0_0, (rd_cd.st H0 h_0_0 (ExC.rf : ExC [242, 243, 244] σ0 σ0) (RdC.rf : RdC p0 none 0 0 0 σ0 σ0).1 (by decide))⟩ (fun w13 σ14 q15 => ?_)
    obtain ⟨x16, rfl, rfl, q17, q18, q19⟩ := q15
    refine k_st (st' := [.inl x16]) rfl ?_
    have z20 := (RdC.rf : RdC p0 none 0 0 0 σ0 σ0).2.2.1
    have z21 := (RdC.rf : RdC p0 none 0 0 0 σ0 σ0).2.2.2.1 rd_at
    refine k_iload_n rfl ?_
    refine k_ic_ne (fun h22 => ?_) (fun h22 => ?_)
    · refine hB _ _ _ _ (kgoC (is := KX7_expect_15) rfl ?_)
      refine k_aload_n rfl ?_
      refine k_iconst (m := 2) rfl (fun x23 h24 => ?_)
      refine k_inv (P := P_X7_raise) (Q := Q_X7_raise) rfl rfl rfl rfl (Nat.le_of_ble_eq_true rfl) (h_0_0.rc (by decide)) ⟨_, _, rfl, H0, h_0_0, (by omega), (by omega), (rd_cd.st H0 h_0_0 (ExC.rf : ExC [242, 243, 244] σ0 σ0) (RdC.rf : RdC p0 none 0 0 0 σ0 σ0).1 (by decide)), ((RdC.rf : RdC p0 none 0 0 0 σ0 σ0).2.2.2.1 rd_at), (rd_bg.st H0 h_0_0 (ExC.rf : ExC [242, 243, 244] σ0 σ0) (RdC.rf : RdC p0 none 0 0 0 σ0 σ0) (by decide) (by omega) (by omega) (by omega))⟩ (fun w25 σ26 q27 => ?_)
      obtain ⟨rfl, H28, e29, R30, q31⟩ := q27
      have c32 := (h_0_0.mi e29 (by decide)).trans c3
      have t38 := h_0_0.x e29
      obtain ⟨x33, e34, c35, h36, h37⟩ := cg243 H28.1 t38
      have z39 := congrArg Int32.toInt c32
      have z40 := congrArg Int32.toInt c35
      refine k_st (st' := []) rfl ?_
      have h41 : 1 ≤ x33.toInt := by have hq := q31; rw [c35] at hq; omega
      refine k_nil ?_
      refine hB _ _ _ _ (kgoC (is := KX7_expect_20) rfl ?_)
      refine k_return ?_
      have X42 : ExC [242, 243, 244] σ0 σ26 := ExC.rf.tr (e29.mo (by decide))
      have R43 : RdC p0 none (0) (0) (0) σ0 σ26 := (RdC.rf : RdC p0 none 0 0 0 σ0 σ0).tr ⟨R30.1, R30.2⟩ (by omega) (by omega) (by omega) (by omega)
      exact ⟨rfl, H28, X42, ((R43.ft (-8) (by rw [c35]; omega)).mo (by omega) (by omega) (by omega)), (by rw [c35, c32]; omega)⟩
    · have h44 : x6.toInt = 0 := by omega
      refine k_nil ?_
      refine hB _ _ _ _ (kgoC (is := KX7_expect_8) rfl ?_)
      refine k_aload_n rfl ?_
      have R45 := (RdC.rf : RdC p0 none 0 0 0 σ0 σ0).nf (-1000) (-1000) (by rw [c8]; omega)
      refine k_inv (P := P_X7_accept) (Q := Q_X7_accept) rfl rfl rfl rfl (Nat.le_of_ble_eq_true rfl) (h_0_0.rc (by decide)) ⟨_, rfl, H0, h_0_0, (rd_cd.st H0 h_0_0 (ExC.rf : ExC [242, 243, 244] σ0 σ0) R45.1 (by decide)), (R45.2.2.2.1 rd_at), (rd_bg.stn H0 h_0_0 (ExC.rf : ExC [242, 243, 244] σ0 σ0) R45 (by decide) (by rw [c8]; omega) (by omega)), (by have ct := R45.2.2.1; rw [c8, c3, ct]; omega)⟩ (fun w46 σ47 q48 => ?_)
      obtain ⟨rfl, H49, e50, R51, q52⟩ := q48
      have t58 := h_0_0.x e50
      obtain ⟨x53, e54, c55, h56, h57⟩ := cg242 H49.1 t58
      obtain ⟨x59, e60, c61, h62, h63⟩ := cg243 H49.1 t58
      have z64 := congrArg Int32.toInt c55
      have z65 := congrArg Int32.toInt c61
      refine k_st (st' := []) rfl ?_
      have R66 : RdC p0 none (-8) (0) (-1000) σ0 σ47 := R45.tr ⟨R51.1, R51.2⟩ (by omega) (by omega) (by omega) (by omega)
      have z67 := R66.2.2.1
      have z68 := R66.2.2.2.1 rd_at
      refine k_goto ?_
      refine hB _ _ _ _ (kgoC (is := KX7_expect_20) rfl ?_)
      refine k_return ?_
      have X69 : ExC [242, 243, 244] σ0 σ47 := ExC.rf.tr (e50.mo (by decide))
      exact ⟨rfl, H49, X69, (R66.mo (by omega) (by omega) (by omega)), (by rw [c61, c55]; omega)⟩

abbrev P_X7_takes : CpC := fun As σ => ∃ (p0 : Nat) (p1 : Int32), As = [.inr (.inr (some p0)), .inl p1] ∧ HIC σ ∧ TyC σ p0 8 ∧ 0 ≤ p1.toInt ∧ p1.toInt ≤ 83 ∧ CdC σ p0 ∧ (fIC σ p0 242).toInt ≤ CtC σ p0 ∧ BgC σ p0 (0) (0)
abbrev Q_X7_takes : CqC := fun As σ w τ => match As with
  | [.inr (.inr (some p0)), .inl p1] => ∃ r : Int32, w = some (.inl r) ∧ HIC τ ∧ ExC [242, 243, 244] σ τ ∧ 0 ≤ r.toInt ∧ r.toInt ≤ 1 ∧ RdC p0 none (0) (0) (0) σ τ ∧ (r.toInt = 1 → (fIC σ p0 243).toInt = 0 ∧ RdC p0 none (-8) 0 0 σ τ)
  | _ => False
set_option maxRecDepth 100000 in
set_option maxHeartbeats 4000000 in
theorem m_X7_takes (l : Launch) : CMetC l 3 130 P_X7_takes Q_X7_takes := by
  refine CMetC.of KX7_takes [(125, P_X7_code, Q_X7_code), (128, P_X7_accept, Q_X7_accept)] hX7_takes (by decide) (by decide) okX7_takes (cc1C (m_X7_code l) (by decide) (cc1C (m_X7_accept l) (by decide) cc0C)) ?_ ?_
  · rintro As σ ⟨p0, p1, rfl, -⟩
    exact Nat.le_of_ble_eq_true rfl
  · rintro As σ0 ⟨p0, p1, rfl, H0, h_0_0, h_1_0, h_1_1, rd_cd, rd_at, rd_bg⟩ hgr G hB hW
    change G 0 [(0, .inr (.inr (some p0))), (1, .inl p1)] [] σ0
    obtain ⟨x1, e2, c3, h4, h5⟩ := cg242 H0.1 h_0_0
    obtain ⟨x6, e7, c8, h9, h10⟩ := cg243 H0.1 h_0_0
    have z11 := congrArg Int32.toInt c3
    have z12 := congrArg Int32.toInt c8
    refine hB _ _ _ _ (kgoC (is := KX7_takes_0) rfl ?_)
    refine k_aload_n rfl ?_
    refine k_inv (P := P_X7_code) (Q := Q_X7_code) rfl rfl rfl rfl (Nat.le_of_ble_eq_true rfl) (h_0_0.rc (by decide)) ⟨_, rfl, H0, h_0_0, (rd_cd.st H0 h_0_0 (ExC.rf : ExC [242, 243, 244] σ0 σ0) (RdC.rf : RdC p0 none 0 0 0 σ0 σ0).1 (by decide))⟩ (fun w13 σ14 q15 => ?_)
    obtain ⟨x16, rfl, rfl, q17, q18, q19⟩ := q15
    refine k_st (st' := [.inl x16]) rfl ?_
    have z20 := (RdC.rf : RdC p0 none 0 0 0 σ0 σ0).2.2.1
    have z21 := (RdC.rf : RdC p0 none 0 0 0 σ0 σ0).2.2.2.1 rd_at
    refine k_iload_n rfl ?_
    refine k_ic_eq (fun h22 => ?_) (fun h22 => ?_)
    · have h23 : x6.toInt = 0 := by omega
      refine hB _ _ _ _ (kgoC (is := KX7_takes_10) rfl ?_)
      refine k_aload_n rfl ?_
      have R24 := (RdC.rf : RdC p0 none 0 0 0 σ0 σ0).nf (-1000) (-1000) (by rw [c8]; omega)
      refine k_inv (P := P_X7_accept) (Q := Q_X7_accept) rfl rfl rfl rfl (Nat.le_of_ble_eq_true rfl) (h_0_0.rc (by decide)) ⟨_, rfl, H0, h_0_0, (rd_cd.st H0 h_0_0 (ExC.rf : ExC [242, 243, 244] σ0 σ0) R24.1 (by decide)), (R24.2.2.2.1 rd_at), (rd_bg.stn H0 h_0_0 (ExC.rf : ExC [242, 243, 244] σ0 σ0) R24 (by decide) (by rw [c8]; omega) (by omega)), (by have ct := R24.2.2.1; rw [c8, c3, ct]; omega)⟩ (fun w25 σ26 q27 => ?_)
      obtain ⟨rfl, H28, e29, R30, q31⟩ := q27
      have t37 := h_0_0.x e29
      obtain ⟨x32, e33, c34, h35, h36⟩ := cg242 H28.1 t37
      obtain ⟨x38, e39, c40, h41, h42⟩ := cg243 H28.1 t37
      have z43 := congrArg Int32.toInt c34
      have z44 := congrArg Int32.toInt c40
      refine k_st (st' := []) rfl ?_
      have R45 : RdC p0 none (-8) (0) (-1000) σ0 σ26 := R24.tr ⟨R30.1, R30.2⟩ (by omega) (by omega) (by omega) (by omega)
      have z46 := R45.2.2.1
      have z47 := R45.2.2.2.1 rd_at
      refine k_iconst (m := 1) rfl (fun x48 h49 => ?_)
      refine k_ireturn (fun _ => b01C (by omega) (by omega)) ?_
      have X50 : ExC [242, 243, 244] σ0 σ26 := ExC.rf.tr (e29.mo (by decide))
      exact ⟨_, rfl, H28, X50, (by omega), (by omega), (R45.mo (by omega) (by omega) (by omega)), (fun _ => ⟨by omega, R45.mo (by omega) (by omega) (by omega)⟩)⟩
    · refine k_nil ?_
      refine hB _ _ _ _ (kgoC (is := KX7_takes_8) rfl ?_)
      refine k_iconst (m := 0) rfl (fun x51 h52 => ?_)
      refine k_ireturn (fun _ => b01C (by omega) (by omega)) ?_
      exact ⟨_, rfl, H0, (ExC.rf : ExC [242, 243, 244] σ0 σ0), (by omega), (by omega), ((RdC.rf : RdC p0 none 0 0 0 σ0 σ0).mo (by omega) (by omega) (by omega)), (fun hz => by exfalso; omega)⟩

abbrev P_X7_isTooDeep : CpC := fun As σ => ∃ (p0 : Nat) (p1 : Int32), As = [.inr (.inr (some p0)), .inl p1] ∧ HIC σ ∧ TyC σ p0 8 ∧ CdC σ p0 ∧ (fIC σ p0 242).toInt ≤ CtC σ p0 ∧ BgC σ p0 (0) (0)
abbrev Q_X7_isTooDeep : CqC := fun As σ w τ => match As with
  | [.inr (.inr (some p0)), .inl p1] => ∃ r : Int32, w = some (.inl r) ∧ HIC τ ∧ ExC [243, 244] σ τ ∧ 0 ≤ r.toInt ∧ r.toInt ≤ 1 ∧ RdC p0 none (0) (0) (0) σ τ ∧ (r.toInt = 1 → 20 < p1.toInt ∧ ¬ (fIC τ p0 243).toInt = 0) ∧ (r.toInt = 0 → p1.toInt ≤ 20)
  | _ => False
set_option maxRecDepth 100000 in
set_option maxHeartbeats 4000000 in
theorem m_X7_isTooDeep (l : Launch) : CMetC l 2 131 P_X7_isTooDeep Q_X7_isTooDeep := by
  refine CMetC.of KX7_isTooDeep [(127, P_X7_raise, Q_X7_raise)] hX7_isTooDeep (by decide) (by decide) okX7_isTooDeep (cc1C (m_X7_raise l) (by decide) cc0C) ?_ ?_
  · rintro As σ ⟨p0, p1, rfl, -⟩
    exact Nat.le_of_ble_eq_true rfl
  · rintro As σ0 ⟨p0, p1, rfl, H0, h_0_0, rd_cd, rd_at, rd_bg⟩ hgr G hB hW
    change G 0 [(0, .inr (.inr (some p0))), (1, .inl p1)] [] σ0
    obtain ⟨x1, e2, c3, h4, h5⟩ := cg242 H0.1 h_0_0
    obtain ⟨x6, e7, c8, h9, h10⟩ := cg243 H0.1 h_0_0
    have z11 := congrArg Int32.toInt c3
    have z12 := congrArg Int32.toInt c8
    refine hB _ _ _ _ (kgoC (is := KX7_isTooDeep_0) rfl ?_)
    refine k_iload_n rfl ?_
    refine k_bipush (m := 20) rfl (fun x13 h14 => ?_)
    refine k_ic_le (fun h15 => ?_) (fun h15 => ?_)
    · refine hB _ _ _ _ (kgoC (is := KX7_isTooDeep_11) rfl ?_)
      refine k_iload_n rfl ?_
      refine k_bipush (m := 20) rfl (fun x16 h17 => ?_)
      refine k_ic_le (fun h18 => ?_) (fun h18 => by exfalso; omega)
      refine hB _ _ _ _ (kgoC (is := KX7_isTooDeep_21) rfl ?_)
      refine k_iconst (m := 0) rfl (fun x19 h20 => ?_)
      refine k_nil ?_
      refine hB _ _ _ _ (kgoC (is := KX7_isTooDeep_22) rfl ?_)
      refine k_ireturn (fun _ => b01C (by omega) (by omega)) ?_
      exact ⟨_, rfl, H0, (ExC.rf : ExC [243, 244] σ0 σ0), (by omega), (by omega), ((RdC.rf : RdC p0 none 0 0 0 σ0 σ0).mo (by omega) (by omega) (by omega)), (by rw [c8]; omega), (by omega)⟩
    · refine k_nil ?_
      refine hB _ _ _ _ (kgoC (is := KX7_isTooDeep_6) rfl ?_)
      refine k_aload_n rfl ?_
      refine k_iconst (m := 3) rfl (fun x21 h22 => ?_)
      refine k_inv (P := P_X7_raise) (Q := Q_X7_raise) rfl rfl rfl rfl (Nat.le_of_ble_eq_true rfl) (h_0_0.rc (by decide)) ⟨_, _, rfl, H0, h_0_0, (by omega), (by omega), (rd_cd.st H0 h_0_0 (ExC.rf : ExC [243, 244] σ0 σ0) (RdC.rf : RdC p0 none 0 0 0 σ0 σ0).1 (by decide)), ((RdC.rf : RdC p0 none 0 0 0 σ0 σ0).2.2.2.1 rd_at), (rd_bg.st H0 h_0_0 (ExC.rf : ExC [243, 244] σ0 σ0) (RdC.rf : RdC p0 none 0 0 0 σ0 σ0) (by decide) (by omega) (by omega) (by omega))⟩ (fun w23 σ24 q25 => ?_)
      obtain ⟨rfl, H26, e27, R28, q29⟩ := q25
      have c30 := (h_0_0.mi e27 (by decide)).trans c3
      have t36 := h_0_0.x e27
      obtain ⟨x31, e32, c33, h34, h35⟩ := cg243 H26.1 t36
      have z37 := congrArg Int32.toInt c30
      have z38 := congrArg Int32.toInt c33
      refine k_st (st' := []) rfl ?_
      have h39 : 1 ≤ x31.toInt := by have hq := q29; rw [c33] at hq; omega
      refine k_nil ?_
      refine hB _ _ _ _ (kgoC (is := KX7_isTooDeep_11) rfl ?_)
      refine k_iload_n rfl ?_
      refine k_bipush (m := 20) rfl (fun x40 h41 => ?_)
      refine k_ic_le (fun h42 => by exfalso; omega) (fun h42 => ?_)
      refine k_nil ?_
      refine hB _ _ _ _ (kgoC (is := KX7_isTooDeep_17) rfl ?_)
      refine k_iconst (m := 1) rfl (fun x43 h44 => ?_)
      refine k_goto ?_
      refine hB _ _ _ _ (kgoC (is := KX7_isTooDeep_22) rfl ?_)
      refine k_ireturn (fun _ => b01C (by omega) (by omega)) ?_
      have X45 : ExC [243, 244] σ0 σ24 := ExC.rf.tr (e27.mo (by decide))
      have R46 : RdC p0 none (0) (0) (0) σ0 σ24 := (RdC.rf : RdC p0 none 0 0 0 σ0 σ0).tr ⟨R28.1, R28.2⟩ (by omega) (by omega) (by omega) (by omega)
      exact ⟨_, rfl, H26, X45, (by omega), (by omega), ((R46.ft (0) (by rw [c33]; omega)).mo (by omega) (by omega) (by omega)), (by rw [c33]; omega), (by omega)⟩

abbrev P_X7_isType : CpC := fun As σ => ∃ (p0 : Int32), As = [.inl p0] ∧ HIC σ
abbrev Q_X7_isType : CqC := fun As σ w τ => match As with
  | [.inl p0] => ∃ r : Int32, w = some (.inl r) ∧ σ = τ ∧ 0 ≤ r.toInt ∧ r.toInt ≤ 1 ∧ (r.toInt = 1 → 50 ≤ p0.toInt ∧ p0.toInt ≤ 54)
  | _ => False
set_option maxRecDepth 100000 in
set_option maxHeartbeats 4000000 in
theorem m_X7_isType (l : Launch) : CMetC l 1 132 P_X7_isType Q_X7_isType := by
  refine CMetC.of KX7_isType [] hX7_isType (by decide) (by decide) okX7_isType cc0C ?_ ?_
  · rintro As σ ⟨p0, rfl, -⟩
    exact Nat.le_of_ble_eq_true rfl
  · rintro As σ0 ⟨p0, rfl, H0⟩ hgr G hB hW
    change G 0 [(0, .inl p0)] [] σ0
    refine hB _ _ _ _ (kgoC (is := KX7_isType_0) rfl ?_)
    refine k_iload_n rfl ?_
    refine k_bipush (m := 50) rfl (fun x1 h2 => ?_)
    refine k_ic_lt (fun h3 => ?_) (fun h3 => ?_)
    · refine hB _ _ _ _ (kgoC (is := KX7_isType_16) rfl ?_)
      refine k_iconst (m := 0) rfl (fun x4 h5 => ?_)
      refine k_nil ?_
      refine hB _ _ _ _ (kgoC (is := KX7_isType_17) rfl ?_)
      refine k_ireturn (fun _ => b01C (by omega) (by omega)) ?_
      exact ⟨_, rfl, rfl, (by omega), (by omega), (by omega)⟩
    · refine k_nil ?_
      refine hB _ _ _ _ (kgoC (is := KX7_isType_6) rfl ?_)
      refine k_iload_n rfl ?_
      refine k_bipush (m := 55) rfl (fun x6 h7 => ?_)
      refine k_ic_ge (fun h8 => ?_) (fun h8 => ?_)
      · refine hB _ _ _ _ (kgoC (is := KX7_isType_16) rfl ?_)
        refine k_iconst (m := 0) rfl (fun x9 h10 => ?_)
        refine k_nil ?_
        refine hB _ _ _ _ (kgoC (is := KX7_isType_17) rfl ?_)
        refine k_ireturn (fun _ => b01C (by omega) (by omega)) ?_
        exact ⟨_, rfl, rfl, (by omega), (by omega), (by omega)⟩
      · refine k_nil ?_
        refine hB _ _ _ _ (kgoC (is := KX7_isType_12) rfl ?_)
        refine k_iconst (m := 1) rfl (fun x11 h12 => ?_)
        refine k_goto ?_
        refine hB _ _ _ _ (kgoC (is := KX7_isType_17) rfl ?_)
        refine k_ireturn (fun _ => b01C (by omega) (by omega)) ?_
        exact ⟨_, rfl, rfl, (by omega), (by omega), (by omega)⟩

abbrev P_X7_isAssign : CpC := fun As σ => ∃ (p0 : Int32), As = [.inl p0] ∧ HIC σ
abbrev Q_X7_isAssign : CqC := fun As σ w τ => match As with
  | [.inl p0] => ∃ r : Int32, w = some (.inl r) ∧ σ = τ ∧ 0 ≤ r.toInt ∧ r.toInt ≤ 1 ∧ (r.toInt = 1 → 8 ≤ p0.toInt ∧ p0.toInt ≤ 19)
  | _ => False
set_option maxRecDepth 100000 in
set_option maxHeartbeats 4000000 in
theorem m_X7_isAssign (l : Launch) : CMetC l 1 133 P_X7_isAssign Q_X7_isAssign := by
  refine CMetC.of KX7_isAssign [] hX7_isAssign (by decide) (by decide) okX7_isAssign cc0C ?_ ?_
  · rintro As σ ⟨p0, rfl, -⟩
    exact Nat.le_of_ble_eq_true rfl
  · rintro As σ0 ⟨p0, rfl, H0⟩ hgr G hB hW
    change G 0 [(0, .inl p0)] [] σ0
    refine hB _ _ _ _ (kgoC (is := KX7_isAssign_0) rfl ?_)
    refine k_iload_n rfl ?_
    refine k_bipush (m := 8) rfl (fun x1 h2 => ?_)
    refine k_ic_lt (fun h3 => ?_) (fun h3 => ?_)
    · refine hB _ _ _ _ (kgoC (is := KX7_isAssign_16) rfl ?_)
      refine k_iconst (m := 0) rfl (fun x4 h5 => ?_)
      refine k_nil ?_
      refine hB _ _ _ _ (kgoC (is := KX7_isAssign_17) rfl ?_)
      refine k_ireturn (fun _ => b01C (by omega) (by omega)) ?_
      exact ⟨_, rfl, rfl, (by omega), (by omega), (by omega)⟩
    · refine k_nil ?_
      refine hB _ _ _ _ (kgoC (is := KX7_isAssign_6) rfl ?_)
      refine k_iload_n rfl ?_
      refine k_bipush (m := 19) rfl (fun x6 h7 => ?_)
      refine k_ic_gt (fun h8 => ?_) (fun h8 => ?_)
      · refine hB _ _ _ _ (kgoC (is := KX7_isAssign_16) rfl ?_)
        refine k_iconst (m := 0) rfl (fun x9 h10 => ?_)
        refine k_nil ?_
        refine hB _ _ _ _ (kgoC (is := KX7_isAssign_17) rfl ?_)
        refine k_ireturn (fun _ => b01C (by omega) (by omega)) ?_
        exact ⟨_, rfl, rfl, (by omega), (by omega), (by omega)⟩
      · refine k_nil ?_
        refine hB _ _ _ _ (kgoC (is := KX7_isAssign_12) rfl ?_)
        refine k_iconst (m := 1) rfl (fun x11 h12 => ?_)
        refine k_goto ?_
        refine hB _ _ _ _ (kgoC (is := KX7_isAssign_17) rfl ?_)
        refine k_ireturn (fun _ => b01C (by omega) (by omega)) ?_
        exact ⟨_, rfl, rfl, (by omega), (by omega), (by omega)⟩

abbrev P_X7_faultPlace : CpC := fun As σ => ∃ (p0 : Nat), As = [.inr (.inr (some p0))] ∧ HIC σ ∧ TyC σ p0 8
abbrev Q_X7_faultPlace : CqC := fun As σ w τ => match As with
  | [.inr (.inr (some p0))] => ∃ r : Int32, w = some (.inl r) ∧ σ = τ
  | _ => False
set_option maxRecDepth 100000 in
set_option maxHeartbeats 4000000 in
theorem m_X7_faultPlace (l : Launch) : CMetC l 1 124 P_X7_faultPlace Q_X7_faultPlace := by
  refine CMetC.of KX7_faultPlace [] hX7_faultPlace (by decide) (by decide) okX7_faultPlace cc0C ?_ ?_
  · rintro As σ ⟨p0, rfl, -⟩
    exact Nat.le_of_ble_eq_true rfl
  · rintro As σ0 ⟨p0, rfl, H0, h_0_0⟩ hgr G hB hW
    change G 0 [(0, .inr (.inr (some p0)))] [] σ0
    refine hB _ _ _ _ (kgoC (is := KX7_faultPlace_0) rfl ?_)
    refine k_aload_n rfl ?_
    obtain ⟨x3, e1, c2, h4, h5⟩ := cg244 H0.1 h_0_0
    refine k_get kg244 h_0_0 e1 ?_
    refine k_ireturn (fun hz => absurd hz (by decide)) ?_
    exact ⟨_, rfl, rfl⟩

abbrev P_X7_readType : CpC := fun As σ => ∃ (p0 : Nat), As = [.inr (.inr (some p0))] ∧ HIC σ ∧ TyC σ p0 8 ∧ CdC σ p0 ∧ (fIC σ p0 242).toInt ≤ CtC σ p0 ∧ BgC σ p0 (0) (0)
abbrev Q_X7_readType : CqC := fun As σ w τ => match As with
  | [.inr (.inr (some p0))] => ∃ r : Int32, w = some (.inl r) ∧ HIC τ ∧ ExC [242, 243, 244] σ τ ∧ RdC p0 none (-8) (0) (0) σ τ
  | _ => False
set_option maxRecDepth 100000 in
set_option maxHeartbeats 4000000 in
theorem m_X7_readType (l : Launch) : CMetC l 3 136 P_X7_readType Q_X7_readType := by
  refine CMetC.of KX7_readType [(125, P_X7_code, Q_X7_code), (132, P_X7_isType, Q_X7_isType), (127, P_X7_raise, Q_X7_raise), (128, P_X7_accept, Q_X7_accept)] hX7_readType (by decide) (by decide) okX7_readType (cc1C (m_X7_code l) (by decide) (cc1C (m_X7_isType l) (by decide) (cc1C (m_X7_raise l) (by decide) (cc1C (m_X7_accept l) (by decide) cc0C)))) ?_ ?_
  · rintro As σ ⟨p0, rfl, -⟩
    exact Nat.le_of_ble_eq_true rfl
  · rintro As σ0 ⟨p0, rfl, H0, h_0_0, rd_cd, rd_at, rd_bg⟩ hgr G hB hW
    change G 0 [(0, .inr (.inr (some p0)))] [] σ0
    obtain ⟨x1, e2, c3, h4, h5⟩ := cg242 H0.1 h_0_0
    obtain ⟨x6, e7, c8, h9, h10⟩ := cg243 H0.1 h_0_0
    have z11 := congrArg Int32.toInt c3
    have z12 := congrArg Int32.toInt c8
    refine hB _ _ _ _ (kgoC (is := KX7_readType_0) rfl ?_)
    refine k_aload_n rfl ?_
    refine k_inv (P := P_X7_code) (Q := Q_X7_code) rfl rfl rfl rfl (Nat.le_of_ble_eq_true rfl) (h_0_0.rc (by decide)) ⟨_, rfl, H0, h_0_0, (rd_cd.st H0 h_0_0 (ExC.rf : ExC [242, 243, 244] σ0 σ0) (RdC.rf : RdC p0 none 0 0 0 σ0 σ0).1 (by decide))⟩ (fun w13 σ14 q15 => ?_)
    obtain ⟨x16, rfl, rfl, q17, q18, q19⟩ := q15
    refine k_st (st' := [.inl x16]) rfl ?_
    have z20 := (RdC.rf : RdC p0 none 0 0 0 σ0 σ0).2.2.1
    have z21 := (RdC.rf : RdC p0 none 0 0 0 σ0 σ0).2.2.2.1 rd_at
    refine k_bipush (m := 50) rfl (fun x22 h23 => ?_)
    have z26 := tiC x16
    refine k_isub_u (fun x24 => ?_)
    refine k_istore_n (ls' := [(1, .inl x24), (0, .inr (.inr (some p0)))]) rfl ?_
    refine k_aload_n rfl ?_
    refine k_inv (P := P_X7_code) (Q := Q_X7_code) rfl rfl rfl rfl (Nat.le_of_ble_eq_true rfl) (h_0_0.rc (by decide)) ⟨_, rfl, H0, h_0_0, (rd_cd.st H0 h_0_0 (ExC.rf : ExC [242, 243, 244] σ0 σ0) (RdC.rf : RdC p0 none 0 0 0 σ0 σ0).1 (by decide))⟩ (fun w27 σ28 q29 => ?_)
    obtain ⟨x30, rfl, rfl, q31, q32, q33⟩ := q29
    refine k_st (st' := [.inl x30]) rfl ?_
    refine k_stat (P := P_X7_isType) (Q := Q_X7_isType) rfl rfl (Nat.le_of_ble_eq_true rfl) rfl rfl (Nat.le_of_ble_eq_true rfl) ⟨_, rfl, H0⟩ (fun w34 σ35 q36 => ?_)
    obtain ⟨x37, rfl, rfl, h38, h39, q40⟩ := q36
    refine k_st (st' := [.inl x37]) rfl ?_
    rcases (by omega : x37.toInt = 0 ∨ x37.toInt = 1) with g41 | g41
    · refine k_if_ne (fun h42 => by exfalso; omega) (fun h42 => ?_)
      refine k_nil ?_
      refine hB _ _ _ _ (kgoC (is := KX7_readType_18) rfl ?_)
      refine k_aload_n rfl ?_
      refine k_iconst (m := 2) rfl (fun x43 h44 => ?_)
      refine k_inv (P := P_X7_raise) (Q := Q_X7_raise) rfl rfl rfl rfl (Nat.le_of_ble_eq_true rfl) (h_0_0.rc (by decide)) ⟨_, _, rfl, H0, h_0_0, (by omega), (by omega), (rd_cd.st H0 h_0_0 (ExC.rf : ExC [242, 243, 244] σ0 σ0) (RdC.rf : RdC p0 none 0 0 0 σ0 σ0).1 (by decide)), ((RdC.rf : RdC p0 none 0 0 0 σ0 σ0).2.2.2.1 rd_at), (rd_bg.st H0 h_0_0 (ExC.rf : ExC [242, 243, 244] σ0 σ0) (RdC.rf : RdC p0 none 0 0 0 σ0 σ0) (by decide) (by omega) (by omega) (by omega))⟩ (fun w45 σ46 q47 => ?_)
      obtain ⟨rfl, H48, e49, R50, q51⟩ := q47
      have c52 := (h_0_0.mi e49 (by decide)).trans c3
      have t58 := h_0_0.x e49
      obtain ⟨x53, e54, c55, h56, h57⟩ := cg243 H48.1 t58
      have z59 := congrArg Int32.toInt c52
      have z60 := congrArg Int32.toInt c55
      refine k_st (st' := []) rfl ?_
      have h61 : 1 ≤ x53.toInt := by have hq := q51; rw [c55] at hq; omega
      refine k_iconst (m := 3) rfl (fun x62 h63 => ?_)
      refine k_ireturn (fun hz => absurd hz (by decide)) ?_
      have X64 : ExC [242, 243, 244] σ0 σ46 := ExC.rf.tr (e49.mo (by decide))
      have R65 : RdC p0 none (0) (0) (0) σ0 σ46 := (RdC.rf : RdC p0 none 0 0 0 σ0 σ0).tr ⟨R50.1, R50.2⟩ (by omega) (by omega) (by omega) (by omega)
      exact ⟨_, rfl, H48, X64, ((R65.ft (-8) (by rw [c55]; omega)).mo (by omega) (by omega) (by omega))⟩
    · have h66 := q40 (by omega)
      have h67 : x6.toInt = 0 := by omega
      refine k_if_ne (fun h68 => ?_) (fun h68 => by exfalso; omega)
      refine hB _ _ _ _ (kgoC (is := KX7_readType_25) rfl ?_)
      refine k_aload_n rfl ?_
      have R69 := (RdC.rf : RdC p0 none 0 0 0 σ0 σ0).nf (-1000) (-1000) (by rw [c8]; omega)
      refine k_inv (P := P_X7_accept) (Q := Q_X7_accept) rfl rfl rfl rfl (Nat.le_of_ble_eq_true rfl) (h_0_0.rc (by decide)) ⟨_, rfl, H0, h_0_0, (rd_cd.st H0 h_0_0 (ExC.rf : ExC [242, 243, 244] σ0 σ0) R69.1 (by decide)), (R69.2.2.2.1 rd_at), (rd_bg.stn H0 h_0_0 (ExC.rf : ExC [242, 243, 244] σ0 σ0) R69 (by decide) (by rw [c8]; omega) (by omega)), (by have ct := R69.2.2.1; rw [c8, c3, ct]; omega)⟩ (fun w70 σ71 q72 => ?_)
      obtain ⟨rfl, H73, e74, R75, q76⟩ := q72
      have t82 := h_0_0.x e74
      obtain ⟨x77, e78, c79, h80, h81⟩ := cg242 H73.1 t82
      obtain ⟨x83, e84, c85, h86, h87⟩ := cg243 H73.1 t82
      have z88 := congrArg Int32.toInt c79
      have z89 := congrArg Int32.toInt c85
      refine k_st (st' := []) rfl ?_
      have R90 : RdC p0 none (-8) (0) (-1000) σ0 σ71 := R69.tr ⟨R75.1, R75.2⟩ (by omega) (by omega) (by omega) (by omega)
      have z91 := R90.2.2.1
      have z92 := R90.2.2.2.1 rd_at
      refine k_iload_n rfl ?_
      refine k_ireturn (fun hz => absurd hz (by decide)) ?_
      have X93 : ExC [242, 243, 244] σ0 σ71 := ExC.rf.tr (e74.mo (by decide))
      exact ⟨_, rfl, H73, X93, (R90.mo (by omega) (by omega) (by omega))⟩

abbrev P_X7_know : CpC := fun As σ => ∃ (p0 : Nat) (p1 : Int32), As = [.inr (.inr (some p0)), .inl p1] ∧ HIC σ ∧ TyC σ p0 8
abbrev Q_X7_know : CqC := fun As σ w τ => match As with
  | [.inr (.inr (some p0)), .inl p1] => w = none ∧ HIC τ ∧ ExC [] σ τ
  | _ => False
set_option maxRecDepth 100000 in
set_option maxHeartbeats 4000000 in
theorem m_X7_know (l : Launch) : CMetC l 2 138 P_X7_know Q_X7_know := by
  refine CMetC.of KX7_know [(222, P_X11_bit, Q_X11_bit)] hX7_know (by decide) (by decide) okX7_know (cc1C (m_X11_bit l) (by decide) cc0C) ?_ ?_
  · rintro As σ ⟨p0, p1, rfl, -⟩
    exact Nat.le_of_ble_eq_true rfl
  · rintro As σ0 ⟨p0, p1, rfl, H0, h_0_0⟩ hgr G hB hW
    change G 0 [(0, .inr (.inr (some p0))), (1, .inl p1)] [] σ0
    refine hB _ _ _ _ (kgoC (is := KX7_know_0) rfl ?_)
    refine k_iload_n rfl ?_
    refine k_if_lt (fun h1 => ?_) (fun h1 => ?_)
    · refine hB _ _ _ _ (kgoC (is := KX7_know_17) rfl ?_)
      refine k_return ?_
      exact ⟨rfl, H0, (ExC.rf : ExC [] σ0 σ0)⟩
    · refine k_nil ?_
      refine hB _ _ _ _ (kgoC (is := KX7_know_4) rfl ?_)
      refine k_aload_n rfl ?_
      refine k_dupR ?_
      obtain ⟨y4, e2, c3⟩ := cg245 (σ := σ0) (a := p0)
      refine k_get kg245 h_0_0 e2 ?_
      refine k_iload_n rfl ?_
      refine k_stat (P := P_X11_bit) (Q := Q_X11_bit) rfl rfl (Nat.le_of_ble_eq_true rfl) rfl rfl (Nat.le_of_ble_eq_true rfl) ⟨_, rfl, H0⟩ (fun w5 σ6 q7 => ?_)
      obtain ⟨y8, rfl, rfl⟩ := q7
      refine k_st (st' := [.inr (.inl y8), .inr (.inl y4), .inr (.inr (some p0))]) rfl ?_
      refine k_lor (fun y9 => ?_)
      refine k_putL kg245 H0 h_0_0 fk245 (fun σ10 H11 e12 c13 => ?_)
      refine k_nil ?_
      refine hB _ _ _ _ (kgoC (is := KX7_know_17) rfl ?_)
      refine k_return ?_
      have X14 : ExC [] σ0 σ10 := ExC.rf.tr (e12.mo (by decide))
      exact ⟨rfl, H11, X14⟩

abbrev P_X7_lookUp : CpC := fun As σ => ∃ (p0 : Nat) (p1 : Int64), As = [.inr (.inr (some p0)), .inr (.inl p1)] ∧ HIC σ ∧ TyC σ p0 8
abbrev Q_X7_lookUp : CqC := fun As σ w τ => match As with
  | [.inr (.inr (some p0)), .inr (.inl p1)] => ∃ r : Int32, w = some (.inl r) ∧ σ = τ ∧ (-1) ≤ r.toInt
  | _ => False
set_option maxRecDepth 100000 in
set_option maxHeartbeats 4000000 in
theorem m_X7_lookUp (l : Launch) : CMetC l 11 139 P_X7_lookUp Q_X7_lookUp := by
  refine CMetC.of KX7_lookUp [(234, P_Jx4a65c_size_8abf5, Q_Jx4a65c_size_8abf5), (221, P_X11_has, Q_X11_has), (235, P_Jx4a65c_get_915e3, Q_Jx4a65c_get_915e3)] hX7_lookUp (by decide) (by decide) okX7_lookUp (cc1C (m_Jx4a65c_size_8abf5 l) (by decide) (cc1C (m_X11_has l) (by decide) (cc1C (m_Jx4a65c_get_915e3 l) (by decide) cc0C))) ?_ ?_
  · rintro As σ ⟨p0, p1, rfl, -⟩
    exact Nat.le_of_ble_eq_true rfl
  · rintro As σ0 ⟨p0, p1, rfl, H0, h_0_0⟩ hgr G hB hW
    change G 0 [(0, .inr (.inr (some p0))), (1, .inr (.inl p1))] [] σ0
    have L13 : ∀ (n13 : Nat), ∀ (v13_3 : Int32), (v13_3.toInt + 2147483648).toNat = n13 → (-1) ≤ v13_3.toInt → v13_3.toInt ≤ 19999 → (∀ q m, fRC σ0 p0 240 = some q → fRC σ0 q 212 = some m → v13_3.toInt < (fIC σ0 m 2).toInt) → G 13 [(0, .inr (.inr (some p0))), (1, .inr (.inl p1)), (3, .inl v13_3)] [] σ0 := by
      intro n13
      induction n13 using Nat.strongRecOn with
      | _ n13 ih13 =>
        intro v13_3 n13_ h1 h2 h3
        refine hB _ _ _ _ (kgoC (is := KX7_lookUp_13) rfl ?_)
        refine k_iload_n rfl ?_
        refine k_if_lt (fun h4 => ?_) (fun h4 => ?_)
        · refine hB _ _ _ _ (kgoC (is := KX7_lookUp_66) rfl ?_)
          refine k_iconst (m := (-1)) rfl (fun x5 h6 => ?_)
          refine k_ireturn (fun hz => absurd hz (by decide)) ?_
          exact ⟨_, rfl, rfl, (by omega)⟩
        · refine k_nil ?_
          refine hB _ _ _ _ (kgoC (is := KX7_lookUp_17) rfl ?_)
          refine k_aload_n rfl ?_
          obtain ⟨y9, e7, c8⟩ := cg245 (σ := σ0) (a := p0)
          refine k_get kg245 h_0_0 e7 ?_
          refine k_iload_n rfl ?_
          refine k_stat (P := P_X11_has) (Q := Q_X11_has) rfl rfl (Nat.le_of_ble_eq_true rfl) rfl rfl (Nat.le_of_ble_eq_true rfl) ⟨_, _, rfl, H0⟩ (fun w10 σ11 q12 => ?_)
          obtain ⟨x13, rfl, rfl, h14, h15⟩ := q12
          refine k_st (st' := [.inl x13]) rfl ?_
          refine k_if_eq (fun h16 => ?_) (fun h16 => ?_)
          · refine hB _ _ _ _ (kgoC (is := KX7_lookUp_60) rfl ?_)
            obtain ⟨x17, e19, h18⟩ := iincC (n := (-1)) (m := (-1)) (v := v13_3) rfl (by omega) (by omega)
            refine k_iinc (ls' := [(3, .inl x17), (0, .inr (.inr (some p0))), (1, .inr (.inl p1))]) rfl e19 rfl ?_
            refine k_goto ?_
            exact hW _ _ _ _ _ (List.forall_mem_cons.2 ⟨List.Mem.tail _ (List.Mem.head _), (List.forall_mem_cons.2 ⟨List.Mem.tail _ (List.Mem.tail _ (List.Mem.head _)), (List.forall_mem_cons.2 ⟨List.Mem.head _, fun _ h => absurd h List.not_mem_nil⟩)⟩)⟩) (ih13 ((x17.toInt + 2147483648).toNat) (by omega) x17 rfl (by omega) (by omega) (fun q m hq hm => by have hz := h3 q m hq hm; omega))
          · refine k_nil ?_
            refine hB _ _ _ _ (kgoC (is := KX7_lookUp_28) rfl ?_)
            refine k_aload_n rfl ?_
            obtain ⟨a22, e20, c21, t23⟩ := cg241 H0.1 h_0_0
            refine k_get kg241 h_0_0 e20 ?_
            obtain ⟨a26, e24, c25, t27, l28⟩ := cg304 H0.1 t23
            refine k_get kg304 t23 e24 ?_
            refine k_aload_n rfl ?_
            obtain ⟨a31, e29, c30, t32⟩ := cg240 H0.1 h_0_0
            refine k_get kg240 h_0_0 e29 ?_
            obtain ⟨a35, e33, c34, t36, l37⟩ := cg212 H0.1 t32
            refine k_get kg212 t32 e33 ?_
            refine k_iload_n rfl ?_
            refine k_inv (P := P_Jx4a65c_get_915e3) (Q := Q_Jx4a65c_get_915e3) rfl rfl rfl rfl (Nat.le_of_ble_eq_true rfl) (t36.rc (by decide)) ⟨_, _, rfl, H0, t36, (by omega), (h3 _ _ c30 c34)⟩ (fun w38 σ39 q40 => ?_)
            obtain ⟨a41, rfl, rfl, h42⟩ := q40
            rw [l37] at h42
            have t43 := h42.1
            refine k_st (st' := [.inr (.inr (some a41)), .inr (.inr (some a26))]) rfl ?_
            refine k_castS (t43.ob (by decide)) ?_
            obtain ⟨x46, e44, c45, h47, h48⟩ := cg330 H0.1 t43
            refine k_get kg330 t43 e44 ?_
            refine k_laload t27 (by omega) (by omega) (fun y49 => ?_)
            refine k_lload_n rfl ?_
            refine k_lcmp (fun x50 h51 g52 => ?_)
            refine k_if_ne (fun h53 => ?_) (fun h53 => ?_)
            · refine hB _ _ _ _ (kgoC (is := KX7_lookUp_60) rfl ?_)
              obtain ⟨x54, e56, h55⟩ := iincC (n := (-1)) (m := (-1)) (v := v13_3) rfl (by omega) (by omega)
              refine k_iinc (ls' := [(3, .inl x54), (0, .inr (.inr (some p0))), (1, .inr (.inl p1))]) rfl e56 rfl ?_
              refine k_goto ?_
              exact hW _ _ _ _ _ (List.forall_mem_cons.2 ⟨List.Mem.tail _ (List.Mem.head _), (List.forall_mem_cons.2 ⟨List.Mem.tail _ (List.Mem.tail _ (List.Mem.head _)), (List.forall_mem_cons.2 ⟨List.Mem.head _, fun _ h => absurd h List.not_mem_nil⟩)⟩)⟩) (ih13 ((x54.toInt + 2147483648).toNat) (by omega) x54 rfl (by omega) (by omega) (fun q m hq hm => by have hz := h3 q m hq hm; omega))
            · refine k_nil ?_
              refine hB _ _ _ _ (kgoC (is := KX7_lookUp_58) rfl ?_)
              refine k_iload_n rfl ?_
              refine k_ireturn (fun hz => absurd hz (by decide)) ?_
              exact ⟨_, rfl, rfl, (by omega)⟩
    refine hB _ _ _ _ (kgoC (is := KX7_lookUp_0) rfl ?_)
    refine k_aload_n rfl ?_
    obtain ⟨a59, e57, c58, t60⟩ := cg240 H0.1 h_0_0
    refine k_get kg240 h_0_0 e57 ?_
    obtain ⟨a63, e61, c62, t64, l65⟩ := cg212 H0.1 t60
    refine k_get kg212 t60 e61 ?_
    refine k_inv (P := P_Jx4a65c_size_8abf5) (Q := Q_Jx4a65c_size_8abf5) rfl rfl rfl rfl (Nat.le_of_ble_eq_true rfl) (t64.rc (by decide)) ⟨_, rfl, H0, t64⟩ (fun w66 σ67 q68 => ?_)
    obtain ⟨x69, rfl, rfl, h70, h71, q72, q73⟩ := q68
    refine k_st (st' := [.inl x69]) rfl ?_
    refine k_iconst (m := 1) rfl (fun x74 h75 => ?_)
    refine k_isub (by omega) (by omega) (fun x76 h77 => ?_)
    refine k_istore_n (ls' := [(3, .inl x76), (0, .inr (.inr (some p0))), (1, .inr (.inl p1))]) rfl ?_
    refine k_nil ?_
    exact hW _ _ _ _ _ (List.forall_mem_cons.2 ⟨List.Mem.tail _ (List.Mem.head _), (List.forall_mem_cons.2 ⟨List.Mem.tail _ (List.Mem.tail _ (List.Mem.head _)), (List.forall_mem_cons.2 ⟨List.Mem.head _, fun _ h => absurd h List.not_mem_nil⟩)⟩)⟩) (L13 _ x76 rfl (by omega) (by omega) (fun q m hq hm => by cases c58.symm.trans hq; cases c62.symm.trans hm; have hz := congrArg Int32.toInt q72; omega))

abbrev P_X7_meant : CpC := fun As σ => ∃ (p0 : Nat) (p1 : Int32), As = [.inr (.inr (some p0)), .inl p1] ∧ HIC σ ∧ TyC σ p0 8 ∧ 0 ≤ p1.toInt ∧ p1.toInt ≤ 502
abbrev Q_X7_meant : CqC := fun As σ w τ => match As with
  | [.inr (.inr (some p0)), .inl p1] => ∃ r : Int32, w = some (.inl r) ∧ HIC τ ∧ ExC [] σ τ ∧ (-1) ≤ r.toInt
  | _ => False
set_option maxRecDepth 100000 in
set_option maxHeartbeats 4000000 in
theorem m_X7_meant (l : Launch) : CMetC l 12 140 P_X7_meant Q_X7_meant := by
  refine CMetC.of KX7_meant [(139, P_X7_lookUp, Q_X7_lookUp)] hX7_meant (by decide) (by decide) okX7_meant (cc1C (m_X7_lookUp l) (by decide) cc0C) ?_ ?_
  · rintro As σ ⟨p0, p1, rfl, -⟩
    exact Nat.le_of_ble_eq_true rfl
  · rintro As σ0 ⟨p0, p1, rfl, H0, h_0_0, h_1_0, h_1_1⟩ hgr G hB hW
    change G 0 [(0, .inr (.inr (some p0))), (1, .inl p1)] [] σ0
    refine hB _ _ _ _ (kgoC (is := KX7_meant_0) rfl ?_)
    refine k_aload_n rfl ?_
    refine k_aload_n rfl ?_
    obtain ⟨a3, e1, c2, t4⟩ := cg241 H0.1 h_0_0
    refine k_get kg241 h_0_0 e1 ?_
    obtain ⟨a7, e5, c6, t8, l9⟩ := cg304 H0.1 t4
    refine k_get kg304 t4 e5 ?_
    refine k_iload_n rfl ?_
    refine k_laload t8 (by omega) (by omega) (fun y10 => ?_)
    refine k_inv (P := P_X7_lookUp) (Q := Q_X7_lookUp) rfl rfl rfl rfl (Nat.le_of_ble_eq_true rfl) (h_0_0.rc (by decide)) ⟨_, _, rfl, H0, h_0_0⟩ (fun w11 σ12 q13 => ?_)
    obtain ⟨x14, rfl, rfl, h15⟩ := q13
    refine k_st (st' := [.inl x14]) rfl ?_
    refine k_istore_n (ls' := [(2, .inl x14), (0, .inr (.inr (some p0))), (1, .inl p1)]) rfl ?_
    refine k_aload_n rfl ?_
    refine k_get kg241 h_0_0 (congrArg (fun z : Option Nat => (Sum.inr (Sum.inr z) : AvC)) c2) ?_
    obtain ⟨a18, e16, c17, t19, l20, l21⟩ := cg303 H0.1 t4
    refine k_get kg303 t4 e16 ?_
    refine k_iload_n rfl ?_
    refine k_iload_n rfl ?_
    refine k_iastore H0 t19 l21 (by omega) (by omega) (fun σ22 H23 e24 => ?_)
    refine k_iload_n rfl ?_
    refine k_ireturn (fun hz => absurd hz (by decide)) ?_
    have X25 : ExC [] σ0 σ22 := ExC.rf.tr (e24.mo (by decide))
    exact ⟨_, rfl, H23, X25, (by omega)⟩

abbrev P_X7_declare : CpC := fun As σ => ∃ (p0 : Nat) (p1 : Int32) (p2 : Int32) (p3 : Int32), As = [.inr (.inr (some p0)), .inl p1, .inl p2, .inl p3] ∧ HIC σ ∧ TyC σ p0 8 ∧ 0 ≤ p2.toInt ∧ p2.toInt ≤ 1 ∧ 0 ≤ p3.toInt ∧ p3.toInt ≤ 1 ∧ CdC σ p0 ∧ (fIC σ p0 242).toInt ≤ CtC σ p0 ∧ BgC σ p0 (2) (0)
abbrev Q_X7_declare : CqC := fun As σ w τ => match As with
  | [.inr (.inr (some p0)), .inl p1, .inl p2, .inl p3] => ∃ r : Int32, w = some (.inl r) ∧ HIC τ ∧ ExC [0, 1, 2, 242, 243, 244, 330, 331, 332, 333, 334, 999] σ τ ∧ (-1) ≤ r.toInt ∧ r.toInt ≤ 59 ∧ RdC p0 none (-6) (2) (0) σ τ
  | _ => False
set_option maxRecDepth 100000 in
set_option maxHeartbeats 4000000 in
theorem m_X7_declare (l : Launch) : CMetC l 12 137 P_X7_declare Q_X7_declare := by
  refine CMetC.of KX7_declare [(234, P_Jx4a65c_size_8abf5, Q_Jx4a65c_size_8abf5), (125, P_X7_code, Q_X7_code), (127, P_X7_raise, Q_X7_raise), (199, P_X10_init, Q_X10_init), (139, P_X7_lookUp, Q_X7_lookUp), (236, P_Jx4a65c_add_9ea2d, Q_Jx4a65c_add_9ea2d), (128, P_X7_accept, Q_X7_accept)] hX7_declare (by decide) (by decide) okX7_declare (cc1C (m_Jx4a65c_size_8abf5 l) (by decide) (cc1C (m_X7_code l) (by decide) (cc1C (m_X7_raise l) (by decide) (cc1C (m_X10_init l) (by decide) (cc1C (m_X7_lookUp l) (by decide) (cc1C (m_Jx4a65c_add_9ea2d l) (by decide) (cc1C (m_X7_accept l) (by decide) cc0C))))))) ?_ ?_
  · rintro As σ ⟨p0, p1, p2, p3, rfl, -⟩
    exact Nat.le_of_ble_eq_true rfl
  · rintro As σ0 ⟨p0, p1, p2, p3, rfl, H0, h_0_0, h_2_0, h_2_1, h_3_0, h_3_1, rd_cd, rd_at, rd_bg⟩ hgr G hB hW
    change G 0 [(0, .inr (.inr (some p0))), (1, .inl p1), (2, .inl p2), (3, .inl p3)] [] σ0
    obtain ⟨x1, e2, c3, h4, h5⟩ := cg242 H0.1 h_0_0
    obtain ⟨x6, e7, c8, h9, h10⟩ := cg243 H0.1 h_0_0
    have z11 := congrArg Int32.toInt c3
    have z12 := congrArg Int32.toInt c8
    refine hB _ _ _ _ (kgoC (is := KX7_declare_0) rfl ?_)
    refine k_aload_n rfl ?_
    obtain ⟨a15, e13, c14, t16⟩ := cg240 H0.1 h_0_0
    refine k_get kg240 h_0_0 e13 ?_
    obtain ⟨a19, e17, c18, t20, l21⟩ := cg212 H0.1 t16
    refine k_get kg212 t16 e17 ?_
    refine k_inv (P := P_Jx4a65c_size_8abf5) (Q := Q_Jx4a65c_size_8abf5) rfl rfl rfl rfl (Nat.le_of_ble_eq_true rfl) (t20.rc (by decide)) ⟨_, rfl, H0, t20⟩ (fun w22 σ23 q24 => ?_)
    obtain ⟨x25, rfl, rfl, h26, h27, q28, q29⟩ := q24
    refine k_st (st' := [.inl x25]) rfl ?_
    refine k_istore (ls' := [(4, .inl x25), (0, .inr (.inr (some p0))), (1, .inl p1), (2, .inl p2), (3, .inl p3)]) rfl ?_
    refine k_aload_n rfl ?_
    refine k_inv (P := P_X7_code) (Q := Q_X7_code) rfl rfl rfl rfl (Nat.le_of_ble_eq_true rfl) (h_0_0.rc (by decide)) ⟨_, rfl, H0, h_0_0, (rd_cd.st H0 h_0_0 (ExC.rf : ExC [0, 1, 2, 242, 243, 244, 330, 331, 332, 333, 334, 999] σ0 σ0) (RdC.rf : RdC p0 none 0 0 0 σ0 σ0).1 (by decide))⟩ (fun w30 σ31 q32 => ?_)
    obtain ⟨x33, rfl, rfl, q34, q35, q36⟩ := q32
    refine k_st (st' := [.inl x33]) rfl ?_
    have z37 := (RdC.rf : RdC p0 none 0 0 0 σ0 σ0).2.2.1
    have z38 := (RdC.rf : RdC p0 none 0 0 0 σ0 σ0).2.2.2.1 rd_at
    refine k_bipush (m := 80) rfl (fun x39 h40 => ?_)
    refine k_ic_eq (fun h41 => ?_) (fun h41 => ?_)
    · have h42 : x6.toInt = 0 := by omega
      refine hB _ _ _ _ (kgoC (is := KX7_declare_29) rfl ?_)
      refine k_iload_n rfl ?_
      refine k_if_eq (fun h43 => ?_) (fun h43 => ?_)
      · refine hB _ _ _ _ (kgoC (is := KX7_declare_40) rfl ?_)
        refine k_aload_n rfl ?_
        refine k_iconst (m := 3) rfl (fun x44 h45 => ?_)
        have R46 := (RdC.rf : RdC p0 none 0 0 0 σ0 σ0).nf (-1000) (-1000) (by rw [c8]; omega)
        refine k_inv (P := P_X7_raise) (Q := Q_X7_raise) rfl rfl rfl rfl (Nat.le_of_ble_eq_true rfl) (h_0_0.rc (by decide)) ⟨_, _, rfl, H0, h_0_0, (by omega), (by omega), (rd_cd.st H0 h_0_0 (ExC.rf : ExC [0, 1, 2, 242, 243, 244, 330, 331, 332, 333, 334, 999] σ0 σ0) R46.1 (by decide)), (R46.2.2.2.1 rd_at), (rd_bg.stn H0 h_0_0 (ExC.rf : ExC [0, 1, 2, 242, 243, 244, 330, 331, 332, 333, 334, 999] σ0 σ0) R46 (by decide) (by rw [c8]; omega) (by omega))⟩ (fun w47 σ48 q49 => ?_)
        obtain ⟨rfl, H50, e51, R52, q53⟩ := q49
        have c54 := (h_0_0.mi e51 (by decide)).trans c3
        have t60 := h_0_0.x e51
        obtain ⟨x55, e56, c57, h58, h59⟩ := cg243 H50.1 t60
        have z61 := congrArg Int32.toInt c54
        have z62 := congrArg Int32.toInt c57
        refine k_st (st' := []) rfl ?_
        have h63 : 1 ≤ x55.toInt := by have hq := q53; rw [c57] at hq; omega
        refine k_nil ?_
        refine hB _ _ _ _ (kgoC (is := KX7_declare_45) rfl ?_)
        refine k_aload_n rfl ?_
        refine k_get kg243 t60 (congrArg (Sum.inl : Int32 → AvC) c57) ?_
        refine k_if_eq (fun h64 => by exfalso; omega) (fun h64 => ?_)
        refine k_nil ?_
        refine hB _ _ _ _ (kgoC (is := KX7_declare_52) rfl ?_)
        refine k_iconst (m := (-1)) rfl (fun x65 h66 => ?_)
        refine k_ireturn (fun hz => absurd hz (by decide)) ?_
        have X67 : ExC [0, 1, 2, 242, 243, 244, 330, 331, 332, 333, 334, 999] σ0 σ48 := ExC.rf.tr (e51.mo (by decide))
        have R68 : RdC p0 none (0) (0) (-1000) σ0 σ48 := R46.tr ⟨R52.1, R52.2⟩ (by omega) (by omega) (by omega) (by omega)
        exact ⟨_, rfl, H50, X67, (by omega), (by omega), ((R68.ft (-6) (by rw [c57]; omega)).mo (by omega) (by omega) (by omega))⟩
      · refine k_nil ?_
        refine hB _ _ _ _ (kgoC (is := KX7_declare_33) rfl ?_)
        refine k_iload rfl ?_
        refine k_bipush (m := 60) rfl (fun x69 h70 => ?_)
        refine k_ic_lt (fun h71 => ?_) (fun h71 => ?_)
        · refine hB _ _ _ _ (kgoC (is := KX7_declare_45) rfl ?_)
          refine k_aload_n rfl ?_
          refine k_get kg243 h_0_0 (congrArg (Sum.inl : Int32 → AvC) c8) ?_
          refine k_if_eq (fun h72 => ?_) (fun h72 => by exfalso; omega)
          refine hB _ _ _ _ (kgoC (is := KX7_declare_54) rfl ?_)
          have R73 := (RdC.rf : RdC p0 none 0 0 0 σ0 σ0).nf (-1000) (-1000) (by rw [c8]; omega)
          have B74 : BgC σ0 p0 1 1 := rd_bg.stn H0 h_0_0 (ExC.rf : ExC [0, 1, 2, 242, 243, 244, 330, 331, 332, 333, 334, 999] σ0 σ0) R73 (by decide) (by rw [c8]; omega) (by omega)
          obtain ⟨h75, h76⟩ := B74.new H0.1 h_0_0 (u := 1) (by omega) (by omega)
          have z77 := R73.1.1
          refine k_new (c := 11) (g := 0) H0 (by decide) rfl (by omega) (by have hn : nfC 11 = 7 := rfl; omega) (fun a78 σ79 q80 H81 e82 r83 z84 l85 u86 u87 => ?_)
          rw [show nfC 11 = 7 from rfl] at u87
          have u88 : cpC σ79 = cpC σ0 := congrArg Prod.fst e82.2.1.1
          have u89 : spC σ79 = spC σ0 := congrArg Prod.snd e82.2.1.1
          refine k_dupR ?_
          refine k_aload_n rfl ?_
          have t90 := h_0_0.x e82
          have c91 := (h_0_0.mi e82 (by decide)).trans c3
          refine k_get kg242 t90 (congrArg (Sum.inl : Int32 → AvC) c91) ?_
          refine k_iload_n rfl ?_
          refine k_iload_n rfl ?_
          refine k_aload_n rfl ?_
          have c92 := (h_0_0.mr e82 (by decide)).trans c14
          refine k_get kg240 t90 (congrArg (fun z : Option Nat => (Sum.inr (Sum.inr z) : AvC)) c92) ?_
          have t93 := t16.x e82
          obtain ⟨a96, e94, c95, t97, l98⟩ := cg211 H81.1 t93
          refine k_get kg211 t93 e94 ?_
          refine k_inv (P := P_Jx4a65c_size_8abf5) (Q := Q_Jx4a65c_size_8abf5) rfl rfl rfl rfl (Nat.le_of_ble_eq_true rfl) (t97.rc (by decide)) ⟨_, rfl, H81, t97⟩ (fun w99 σ100 q101 => ?_)
          obtain ⟨x102, rfl, rfl, h103, h104, q105, q106⟩ := q101
          refine k_st (st' := [.inl x102, .inl p2, .inl p1, .inl x1, .inr (.inr (some a78)), .inr (.inr (some a78))]) rfl ?_
          have z107 := q106 l98
          refine k_iconst (m := 1) rfl (fun x108 h109 => ?_)
          refine k_isub (by omega) (by omega) (fun x110 h111 => ?_)
          refine k_spec (P := P_X10_init) (Q := Q_X10_init) rfl rfl rfl rfl (Nat.le_of_ble_eq_true rfl) ⟨_, _, _, _, _, rfl, H81, r83, z84, (by omega), (by omega), (by omega), (by omega), (by omega), (by omega)⟩ (fun w112 σ113 q114 => ?_)
          obtain ⟨rfl, H115, e116, t117, l118, u119, u120, g121⟩ := q114
          have l122 := l118.trans l85
          have c123 := (t90.mit r83 (by decide) e116 (by decide)).trans c91
          have c124 := (h_0_0.mi e82 (by decide)).trans c8
          have c125 := (t90.mit r83 (by decide) e116 (by decide)).trans c124
          have z126 := congrArg Int32.toInt c123
          have z127 := congrArg Int32.toInt c125
          refine k_st (st' := [.inr (.inr (some a78))]) rfl ?_
          refine k_astore (ls' := [(5, .inr (.inr (some a78))), (4, .inl x25), (0, .inr (.inr (some p0))), (1, .inl p1), (2, .inl p2), (3, .inl p3)]) rfl ?_
          refine k_aload rfl ?_
          refine k_aload_n rfl ?_
          refine k_aload_n rfl ?_
          have t128 := t90.xt r83 (by decide) e116
          obtain ⟨a131, e129, c130, t132⟩ := cg241 H115.1 t128
          refine k_get kg241 t128 e129 ?_
          obtain ⟨a135, e133, c134, t136, l137⟩ := cg304 H115.1 t132
          refine k_get kg304 t132 e133 ?_
          refine k_aload_n rfl ?_
          refine k_get kg242 t128 (congrArg (Sum.inl : Int32 → AvC) c123) ?_
          refine k_laload t136 (by omega) (by omega) (fun y138 => ?_)
          refine k_inv (P := P_X7_lookUp) (Q := Q_X7_lookUp) rfl rfl rfl rfl (Nat.le_of_ble_eq_true rfl) (t128.rc (by decide)) ⟨_, _, rfl, H115, t128⟩ (fun w139 σ140 q141 => ?_)
          obtain ⟨x142, rfl, rfl, h143⟩ := q141
          refine k_st (st' := [.inl x142, .inr (.inr (some a78))]) rfl ?_
          refine k_if_lt (fun h144 => ?_) (fun h144 => ?_)
          · refine hB _ _ _ _ (kgoC (is := KX7_declare_106) rfl ?_)
            refine k_iconst (m := 0) rfl (fun x145 h146 => ?_)
            refine k_nil ?_
            refine hB _ _ _ _ (kgoC (is := KX7_declare_107) rfl ?_)
            refine k_putI kp334 H115 t117 (Or.inr ⟨fk334, b01C (by omega) (by omega)⟩) (by show 0 ≤ _; omega) (by show _ ≤ 1; omega) (fun σ147 H148 e149 c150 => ?_)
            refine k_aload_n rfl ?_
            have t151 := t128.x e149
            have c152 := (t90.mrt r83 (by decide) e116 (by decide)).trans c92
            have c153 := (t128.mr e149 (by decide)).trans c152
            refine k_get kg240 t151 (congrArg (fun z : Option Nat => (Sum.inr (Sum.inr z) : AvC)) c153) ?_
            have t154 := t93.xt r83 (by decide) e116
            have t155 := t154.x e149
            have c156 := (t16.mr e82 (by decide)).trans c18
            have c157 := (t93.mrt r83 (by decide) e116 (by decide)).trans c156
            have c158 := (t154.mr e149 (by decide)).trans c157
            refine k_get kg212 t155 (congrArg (fun z : Option Nat => (Sum.inr (Sum.inr z) : AvC)) c158) ?_
            refine k_aload rfl ?_
            have t159 := t20.x e82
            have t160 := t159.xt r83 (by decide) e116
            have t161 := t160.x e149
            have l162 := (t20.gh e82).trans l21
            have l163 := (t159.ght r83 (by decide) e116).trans l162
            have l164 := (t160.gh e149).trans l163
            have t165 := t117.x e149
            have R166 : RdC p0 none (1) (1) (-999) σ0 σ79 := R73.tr ⟨(e82.gwn H0.1 u86 u87 (by decide) (by rw [← q80]; exact r83.n0)), (e82.cou (u := 1) H0.1 h_0_0 (by decide) (by omega))⟩ (by omega) (by omega) (by omega) (by omega)
            have R167 : RdC p0 none (1) (1) (-999) σ0 σ113 := R166.tr ⟨g121, (e116.co (u := 0) H81.1 t90 r83 (by decide) (by omega))⟩ (by omega) (by omega) (by omega) (by omega)
            have R168 : RdC p0 none (1) (1) (-999) σ0 σ147 := R167.tr ⟨(e149.gw H115.1 (by decide)), (e149.cou (u := 0) H115.1 t128 (by decide) (by rw [e149.cn (by decide)]; omega))⟩ (by omega) (by omega) (by omega) (by omega)
            have c169 := (t128.mi e149 (by decide)).trans c125
            have R170 := R168.nf (-1000) (-1000) (by rw [c169]; omega)
            have X171 : ExC [0, 1, 2, 242, 243, 244, 330, 331, 332, 333, 334, 999] σ0 σ79 := ExC.rf.tr (e82.mo (by decide))
            have X172 : ExC [0, 1, 2, 242, 243, 244, 330, 331, 332, 333, 334, 999] σ0 σ113 := (X171 : ExC [0, 1, 2, 242, 243, 244, 330, 331, 332, 333, 334, 999] σ0 σ79).nt (Nat.le_of_eq q80.symm) (e116.mo (by decide))
            have X173 : ExC [0, 1, 2, 242, 243, 244, 330, 331, 332, 333, 334, 999] σ0 σ113 := ExC.rf.tr X172
            have X174 : ExC [0, 1, 2, 242, 243, 244, 330, 331, 332, 333, 334, 999] σ0 σ147 := X173.tr (e149.mo (by decide))
            have B175 : BgC σ147 p0 1 1 := rd_bg.stn H0 h_0_0 X174 R170 (by decide) (by rw [c169]; omega) (by omega)
            obtain ⟨h176, h177⟩ := B175.new H148.1 t151 (u := 1) (by omega) (by omega)
            refine k_inv (P := P_Jx4a65c_add_9ea2d) (Q := Q_Jx4a65c_add_9ea2d) rfl rfl rfl rfl (Nat.le_of_ble_eq_true rfl) (t161.rc (by decide)) ⟨_, _, rfl, H148, t161, (by rw [l164]; exact ⟨t165, by decide, fun hz => absurd hz (by decide)⟩), (B175.sz H148.1 t151 (by omega) (by omega) c153 (by decide) c158), h176, (by omega), (fun hz => absurd (l164.symm.trans hz) (by decide))⟩ (fun w178 σ179 q180 => ?_)
            obtain ⟨x181, rfl, H182, e183, h185, h186, g184, q187, q188⟩ := q180
            have c189 := (t128.mi e149 (by decide)).trans c123
            have c190 := (t151.mi e183 (by decide)).trans c189
            have c191 := (t151.mi e183 (by decide)).trans c169
            have z192 := congrArg Int32.toInt c190
            have z193 := congrArg Int32.toInt c191
            refine k_st (st' := [.inl x181]) rfl ?_
            refine k_popI ?_
            refine k_aload_n rfl ?_
            have t194 := t151.x e183
            have c195 := (t128.mr e149 (by decide)).trans c130
            have c196 := (t151.mr e183 (by decide)).trans c195
            refine k_get kg241 t194 (congrArg (fun z : Option Nat => (Sum.inr (Sum.inr z) : AvC)) c196) ?_
            have t197 := t132.x e149
            have t198 := t197.x e183
            obtain ⟨a201, e199, c200, t202, l203, l204⟩ := cg303 H182.1 t198
            refine k_get kg303 t198 e199 ?_
            refine k_aload_n rfl ?_
            refine k_get kg242 t194 (congrArg (Sum.inl : Int32 → AvC) c190) ?_
            refine k_iload rfl ?_
            refine k_iastore H182 t202 l204 (by omega) (by omega) (fun σ205 H206 e207 => ?_)
            refine k_aload_n rfl ?_
            have t208 := t194.x e207
            have R209 : RdC p0 none (2) (2) (-999) σ0 σ179 := R170.tr ⟨g184, (e183.cou2 (u := 1) H148.1 t151 (by decide) (by omega) q188)⟩ (by omega) (by omega) (by omega) (by omega)
            have R210 : RdC p0 none (2) (2) (-999) σ0 σ205 := R209.tr ⟨(e207.gw H182.1 (by decide)), (e207.cou (u := 0) H182.1 t194 (by decide) (by rw [e207.cn (by decide)]; omega))⟩ (by omega) (by omega) (by omega) (by omega)
            have c211 := (t194.mi e207 (by decide)).trans c191
            have R212 := R210.nf (-1000) (-1000) (by rw [c211]; omega)
            have X213 : ExC [0, 1, 2, 242, 243, 244, 330, 331, 332, 333, 334, 999] σ0 σ179 := X174.tr (e183.mo (by decide))
            have X214 : ExC [0, 1, 2, 242, 243, 244, 330, 331, 332, 333, 334, 999] σ0 σ205 := X213.tr (e207.mo (by decide))
            have c215 := (t194.mi e207 (by decide)).trans c190
            have z216 := congrArg Int32.toInt c215
            have z217 := congrArg Int32.toInt c211
            refine k_inv (P := P_X7_accept) (Q := Q_X7_accept) rfl rfl rfl rfl (Nat.le_of_ble_eq_true rfl) (t208.rc (by decide)) ⟨_, rfl, H206, t208, (rd_cd.st H0 h_0_0 X214 R212.1 (by decide)), (R212.2.2.2.1 rd_at), (rd_bg.stn H0 h_0_0 X214 R212 (by decide) (by rw [c211]; omega) (by omega)), (by have ct := R212.2.2.1; rw [c211, c215, ct]; omega)⟩ (fun w218 σ219 q220 => ?_)
            obtain ⟨rfl, H221, e222, R223, q224⟩ := q220
            have t230 := t208.x e222
            obtain ⟨x225, e226, c227, h228, h229⟩ := cg242 H221.1 t230
            obtain ⟨x231, e232, c233, h234, h235⟩ := cg243 H221.1 t230
            have z236 := congrArg Int32.toInt c227
            have z237 := congrArg Int32.toInt c233
            refine k_st (st' := []) rfl ?_
            have R238 : RdC p0 none (-6) (2) (-1000) σ0 σ219 := R212.tr ⟨R223.1, R223.2⟩ (by omega) (by omega) (by omega) (by omega)
            have z239 := R238.2.2.1
            have z240 := R238.2.2.2.1 rd_at
            refine k_iload rfl ?_
            refine k_ireturn (fun hz => absurd hz (by decide)) ?_
            have X241 : ExC [0, 1, 2, 242, 243, 244, 330, 331, 332, 333, 334, 999] σ0 σ219 := X214.tr (e222.mo (by decide))
            exact ⟨_, rfl, H221, X241, (by omega), (by omega), (R238.mo (by omega) (by omega) (by omega))⟩
          · refine k_nil ?_
            refine hB _ _ _ _ (kgoC (is := KX7_declare_102) rfl ?_)
            refine k_iconst (m := 1) rfl (fun x242 h243 => ?_)
            refine k_goto ?_
            refine hB _ _ _ _ (kgoC (is := KX7_declare_107) rfl ?_)
            refine k_putI kp334 H115 t117 (Or.inr ⟨fk334, b01C (by omega) (by omega)⟩) (by show 0 ≤ _; omega) (by show _ ≤ 1; omega) (fun σ244 H245 e246 c247 => ?_)
            refine k_aload_n rfl ?_
            have t248 := t128.x e246
            have c249 := (t90.mrt r83 (by decide) e116 (by decide)).trans c92
            have c250 := (t128.mr e246 (by decide)).trans c249
            refine k_get kg240 t248 (congrArg (fun z : Option Nat => (Sum.inr (Sum.inr z) : AvC)) c250) ?_
            have t251 := t93.xt r83 (by decide) e116
            have t252 := t251.x e246
            have c253 := (t16.mr e82 (by decide)).trans c18
            have c254 := (t93.mrt r83 (by decide) e116 (by decide)).trans c253
            have c255 := (t251.mr e246 (by decide)).trans c254
            refine k_get kg212 t252 (congrArg (fun z : Option Nat => (Sum.inr (Sum.inr z) : AvC)) c255) ?_
            refine k_aload rfl ?_
            have t256 := t20.x e82
            have t257 := t256.xt r83 (by decide) e116
            have t258 := t257.x e246
            have l259 := (t20.gh e82).trans l21
            have l260 := (t256.ght r83 (by decide) e116).trans l259
            have l261 := (t257.gh e246).trans l260
            have t262 := t117.x e246
            have R263 : RdC p0 none (1) (1) (-999) σ0 σ79 := R73.tr ⟨(e82.gwn H0.1 u86 u87 (by decide) (by rw [← q80]; exact r83.n0)), (e82.cou (u := 1) H0.1 h_0_0 (by decide) (by omega))⟩ (by omega) (by omega) (by omega) (by omega)
            have R264 : RdC p0 none (1) (1) (-999) σ0 σ113 := R263.tr ⟨g121, (e116.co (u := 0) H81.1 t90 r83 (by decide) (by omega))⟩ (by omega) (by omega) (by omega) (by omega)
            have R265 : RdC p0 none (1) (1) (-999) σ0 σ244 := R264.tr ⟨(e246.gw H115.1 (by decide)), (e246.cou (u := 0) H115.1 t128 (by decide) (by rw [e246.cn (by decide)]; omega))⟩ (by omega) (by omega) (by omega) (by omega)
            have c266 := (t128.mi e246 (by decide)).trans c125
            have R267 := R265.nf (-1000) (-1000) (by rw [c266]; omega)
            have X268 : ExC [0, 1, 2, 242, 243, 244, 330, 331, 332, 333, 334, 999] σ0 σ79 := ExC.rf.tr (e82.mo (by decide))
            have X269 : ExC [0, 1, 2, 242, 243, 244, 330, 331, 332, 333, 334, 999] σ0 σ113 := (X268 : ExC [0, 1, 2, 242, 243, 244, 330, 331, 332, 333, 334, 999] σ0 σ79).nt (Nat.le_of_eq q80.symm) (e116.mo (by decide))
            have X270 : ExC [0, 1, 2, 242, 243, 244, 330, 331, 332, 333, 334, 999] σ0 σ113 := ExC.rf.tr X269
            have X271 : ExC [0, 1, 2, 242, 243, 244, 330, 331, 332, 333, 334, 999] σ0 σ244 := X270.tr (e246.mo (by decide))
            have B272 : BgC σ244 p0 1 1 := rd_bg.stn H0 h_0_0 X271 R267 (by decide) (by rw [c266]; omega) (by omega)
            obtain ⟨h273, h274⟩ := B272.new H245.1 t248 (u := 1) (by omega) (by omega)
            refine k_inv (P := P_Jx4a65c_add_9ea2d) (Q := Q_Jx4a65c_add_9ea2d) rfl rfl rfl rfl (Nat.le_of_ble_eq_true rfl) (t258.rc (by decide)) ⟨_, _, rfl, H245, t258, (by rw [l261]; exact ⟨t262, by decide, fun hz => absurd hz (by decide)⟩), (B272.sz H245.1 t248 (by omega) (by omega) c250 (by decide) c255), h273, (by omega), (fun hz => absurd (l261.symm.trans hz) (by decide))⟩ (fun w275 σ276 q277 => ?_)
            obtain ⟨x278, rfl, H279, e280, h282, h283, g281, q284, q285⟩ := q277
            have c286 := (t128.mi e246 (by decide)).trans c123
            have c287 := (t248.mi e280 (by decide)).trans c286
            have c288 := (t248.mi e280 (by decide)).trans c266
            have z289 := congrArg Int32.toInt c287
            have z290 := congrArg Int32.toInt c288
            refine k_st (st' := [.inl x278]) rfl ?_
            refine k_popI ?_
            refine k_aload_n rfl ?_
            have t291 := t248.x e280
            have c292 := (t128.mr e246 (by decide)).trans c130
            have c293 := (t248.mr e280 (by decide)).trans c292
            refine k_get kg241 t291 (congrArg (fun z : Option Nat => (Sum.inr (Sum.inr z) : AvC)) c293) ?_
            have t294 := t132.x e246
            have t295 := t294.x e280
            obtain ⟨a298, e296, c297, t299, l300, l301⟩ := cg303 H279.1 t295
            refine k_get kg303 t295 e296 ?_
            refine k_aload_n rfl ?_
            refine k_get kg242 t291 (congrArg (Sum.inl : Int32 → AvC) c287) ?_
            refine k_iload rfl ?_
            refine k_iastore H279 t299 l301 (by omega) (by omega) (fun σ302 H303 e304 => ?_)
            refine k_aload_n rfl ?_
            have t305 := t291.x e304
            have R306 : RdC p0 none (2) (2) (-999) σ0 σ276 := R267.tr ⟨g281, (e280.cou2 (u := 1) H245.1 t248 (by decide) (by omega) q285)⟩ (by omega) (by omega) (by omega) (by omega)
            have R307 : RdC p0 none (2) (2) (-999) σ0 σ302 := R306.tr ⟨(e304.gw H279.1 (by decide)), (e304.cou (u := 0) H279.1 t291 (by decide) (by rw [e304.cn (by decide)]; omega))⟩ (by omega) (by omega) (by omega) (by omega)
            have c308 := (t291.mi e304 (by decide)).trans c288
            have R309 := R307.nf (-1000) (-1000) (by rw [c308]; omega)
            have X310 : ExC [0, 1, 2, 242, 243, 244, 330, 331, 332, 333, 334, 999] σ0 σ276 := X271.tr (e280.mo (by decide))
            have X311 : ExC [0, 1, 2, 242, 243, 244, 330, 331, 332, 333, 334, 999] σ0 σ302 := X310.tr (e304.mo (by decide))
            have c312 := (t291.mi e304 (by decide)).trans c287
            have z313 := congrArg Int32.toInt c312
            have z314 := congrArg Int32.toInt c308
            refine k_inv (P := P_X7_accept) (Q := Q_X7_accept) rfl rfl rfl rfl (Nat.le_of_ble_eq_true rfl) (t305.rc (by decide)) ⟨_, rfl, H303, t305, (rd_cd.st H0 h_0_0 X311 R309.1 (by decide)), (R309.2.2.2.1 rd_at), (rd_bg.stn H0 h_0_0 X311 R309 (by decide) (by rw [c308]; omega) (by omega)), (by have ct := R309.2.2.1; rw [c308, c312, ct]; omega)⟩ (fun w315 σ316 q317 => ?_)
            obtain ⟨rfl, H318, e319, R320, q321⟩ := q317
            have t327 := t305.x e319
            obtain ⟨x322, e323, c324, h325, h326⟩ := cg242 H318.1 t327
            obtain ⟨x328, e329, c330, h331, h332⟩ := cg243 H318.1 t327
            have z333 := congrArg Int32.toInt c324
            have z334 := congrArg Int32.toInt c330
            refine k_st (st' := []) rfl ?_
            have R335 : RdC p0 none (-6) (2) (-1000) σ0 σ316 := R309.tr ⟨R320.1, R320.2⟩ (by omega) (by omega) (by omega) (by omega)
            have z336 := R335.2.2.1
            have z337 := R335.2.2.2.1 rd_at
            refine k_iload rfl ?_
            refine k_ireturn (fun hz => absurd hz (by decide)) ?_
            have X338 : ExC [0, 1, 2, 242, 243, 244, 330, 331, 332, 333, 334, 999] σ0 σ316 := X311.tr (e319.mo (by decide))
            exact ⟨_, rfl, H318, X338, (by omega), (by omega), (R335.mo (by omega) (by omega) (by omega))⟩
        · refine k_nil ?_
          refine hB _ _ _ _ (kgoC (is := KX7_declare_40) rfl ?_)
          refine k_aload_n rfl ?_
          refine k_iconst (m := 3) rfl (fun x339 h340 => ?_)
          have R341 := (RdC.rf : RdC p0 none 0 0 0 σ0 σ0).nf (-1000) (-1000) (by rw [c8]; omega)
          refine k_inv (P := P_X7_raise) (Q := Q_X7_raise) rfl rfl rfl rfl (Nat.le_of_ble_eq_true rfl) (h_0_0.rc (by decide)) ⟨_, _, rfl, H0, h_0_0, (by omega), (by omega), (rd_cd.st H0 h_0_0 (ExC.rf : ExC [0, 1, 2, 242, 243, 244, 330, 331, 332, 333, 334, 999] σ0 σ0) R341.1 (by decide)), (R341.2.2.2.1 rd_at), (rd_bg.stn H0 h_0_0 (ExC.rf : ExC [0, 1, 2, 242, 243, 244, 330, 331, 332, 333, 334, 999] σ0 σ0) R341 (by decide) (by rw [c8]; omega) (by omega))⟩ (fun w342 σ343 q344 => ?_)
          obtain ⟨rfl, H345, e346, R347, q348⟩ := q344
          have c349 := (h_0_0.mi e346 (by decide)).trans c3
          have t355 := h_0_0.x e346
          obtain ⟨x350, e351, c352, h353, h354⟩ := cg243 H345.1 t355
          have z356 := congrArg Int32.toInt c349
          have z357 := congrArg Int32.toInt c352
          refine k_st (st' := []) rfl ?_
          have h358 : 1 ≤ x350.toInt := by have hq := q348; rw [c352] at hq; omega
          refine k_nil ?_
          refine hB _ _ _ _ (kgoC (is := KX7_declare_45) rfl ?_)
          refine k_aload_n rfl ?_
          refine k_get kg243 t355 (congrArg (Sum.inl : Int32 → AvC) c352) ?_
          refine k_if_eq (fun h359 => by exfalso; omega) (fun h359 => ?_)
          refine k_nil ?_
          refine hB _ _ _ _ (kgoC (is := KX7_declare_52) rfl ?_)
          refine k_iconst (m := (-1)) rfl (fun x360 h361 => ?_)
          refine k_ireturn (fun hz => absurd hz (by decide)) ?_
          have X362 : ExC [0, 1, 2, 242, 243, 244, 330, 331, 332, 333, 334, 999] σ0 σ343 := ExC.rf.tr (e346.mo (by decide))
          have R363 : RdC p0 none (0) (0) (-1000) σ0 σ343 := R341.tr ⟨R347.1, R347.2⟩ (by omega) (by omega) (by omega) (by omega)
          exact ⟨_, rfl, H345, X362, (by omega), (by omega), ((R363.ft (-6) (by rw [c352]; omega)).mo (by omega) (by omega) (by omega))⟩
    · refine k_nil ?_
      refine hB _ _ _ _ (kgoC (is := KX7_declare_21) rfl ?_)
      refine k_aload_n rfl ?_
      refine k_iconst (m := 2) rfl (fun x364 h365 => ?_)
      refine k_inv (P := P_X7_raise) (Q := Q_X7_raise) rfl rfl rfl rfl (Nat.le_of_ble_eq_true rfl) (h_0_0.rc (by decide)) ⟨_, _, rfl, H0, h_0_0, (by omega), (by omega), (rd_cd.st H0 h_0_0 (ExC.rf : ExC [0, 1, 2, 242, 243, 244, 330, 331, 332, 333, 334, 999] σ0 σ0) (RdC.rf : RdC p0 none 0 0 0 σ0 σ0).1 (by decide)), ((RdC.rf : RdC p0 none 0 0 0 σ0 σ0).2.2.2.1 rd_at), (rd_bg.st H0 h_0_0 (ExC.rf : ExC [0, 1, 2, 242, 243, 244, 330, 331, 332, 333, 334, 999] σ0 σ0) (RdC.rf : RdC p0 none 0 0 0 σ0 σ0) (by decide) (by omega) (by omega) (by omega))⟩ (fun w366 σ367 q368 => ?_)
      obtain ⟨rfl, H369, e370, R371, q372⟩ := q368
      have c373 := (h_0_0.mi e370 (by decide)).trans c3
      have t379 := h_0_0.x e370
      obtain ⟨x374, e375, c376, h377, h378⟩ := cg243 H369.1 t379
      have z380 := congrArg Int32.toInt c373
      have z381 := congrArg Int32.toInt c376
      refine k_st (st' := []) rfl ?_
      have h382 : 1 ≤ x374.toInt := by have hq := q372; rw [c376] at hq; omega
      refine k_goto ?_
      refine hB _ _ _ _ (kgoC (is := KX7_declare_45) rfl ?_)
      refine k_aload_n rfl ?_
      refine k_get kg243 t379 (congrArg (Sum.inl : Int32 → AvC) c376) ?_
      refine k_if_eq (fun h383 => by exfalso; omega) (fun h383 => ?_)
      refine k_nil ?_
      refine hB _ _ _ _ (kgoC (is := KX7_declare_52) rfl ?_)
      refine k_iconst (m := (-1)) rfl (fun x384 h385 => ?_)
      refine k_ireturn (fun hz => absurd hz (by decide)) ?_
      have X386 : ExC [0, 1, 2, 242, 243, 244, 330, 331, 332, 333, 334, 999] σ0 σ367 := ExC.rf.tr (e370.mo (by decide))
      have R387 : RdC p0 none (0) (0) (0) σ0 σ367 := (RdC.rf : RdC p0 none 0 0 0 σ0 σ0).tr ⟨R371.1, R371.2⟩ (by omega) (by omega) (by omega) (by omega)
      exact ⟨_, rfl, H369, X386, (by omega), (by omega), ((R387.ft (-6) (by rw [c376]; omega)).mo (by omega) (by omega) (by omega))⟩

abbrev P_X7_begin : CpC := fun As σ => ∃ (p0 : Nat) (p1 : Int32) (p2 : Int32), As = [.inr (.inr (some p0)), .inl p1, .inl p2] ∧ HIC σ ∧ TyC σ p0 8 ∧ 0 ≤ p2.toInt ∧ p2.toInt ≤ 22 ∧ CdC σ p0 ∧ (fIC σ p0 242).toInt ≤ CtC σ p0 ∧ BgC σ p0 (2) (2) ∧ ¬ p1.toInt = 6
abbrev Q_X7_begin : CqC := fun As σ w τ => match As with
  | [.inr (.inr (some p0)), .inl p1, .inl p2] => ∃ r : Nat, w = some (.inr (.inr (some r))) ∧ HIC τ ∧ ExC [0, 1, 2, 270, 271, 272, 273, 280, 999] σ τ ∧ TyC τ r 9 ∧ RdC p0 none (2) (2) (2) σ τ ∧ (cnC σ ≤ r) ∧ (fIC τ r 270 = p1) ∧ (fIC τ r 272 = p2)
  | _ => False
set_option maxRecDepth 100000 in
set_option maxHeartbeats 4000000 in
theorem m_X7_begin (l : Launch) : CMetC l 11 142 P_X7_begin Q_X7_begin := by
  refine CMetC.of KX7_begin [(178, P_X8_init, Q_X8_init), (236, P_Jx4a65c_add_9ea2d, Q_Jx4a65c_add_9ea2d)] hX7_begin (by decide) (by decide) okX7_begin (cc1C (m_X8_init l) (by decide) (cc1C (m_Jx4a65c_add_9ea2d l) (by decide) cc0C)) ?_ ?_
  · rintro As σ ⟨p0, p1, p2, rfl, -⟩
    exact Nat.le_of_ble_eq_true rfl
  · rintro As σ0 ⟨p0, p1, p2, rfl, H0, h_0_0, h_2_0, h_2_1, rd_cd, rd_at, rd_bg, q_0⟩ hgr G hB hW
    change G 0 [(0, .inr (.inr (some p0))), (1, .inl p1), (2, .inl p2)] [] σ0
    obtain ⟨x1, e2, c3, h4, h5⟩ := cg242 H0.1 h_0_0
    obtain ⟨x6, e7, c8, h9, h10⟩ := cg243 H0.1 h_0_0
    have z11 := congrArg Int32.toInt c3
    have z12 := congrArg Int32.toInt c8
    refine hB _ _ _ _ (kgoC (is := KX7_begin_0) rfl ?_)
    have B13 : BgC σ0 p0 1 1 := rd_bg.st H0 h_0_0 (ExC.rf : ExC [0, 1, 2, 270, 271, 272, 273, 280, 999] σ0 σ0) (RdC.rf : RdC p0 none 0 0 0 σ0 σ0) (by decide) (by omega) (by omega) (by omega)
    obtain ⟨h14, h15⟩ := B13.new H0.1 h_0_0 (u := 1) (by omega) (by omega)
    have z16 := (RdC.rf : RdC p0 none 0 0 0 σ0 σ0).1.1
    refine k_new (c := 9) (g := 0) H0 (by decide) rfl (by omega) (by have hn : nfC 9 = 21 := rfl; omega) (fun a17 σ18 q19 H20 e21 r22 z23 l24 u25 u26 => ?_)
    rw [show nfC 9 = 21 from rfl] at u26
    have u27 : cpC σ18 = cpC σ0 := congrArg Prod.fst e21.2.1.1
    have u28 : spC σ18 = spC σ0 := congrArg Prod.snd e21.2.1.1
    refine k_dupR ?_
    refine k_iload_n rfl ?_
    refine k_aload_n rfl ?_
    have t29 := h_0_0.x e21
    have c30 := (h_0_0.mi e21 (by decide)).trans c3
    refine k_get kg242 t29 (congrArg (Sum.inl : Int32 → AvC) c30) ?_
    refine k_iload_n rfl ?_
    refine k_aload_n rfl ?_
    obtain ⟨o33, e31, c32, t34⟩ := cg246 H20.1 t29
    refine k_get kg246 t29 e31 ?_
    refine k_aload_n rfl ?_
    obtain ⟨y37, e35, c36⟩ := cg245 (σ := σ18) (a := p0)
    refine k_get kg245 t29 e35 ?_
    refine k_spec (P := P_X8_init) (Q := Q_X8_init) rfl rfl rfl rfl (Nat.le_of_ble_eq_true rfl) ⟨_, _, _, _, o33, _, rfl, H20, r22, z23, (by omega), (by omega), (by omega), (by omega), t34, (by omega), (by omega), (by omega), (fun b hb => by have z := t34 b hb; have z1 := z.1; have z2 := r22.ne z (by decide); omega)⟩ (fun w38 σ39 q40 => ?_)
    obtain ⟨rfl, H41, e42, t43, l44, u45, u46, g47, q49, q50⟩ := q40
    have l48 := l44.trans l24
    have c51 := (t29.mit r22 (by decide) e42 (by decide)).trans c30
    have c52 := (h_0_0.mi e21 (by decide)).trans c8
    have c53 := (t29.mit r22 (by decide) e42 (by decide)).trans c52
    have z54 := congrArg Int32.toInt c51
    have z55 := congrArg Int32.toInt c53
    refine k_st (st' := [.inr (.inr (some a17))]) rfl ?_
    refine k_astore_n (ls' := [(3, .inr (.inr (some a17))), (0, .inr (.inr (some p0))), (1, .inl p1), (2, .inl p2)]) rfl ?_
    refine k_aload_n rfl ?_
    have t56 := t29.xt r22 (by decide) e42
    obtain ⟨a59, e57, c58, t60⟩ := cg240 H41.1 t56
    refine k_get kg240 t56 e57 ?_
    obtain ⟨a63, e61, c62, t64, l65⟩ := cg214 H41.1 t60
    refine k_get kg214 t60 e61 ?_
    refine k_aload_n rfl ?_
    have R66 : RdC p0 none (1) (1) (1) σ0 σ18 := (RdC.rf : RdC p0 none 0 0 0 σ0 σ0).tr ⟨(e21.gwn H0.1 u25 u26 (by decide) (by rw [← q19]; exact r22.n0)), (e21.cou (u := 1) H0.1 h_0_0 (by decide) (by omega))⟩ (by omega) (by omega) (by omega) (by omega)
    have R67 : RdC p0 none (1) (1) (1) σ0 σ39 := R66.tr ⟨g47, (e42.co (u := 0) H20.1 t29 r22 (by decide) (by omega))⟩ (by omega) (by omega) (by omega) (by omega)
    have X68 : ExC [0, 1, 2, 270, 271, 272, 273, 280, 999] σ0 σ18 := ExC.rf.tr (e21.mo (by decide))
    have X69 : ExC [0, 1, 2, 270, 271, 272, 273, 280, 999] σ0 σ39 := (X68 : ExC [0, 1, 2, 270, 271, 272, 273, 280, 999] σ0 σ18).nt (Nat.le_of_eq q19.symm) (e42.mo (by decide))
    have X70 : ExC [0, 1, 2, 270, 271, 272, 273, 280, 999] σ0 σ39 := ExC.rf.tr X69
    have B71 : BgC σ39 p0 1 1 := rd_bg.st H0 h_0_0 X70 R67 (by decide) (by omega) (by omega) (by omega)
    obtain ⟨h72, h73⟩ := B71.new H41.1 t56 (u := 1) (by omega) (by omega)
    refine k_inv (P := P_Jx4a65c_add_9ea2d) (Q := Q_Jx4a65c_add_9ea2d) rfl rfl rfl rfl (Nat.le_of_ble_eq_true rfl) (t64.rc (by decide)) ⟨_, _, rfl, H41, t64, (by rw [l65]; exact ⟨t43, by decide, fun hz => absurd hz (by decide)⟩), (B71.sz H41.1 t56 (by omega) (by omega) c58 (by decide) c62), h72, (by omega), (fun hz => absurd (l65.symm.trans hz) (by decide))⟩ (fun w74 σ75 q76 => ?_)
    obtain ⟨x77, rfl, H78, e79, h81, h82, g80, q83, q84⟩ := q76
    have c85 := (t56.mi e79 (by decide)).trans c51
    have c86 := (t56.mi e79 (by decide)).trans c53
    have z87 := congrArg Int32.toInt c85
    have z88 := congrArg Int32.toInt c86
    refine k_st (st' := [.inl x77]) rfl ?_
    refine k_popI ?_
    refine k_aload_n rfl ?_
    refine k_areturn ?_
    have X89 : ExC [0, 1, 2, 270, 271, 272, 273, 280, 999] σ0 σ75 := X70.tr (e79.mo (by decide))
    have t90 := t43.x e79
    have R91 : RdC p0 none (2) (2) (2) σ0 σ75 := R67.tr ⟨g80, (e79.cou2 (u := 1) H41.1 t56 (by decide) (by omega) q84)⟩ (by omega) (by omega) (by omega) (by omega)
    have c92 := (t43.mi e79 (by decide)).trans q49
    have c93 := (t43.mi e79 (by decide)).trans q50
    exact ⟨_, rfl, H78, X89, t90, (R91.mo (by omega) (by omega) (by omega)), (by omega), c92, c93⟩

abbrev P_X7_put : CpC := fun As σ => ∃ (p0 : Nat) (p1 : Nat), As = [.inr (.inr (some p0)), .inr (.inr (some p1))] ∧ HIC σ ∧ TyC σ p0 8 ∧ TyC σ p1 2 ∧ CdC σ p0 ∧ (fIC σ p0 242).toInt ≤ CtC σ p0 ∧ BgC σ p0 (1) (1)
abbrev Q_X7_put : CqC := fun As σ w τ => match As with
  | [.inr (.inr (some p0)), .inr (.inr (some p1))] => ∃ r : Nat, w = some (.inr (.inr (some r))) ∧ HIC τ ∧ ExC [0, 1, 2, 64, 65, 999] σ τ ∧ TyC τ r 2 ∧ RdC p0 none (1) (1) (1) σ τ ∧ (r = p1)
  | _ => False
set_option maxRecDepth 100000 in
set_option maxHeartbeats 4000000 in
theorem m_X7_put (l : Launch) : CMetC l 11 161 P_X7_put Q_X7_put := by
  refine CMetC.of KX7_put [(234, P_Jx4a65c_size_8abf5, Q_Jx4a65c_size_8abf5), (236, P_Jx4a65c_add_9ea2d, Q_Jx4a65c_add_9ea2d)] hX7_put (by decide) (by decide) okX7_put (cc1C (m_Jx4a65c_size_8abf5 l) (by decide) (cc1C (m_Jx4a65c_add_9ea2d l) (by decide) cc0C)) ?_ ?_
  · rintro As σ ⟨p0, p1, rfl, -⟩
    exact Nat.le_of_ble_eq_true rfl
  · rintro As σ0 ⟨p0, p1, rfl, H0, h_0_0, h_1_0, rd_cd, rd_at, rd_bg⟩ hgr G hB hW
    change G 0 [(0, .inr (.inr (some p0))), (1, .inr (.inr (some p1)))] [] σ0
    obtain ⟨x1, e2, c3, h4, h5⟩ := cg242 H0.1 h_0_0
    obtain ⟨x6, e7, c8, h9, h10⟩ := cg243 H0.1 h_0_0
    have z11 := congrArg Int32.toInt c3
    have z12 := congrArg Int32.toInt c8
    refine hB _ _ _ _ (kgoC (is := KX7_put_0) rfl ?_)
    refine k_aload_n rfl ?_
    refine k_aload_n rfl ?_
    obtain ⟨a15, e13, c14, t16⟩ := cg240 H0.1 h_0_0
    refine k_get kg240 h_0_0 e13 ?_
    obtain ⟨a19, e17, c18, t20, l21⟩ := cg213 H0.1 t16
    refine k_get kg213 t16 e17 ?_
    refine k_inv (P := P_Jx4a65c_size_8abf5) (Q := Q_Jx4a65c_size_8abf5) rfl rfl rfl rfl (Nat.le_of_ble_eq_true rfl) (t20.rc (by decide)) ⟨_, rfl, H0, t20⟩ (fun w22 σ23 q24 => ?_)
    obtain ⟨x25, rfl, rfl, h26, h27, q28, q29⟩ := q24
    refine k_st (st' := [.inl x25, .inr (.inr (some p1))]) rfl ?_
    refine k_putI kp65 H0 h_1_0 (Or.inl fk65) (tiC x25).1 (tiC x25).2 (fun σ30 H31 e32 c33 => ?_)
    refine k_aload_n rfl ?_
    refine k_aload_n rfl ?_
    have t34 := h_0_0.x e32
    have c35 := (h_0_0.mi e32 (by decide)).trans c3
    refine k_get kg242 t34 (congrArg (Sum.inl : Int32 → AvC) c35) ?_
    refine k_iconst (m := 1) rfl (fun x36 h37 => ?_)
    refine k_isub (by omega) (by omega) (fun x38 h39 => ?_)
    have t40 := h_1_0.x e32
    refine k_putI kp64 H31 t40 (Or.inl fk64) (tiC x38).1 (tiC x38).2 (fun σ41 H42 e43 c44 => ?_)
    refine k_aload_n rfl ?_
    have t45 := t34.x e43
    have c46 := (h_0_0.mr e32 (by decide)).trans c14
    have c47 := (t34.mr e43 (by decide)).trans c46
    refine k_get kg240 t45 (congrArg (fun z : Option Nat => (Sum.inr (Sum.inr z) : AvC)) c47) ?_
    have t48 := t16.x e32
    have t49 := t48.x e43
    have c50 := (t16.mr e32 (by decide)).trans c18
    have c51 := (t48.mr e43 (by decide)).trans c50
    refine k_get kg213 t49 (congrArg (fun z : Option Nat => (Sum.inr (Sum.inr z) : AvC)) c51) ?_
    refine k_aload_n rfl ?_
    have t52 := t20.x e32
    have t53 := t52.x e43
    have l54 := (t20.gh e32).trans l21
    have l55 := (t52.gh e43).trans l54
    have t56 := t40.x e43
    have R57 : RdC p0 none (0) (0) (0) σ0 σ30 := (RdC.rf : RdC p0 none 0 0 0 σ0 σ0).tr ⟨(e32.gw H0.1 (by decide)), (e32.cou (u := 0) H0.1 h_0_0 (by decide) (by rw [e32.cn (by decide)]; omega))⟩ (by omega) (by omega) (by omega) (by omega)
    have R58 : RdC p0 none (0) (0) (0) σ0 σ41 := R57.tr ⟨(e43.gw H31.1 (by decide)), (e43.cou (u := 0) H31.1 t34 (by decide) (by rw [e43.cn (by decide)]; omega))⟩ (by omega) (by omega) (by omega) (by omega)
    have c59 := (h_0_0.mi e32 (by decide)).trans c8
    have c60 := (t34.mi e43 (by decide)).trans c59
    have X61 : ExC [0, 1, 2, 64, 65, 999] σ0 σ30 := ExC.rf.tr (e32.mo (by decide))
    have X62 : ExC [0, 1, 2, 64, 65, 999] σ0 σ41 := X61.tr (e43.mo (by decide))
    have B63 : BgC σ41 p0 1 1 := rd_bg.st H0 h_0_0 X62 R58 (by decide) (by omega) (by omega) (by omega)
    obtain ⟨h64, h65⟩ := B63.new H42.1 t45 (u := 1) (by omega) (by omega)
    refine k_inv (P := P_Jx4a65c_add_9ea2d) (Q := Q_Jx4a65c_add_9ea2d) rfl rfl rfl rfl (Nat.le_of_ble_eq_true rfl) (t53.rc (by decide)) ⟨_, _, rfl, H42, t53, (by rw [l55]; exact ⟨t56, by decide, fun hz => absurd hz (by decide)⟩), (B63.sz H42.1 t45 (by omega) (by omega) c47 (by decide) c51), h64, (by omega), (fun hz => absurd (l55.symm.trans hz) (by decide))⟩ (fun w66 σ67 q68 => ?_)
    obtain ⟨x69, rfl, H70, e71, h73, h74, g72, q75, q76⟩ := q68
    have c77 := (t34.mi e43 (by decide)).trans c35
    have c78 := (t45.mi e71 (by decide)).trans c77
    have c79 := (t45.mi e71 (by decide)).trans c60
    have z80 := congrArg Int32.toInt c78
    have z81 := congrArg Int32.toInt c79
    refine k_st (st' := [.inl x69]) rfl ?_
    refine k_popI ?_
    refine k_aload_n rfl ?_
    refine k_areturn ?_
    have X82 : ExC [0, 1, 2, 64, 65, 999] σ0 σ67 := X62.tr (e71.mo (by decide))
    have t83 := t56.x e71
    have R84 : RdC p0 none (1) (1) (1) σ0 σ67 := R58.tr ⟨g72, (e71.cou2 (u := 1) H42.1 t45 (by decide) (by omega) q76)⟩ (by omega) (by omega) (by omega) (by omega)
    exact ⟨_, rfl, H70, X82, t83, (R84.mo (by omega) (by omega) (by omega)), (by omega)⟩

abbrev P_X7_opened : CpC := fun As σ => ∃ (p0 : Nat) (p1 : Int32) (p2 : Int32), As = [.inr (.inr (some p0)), .inl p1, .inl p2] ∧ HIC σ ∧ TyC σ p0 8 ∧ CdC σ p0 ∧ (fIC σ p0 242).toInt ≤ CtC σ p0 ∧ BgC σ p0 (1) (1) ∧ ¬ p1.toInt = 7
abbrev Q_X7_opened : CqC := fun As σ w τ => match As with
  | [.inr (.inr (some p0)), .inl p1, .inl p2] => ∃ r : Nat, w = some (.inr (.inr (some r))) ∧ HIC τ ∧ ExC [60, 61, 62, 63, 66, 67, 68, 999] σ τ ∧ TyC τ r 2 ∧ RdC p0 none (1) (1) (1) σ τ ∧ (cnC σ ≤ r)
  | _ => False
set_option maxRecDepth 100000 in
set_option maxHeartbeats 4000000 in
theorem m_X7_opened (l : Launch) : CMetC l 11 162 P_X7_opened Q_X7_opened := by
  refine CMetC.of KX7_opened [(234, P_Jx4a65c_size_8abf5, Q_Jx4a65c_size_8abf5), (17, P_X1_init, Q_X1_init)] hX7_opened (by decide) (by decide) okX7_opened (cc1C (m_Jx4a65c_size_8abf5 l) (by decide) (cc1C (m_X1_init l) (by decide) cc0C)) ?_ ?_
  · rintro As σ ⟨p0, p1, p2, rfl, -⟩
    exact Nat.le_of_ble_eq_true rfl
  · rintro As σ0 ⟨p0, p1, p2, rfl, H0, h_0_0, rd_cd, rd_at, rd_bg, q_0⟩ hgr G hB hW
    change G 0 [(0, .inr (.inr (some p0))), (1, .inl p1), (2, .inl p2)] [] σ0
    obtain ⟨x1, e2, c3, h4, h5⟩ := cg242 H0.1 h_0_0
    obtain ⟨x6, e7, c8, h9, h10⟩ := cg243 H0.1 h_0_0
    have z11 := congrArg Int32.toInt c3
    have z12 := congrArg Int32.toInt c8
    refine hB _ _ _ _ (kgoC (is := KX7_opened_0) rfl ?_)
    have B13 : BgC σ0 p0 1 1 := rd_bg.st H0 h_0_0 (ExC.rf : ExC [60, 61, 62, 63, 66, 67, 68, 999] σ0 σ0) (RdC.rf : RdC p0 none 0 0 0 σ0 σ0) (by decide) (by omega) (by omega) (by omega)
    obtain ⟨h14, h15⟩ := B13.new H0.1 h_0_0 (u := 1) (by omega) (by omega)
    have z16 := (RdC.rf : RdC p0 none 0 0 0 σ0 σ0).1.1
    refine k_new (c := 2) (g := 0) H0 (by decide) rfl (by omega) (by have hn : nfC 2 = 18 := rfl; omega) (fun a17 σ18 q19 H20 e21 r22 z23 l24 u25 u26 => ?_)
    rw [show nfC 2 = 18 from rfl] at u26
    have u27 : cpC σ18 = cpC σ0 := congrArg Prod.fst e21.2.1.1
    have u28 : spC σ18 = spC σ0 := congrArg Prod.snd e21.2.1.1
    refine k_dupR ?_
    refine k_iload_n rfl ?_
    refine k_iload_n rfl ?_
    refine k_aload_n rfl ?_
    have t29 := h_0_0.x e21
    have c30 := (h_0_0.mi e21 (by decide)).trans c3
    refine k_get kg242 t29 (congrArg (Sum.inl : Int32 → AvC) c30) ?_
    refine k_aload_n rfl ?_
    obtain ⟨a33, e31, c32, t34⟩ := cg240 H20.1 t29
    refine k_get kg240 t29 e31 ?_
    obtain ⟨a37, e35, c36, t38, l39⟩ := cg213 H20.1 t34
    refine k_get kg213 t34 e35 ?_
    refine k_inv (P := P_Jx4a65c_size_8abf5) (Q := Q_Jx4a65c_size_8abf5) rfl rfl rfl rfl (Nat.le_of_ble_eq_true rfl) (t38.rc (by decide)) ⟨_, rfl, H20, t38⟩ (fun w40 σ41 q42 => ?_)
    obtain ⟨x43, rfl, rfl, h44, h45, q46, q47⟩ := q42
    refine k_st (st' := [.inl x43, .inl x1, .inl p2, .inl p1, .inr (.inr (some a17)), .inr (.inr (some a17))]) rfl ?_
    refine k_spec (P := P_X1_init) (Q := Q_X1_init) rfl rfl rfl rfl (Nat.le_of_ble_eq_true rfl) ⟨_, _, _, _, _, rfl, H20, r22, z23, (by omega), (by omega), (by omega), (by omega), (by omega)⟩ (fun w48 σ49 q50 => ?_)
    obtain ⟨rfl, H51, e52, t53, t53', l54, u55, u56, g57, q59, q60, q61, q62⟩ := q50
    have l58 := l54.trans l24
    have c63 := (t29.mit r22 (by decide) e52 (by decide)).trans c30
    have c64 := (h_0_0.mi e21 (by decide)).trans c8
    have c65 := (t29.mit r22 (by decide) e52 (by decide)).trans c64
    have z66 := congrArg Int32.toInt c63
    have z67 := congrArg Int32.toInt c65
    refine k_st (st' := [.inr (.inr (some a17))]) rfl ?_
    have t68 : TyC σ49 a17 2 := ⟨t53, t53', fun _ hz => by have z1 := congrArg Int32.toInt (q59.symm.trans hz.1); have z2 : (7 : Int32).toInt = 7 := rfl; omega⟩
    refine k_areturn ?_
    have X69 : ExC [60, 61, 62, 63, 66, 67, 68, 999] σ0 σ18 := ExC.rf.tr (e21.mo (by decide))
    have X70 : ExC [60, 61, 62, 63, 66, 67, 68, 999] σ0 σ49 := (X69 : ExC [60, 61, 62, 63, 66, 67, 68, 999] σ0 σ18).nt (Nat.le_of_eq q19.symm) (e52.mo (by decide))
    have X71 : ExC [60, 61, 62, 63, 66, 67, 68, 999] σ0 σ49 := ExC.rf.tr X70
    have R72 : RdC p0 none (1) (1) (1) σ0 σ18 := (RdC.rf : RdC p0 none 0 0 0 σ0 σ0).tr ⟨(e21.gwn H0.1 u25 u26 (by decide) (by rw [← q19]; exact r22.n0)), (e21.cou (u := 1) H0.1 h_0_0 (by decide) (by omega))⟩ (by omega) (by omega) (by omega) (by omega)
    have R73 : RdC p0 none (1) (1) (1) σ0 σ49 := R72.tr ⟨g57, (e52.co (u := 0) H20.1 t29 r22 (by decide) (by omega))⟩ (by omega) (by omega) (by omega) (by omega)
    exact ⟨_, rfl, H51, X71, t68, (R73.mo (by omega) (by omega) (by omega)), (by omega)⟩

abbrev P_X7_putMark : CpC := fun As σ => ∃ (p0 : Nat) (p1 : Int32) (p2 : Int32), As = [.inr (.inr (some p0)), .inl p1, .inl p2] ∧ HIC σ ∧ TyC σ p0 8 ∧ CdC σ p0 ∧ (fIC σ p0 242).toInt ≤ CtC σ p0 ∧ BgC σ p0 (2) (2) ∧ ¬ p1.toInt = 7
abbrev Q_X7_putMark : CqC := fun As σ w τ => match As with
  | [.inr (.inr (some p0)), .inl p1, .inl p2] => ∃ r : Nat, w = some (.inr (.inr (some r))) ∧ HIC τ ∧ ExC [0, 1, 2, 60, 61, 62, 63, 64, 65, 66, 67, 68, 999] σ τ ∧ TyC τ r 2 ∧ RdC p0 none (2) (2) (2) σ τ ∧ (cnC σ ≤ r)
  | _ => False
set_option maxRecDepth 100000 in
set_option maxHeartbeats 4000000 in
theorem m_X7_putMark (l : Launch) : CMetC l 12 163 P_X7_putMark Q_X7_putMark := by
  refine CMetC.of KX7_putMark [(162, P_X7_opened, Q_X7_opened), (161, P_X7_put, Q_X7_put)] hX7_putMark (by decide) (by decide) okX7_putMark (cc1C (m_X7_opened l) (by decide) (cc1C (m_X7_put l) (by decide) cc0C)) ?_ ?_
  · rintro As σ ⟨p0, p1, p2, rfl, -⟩
    exact Nat.le_of_ble_eq_true rfl
  · rintro As σ0 ⟨p0, p1, p2, rfl, H0, h_0_0, rd_cd, rd_at, rd_bg, q_0⟩ hgr G hB hW
    change G 0 [(0, .inr (.inr (some p0))), (1, .inl p1), (2, .inl p2)] [] σ0
    obtain ⟨x1, e2, c3, h4, h5⟩ := cg242 H0.1 h_0_0
    obtain ⟨x6, e7, c8, h9, h10⟩ := cg243 H0.1 h_0_0
    have z11 := congrArg Int32.toInt c3
    have z12 := congrArg Int32.toInt c8
    refine hB _ _ _ _ (kgoC (is := KX7_putMark_0) rfl ?_)
    refine k_aload_n rfl ?_
    refine k_aload_n rfl ?_
    refine k_iload_n rfl ?_
    refine k_iload_n rfl ?_
    refine k_inv (P := P_X7_opened) (Q := Q_X7_opened) rfl rfl rfl rfl (Nat.le_of_ble_eq_true rfl) (h_0_0.rc (by decide)) ⟨_, _, _, rfl, H0, h_0_0, (rd_cd.st H0 h_0_0 (ExC.rf : ExC [0, 1, 2, 60, 61, 62, 63, 64, 65, 66, 67, 68, 999] σ0 σ0) (RdC.rf : RdC p0 none 0 0 0 σ0 σ0).1 (by decide)), ((RdC.rf : RdC p0 none 0 0 0 σ0 σ0).2.2.2.1 rd_at), (rd_bg.st H0 h_0_0 (ExC.rf : ExC [0, 1, 2, 60, 61, 62, 63, 64, 65, 66, 67, 68, 999] σ0 σ0) (RdC.rf : RdC p0 none 0 0 0 σ0 σ0) (by decide) (by omega) (by omega) (by omega)), (by omega)⟩ (fun w13 σ14 q15 => ?_)
    obtain ⟨a16, rfl, H17, e18, h20, R19, q21⟩ := q15
    have c22 := (h_0_0.mi e18 (by decide)).trans c3
    have c23 := (h_0_0.mi e18 (by decide)).trans c8
    have z24 := congrArg Int32.toInt c22
    have z25 := congrArg Int32.toInt c23
    refine k_st (st' := [.inr (.inr (some a16)), .inr (.inr (some p0))]) rfl ?_
    have t26 := h_0_0.x e18
    have R27 : RdC p0 none (1) (1) (1) σ0 σ14 := (RdC.rf : RdC p0 none 0 0 0 σ0 σ0).tr ⟨R19.1, R19.2⟩ (by omega) (by omega) (by omega) (by omega)
    have X28 : ExC [0, 1, 2, 60, 61, 62, 63, 64, 65, 66, 67, 68, 999] σ0 σ14 := ExC.rf.tr (e18.mo (by decide))
    refine k_inv (P := P_X7_put) (Q := Q_X7_put) rfl rfl rfl rfl (Nat.le_of_ble_eq_true rfl) (t26.rc (by decide)) ⟨_, _, rfl, H17, t26, h20, (rd_cd.st H0 h_0_0 X28 R27.1 (by decide)), (R27.2.2.2.1 rd_at), (rd_bg.st H0 h_0_0 X28 R27 (by decide) (by omega) (by omega) (by omega))⟩ (fun w29 σ30 q31 => ?_)
    obtain ⟨a32, rfl, H33, e34, h36, R35, q37⟩ := q31
    have c38 := (t26.mi e34 (by decide)).trans c22
    have c39 := (t26.mi e34 (by decide)).trans c23
    have z40 := congrArg Int32.toInt c38
    have z41 := congrArg Int32.toInt c39
    refine k_st (st' := [.inr (.inr (some a32))]) rfl ?_
    refine k_areturn ?_
    have X42 : ExC [0, 1, 2, 60, 61, 62, 63, 64, 65, 66, 67, 68, 999] σ0 σ30 := X28.tr (e34.mo (by decide))
    have R43 : RdC p0 none (2) (2) (2) σ0 σ30 := R27.tr ⟨R35.1, R35.2⟩ (by omega) (by omega) (by omega) (by omega)
    exact ⟨_, rfl, H33, X42, h36, (R43.mo (by omega) (by omega) (by omega)), (by omega)⟩
