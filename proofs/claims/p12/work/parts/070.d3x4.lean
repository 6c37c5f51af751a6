abbrev P_X4_push : CpC := fun As σ => ∃ (p0 : Nat) (p1 : Int64), As = [.inr (.inr (some p0)), .inr (.inl p1)] ∧ HIC σ ∧ TyC σ p0 5
abbrev Q_X4_push : CqC := fun As σ w τ => match As with
  | [.inr (.inr (some p0)), .inr (.inl p1)] => w = none ∧ HIC τ ∧ ExC [162] σ τ
  | _ => False
set_option maxRecDepth 100000 in
set_option maxHeartbeats 4000000 in
theorem b_X4_push : TbC KX4_push [] P_X4_push Q_X4_push := by
  · rintro As σ0 ⟨p0, p1, rfl, H0, h_0_0⟩ hgr G hB hW
    change G 0 [(0, .inr (.inr (some p0))), (1, .inr (.inl p1))] [] σ0
    refine hB _ _ _ _ (kgoC (is := KX4_push_0) rfl ?_)
    refine k_aload_n rfl ?_
    obtain ⟨x3, e1, c2, h4, h5⟩ := cg162 H0.1 h_0_0
    refine k_get kg162 h_0_0 e1 ?_
    refine k_aload_n rfl ?_
    obtain ⟨a8, e6, c7, t9, l10, l11⟩ := cg151 H0.1 h_0_0
    refine k_get kg151 h_0_0 e6 ?_
    refine k_alen t9 (by decide) (by decide) l10 (by decide) (fun x12 h13 => ?_)
    refine k_ic_ge (fun h14 => ?_) (fun h14 => ?_)
    · refine hB _ _ _ _ (kgoC (is := KX4_push_32) rfl ?_)
      refine k_return ?_
      exact ⟨rfl, H0, (ExC.rf : ExC [162] σ0 σ0)⟩
    · refine k_nil ?_
      refine hB _ _ _ _ (kgoC (is := KX4_push_12) rfl ?_)
      refine k_aload_n rfl ?_
      refine k_get kg151 h_0_0 (congrArg (fun z : Option Nat => (Sum.inr (Sum.inr z) : AvC)) c7) ?_
      refine k_aload_n rfl ?_
      refine k_get kg162 h_0_0 (congrArg (Sum.inl : Int32 → AvC) c2) ?_
      refine k_lload_n rfl ?_
      refine k_lastore H0 t9 l11 (by omega) (by omega) (fun σ15 H16 e17 => ?_)
      refine k_aload_n rfl ?_
      refine k_dupR ?_
      have t18 := h_0_0.x e17
      have c19 := (h_0_0.mi e17 (by decide)).trans c2
      refine k_get kg162 t18 (congrArg (Sum.inl : Int32 → AvC) c19) ?_
      refine k_iconst (m := 1) rfl (fun x20 h21 => ?_)
      refine k_iadd (by omega) (by omega) (fun x22 h23 => ?_)
      refine k_putI kp162 H16 t18 (Or.inl fk162) (by show 0 ≤ _; omega) (by show _ ≤ 7500; omega) (fun σ24 H25 e26 c27 => ?_)
      refine k_nil ?_
      refine hB _ _ _ _ (kgoC (is := KX4_push_32) rfl ?_)
      refine k_return ?_
      have X28 : ExC [162] σ0 σ15 := ExC.rf.tr (e17.mo (by decide))
      have X29 : ExC [162] σ0 σ24 := X28.tr (e26.mo (by decide))
      exact ⟨rfl, H25, X29⟩
theorem lg_X4_push : ∀ (As : List AvC) (σ : CsC), P_X4_push As σ → lgC As ≤ rX4_push.2.2.1 := by
  rintro As σ ⟨p0, p1, rfl, -⟩
  exact Nat.le_of_ble_eq_true rfl
theorem m_X4_push (l : Launch) : CMetC l 1 91 P_X4_push Q_X4_push :=
  CMetC.of KX4_push [] hX4_push (by decide) (by decide) okX4_push cc0C (lg_X4_push) (b_X4_push)

abbrev P_X4_pop : CpC := fun As σ => ∃ (p0 : Nat), As = [.inr (.inr (some p0))] ∧ HIC σ ∧ TyC σ p0 5
abbrev Q_X4_pop : CqC := fun As σ w τ => match As with
  | [.inr (.inr (some p0))] => ∃ r : Int64, w = some (.inr (.inl r)) ∧ HIC τ ∧ ExC [162] σ τ
  | _ => False
set_option maxRecDepth 100000 in
set_option maxHeartbeats 4000000 in
theorem b_X4_pop : TbC KX4_pop [] P_X4_pop Q_X4_pop := by
  · rintro As σ0 ⟨p0, rfl, H0, h_0_0⟩ hgr G hB hW
    change G 0 [(0, .inr (.inr (some p0)))] [] σ0
    refine hB _ _ _ _ (kgoC (is := KX4_pop_0) rfl ?_)
    refine k_aload_n rfl ?_
    obtain ⟨x3, e1, c2, h4, h5⟩ := cg162 H0.1 h_0_0
    refine k_get kg162 h_0_0 e1 ?_
    refine k_if_gt (fun h6 => ?_) (fun h6 => ?_)
    · refine hB _ _ _ _ (kgoC (is := KX4_pop_9) rfl ?_)
      refine k_aload_n rfl ?_
      refine k_dupR ?_
      refine k_get kg162 h_0_0 (congrArg (Sum.inl : Int32 → AvC) c2) ?_
      refine k_iconst (m := 1) rfl (fun x7 h8 => ?_)
      refine k_isub (by omega) (by omega) (fun x9 h10 => ?_)
      refine k_putI kp162 H0 h_0_0 (Or.inl fk162) (by show 0 ≤ _; omega) (by show _ ≤ 7500; omega) (fun σ11 H12 e13 c14 => ?_)
      refine k_aload_n rfl ?_
      have t15 := h_0_0.x e13
      obtain ⟨a18, e16, c17, t19, l20, l21⟩ := cg151 H12.1 t15
      refine k_get kg151 t15 e16 ?_
      refine k_aload_n rfl ?_
      refine k_get kg162 t15 (congrArg (Sum.inl : Int32 → AvC) c14) ?_
      refine k_laload t19 (by omega) (by omega) (fun y22 => ?_)
      refine k_lreturn ?_
      have X23 : ExC [162] σ0 σ11 := ExC.rf.tr (e13.mo (by decide))
      exact ⟨_, rfl, H12, X23⟩
    · refine k_nil ?_
      refine hB _ _ _ _ (kgoC (is := KX4_pop_7) rfl ?_)
      refine k_lconst ?_
      refine k_lreturn ?_
      exact ⟨_, rfl, H0, (ExC.rf : ExC [162] σ0 σ0)⟩
theorem lg_X4_pop : ∀ (As : List AvC) (σ : CsC), P_X4_pop As σ → lgC As ≤ rX4_pop.2.2.1 := by
  rintro As σ ⟨p0, rfl, -⟩
  exact Nat.le_of_ble_eq_true rfl
theorem m_X4_pop (l : Launch) : CMetC l 1 92 P_X4_pop Q_X4_pop :=
  CMetC.of KX4_pop [] hX4_pop (by decide) (by decide) okX4_pop cc0C (lg_X4_pop) (b_X4_pop)

abbrev P_X4_slot : CpC := fun As σ => ∃ (p0 : Nat) (p1 : Int32), As = [.inr (.inr (some p0)), .inl p1] ∧ HIC σ ∧ TyC σ p0 5
abbrev Q_X4_slot : CqC := fun As σ w τ => match As with
  | [.inr (.inr (some p0)), .inl p1] => ∃ r : Int32, w = some (.inl r) ∧ σ = τ ∧ 0 ≤ r.toInt ∧ r.toInt ≤ 1799
  | _ => False
set_option maxRecDepth 100000 in
set_option maxHeartbeats 4000000 in
theorem b_X4_slot : TbC KX4_slot [] P_X4_slot Q_X4_slot := by
  · rintro As σ0 ⟨p0, p1, rfl, H0, h_0_0⟩ hgr G hB hW
    change G 0 [(0, .inr (.inr (some p0))), (1, .inl p1)] [] σ0
    refine hB _ _ _ _ (kgoC (is := KX4_slot_0) rfl ?_)
    refine k_aload_n rfl ?_
    obtain ⟨x3, e1, c2, h4, h5⟩ := cg163 H0.1 h_0_0
    refine k_get kg163 h_0_0 e1 ?_
    refine k_iconst (m := 1) rfl (fun x6 h7 => ?_)
    refine k_isub (by omega) (by omega) (fun x8 h9 => ?_)
    refine k_bipush (m := 60) rfl (fun x10 h11 => ?_)
    refine k_imul_u (fun x12 => ?_)
    refine k_iload_n rfl ?_
    have z15 := tiC x12
    have z16 := tiC p1
    refine k_iadd_u (fun x13 => ?_)
    refine k_istore_n (ls' := [(2, .inl x13), (0, .inr (.inr (some p0))), (1, .inl p1)]) rfl ?_
    refine k_iload_n rfl ?_
    refine k_if_lt (fun h17 => ?_) (fun h17 => ?_)
    · refine hB _ _ _ _ (kgoC (is := KX4_slot_29) rfl ?_)
      refine k_iconst (m := 0) rfl (fun x18 h19 => ?_)
      refine k_nil ?_
      refine hB _ _ _ _ (kgoC (is := KX4_slot_30) rfl ?_)
      refine k_ireturn (fun hz => absurd hz (by decide)) ?_
      exact ⟨_, rfl, rfl, (by omega), (by omega)⟩
    · refine k_nil ?_
      refine hB _ _ _ _ (kgoC (is := KX4_slot_16) rfl ?_)
      refine k_iload_n rfl ?_
      refine k_aload_n rfl ?_
      obtain ⟨a22, e20, c21, t23, l24, l25⟩ := cg150 H0.1 h_0_0
      refine k_get kg150 h_0_0 e20 ?_
      refine k_alen t23 (by decide) (by decide) l24 (by decide) (fun x26 h27 => ?_)
      refine k_ic_ge (fun h28 => ?_) (fun h28 => ?_)
      · refine hB _ _ _ _ (kgoC (is := KX4_slot_29) rfl ?_)
        refine k_iconst (m := 0) rfl (fun x29 h30 => ?_)
        refine k_nil ?_
        refine hB _ _ _ _ (kgoC (is := KX4_slot_30) rfl ?_)
        refine k_ireturn (fun hz => absurd hz (by decide)) ?_
        exact ⟨_, rfl, rfl, (by omega), (by omega)⟩
      · refine k_nil ?_
        refine hB _ _ _ _ (kgoC (is := KX4_slot_25) rfl ?_)
        refine k_iload_n rfl ?_
        refine k_goto ?_
        refine hB _ _ _ _ (kgoC (is := KX4_slot_30) rfl ?_)
        refine k_ireturn (fun hz => absurd hz (by decide)) ?_
        exact ⟨_, rfl, rfl, (by omega), (by omega)⟩
theorem lg_X4_slot : ∀ (As : List AvC) (σ : CsC), P_X4_slot As σ → lgC As ≤ rX4_slot.2.2.1 := by
  rintro As σ ⟨p0, p1, rfl, -⟩
  exact Nat.le_of_ble_eq_true rfl
theorem m_X4_slot (l : Launch) : CMetC l 1 93 P_X4_slot Q_X4_slot :=
  CMetC.of KX4_slot [] hX4_slot (by decide) (by decide) okX4_slot cc0C (lg_X4_slot) (b_X4_slot)

abbrev P_X4_step : CpC := fun As σ => ∃ (p0 : Nat), As = [.inr (.inr (some p0))] ∧ HIC σ ∧ TyC σ p0 5
abbrev Q_X4_step : CqC := fun As σ w τ => match As with
  | [.inr (.inr (some p0))] => ∃ r : Int32, w = some (.inl r) ∧ HIC τ ∧ ExC [165, 169] σ τ ∧ 0 ≤ r.toInt ∧ r.toInt ≤ 1 ∧ (r.toInt = 1 → (fIC τ p0 167).toInt < (fIC τ p0 165).toInt)
  | _ => False
set_option maxRecDepth 100000 in
set_option maxHeartbeats 4000000 in
theorem b_X4_step : TbC KX4_step [] P_X4_step Q_X4_step := by
  · rintro As σ0 ⟨p0, rfl, H0, h_0_0⟩ hgr G hB hW
    change G 0 [(0, .inr (.inr (some p0)))] [] σ0
    refine hB _ _ _ _ (kgoC (is := KX4_step_0) rfl ?_)
    refine k_aload_n rfl ?_
    obtain ⟨x3, e1, c2, h4, h5⟩ := cg165 H0.1 h_0_0
    refine k_get kg165 h_0_0 e1 ?_
    refine k_aload_n rfl ?_
    obtain ⟨x8, e6, c7, h9, h10⟩ := cg164 H0.1 h_0_0
    refine k_get kg164 h_0_0 e6 ?_
    refine k_ic_lt (fun h11 => ?_) (fun h11 => ?_)
    · refine hB _ _ _ _ (kgoC (is := KX4_step_18) rfl ?_)
      refine k_aload_n rfl ?_
      refine k_dupR ?_
      refine k_get kg165 h_0_0 (congrArg (Sum.inl : Int32 → AvC) c2) ?_
      refine k_iconst (m := 1) rfl (fun x12 h13 => ?_)
      refine k_iadd (by omega) (by omega) (fun x14 h15 => ?_)
      refine k_p165 H0 h_0_0 c2 (by omega) (by omega) (fun σ16 H17 e18 c19 => ?_)
      refine k_iconst (m := 1) rfl (fun x20 h21 => ?_)
      refine k_ireturn (fun _ => b01C (by omega) (by omega)) ?_
      have X22 : ExC [165, 169] σ0 σ16 := ExC.rf.tr (e18.mo (by decide))
      exact ⟨_, rfl, H17, X22, (by omega), (by omega), (by intro _; have z := H0.x5 h_0_0; have z1 := congrArg Int32.toInt c2; have z2 := congrArg Int32.toInt (h_0_0.mi e18 (k := 167) (by decide)); have z3 := congrArg Int32.toInt c19; omega)⟩
    · refine k_nil ?_
      refine hB _ _ _ _ (kgoC (is := KX4_step_11) rfl ?_)
      refine k_aload_n rfl ?_
      refine k_iconst (m := 3) rfl (fun x23 h24 => ?_)
      refine k_putI kp169 H0 h_0_0 (Or.inl fk169) (tiC x23).1 (tiC x23).2 (fun σ25 H26 e27 c28 => ?_)
      refine k_iconst (m := 0) rfl (fun x29 h30 => ?_)
      refine k_ireturn (fun _ => b01C (by omega) (by omega)) ?_
      have X31 : ExC [165, 169] σ0 σ25 := ExC.rf.tr (e27.mo (by decide))
      exact ⟨_, rfl, H26, X31, (by omega), (by omega), (fun hz => by exfalso; omega)⟩
theorem lg_X4_step : ∀ (As : List AvC) (σ : CsC), P_X4_step As σ → lgC As ≤ rX4_step.2.2.1 := by
  rintro As σ ⟨p0, rfl, -⟩
  exact Nat.le_of_ble_eq_true rfl
theorem m_X4_step (l : Launch) : CMetC l 1 94 P_X4_step Q_X4_step :=
  CMetC.of KX4_step [] hX4_step (by decide) (by decide) okX4_step cc0C (lg_X4_step) (b_X4_step)

abbrev P_X4_prepare : CpC := fun As σ => ∃ (p0 : Nat) (p1 : Nat) (p2 : Int32), As = [.inr (.inr (some p0)), .inr (.inr (some p1)), .inl p2] ∧ HIC σ ∧ TyC σ p0 5 ∧ TyC σ p1 100 ∧ alC σ p1 = 40 ∧ ghC σ p1 = 0 ∧ 0 ≤ p2.toInt ∧ p2.toInt ≤ 40
abbrev Q_X4_prepare : CqC := fun As σ w τ => match As with
  | [.inr (.inr (some p0)), .inr (.inr (some p1)), .inl p2] => w = none ∧ HIC τ ∧ ExC [159, 160, 162, 163, 165, 166, 167, 168, 169] σ τ
  | _ => False
set_option maxRecDepth 100000 in
set_option maxHeartbeats 4000000 in
theorem b_X4_prepare : TbC KX4_prepare [] P_X4_prepare Q_X4_prepare := by
  · rintro As σ0 ⟨p0, p1, p2, rfl, H0, h_0_0, h_1_0, h_1_1, h_1_2, h_2_0, h_2_1⟩ hgr G hB hW
    change G 0 [(0, .inr (.inr (some p0))), (1, .inr (.inr (some p1))), (2, .inl p2)] [] σ0
    refine hB _ _ _ _ (kgoC (is := KX4_prepare_0) rfl ?_)
    refine k_aload_n rfl ?_
    refine k_aload_n rfl ?_
    refine k_x159 rfl rfl rfl (Nat.le_of_ble_eq_true rfl) H0 h_0_0 h_1_0 h_1_2 h_1_1 (by decide) (by omega) (fun σ1 H2 e3 _ => ?_)
    refine k_aload_n rfl ?_
    refine k_iconst (m := 0) rfl (fun x4 h5 => ?_)
    have t6 := h_0_0.x e3
    refine k_putI kp162 H2 t6 (Or.inl fk162) (by show 0 ≤ _; omega) (by show _ ≤ 7500; omega) (fun σ7 H8 e9 c10 => ?_)
    refine k_aload_n rfl ?_
    refine k_iconst (m := 0) rfl (fun x11 h12 => ?_)
    have t13 := t6.x e9
    refine k_putI kp163 H8 t13 (Or.inl fk163) (by show 0 ≤ _; omega) (by show _ ≤ 30; omega) (fun σ14 H15 e16 c17 => ?_)
    refine k_aload_n rfl ?_
    refine k_iconst (m := 0) rfl (fun x18 h19 => ?_)
    have t23 := t13.x e16
    refine k_z165 rfl H15 t23 (by omega) (fun σ20 H21 e22 => ?_)
    refine k_aload_n rfl ?_
    refine k_iconst (m := (-1)) rfl (fun x24 h25 => ?_)
    have t26 := t23.x e22
    refine k_putI kp168 H21 t26 (Or.inl fk168) (tiC x24).1 (tiC x24).2 (fun σ27 H28 e29 c30 => ?_)
    refine k_aload_n rfl ?_
    refine k_lconst ?_
    have t31 := t26.x e29
    refine k_putL kg170 H28 t31 fk170 (fun σ32 H33 e34 c35 => ?_)
    refine k_aload_n rfl ?_
    refine k_bipush (m := 6) rfl (fun x36 h37 => ?_)
    have t38 := t31.x e34
    refine k_putI kp169 H33 t38 (Or.inl fk169) (tiC x36).1 (tiC x36).2 (fun σ39 H40 e41 c42 => ?_)
    refine k_return ?_
    have X43 : ExC [159, 160, 162, 163, 165, 166, 167, 168, 169] σ0 σ1 := ExC.rf.tr (e3.mo (by decide))
    have X44 : ExC [159, 160, 162, 163, 165, 166, 167, 168, 169] σ0 σ7 := X43.tr (e9.mo (by decide))
    have X45 : ExC [159, 160, 162, 163, 165, 166, 167, 168, 169] σ0 σ14 := X44.tr (e16.mo (by decide))
    have X46 : ExC [159, 160, 162, 163, 165, 166, 167, 168, 169] σ0 σ20 := X45.tr (e22.mo (by decide))
    have X47 : ExC [159, 160, 162, 163, 165, 166, 167, 168, 169] σ0 σ27 := X46.tr (e29.mo (by decide))
    have X48 : ExC [159, 160, 162, 163, 165, 166, 167, 168, 169] σ0 σ32 := X47.tr (e34.mo (by decide))
    have X49 : ExC [159, 160, 162, 163, 165, 166, 167, 168, 169] σ0 σ39 := X48.tr (e41.mo (by decide))
    exact ⟨rfl, H40, X49⟩
theorem lg_X4_prepare : ∀ (As : List AvC) (σ : CsC), P_X4_prepare As σ → lgC As ≤ rX4_prepare.2.2.1 := by
  rintro As σ ⟨p0, p1, p2, rfl, -⟩
  exact Nat.le_of_ble_eq_true rfl
theorem m_X4_prepare (l : Launch) : CMetC l 1 88 P_X4_prepare Q_X4_prepare :=
  CMetC.of KX4_prepare [] hX4_prepare (by decide) (by decide) okX4_prepare cc0C (lg_X4_prepare) (b_X4_prepare)

abbrev P_X4_tellNumber : CpC := fun As σ => ∃ (p0 : Nat) (p1 : Int64), As = [.inr (.inr (some p0)), .inr (.inl p1)] ∧ HIC σ ∧ TyC σ p0 5
abbrev Q_X4_tellNumber : CqC := fun As σ w τ => match As with
  | [.inr (.inr (some p0)), .inr (.inl p1)] => w = none ∧ HIC τ ∧ ExC [162, 166, 169] σ τ
  | _ => False
set_option maxRecDepth 100000 in
set_option maxHeartbeats 4000000 in
theorem b_X4_tellNumber : TbC KX4_tellNumber [(91, P_X4_push, Q_X4_push)] P_X4_tellNumber Q_X4_tellNumber := by
  · rintro As σ0 ⟨p0, p1, rfl, H0, h_0_0⟩ hgr G hB hW
    change G 0 [(0, .inr (.inr (some p0))), (1, .inr (.inl p1))] [] σ0
    refine hB _ _ _ _ (kgoC (is := KX4_tellNumber_0) rfl ?_)
    refine k_aload_n rfl ?_
    obtain ⟨x3, e1, c2, h4, h5⟩ := cg166 H0.1 h_0_0
    refine k_get kg166 h_0_0 e1 ?_
    refine k_sipush (m := 200) rfl (fun x6 h7 => ?_)
    refine k_ic_lt (fun h8 => ?_) (fun h8 => ?_)
    · refine hB _ _ _ _ (kgoC (is := KX4_tellNumber_16) rfl ?_)
      refine k_aload_n rfl ?_
      obtain ⟨a11, e9, c10, t12, l13, l14⟩ := cg157 H0.1 h_0_0
      refine k_get kg157 h_0_0 e9 ?_
      refine k_aload_n rfl ?_
      refine k_get kg166 h_0_0 (congrArg (Sum.inl : Int32 → AvC) c2) ?_
      refine k_lload_n rfl ?_
      refine k_lastore H0 t12 l14 (by omega) (by omega) (fun σ15 H16 e17 => ?_)
      refine k_aload_n rfl ?_
      refine k_dupR ?_
      have t18 := h_0_0.x e17
      have c19 := (h_0_0.mi e17 (by decide)).trans c2
      refine k_get kg166 t18 (congrArg (Sum.inl : Int32 → AvC) c19) ?_
      refine k_iconst (m := 1) rfl (fun x20 h21 => ?_)
      refine k_iadd (by omega) (by omega) (fun x22 h23 => ?_)
      refine k_putI kp166 H16 t18 (Or.inl fk166) (by show 0 ≤ _; omega) (by show _ ≤ 200; omega) (fun σ24 H25 e26 c27 => ?_)
      refine k_aload_n rfl ?_
      refine k_lconst ?_
      have t28 := t18.x e26
      refine k_inv (P := P_X4_push) (Q := Q_X4_push) rfl rfl rfl rfl (Nat.le_of_ble_eq_true rfl) (t28.rc (by decide)) ⟨_, _, rfl, H25, t28⟩ (fun w29 σ30 q31 => ?_)
      obtain ⟨rfl, H32, e33⟩ := q31
      refine k_st (st' := []) rfl ?_
      refine k_return ?_
      have X34 : ExC [162, 166, 169] σ0 σ15 := ExC.rf.tr (e17.mo (by decide))
      have X35 : ExC [162, 166, 169] σ0 σ24 := X34.tr (e26.mo (by decide))
      have X36 : ExC [162, 166, 169] σ0 σ30 := X35.tr (e33.mo (by decide))
      exact ⟨rfl, H32, X36⟩
    · refine k_nil ?_
      refine hB _ _ _ _ (kgoC (is := KX4_tellNumber_10) rfl ?_)
      refine k_aload_n rfl ?_
      refine k_iconst (m := 5) rfl (fun x37 h38 => ?_)
      refine k_putI kp169 H0 h_0_0 (Or.inl fk169) (tiC x37).1 (tiC x37).2 (fun σ39 H40 e41 c42 => ?_)
      refine k_return ?_
      have X43 : ExC [162, 166, 169] σ0 σ39 := ExC.rf.tr (e41.mo (by decide))
      exact ⟨rfl, H40, X43⟩
theorem lg_X4_tellNumber : ∀ (As : List AvC) (σ : CsC), P_X4_tellNumber As σ → lgC As ≤ rX4_tellNumber.2.2.1 := by
  rintro As σ ⟨p0, p1, rfl, -⟩
  exact Nat.le_of_ble_eq_true rfl
theorem m_X4_tellNumber (l : Launch) : CMetC l 2 101 P_X4_tellNumber Q_X4_tellNumber :=
  CMetC.of KX4_tellNumber [(91, P_X4_push, Q_X4_push)] hX4_tellNumber (by decide) (by decide) okX4_tellNumber (cc1C (m_X4_push l) (by decide) cc0C) (lg_X4_tellNumber) (b_X4_tellNumber)

abbrev P_X4_enter : CpC := fun As σ => ∃ (p0 : Nat) (p1 : Nat), As = [.inr (.inr (some p0)), .inr (.inr (some p1))] ∧ HIC σ ∧ TyC σ p0 5 ∧ TyC σ p1 6
abbrev Q_X4_enter : CqC := fun As σ w τ => match As with
  | [.inr (.inr (some p0)), .inr (.inr (some p1))] => w = none ∧ HIC τ ∧ ExC [161, 162, 163, 169] σ τ
  | _ => False
set_option maxRecDepth 100000 in
set_option maxHeartbeats 4000000 in
theorem b_X4_enter : TbC KX4_enter [(93, P_X4_slot, Q_X4_slot), (92, P_X4_pop, Q_X4_pop)] P_X4_enter Q_X4_enter := by
  · rintro As σ0 ⟨p0, p1, rfl, H0, h_0_0, h_1_0⟩ hgr G hB hW
    change G 0 [(0, .inr (.inr (some p0))), (1, .inr (.inr (some p1)))] [] σ0
    have L45 : ∀ (n45 : Nat), ∀ (σ1 : CsC) (v45_2 : Int32), (v45_2.toInt + 2147483648).toNat = n45 → HIC σ1 → ExC [161, 162, 163, 169] σ0 σ1 → (-1) ≤ v45_2.toInt → v45_2.toInt ≤ 5 → G 45 [(0, .inr (.inr (some p0))), (1, .inr (.inr (some p1))), (2, .inl v45_2)] [] σ1 := by
      intro n45
      induction n45 using Nat.strongRecOn with
      | _ n45 ih45 =>
        intro σ1 v45_2 n45_ H2 e3 h4 h5
        refine hB _ _ _ _ (kgoC (is := KX4_enter_45) rfl ?_)
        refine k_iload_n rfl ?_
        refine k_if_lt (fun h6 => ?_) (fun h6 => ?_)
        · refine hB _ _ _ _ (kgoC (is := KX4_enter_74) rfl ?_)
          refine k_aload_n rfl ?_
          have t7 := h_0_0.x e3
          obtain ⟨a10, e8, c9, t11, l12, l13⟩ := cg152 H2.1 t7
          refine k_get kg152 t7 e8 ?_
          refine k_aload_n rfl ?_
          obtain ⟨x16, e14, c15, h17, h18⟩ := cg163 H2.1 t7
          refine k_get kg163 t7 e14 ?_
          refine k_aload_n rfl ?_
          obtain ⟨x21, e19, c20, h22, h23⟩ := cg162 H2.1 t7
          refine k_get kg162 t7 e19 ?_
          refine k_iastore1 H2 t11 l13 (by omega) (by omega) (by omega) (by omega) (fun σ24 H25 e26 => ?_)
          refine k_aload_n rfl ?_
          refine k_aload_n rfl ?_
          have t27 := h_1_0.x e3
          have t28 := t27.x e26
          obtain ⟨a31, e29, c30, t32, k33⟩ := cg186 H25.1 t28
          refine k_get kg186 t28 e29 ?_
          obtain ⟨x36, e34, c35, h37, h38⟩ := cg289 H25.1 t32
          refine k_get kg289 t32 e34 ?_
          have t39 := t7.x e26
          refine k_putI kp161 H25 t39 (Or.inl fk161) (tiC x36).1 (tiC x36).2 (fun σ40 H41 e42 c43 => ?_)
          refine k_return ?_
          have X44 : ExC [161, 162, 163, 169] σ0 σ1 := ExC.rf.tr (e3.mo (by decide))
          have X45 : ExC [161, 162, 163, 169] σ0 σ24 := X44.tr (e26.mo (by decide))
          have X46 : ExC [161, 162, 163, 169] σ0 σ40 := X45.tr (e42.mo (by decide))
          exact ⟨rfl, H41, X46⟩
        · refine k_nil ?_
          refine hB _ _ _ _ (kgoC (is := KX4_enter_49) rfl ?_)
          refine k_aload_n rfl ?_
          have t47 := h_0_0.x e3
          obtain ⟨a50, e48, c49, t51, l52, l53⟩ := cg150 H2.1 t47
          refine k_get kg150 t47 e48 ?_
          refine k_aload_n rfl ?_
          refine k_aload_n rfl ?_
          have t54 := h_1_0.x e3
          obtain ⟨x57, e55, c56, h58, h59⟩ := cg184 H2.1 t54
          refine k_get kg184 t54 e55 ?_
          refine k_iload_n rfl ?_
          have z62 := tiC x57
          refine k_iadd_u (fun x60 => ?_)
          refine k_inv (P := P_X4_slot) (Q := Q_X4_slot) rfl rfl rfl rfl (Nat.le_of_ble_eq_true rfl) (t47.rc (by decide)) ⟨_, _, rfl, H2, t47⟩ (fun w63 σ64 q65 => ?_)
          obtain ⟨x66, rfl, rfl, h67, h68⟩ := q65
          refine k_st (st' := [.inl x66, .inr (.inr (some a50))]) rfl ?_
          refine k_aload_n rfl ?_
          refine k_inv (P := P_X4_pop) (Q := Q_X4_pop) rfl rfl rfl rfl (Nat.le_of_ble_eq_true rfl) (t47.rc (by decide)) ⟨_, rfl, H2, t47⟩ (fun w69 σ70 q71 => ?_)
          obtain ⟨y72, rfl, H73, e74⟩ := q71
          refine k_st (st' := [.inr (.inl y72), .inl x66, .inr (.inr (some a50))]) rfl ?_
          have t75 := t51.x e74
          have l76 := (t51.al e74).trans l52
          have l80 := (t51.gh e74).trans l53
          refine k_lastore H73 t75 l80 (by omega) (by omega) (fun σ77 H78 e79 => ?_)
          obtain ⟨x81, e83, h82⟩ := iincC (n := (-1)) (m := (-1)) (v := v45_2) rfl (by omega) (by omega)
          refine k_iinc (ls' := [(2, .inl x81), (0, .inr (.inr (some p0))), (1, .inr (.inr (some p1)))]) rfl e83 rfl ?_
          refine k_goto ?_
          have X84 : ExC [161, 162, 163, 169] σ0 σ1 := ExC.rf.tr (e3.mo (by decide))
          have X85 : ExC [161, 162, 163, 169] σ0 σ70 := X84.tr (e74.mo (by decide))
          have X86 : ExC [161, 162, 163, 169] σ0 σ77 := X85.tr (e79.mo (by decide))
          exact hW _ _ _ _ _ (List.forall_mem_cons.2 ⟨List.Mem.tail _ (List.Mem.head _), (List.forall_mem_cons.2 ⟨List.Mem.tail _ (List.Mem.tail _ (List.Mem.head _)), (List.forall_mem_cons.2 ⟨List.Mem.head _, fun _ h => absurd h List.not_mem_nil⟩)⟩)⟩) (ih45 ((x81.toInt + 2147483648).toNat) (by omega) σ77 x81 rfl H78 X86 (by omega) (by omega))
    refine hB _ _ _ _ (kgoC (is := KX4_enter_0) rfl ?_)
    refine k_aload_n rfl ?_
    obtain ⟨x89, e87, c88, h90, h91⟩ := cg163 H0.1 h_0_0
    refine k_get kg163 h_0_0 e87 ?_
    refine k_bipush (m := 30) rfl (fun x92 h93 => ?_)
    refine k_ic_lt (fun h94 => ?_) (fun h94 => ?_)
    · refine hB _ _ _ _ (kgoC (is := KX4_enter_15) rfl ?_)
      refine k_aload_n rfl ?_
      obtain ⟨a97, e95, c96, t98, l99, l100⟩ := cg153 H0.1 h_0_0
      refine k_get kg153 h_0_0 e95 ?_
      refine k_aload_n rfl ?_
      refine k_get kg163 h_0_0 (congrArg (Sum.inl : Int32 → AvC) c88) ?_
      refine k_aload_n rfl ?_
      obtain ⟨x103, e101, c102, h104, h105⟩ := cg161 H0.1 h_0_0
      refine k_get kg161 h_0_0 e101 ?_
      refine k_iastore H0 t98 l100 (by omega) (by omega) (fun σ106 H107 e108 => ?_)
      refine k_aload_n rfl ?_
      refine k_dupR ?_
      have t109 := h_0_0.x e108
      have c110 := (h_0_0.mi e108 (by decide)).trans c88
      refine k_get kg163 t109 (congrArg (Sum.inl : Int32 → AvC) c110) ?_
      refine k_iconst (m := 1) rfl (fun x111 h112 => ?_)
      refine k_iadd (by omega) (by omega) (fun x113 h114 => ?_)
      refine k_putI kp163 H107 t109 (Or.inl fk163) (by show 0 ≤ _; omega) (by show _ ≤ 30; omega) (fun σ115 H116 e117 c118 => ?_)
      refine k_aload_n rfl ?_
      have t119 := h_1_0.x e108
      have t120 := t119.x e117
      obtain ⟨x123, e121, c122, h124, h125⟩ := cg185 H116.1 t120
      refine k_get kg185 t120 e121 ?_
      refine k_iconst (m := 1) rfl (fun x126 h127 => ?_)
      refine k_isub (by omega) (by omega) (fun x128 h129 => ?_)
      refine k_istore_n (ls' := [(2, .inl x128), (0, .inr (.inr (some p0))), (1, .inr (.inr (some p1)))]) rfl ?_
      refine k_nil ?_
      have X130 : ExC [161, 162, 163, 169] σ0 σ106 := ExC.rf.tr (e108.mo (by decide))
      have X131 : ExC [161, 162, 163, 169] σ0 σ115 := X130.tr (e117.mo (by decide))
      exact hW _ _ _ _ _ (List.forall_mem_cons.2 ⟨List.Mem.tail _ (List.Mem.head _), (List.forall_mem_cons.2 ⟨List.Mem.tail _ (List.Mem.tail _ (List.Mem.head _)), (List.forall_mem_cons.2 ⟨List.Mem.head _, fun _ h => absurd h List.not_mem_nil⟩)⟩)⟩) (L45 _ σ115 x128 rfl H116 X131 (by omega) (by omega))
    · refine k_nil ?_
      refine hB _ _ _ _ (kgoC (is := KX4_enter_9) rfl ?_)
      refine k_aload_n rfl ?_
      refine k_iconst (m := 4) rfl (fun x132 h133 => ?_)
      refine k_putI kp169 H0 h_0_0 (Or.inl fk169) (tiC x132).1 (tiC x132).2 (fun σ134 H135 e136 c137 => ?_)
      refine k_return ?_
      have X138 : ExC [161, 162, 163, 169] σ0 σ134 := ExC.rf.tr (e136.mo (by decide))
      exact ⟨rfl, H135, X138⟩
theorem lg_X4_enter : ∀ (As : List AvC) (σ : CsC), P_X4_enter As σ → lgC As ≤ rX4_enter.2.2.1 := by
  rintro As σ ⟨p0, p1, rfl, -⟩
  exact Nat.le_of_ble_eq_true rfl
theorem m_X4_enter (l : Launch) : CMetC l 2 102 P_X4_enter Q_X4_enter :=
  CMetC.of KX4_enter [(93, P_X4_slot, Q_X4_slot), (92, P_X4_pop, Q_X4_pop)] hX4_enter (by decide) (by decide) okX4_enter (cc1C (m_X4_slot l) (by decide) (cc1C (m_X4_pop l) (by decide) cc0C)) (lg_X4_enter) (b_X4_enter)

abbrev P_X4_leaveCall : CpC := fun As σ => ∃ (p0 : Nat) (p1 : Int64), As = [.inr (.inr (some p0)), .inr (.inl p1)] ∧ HIC σ ∧ TyC σ p0 5
abbrev Q_X4_leaveCall : CqC := fun As σ w τ => match As with
  | [.inr (.inr (some p0)), .inr (.inl p1)] => w = none ∧ HIC τ ∧ ExC [161, 162, 163, 169] σ τ
  | _ => False
set_option maxRecDepth 100000 in
set_option maxHeartbeats 4000000 in
theorem b_X4_leaveCall : TbC KX4_leaveCall [(91, P_X4_push, Q_X4_push)] P_X4_leaveCall Q_X4_leaveCall := by
  · rintro As σ0 ⟨p0, p1, rfl, H0, h_0_0⟩ hgr G hB hW
    change G 0 [(0, .inr (.inr (some p0))), (1, .inr (.inl p1))] [] σ0
    refine hB _ _ _ _ (kgoC (is := KX4_leaveCall_0) rfl ?_)
    refine k_aload_n rfl ?_
    obtain ⟨x3, e1, c2, h4, h5⟩ := cg163 H0.1 h_0_0
    refine k_get kg163 h_0_0 e1 ?_
    refine k_if_gt (fun h6 => ?_) (fun h6 => ?_)
    · refine hB _ _ _ _ (kgoC (is := KX4_leaveCall_13) rfl ?_)
      refine k_aload_n rfl ?_
      refine k_aload_n rfl ?_
      obtain ⟨a9, e7, c8, t10, l11, l12⟩ := cg152 H0.1 h_0_0
      refine k_get kg152 h_0_0 e7 ?_
      refine k_aload_n rfl ?_
      refine k_get kg163 h_0_0 (congrArg (Sum.inl : Int32 → AvC) c2) ?_
      refine k_iaload1 H0 t10 l12 (by omega) (by omega) (fun x13 h14 h15 => ?_)
      refine k_putI kp162 H0 h_0_0 (Or.inl fk162) (by show 0 ≤ _; omega) (by show _ ≤ 7500; omega) (fun σ16 H17 e18 c19 => ?_)
      refine k_aload_n rfl ?_
      refine k_dupR ?_
      have t20 := h_0_0.x e18
      have c21 := (h_0_0.mi e18 (by decide)).trans c2
      refine k_get kg163 t20 (congrArg (Sum.inl : Int32 → AvC) c21) ?_
      refine k_iconst (m := 1) rfl (fun x22 h23 => ?_)
      refine k_isub (by omega) (by omega) (fun x24 h25 => ?_)
      refine k_putI kp163 H17 t20 (Or.inl fk163) (by show 0 ≤ _; omega) (by show _ ≤ 30; omega) (fun σ26 H27 e28 c29 => ?_)
      refine k_aload_n rfl ?_
      refine k_aload_n rfl ?_
      have t30 := t20.x e28
      obtain ⟨a33, e31, c32, t34, l35, l36⟩ := cg153 H27.1 t30
      refine k_get kg153 t30 e31 ?_
      refine k_aload_n rfl ?_
      refine k_get kg163 t30 (congrArg (Sum.inl : Int32 → AvC) c29) ?_
      refine k_iaload t34 (by omega) (by omega) (fun x37 => ?_)
      refine k_putI kp161 H27 t30 (Or.inl fk161) (tiC x37).1 (tiC x37).2 (fun σ38 H39 e40 c41 => ?_)
      refine k_aload_n rfl ?_
      have t42 := t30.x e40
      have c43 := (t30.mi e40 (by decide)).trans c29
      refine k_get kg163 t42 (congrArg (Sum.inl : Int32 → AvC) c43) ?_
      refine k_if_ne (fun h44 => ?_) (fun h44 => ?_)
      · refine hB _ _ _ _ (kgoC (is := KX4_leaveCall_69) rfl ?_)
        refine k_aload_n rfl ?_
        refine k_lload_n rfl ?_
        refine k_inv (P := P_X4_push) (Q := Q_X4_push) rfl rfl rfl rfl (Nat.le_of_ble_eq_true rfl) (t42.rc (by decide)) ⟨_, _, rfl, H39, t42⟩ (fun w45 σ46 q47 => ?_)
        obtain ⟨rfl, H48, e49⟩ := q47
        refine k_st (st' := []) rfl ?_
        refine k_nil ?_
        refine hB _ _ _ _ (kgoC (is := KX4_leaveCall_74) rfl ?_)
        refine k_return ?_
        have X50 : ExC [161, 162, 163, 169] σ0 σ16 := ExC.rf.tr (e18.mo (by decide))
        have X51 : ExC [161, 162, 163, 169] σ0 σ26 := X50.tr (e28.mo (by decide))
        have X52 : ExC [161, 162, 163, 169] σ0 σ38 := X51.tr (e40.mo (by decide))
        have X53 : ExC [161, 162, 163, 169] σ0 σ46 := X52.tr (e49.mo (by decide))
        exact ⟨rfl, H48, X53⟩
      · refine k_nil ?_
        refine hB _ _ _ _ (kgoC (is := KX4_leaveCall_56) rfl ?_)
        refine k_aload_n rfl ?_
        refine k_iconst (m := 0) rfl (fun x54 h55 => ?_)
        refine k_putI kp169 H39 t42 (Or.inl fk169) (tiC x54).1 (tiC x54).2 (fun σ56 H57 e58 c59 => ?_)
        refine k_aload_n rfl ?_
        refine k_lload_n rfl ?_
        have t60 := t42.x e58
        refine k_putL kg170 H57 t60 fk170 (fun σ61 H62 e63 c64 => ?_)
        refine k_goto ?_
        refine hB _ _ _ _ (kgoC (is := KX4_leaveCall_74) rfl ?_)
        refine k_return ?_
        have X65 : ExC [161, 162, 163, 169] σ0 σ16 := ExC.rf.tr (e18.mo (by decide))
        have X66 : ExC [161, 162, 163, 169] σ0 σ26 := X65.tr (e28.mo (by decide))
        have X67 : ExC [161, 162, 163, 169] σ0 σ38 := X66.tr (e40.mo (by decide))
        have X68 : ExC [161, 162, 163, 169] σ0 σ56 := X67.tr (e58.mo (by decide))
        have X69 : ExC [161, 162, 163, 169] σ0 σ61 := X68.tr (e63.mo (by decide))
        exact ⟨rfl, H62, X69⟩
    · refine k_nil ?_
      refine hB _ _ _ _ (kgoC (is := KX4_leaveCall_7) rfl ?_)
      refine k_aload_n rfl ?_
      refine k_iconst (m := 0) rfl (fun x70 h71 => ?_)
      refine k_putI kp169 H0 h_0_0 (Or.inl fk169) (tiC x70).1 (tiC x70).2 (fun σ72 H73 e74 c75 => ?_)
      refine k_return ?_
      have X76 : ExC [161, 162, 163, 169] σ0 σ72 := ExC.rf.tr (e74.mo (by decide))
      exact ⟨rfl, H73, X76⟩
theorem lg_X4_leaveCall : ∀ (As : List AvC) (σ : CsC), P_X4_leaveCall As σ → lgC As ≤ rX4_leaveCall.2.2.1 := by
  rintro As σ ⟨p0, p1, rfl, -⟩
  exact Nat.le_of_ble_eq_true rfl
theorem m_X4_leaveCall (l : Launch) : CMetC l 2 103 P_X4_leaveCall Q_X4_leaveCall :=
  CMetC.of KX4_leaveCall [(91, P_X4_push, Q_X4_push)] hX4_leaveCall (by decide) (by decide) okX4_leaveCall (cc1C (m_X4_push l) (by decide) cc0C) (lg_X4_leaveCall) (b_X4_leaveCall)

abbrev P_X4_operate : CpC := fun As σ => ∃ (p0 : Nat) (p1 : Nat) (p2 : Int64) (p3 : Int64), As = [.inr (.inr (some p0)), .inr (.inr (some p1)), .inr (.inl p2), .inr (.inl p3)] ∧ HIC σ ∧ TyC σ p0 5 ∧ TyC σ p1 2
abbrev Q_X4_operate : CqC := fun As σ w τ => match As with
  | [.inr (.inr (some p0)), .inr (.inr (some p1)), .inr (.inl p2), .inr (.inl p3)] => w = none ∧ HIC τ ∧ ExC [162, 169] σ τ
  | _ => False
set_option maxRecDepth 100000 in
set_option maxHeartbeats 4000000 in
theorem b_X4_operate : TbC KX4_operate [(227, P_X11_isDivision, Q_X11_isDivision), (229, P_X11_worked, Q_X11_worked), (91, P_X4_push, Q_X4_push)] P_X4_operate Q_X4_operate := by
  · rintro As σ0 ⟨p0, p1, p2, p3, rfl, H0, h_0_0, h_1_0⟩ hgr G hB hW
    change G 0 [(0, .inr (.inr (some p0))), (1, .inr (.inr (some p1))), (2, .inr (.inl p2)), (4, .inr (.inl p3))] [] σ0
    refine hB _ _ _ _ (kgoC (is := KX4_operate_0) rfl ?_)
    refine k_aload_n rfl ?_
    obtain ⟨x3, e1, c2, h4, h5⟩ := cg61 H0.1 h_1_0
    refine k_get kg61 h_1_0 e1 ?_
    refine k_stat (P := P_X11_isDivision) (Q := Q_X11_isDivision) rfl rfl (Nat.le_of_ble_eq_true rfl) rfl rfl (Nat.le_of_ble_eq_true rfl) ⟨_, rfl, H0⟩ (fun w6 σ7 q8 => ?_)
    obtain ⟨x9, rfl, rfl, h10, h11⟩ := q8
    refine k_st (st' := [.inl x9]) rfl ?_
    refine k_if_eq (fun h12 => ?_) (fun h12 => ?_)
    · refine hB _ _ _ _ (kgoC (is := KX4_operate_26) rfl ?_)
      refine k_aload_n rfl ?_
      refine k_aload_n rfl ?_
      refine k_get kg61 h_1_0 (congrArg (Sum.inl : Int32 → AvC) c2) ?_
      refine k_aload_n rfl ?_
      obtain ⟨x15, e13, c14, h16, h17⟩ := cg69 H0.1 h_1_0
      refine k_get kg69 h_1_0 e13 ?_
      refine k_lload_n rfl ?_
      refine k_lload rfl ?_
      refine k_stat (P := P_X11_worked) (Q := Q_X11_worked) rfl rfl (Nat.le_of_ble_eq_true rfl) rfl rfl (Nat.le_of_ble_eq_true rfl) ⟨_, _, _, _, rfl, H0⟩ (fun w18 σ19 q20 => ?_)
      obtain ⟨y21, rfl, rfl⟩ := q20
      refine k_st (st' := [.inr (.inl y21), .inr (.inr (some p0))]) rfl ?_
      refine k_inv (P := P_X4_push) (Q := Q_X4_push) rfl rfl rfl rfl (Nat.le_of_ble_eq_true rfl) (h_0_0.rc (by decide)) ⟨_, _, rfl, H0, h_0_0⟩ (fun w22 σ23 q24 => ?_)
      obtain ⟨rfl, H25, e26⟩ := q24
      refine k_st (st' := []) rfl ?_
      refine k_nil ?_
      refine hB _ _ _ _ (kgoC (is := KX4_operate_44) rfl ?_)
      refine k_return ?_
      have X27 : ExC [162, 169] σ0 σ23 := ExC.rf.tr (e26.mo (by decide))
      exact ⟨rfl, H25, X27⟩
    · refine k_nil ?_
      refine hB _ _ _ _ (kgoC (is := KX4_operate_10) rfl ?_)
      refine k_lload rfl ?_
      refine k_lconst ?_
      refine k_lcmp (fun x28 h29 g30 => ?_)
      refine k_if_ne (fun h31 => ?_) (fun h31 => ?_)
      · refine hB _ _ _ _ (kgoC (is := KX4_operate_26) rfl ?_)
        refine k_aload_n rfl ?_
        refine k_aload_n rfl ?_
        refine k_get kg61 h_1_0 (congrArg (Sum.inl : Int32 → AvC) c2) ?_
        refine k_aload_n rfl ?_
        obtain ⟨x34, e32, c33, h35, h36⟩ := cg69 H0.1 h_1_0
        refine k_get kg69 h_1_0 e32 ?_
        refine k_lload_n rfl ?_
        refine k_lload rfl ?_
        refine k_stat (P := P_X11_worked) (Q := Q_X11_worked) rfl rfl (Nat.le_of_ble_eq_true rfl) rfl rfl (Nat.le_of_ble_eq_true rfl) ⟨_, _, _, _, rfl, H0⟩ (fun w37 σ38 q39 => ?_)
        obtain ⟨y40, rfl, rfl⟩ := q39
        refine k_st (st' := [.inr (.inl y40), .inr (.inr (some p0))]) rfl ?_
        refine k_inv (P := P_X4_push) (Q := Q_X4_push) rfl rfl rfl rfl (Nat.le_of_ble_eq_true rfl) (h_0_0.rc (by decide)) ⟨_, _, rfl, H0, h_0_0⟩ (fun w41 σ42 q43 => ?_)
        obtain ⟨rfl, H44, e45⟩ := q43
        refine k_st (st' := []) rfl ?_
        refine k_nil ?_
        refine hB _ _ _ _ (kgoC (is := KX4_operate_44) rfl ?_)
        refine k_return ?_
        have X46 : ExC [162, 169] σ0 σ42 := ExC.rf.tr (e45.mo (by decide))
        exact ⟨rfl, H44, X46⟩
      · refine k_nil ?_
        refine hB _ _ _ _ (kgoC (is := KX4_operate_17) rfl ?_)
        refine k_aload_n rfl ?_
        refine k_bipush (m := 7) rfl (fun x47 h48 => ?_)
        refine k_putI kp169 H0 h_0_0 (Or.inl fk169) (tiC x47).1 (tiC x47).2 (fun σ49 H50 e51 c52 => ?_)
        refine k_goto ?_
        refine hB _ _ _ _ (kgoC (is := KX4_operate_44) rfl ?_)
        refine k_return ?_
        have X53 : ExC [162, 169] σ0 σ49 := ExC.rf.tr (e51.mo (by decide))
        exact ⟨rfl, H50, X53⟩
theorem lg_X4_operate : ∀ (As : List AvC) (σ : CsC), P_X4_operate As σ → lgC As ≤ rX4_operate.2.2.1 := by
  rintro As σ ⟨p0, p1, p2, p3, rfl, -⟩
  exact Nat.le_of_ble_eq_true rfl
theorem m_X4_operate (l : Launch) : CMetC l 3 97 P_X4_operate Q_X4_operate :=
  CMetC.of KX4_operate [(227, P_X11_isDivision, Q_X11_isDivision), (229, P_X11_worked, Q_X11_worked), (91, P_X4_push, Q_X4_push)] hX4_operate (by decide) (by decide) okX4_operate (cc1C (m_X11_isDivision l) (by decide) (cc1C (m_X11_worked l) (by decide) (cc1C (m_X4_push l) (by decide) cc0C))) (lg_X4_operate) (b_X4_operate)

abbrev P_X4_count : CpC := fun As σ => ∃ (p0 : Nat) (p1 : Nat), As = [.inr (.inr (some p0)), .inr (.inr (some p1))] ∧ HIC σ ∧ TyC σ p0 5 ∧ TyC σ p1 2
abbrev Q_X4_count : CqC := fun As σ w τ => match As with
  | [.inr (.inr (some p0)), .inr (.inr (some p1))] => w = none ∧ HIC τ ∧ ExC [162] σ τ
  | _ => False
set_option maxRecDepth 100000 in
set_option maxHeartbeats 4000000 in
theorem b_X4_count : TbC KX4_count [(93, P_X4_slot, Q_X4_slot), (228, P_X11_narrowed, Q_X11_narrowed), (91, P_X4_push, Q_X4_push)] P_X4_count Q_X4_count := by
  · rintro As σ0 ⟨p0, p1, rfl, H0, h_0_0, h_1_0⟩ hgr G hB hW
    change G 0 [(0, .inr (.inr (some p0))), (1, .inr (.inr (some p1)))] [] σ0
    refine hB _ _ _ _ (kgoC (is := KX4_count_0) rfl ?_)
    refine k_aload_n rfl ?_
    refine k_aload_n rfl ?_
    obtain ⟨x3, e1, c2, h4, h5⟩ := cg67 H0.1 h_1_0
    refine k_get kg67 h_1_0 e1 ?_
    refine k_inv (P := P_X4_slot) (Q := Q_X4_slot) rfl rfl rfl rfl (Nat.le_of_ble_eq_true rfl) (h_0_0.rc (by decide)) ⟨_, _, rfl, H0, h_0_0⟩ (fun w6 σ7 q8 => ?_)
    obtain ⟨x9, rfl, rfl, h10, h11⟩ := q8
    refine k_st (st' := [.inl x9]) rfl ?_
    refine k_istore_n (ls' := [(2, .inl x9), (0, .inr (.inr (some p0))), (1, .inr (.inr (some p1)))]) rfl ?_
    refine k_aload_n rfl ?_
    obtain ⟨a14, e12, c13, t15, l16, l17⟩ := cg150 H0.1 h_0_0
    refine k_get kg150 h_0_0 e12 ?_
    refine k_iload_n rfl ?_
    refine k_laload t15 (by omega) (by omega) (fun y18 => ?_)
    refine k_lstore_n (ls' := [(3, .inr (.inl y18)), (2, .inl x9), (0, .inr (.inr (some p0))), (1, .inr (.inr (some p1)))]) rfl ?_
    refine k_aload_n rfl ?_
    refine k_get kg150 h_0_0 (congrArg (fun z : Option Nat => (Sum.inr (Sum.inr z) : AvC)) c13) ?_
    refine k_iload_n rfl ?_
    refine k_aload_n rfl ?_
    obtain ⟨x21, e19, c20, h22, h23⟩ := cg68 H0.1 h_1_0
    refine k_get kg68 h_1_0 e19 ?_
    refine k_aload_n rfl ?_
    obtain ⟨x26, e24, c25, h27, h28⟩ := cg61 H0.1 h_1_0
    refine k_get kg61 h_1_0 e24 ?_
    refine k_bipush (m := 41) rfl (fun x29 h30 => ?_)
    refine k_ic_ne (fun h31 => ?_) (fun h31 => ?_)
    · refine hB _ _ _ _ (kgoC (is := KX4_count_40) rfl ?_)
      refine k_lload_n rfl ?_
      refine k_lconst ?_
      refine k_lsub (fun y32 => ?_)
      refine k_nil ?_
      refine hB _ _ _ _ (kgoC (is := KX4_count_43) rfl ?_)
      refine k_stat (P := P_X11_narrowed) (Q := Q_X11_narrowed) rfl rfl (Nat.le_of_ble_eq_true rfl) rfl rfl (Nat.le_of_ble_eq_true rfl) ⟨_, _, rfl, H0⟩ (fun w33 σ34 q35 => ?_)
      obtain ⟨y36, rfl, rfl⟩ := q35
      refine k_st (st' := [.inr (.inl y36), .inl x9, .inr (.inr (some a14))]) rfl ?_
      refine k_lastore H0 t15 l17 (by omega) (by omega) (fun σ37 H38 e39 => ?_)
      refine k_aload_n rfl ?_
      refine k_aload_n rfl ?_
      have t40 := h_1_0.x e39
      obtain ⟨x43, e41, c42, h44, h45⟩ := cg66 H38.1 t40
      refine k_get kg66 t40 e41 ?_
      refine k_aload_n rfl ?_
      obtain ⟨x48, e46, c47, h49, h50⟩ := cg62 H38.1 t40
      refine k_get kg62 t40 e46 ?_
      refine k_ic_ne (fun h51 => ?_) (fun h51 => ?_)
      · refine hB _ _ _ _ (kgoC (is := KX4_count_63) rfl ?_)
        refine k_aload_n rfl ?_
        have t52 := h_0_0.x e39
        have c53 := (h_0_0.mr e39 (by decide)).trans c13
        refine k_get kg150 t52 (congrArg (fun z : Option Nat => (Sum.inr (Sum.inr z) : AvC)) c53) ?_
        refine k_iload_n rfl ?_
        have t54 := t15.x e39
        have l55 := (t15.al e39).trans l16
        refine k_laload t54 (by omega) (by omega) (fun y56 => ?_)
        refine k_nil ?_
        refine hB _ _ _ _ (kgoC (is := KX4_count_69) rfl ?_)
        refine k_inv (P := P_X4_push) (Q := Q_X4_push) rfl rfl rfl rfl (Nat.le_of_ble_eq_true rfl) (t52.rc (by decide)) ⟨_, _, rfl, H38, t52⟩ (fun w57 σ58 q59 => ?_)
        obtain ⟨rfl, H60, e61⟩ := q59
        refine k_st (st' := []) rfl ?_
        refine k_return ?_
        have X62 : ExC [162] σ0 σ37 := ExC.rf.tr (e39.mo (by decide))
        have X63 : ExC [162] σ0 σ58 := X62.tr (e61.mo (by decide))
        exact ⟨rfl, H60, X63⟩
      · refine k_nil ?_
        refine hB _ _ _ _ (kgoC (is := KX4_count_59) rfl ?_)
        refine k_lload_n rfl ?_
        refine k_goto ?_
        refine hB _ _ _ _ (kgoC (is := KX4_count_69) rfl ?_)
        have t64 := h_0_0.x e39
        refine k_inv (P := P_X4_push) (Q := Q_X4_push) rfl rfl rfl rfl (Nat.le_of_ble_eq_true rfl) (t64.rc (by decide)) ⟨_, _, rfl, H38, t64⟩ (fun w65 σ66 q67 => ?_)
        obtain ⟨rfl, H68, e69⟩ := q67
        refine k_st (st' := []) rfl ?_
        refine k_return ?_
        have X70 : ExC [162] σ0 σ37 := ExC.rf.tr (e39.mo (by decide))
        have X71 : ExC [162] σ0 σ66 := X70.tr (e69.mo (by decide))
        exact ⟨rfl, H68, X71⟩
    · refine k_nil ?_
      refine hB _ _ _ _ (kgoC (is := KX4_count_34) rfl ?_)
      refine k_lload_n rfl ?_
      refine k_lconst ?_
      refine k_ladd (fun y72 => ?_)
      refine k_goto ?_
      refine hB _ _ _ _ (kgoC (is := KX4_count_43) rfl ?_)
      refine k_stat (P := P_X11_narrowed) (Q := Q_X11_narrowed) rfl rfl (Nat.le_of_ble_eq_true rfl) rfl rfl (Nat.le_of_ble_eq_true rfl) ⟨_, _, rfl, H0⟩ (fun w73 σ74 q75 => ?_)
      obtain ⟨y76, rfl, rfl⟩ := q75
      refine k_st (st' := [.inr (.inl y76), .inl x9, .inr (.inr (some a14))]) rfl ?_
      refine k_lastore H0 t15 l17 (by omega) (by omega) (fun σ77 H78 e79 => ?_)
      refine k_aload_n rfl ?_
      refine k_aload_n rfl ?_
      have t80 := h_1_0.x e79
      obtain ⟨x83, e81, c82, h84, h85⟩ := cg66 H78.1 t80
      refine k_get kg66 t80 e81 ?_
      refine k_aload_n rfl ?_
      obtain ⟨x88, e86, c87, h89, h90⟩ := cg62 H78.1 t80
      refine k_get kg62 t80 e86 ?_
      refine k_ic_ne (fun h91 => ?_) (fun h91 => ?_)
      · refine hB _ _ _ _ (kgoC (is := KX4_count_63) rfl ?_)
        refine k_aload_n rfl ?_
        have t92 := h_0_0.x e79
        have c93 := (h_0_0.mr e79 (by decide)).trans c13
        refine k_get kg150 t92 (congrArg (fun z : Option Nat => (Sum.inr (Sum.inr z) : AvC)) c93) ?_
        refine k_iload_n rfl ?_
        have t94 := t15.x e79
        have l95 := (t15.al e79).trans l16
        refine k_laload t94 (by omega) (by omega) (fun y96 => ?_)
        refine k_nil ?_
        refine hB _ _ _ _ (kgoC (is := KX4_count_69) rfl ?_)
        refine k_inv (P := P_X4_push) (Q := Q_X4_push) rfl rfl rfl rfl (Nat.le_of_ble_eq_true rfl) (t92.rc (by decide)) ⟨_, _, rfl, H78, t92⟩ (fun w97 σ98 q99 => ?_)
        obtain ⟨rfl, H100, e101⟩ := q99
        refine k_st (st' := []) rfl ?_
        refine k_return ?_
        have X102 : ExC [162] σ0 σ77 := ExC.rf.tr (e79.mo (by decide))
        have X103 : ExC [162] σ0 σ98 := X102.tr (e101.mo (by decide))
        exact ⟨rfl, H100, X103⟩
      · refine k_nil ?_
        refine hB _ _ _ _ (kgoC (is := KX4_count_59) rfl ?_)
        refine k_lload_n rfl ?_
        refine k_goto ?_
        refine hB _ _ _ _ (kgoC (is := KX4_count_69) rfl ?_)
        have t104 := h_0_0.x e79
        refine k_inv (P := P_X4_push) (Q := Q_X4_push) rfl rfl rfl rfl (Nat.le_of_ble_eq_true rfl) (t104.rc (by decide)) ⟨_, _, rfl, H78, t104⟩ (fun w105 σ106 q107 => ?_)
        obtain ⟨rfl, H108, e109⟩ := q107
        refine k_st (st' := []) rfl ?_
        refine k_return ?_
        have X110 : ExC [162] σ0 σ77 := ExC.rf.tr (e79.mo (by decide))
        have X111 : ExC [162] σ0 σ106 := X110.tr (e109.mo (by decide))
        exact ⟨rfl, H108, X111⟩
theorem lg_X4_count : ∀ (As : List AvC) (σ : CsC), P_X4_count As σ → lgC As ≤ rX4_count.2.2.1 := by
  rintro As σ ⟨p0, p1, rfl, -⟩
  exact Nat.le_of_ble_eq_true rfl
theorem m_X4_count (l : Launch) : CMetC l 2 98 P_X4_count Q_X4_count :=
  CMetC.of KX4_count [(93, P_X4_slot, Q_X4_slot), (228, P_X11_narrowed, Q_X11_narrowed), (91, P_X4_push, Q_X4_push)] hX4_count (by decide) (by decide) okX4_count (cc1C (m_X4_slot l) (by decide) (cc1C (m_X11_narrowed l) (by decide) (cc1C (m_X4_push l) (by decide) cc0C))) (lg_X4_count) (b_X4_count)

abbrev P_X4_assign : CpC := fun As σ => ∃ (p0 : Nat) (p1 : Nat), As = [.inr (.inr (some p0)), .inr (.inr (some p1))] ∧ HIC σ ∧ TyC σ p0 5 ∧ TyC σ p1 2
abbrev Q_X4_assign : CqC := fun As σ w τ => match As with
  | [.inr (.inr (some p0)), .inr (.inr (some p1))] => w = none ∧ HIC τ ∧ ExC [162, 169] σ τ
  | _ => False
set_option maxRecDepth 100000 in
set_option maxHeartbeats 4000000 in
theorem b_X4_assign : TbC KX4_assign [(92, P_X4_pop, Q_X4_pop), (227, P_X11_isDivision, Q_X11_isDivision), (229, P_X11_worked, Q_X11_worked), (228, P_X11_narrowed, Q_X11_narrowed), (93, P_X4_slot, Q_X4_slot), (91, P_X4_push, Q_X4_push)] P_X4_assign Q_X4_assign := by
  · rintro As σ0 ⟨p0, p1, rfl, H0, h_0_0, h_1_0⟩ hgr G hB hW
    change G 0 [(0, .inr (.inr (some p0))), (1, .inr (.inr (some p1)))] [] σ0
    refine hB _ _ _ _ (kgoC (is := KX4_assign_0) rfl ?_)
    refine k_aload_n rfl ?_
    refine k_inv (P := P_X4_pop) (Q := Q_X4_pop) rfl rfl rfl rfl (Nat.le_of_ble_eq_true rfl) (h_0_0.rc (by decide)) ⟨_, rfl, H0, h_0_0⟩ (fun w1 σ2 q3 => ?_)
    obtain ⟨y4, rfl, H5, e6⟩ := q3
    refine k_st (st' := [.inr (.inl y4)]) rfl ?_
    refine k_lstore_n (ls' := [(2, .inr (.inl y4)), (0, .inr (.inr (some p0))), (1, .inr (.inr (some p1)))]) rfl ?_
    refine k_aload_n rfl ?_
    have t7 := h_1_0.x e6
    obtain ⟨x10, e8, c9, h11, h12⟩ := cg61 H5.1 t7
    refine k_get kg61 t7 e8 ?_
    refine k_bipush (m := 8) rfl (fun x13 h14 => ?_)
    refine k_ic_ne (fun h15 => ?_) (fun h15 => ?_)
    · refine hB _ _ _ _ (kgoC (is := KX4_assign_34) rfl ?_)
      refine k_aload_n rfl ?_
      have t16 := h_0_0.x e6
      refine k_inv (P := P_X4_pop) (Q := Q_X4_pop) rfl rfl rfl rfl (Nat.le_of_ble_eq_true rfl) (t16.rc (by decide)) ⟨_, rfl, H5, t16⟩ (fun w17 σ18 q19 => ?_)
      obtain ⟨y20, rfl, H21, e22⟩ := q19
      refine k_st (st' := [.inr (.inl y20)]) rfl ?_
      refine k_lstore (ls' := [(4, .inr (.inl y20)), (2, .inr (.inl y4)), (0, .inr (.inr (some p0))), (1, .inr (.inr (some p1)))]) rfl ?_
      refine k_aload_n rfl ?_
      have t23 := t7.x e22
      have c24 := (t7.mi e22 (by decide)).trans c9
      refine k_get kg61 t23 (congrArg (Sum.inl : Int32 → AvC) c24) ?_
      refine k_stat (P := P_X11_isDivision) (Q := Q_X11_isDivision) rfl rfl (Nat.le_of_ble_eq_true rfl) rfl rfl (Nat.le_of_ble_eq_true rfl) ⟨_, rfl, H21⟩ (fun w25 σ26 q27 => ?_)
      obtain ⟨x28, rfl, rfl, h29, h30⟩ := q27
      refine k_st (st' := [.inl x28]) rfl ?_
      refine k_if_eq (fun h31 => ?_) (fun h31 => ?_)
      · refine hB _ _ _ _ (kgoC (is := KX4_assign_63) rfl ?_)
        refine k_aload_n rfl ?_
        obtain ⟨x34, e32, c33, h35, h36⟩ := cg68 H21.1 t23
        refine k_get kg68 t23 e32 ?_
        refine k_aload_n rfl ?_
        refine k_get kg61 t23 (congrArg (Sum.inl : Int32 → AvC) c24) ?_
        refine k_aload_n rfl ?_
        obtain ⟨x39, e37, c38, h40, h41⟩ := cg69 H21.1 t23
        refine k_get kg69 t23 e37 ?_
        refine k_lload rfl ?_
        refine k_lload_n rfl ?_
        refine k_stat (P := P_X11_worked) (Q := Q_X11_worked) rfl rfl (Nat.le_of_ble_eq_true rfl) rfl rfl (Nat.le_of_ble_eq_true rfl) ⟨_, _, _, _, rfl, H21⟩ (fun w42 σ43 q44 => ?_)
        obtain ⟨y45, rfl, rfl⟩ := q44
        refine k_st (st' := [.inr (.inl y45), .inl x34]) rfl ?_
        refine k_stat (P := P_X11_narrowed) (Q := Q_X11_narrowed) rfl rfl (Nat.le_of_ble_eq_true rfl) rfl rfl (Nat.le_of_ble_eq_true rfl) ⟨_, _, rfl, H21⟩ (fun w46 σ47 q48 => ?_)
        obtain ⟨y49, rfl, rfl⟩ := q48
        refine k_st (st' := [.inr (.inl y49)]) rfl ?_
        refine k_lstore (ls' := [(6, .inr (.inl y49)), (4, .inr (.inl y20)), (2, .inr (.inl y4)), (0, .inr (.inr (some p0))), (1, .inr (.inr (some p1)))]) rfl ?_
        refine k_aload_n rfl ?_
        have t50 := t16.x e22
        obtain ⟨a53, e51, c52, t54, l55, l56⟩ := cg150 H21.1 t50
        refine k_get kg150 t50 e51 ?_
        refine k_aload_n rfl ?_
        refine k_aload_n rfl ?_
        obtain ⟨x59, e57, c58, h60, h61⟩ := cg67 H21.1 t23
        refine k_get kg67 t23 e57 ?_
        refine k_inv (P := P_X4_slot) (Q := Q_X4_slot) rfl rfl rfl rfl (Nat.le_of_ble_eq_true rfl) (t50.rc (by decide)) ⟨_, _, rfl, H21, t50⟩ (fun w62 σ63 q64 => ?_)
        obtain ⟨x65, rfl, rfl, h66, h67⟩ := q64
        refine k_st (st' := [.inl x65, .inr (.inr (some a53))]) rfl ?_
        refine k_lload rfl ?_
        refine k_lastore H21 t54 l56 (by omega) (by omega) (fun σ68 H69 e70 => ?_)
        refine k_aload_n rfl ?_
        refine k_lload rfl ?_
        have t71 := t50.x e70
        refine k_inv (P := P_X4_push) (Q := Q_X4_push) rfl rfl rfl rfl (Nat.le_of_ble_eq_true rfl) (t71.rc (by decide)) ⟨_, _, rfl, H69, t71⟩ (fun w72 σ73 q74 => ?_)
        obtain ⟨rfl, H75, e76⟩ := q74
        refine k_st (st' := []) rfl ?_
        refine k_return ?_
        have X77 : ExC [162, 169] σ0 σ2 := ExC.rf.tr (e6.mo (by decide))
        have X78 : ExC [162, 169] σ0 σ18 := X77.tr (e22.mo (by decide))
        have X79 : ExC [162, 169] σ0 σ68 := X78.tr (e70.mo (by decide))
        have X80 : ExC [162, 169] σ0 σ73 := X79.tr (e76.mo (by decide))
        exact ⟨rfl, H75, X80⟩
      · refine k_nil ?_
        refine hB _ _ _ _ (kgoC (is := KX4_assign_50) rfl ?_)
        refine k_lload_n rfl ?_
        refine k_lconst ?_
        refine k_lcmp (fun x81 h82 g83 => ?_)
        refine k_if_ne (fun h84 => ?_) (fun h84 => ?_)
        · refine hB _ _ _ _ (kgoC (is := KX4_assign_63) rfl ?_)
          refine k_aload_n rfl ?_
          obtain ⟨x87, e85, c86, h88, h89⟩ := cg68 H21.1 t23
          refine k_get kg68 t23 e85 ?_
          refine k_aload_n rfl ?_
          refine k_get kg61 t23 (congrArg (Sum.inl : Int32 → AvC) c24) ?_
          refine k_aload_n rfl ?_
          obtain ⟨x92, e90, c91, h93, h94⟩ := cg69 H21.1 t23
          refine k_get kg69 t23 e90 ?_
          refine k_lload rfl ?_
          refine k_lload_n rfl ?_
          refine k_stat (P := P_X11_worked) (Q := Q_X11_worked) rfl rfl (Nat.le_of_ble_eq_true rfl) rfl rfl (Nat.le_of_ble_eq_true rfl) ⟨_, _, _, _, rfl, H21⟩ (fun w95 σ96 q97 => ?_)
          obtain ⟨y98, rfl, rfl⟩ := q97
          refine k_st (st' := [.inr (.inl y98), .inl x87]) rfl ?_
          refine k_stat (P := P_X11_narrowed) (Q := Q_X11_narrowed) rfl rfl (Nat.le_of_ble_eq_true rfl) rfl rfl (Nat.le_of_ble_eq_true rfl) ⟨_, _, rfl, H21⟩ (fun w99 σ100 q101 => ?_)
          obtain ⟨y102, rfl, rfl⟩ := q101
          refine k_st (st' := [.inr (.inl y102)]) rfl ?_
          refine k_lstore (ls' := [(6, .inr (.inl y102)), (4, .inr (.inl y20)), (2, .inr (.inl y4)), (0, .inr (.inr (some p0))), (1, .inr (.inr (some p1)))]) rfl ?_
          refine k_aload_n rfl ?_
          have t103 := t16.x e22
          obtain ⟨a106, e104, c105, t107, l108, l109⟩ := cg150 H21.1 t103
          refine k_get kg150 t103 e104 ?_
          refine k_aload_n rfl ?_
          refine k_aload_n rfl ?_
          obtain ⟨x112, e110, c111, h113, h114⟩ := cg67 H21.1 t23
          refine k_get kg67 t23 e110 ?_
          refine k_inv (P := P_X4_slot) (Q := Q_X4_slot) rfl rfl rfl rfl (Nat.le_of_ble_eq_true rfl) (t103.rc (by decide)) ⟨_, _, rfl, H21, t103⟩ (fun w115 σ116 q117 => ?_)
          obtain ⟨x118, rfl, rfl, h119, h120⟩ := q117
          refine k_st (st' := [.inl x118, .inr (.inr (some a106))]) rfl ?_
          refine k_lload rfl ?_
          refine k_lastore H21 t107 l109 (by omega) (by omega) (fun σ121 H122 e123 => ?_)
          refine k_aload_n rfl ?_
          refine k_lload rfl ?_
          have t124 := t103.x e123
          refine k_inv (P := P_X4_push) (Q := Q_X4_push) rfl rfl rfl rfl (Nat.le_of_ble_eq_true rfl) (t124.rc (by decide)) ⟨_, _, rfl, H122, t124⟩ (fun w125 σ126 q127 => ?_)
          obtain ⟨rfl, H128, e129⟩ := q127
          refine k_st (st' := []) rfl ?_
          refine k_return ?_
          have X130 : ExC [162, 169] σ0 σ2 := ExC.rf.tr (e6.mo (by decide))
          have X131 : ExC [162, 169] σ0 σ18 := X130.tr (e22.mo (by decide))
          have X132 : ExC [162, 169] σ0 σ121 := X131.tr (e123.mo (by decide))
          have X133 : ExC [162, 169] σ0 σ126 := X132.tr (e129.mo (by decide))
          exact ⟨rfl, H128, X133⟩
        · refine k_nil ?_
          refine hB _ _ _ _ (kgoC (is := KX4_assign_56) rfl ?_)
          refine k_aload_n rfl ?_
          refine k_bipush (m := 7) rfl (fun x134 h135 => ?_)
          have t136 := t16.x e22
          refine k_putI kp169 H21 t136 (Or.inl fk169) (tiC x134).1 (tiC x134).2 (fun σ137 H138 e139 c140 => ?_)
          refine k_return ?_
          have X141 : ExC [162, 169] σ0 σ2 := ExC.rf.tr (e6.mo (by decide))
          have X142 : ExC [162, 169] σ0 σ18 := X141.tr (e22.mo (by decide))
          have X143 : ExC [162, 169] σ0 σ137 := X142.tr (e139.mo (by decide))
          exact ⟨rfl, H138, X143⟩
    · refine k_nil ?_
      refine hB _ _ _ _ (kgoC (is := KX4_assign_14) rfl ?_)
      refine k_aload_n rfl ?_
      have t144 := h_0_0.x e6
      obtain ⟨a147, e145, c146, t148, l149, l150⟩ := cg150 H5.1 t144
      refine k_get kg150 t144 e145 ?_
      refine k_aload_n rfl ?_
      refine k_aload_n rfl ?_
      obtain ⟨x153, e151, c152, h154, h155⟩ := cg67 H5.1 t7
      refine k_get kg67 t7 e151 ?_
      refine k_inv (P := P_X4_slot) (Q := Q_X4_slot) rfl rfl rfl rfl (Nat.le_of_ble_eq_true rfl) (t144.rc (by decide)) ⟨_, _, rfl, H5, t144⟩ (fun w156 σ157 q158 => ?_)
      obtain ⟨x159, rfl, rfl, h160, h161⟩ := q158
      refine k_st (st' := [.inl x159, .inr (.inr (some a147))]) rfl ?_
      refine k_lload_n rfl ?_
      refine k_lastore H5 t148 l150 (by omega) (by omega) (fun σ162 H163 e164 => ?_)
      refine k_aload_n rfl ?_
      refine k_lload_n rfl ?_
      have t165 := t144.x e164
      refine k_inv (P := P_X4_push) (Q := Q_X4_push) rfl rfl rfl rfl (Nat.le_of_ble_eq_true rfl) (t165.rc (by decide)) ⟨_, _, rfl, H163, t165⟩ (fun w166 σ167 q168 => ?_)
      obtain ⟨rfl, H169, e170⟩ := q168
      refine k_st (st' := []) rfl ?_
      refine k_return ?_
      have X171 : ExC [162, 169] σ0 σ2 := ExC.rf.tr (e6.mo (by decide))
      have X172 : ExC [162, 169] σ0 σ162 := X171.tr (e164.mo (by decide))
      have X173 : ExC [162, 169] σ0 σ167 := X172.tr (e170.mo (by decide))
      exact ⟨rfl, H169, X173⟩
theorem lg_X4_assign : ∀ (As : List AvC) (σ : CsC), P_X4_assign As σ → lgC As ≤ rX4_assign.2.2.1 := by
  rintro As σ ⟨p0, p1, rfl, -⟩
  exact Nat.le_of_ble_eq_true rfl
theorem m_X4_assign (l : Launch) : CMetC l 3 99 P_X4_assign Q_X4_assign :=
  CMetC.of KX4_assign [(92, P_X4_pop, Q_X4_pop), (227, P_X11_isDivision, Q_X11_isDivision), (229, P_X11_worked, Q_X11_worked), (228, P_X11_narrowed, Q_X11_narrowed), (93, P_X4_slot, Q_X4_slot), (91, P_X4_push, Q_X4_push)] hX4_assign (by decide) (by decide) okX4_assign (cc1C (m_X4_pop l) (by decide) (cc1C (m_X11_isDivision l) (by decide) (cc1C (m_X11_worked l) (by decide) (cc1C (m_X11_narrowed l) (by decide) (cc1C (m_X4_slot l) (by decide) (cc1C (m_X4_push l) (by decide) cc0C)))))) (lg_X4_assign) (b_X4_assign)

abbrev P_X4_call : CpC := fun As σ => ∃ (p0 : Nat) (p1 : Nat), As = [.inr (.inr (some p0)), .inr (.inr (some p1))] ∧ HIC σ ∧ TyC σ p0 5 ∧ TyC σ p1 2
abbrev Q_X4_call : CqC := fun As σ w τ => match As with
  | [.inr (.inr (some p0)), .inr (.inr (some p1))] => w = none ∧ HIC τ ∧ ExC [161, 162, 163, 165, 166, 167, 169] σ τ
  | _ => False
set_option maxRecDepth 100000 in
set_option maxHeartbeats 4000000 in
theorem b_X4_call : TbC KX4_call [(119, P_X6_methodOf, Q_X6_methodOf), (94, P_X4_step, Q_X4_step), (92, P_X4_pop, Q_X4_pop), (101, P_X4_tellNumber, Q_X4_tellNumber), (91, P_X4_push, Q_X4_push), (102, P_X4_enter, Q_X4_enter)] P_X4_call Q_X4_call := by
  · rintro As σ0 ⟨p0, p1, rfl, H0, h_0_0, h_1_0⟩ hgr G hB hW
    change G 0 [(0, .inr (.inr (some p0))), (1, .inr (.inr (some p1)))] [] σ0
    refine hB _ _ _ _ (kgoC (is := KX4_call_0) rfl ?_)
    refine k_aload_n rfl ?_
    obtain ⟨a3, e1, c2, t4⟩ := cg158 H0.1 h_0_0
    refine k_get kg158 h_0_0 e1 ?_
    obtain ⟨a7, e5, c6, t8⟩ := cg35 H0.1 t4
    refine k_get kg35 t4 e5 ?_
    refine k_aload_n rfl ?_
    obtain ⟨x11, e9, c10, h12, h13⟩ := cg67 H0.1 h_1_0
    refine k_get kg67 h_1_0 e9 ?_
    refine k_inv (P := P_X6_methodOf) (Q := Q_X6_methodOf) rfl rfl rfl rfl (Nat.le_of_ble_eq_true rfl) (t8.rc (by decide)) ⟨_, _, rfl, H0, t8⟩ (fun w14 σ15 q16 => ?_)
    obtain ⟨o17, rfl, rfl, h18⟩ := q16
    refine k_st (st' := [.inr (.inr o17)]) rfl ?_
    refine k_astore_n (ls' := [(2, .inr (.inr o17)), (0, .inr (.inr (some p0))), (1, .inr (.inr (some p1)))]) rfl ?_
    refine k_aload_n rfl ?_
    refine k_ifnull (fun h20 => ?_) (fun b19 h20 => ?_)
    · subst h20
      refine hB _ _ _ _ (kgoC (is := KX4_call_26) rfl ?_)
      refine k_return ?_
      exact ⟨rfl, H0, (ExC.rf : ExC [161, 162, 163, 165, 166, 167, 169] σ0 σ0)⟩
    · subst h20
      have t21 := h18 b19 rfl
      refine k_nil ?_
      refine hB _ _ _ _ (kgoC (is := KX4_call_19) rfl ?_)
      refine k_aload_n rfl ?_
      refine k_inv (P := P_X4_step) (Q := Q_X4_step) rfl rfl rfl rfl (Nat.le_of_ble_eq_true rfl) (h_0_0.rc (by decide)) ⟨_, rfl, H0, h_0_0⟩ (fun w22 σ23 q24 => ?_)
      obtain ⟨x25, rfl, H26, e27, h28, h29, q30⟩ := q24
      refine k_st (st' := [.inl x25]) rfl ?_
      rcases (by omega : x25.toInt = 0 ∨ x25.toInt = 1) with g31 | g31
      · refine k_if_ne (fun h32 => by exfalso; omega) (fun h32 => ?_)
        refine k_nil ?_
        refine hB _ _ _ _ (kgoC (is := KX4_call_26) rfl ?_)
        refine k_return ?_
        have X33 : ExC [161, 162, 163, 165, 166, 167, 169] σ0 σ23 := ExC.rf.tr (e27.mo (by decide))
        exact ⟨rfl, H26, X33⟩
      · have t39 := h_0_0.x e27
        obtain ⟨x34, e35, c36, h37, h38⟩ := cg165 H26.1 t39
        obtain ⟨x40, e41, c42, h43, h44⟩ := cg167 H26.1 t39
        have h45 : x40.toInt < x34.toInt := by rw [← c36, ← c42]; exact q30 (by omega)
        refine k_if_ne (fun h46 => ?_) (fun h46 => by exfalso; omega)
        refine hB _ _ _ _ (kgoC (is := KX4_call_27) rfl ?_)
        refine k_aload_n rfl ?_
        have t47 := h_1_0.x e27
        have c48 := (h_1_0.mi e27 (by decide)).trans c10
        refine k_get kg67 t47 (congrArg (Sum.inl : Int32 → AvC) c48) ?_
        refine k_bipush (m := 10) rfl (fun x49 h50 => ?_)
        refine k_ic_eq (fun h51 => ?_) (fun h51 => ?_)
        · refine hB _ _ _ _ (kgoC (is := KX4_call_53) rfl ?_)
          refine k_aload_n rfl ?_
          obtain ⟨x54, e52, c53, h55, h56⟩ := cg163 H26.1 t39
          refine k_get kg163 t39 e52 ?_
          refine k_bipush (m := 30) rfl (fun x57 h58 => ?_)
          refine k_ic_lt (fun h59 => ?_) (fun h59 => ?_)
          · refine hB _ _ _ _ (kgoC (is := KX4_call_70) rfl ?_)
            refine k_aload_n rfl ?_
            refine k_get kg67 t47 (congrArg (Sum.inl : Int32 → AvC) c48) ?_
            refine k_bipush (m := 10) rfl (fun x60 h61 => ?_)
            refine k_ic_ne (fun h62 => by exfalso; omega) (fun h62 => ?_)
            refine k_nil ?_
            refine hB _ _ _ _ (kgoC (is := KX4_call_79) rfl ?_)
            refine k_aload_n rfl ?_
            refine k_aload_n rfl ?_
            refine k_inv (P := P_X4_pop) (Q := Q_X4_pop) rfl rfl rfl rfl (Nat.le_of_ble_eq_true rfl) (t39.rc (by decide)) ⟨_, rfl, H26, t39⟩ (fun w63 σ64 q65 => ?_)
            obtain ⟨y66, rfl, H67, e68⟩ := q65
            refine k_st (st' := [.inr (.inl y66), .inr (.inr (some p0))]) rfl ?_
            have t69 := t39.x e68
            refine k_inv (P := P_X4_tellNumber) (Q := Q_X4_tellNumber) rfl rfl rfl rfl (Nat.le_of_ble_eq_true rfl) (t69.rc (by decide)) ⟨_, _, rfl, H67, t69⟩ (fun w70 σ71 q72 => ?_)
            obtain ⟨rfl, H73, e74⟩ := q72
            refine k_st (st' := []) rfl ?_
            refine k_goto ?_
            refine hB _ _ _ _ (kgoC (is := KX4_call_129) rfl ?_)
            refine k_return ?_
            have X75 : ExC [161, 162, 163, 165, 166, 167, 169] σ0 σ23 := ExC.rf.tr (e27.mo (by decide))
            have X76 : ExC [161, 162, 163, 165, 166, 167, 169] σ0 σ64 := X75.tr (e68.mo (by decide))
            have X77 : ExC [161, 162, 163, 165, 166, 167, 169] σ0 σ71 := X76.tr (e74.mo (by decide))
            exact ⟨rfl, H73, X77⟩
          · refine k_nil ?_
            refine hB _ _ _ _ (kgoC (is := KX4_call_62) rfl ?_)
            refine k_aload_n rfl ?_
            refine k_iconst (m := 4) rfl (fun x78 h79 => ?_)
            refine k_putI kp169 H26 t39 (Or.inl fk169) (tiC x78).1 (tiC x78).2 (fun σ80 H81 e82 c83 => ?_)
            refine k_goto ?_
            refine hB _ _ _ _ (kgoC (is := KX4_call_129) rfl ?_)
            refine k_return ?_
            have X84 : ExC [161, 162, 163, 165, 166, 167, 169] σ0 σ23 := ExC.rf.tr (e27.mo (by decide))
            have X85 : ExC [161, 162, 163, 165, 166, 167, 169] σ0 σ80 := X84.tr (e82.mo (by decide))
            exact ⟨rfl, H81, X85⟩
        · refine k_nil ?_
          refine hB _ _ _ _ (kgoC (is := KX4_call_36) rfl ?_)
          refine k_aload_n rfl ?_
          refine k_get kg67 t47 (congrArg (Sum.inl : Int32 → AvC) c48) ?_
          refine k_bipush (m := 11) rfl (fun x86 h87 => ?_)
          refine k_ic_eq (fun h88 => ?_) (fun h88 => ?_)
          · refine hB _ _ _ _ (kgoC (is := KX4_call_53) rfl ?_)
            refine k_aload_n rfl ?_
            obtain ⟨x91, e89, c90, h92, h93⟩ := cg163 H26.1 t39
            refine k_get kg163 t39 e89 ?_
            refine k_bipush (m := 30) rfl (fun x94 h95 => ?_)
            refine k_ic_lt (fun h96 => ?_) (fun h96 => ?_)
            · refine hB _ _ _ _ (kgoC (is := KX4_call_70) rfl ?_)
              refine k_aload_n rfl ?_
              refine k_get kg67 t47 (congrArg (Sum.inl : Int32 → AvC) c48) ?_
              refine k_bipush (m := 10) rfl (fun x97 h98 => ?_)
              refine k_ic_ne (fun h99 => ?_) (fun h99 => by exfalso; omega)
              refine hB _ _ _ _ (kgoC (is := KX4_call_90) rfl ?_)
              refine k_aload_n rfl ?_
              refine k_aload_n rfl ?_
              refine k_get kg167 t39 (congrArg (Sum.inl : Int32 → AvC) c42) ?_
              refine k_aload_n rfl ?_
              obtain ⟨x102, e100, c101, h103, h104⟩ := cg160 H26.1 t39
              refine k_get kg160 t39 e100 ?_
              refine k_ic_ge (fun h105 => ?_) (fun h105 => ?_)
              · refine hB _ _ _ _ (kgoC (is := KX4_call_115) rfl ?_)
                refine k_lconst ?_
                refine k_nil ?_
                refine hB _ _ _ _ (kgoC (is := KX4_call_116) rfl ?_)
                refine k_inv (P := P_X4_push) (Q := Q_X4_push) rfl rfl rfl rfl (Nat.le_of_ble_eq_true rfl) (t39.rc (by decide)) ⟨_, _, rfl, H26, t39⟩ (fun w106 σ107 q108 => ?_)
                obtain ⟨rfl, H109, e110⟩ := q108
                refine k_st (st' := []) rfl ?_
                refine k_aload_n rfl ?_
                refine k_dupR ?_
                have t111 := t39.x e110
                have c112 := (t39.mi e110 (by decide)).trans c42
                refine k_get kg167 t111 (congrArg (Sum.inl : Int32 → AvC) c112) ?_
                refine k_iconst (m := 1) rfl (fun x113 h114 => ?_)
                refine k_iadd (by omega) (by omega) (fun x115 h116 => ?_)
                have c121 := (t39.mi e110 (by decide)).trans c36
                refine k_p167 H109 t111 c121 (by omega) (by omega) (fun σ117 H118 e119 c120 => ?_)
                refine k_nil ?_
                refine hB _ _ _ _ (kgoC (is := KX4_call_129) rfl ?_)
                refine k_return ?_
                have X122 : ExC [161, 162, 163, 165, 166, 167, 169] σ0 σ23 := ExC.rf.tr (e27.mo (by decide))
                have X123 : ExC [161, 162, 163, 165, 166, 167, 169] σ0 σ107 := X122.tr (e110.mo (by decide))
                have X124 : ExC [161, 162, 163, 165, 166, 167, 169] σ0 σ117 := X123.tr (e119.mo (by decide))
                exact ⟨rfl, H118, X124⟩
              · refine k_nil ?_
                refine hB _ _ _ _ (kgoC (is := KX4_call_102) rfl ?_)
                refine k_aload_n rfl ?_
                obtain ⟨a127, e125, c126, t128, l129⟩ := cg159 H26.1 t39
                refine k_get kg159 t39 e125 ?_
                refine k_aload_n rfl ?_
                refine k_get kg167 t39 (congrArg (Sum.inl : Int32 → AvC) c42) ?_
                have z130 := H26.x5i t39 c126 c101
                refine k_iaload t128 (by omega) (by omega) (fun x131 => ?_)
                refine k_i2l (fun y132 => ?_)
                refine k_goto ?_
                refine hB _ _ _ _ (kgoC (is := KX4_call_116) rfl ?_)
                refine k_inv (P := P_X4_push) (Q := Q_X4_push) rfl rfl rfl rfl (Nat.le_of_ble_eq_true rfl) (t39.rc (by decide)) ⟨_, _, rfl, H26, t39⟩ (fun w133 σ134 q135 => ?_)
                obtain ⟨rfl, H136, e137⟩ := q135
                refine k_st (st' := []) rfl ?_
                refine k_aload_n rfl ?_
                refine k_dupR ?_
                have t138 := t39.x e137
                have c139 := (t39.mi e137 (by decide)).trans c42
                refine k_get kg167 t138 (congrArg (Sum.inl : Int32 → AvC) c139) ?_
                refine k_iconst (m := 1) rfl (fun x140 h141 => ?_)
                refine k_iadd (by omega) (by omega) (fun x142 h143 => ?_)
                have c148 := (t39.mi e137 (by decide)).trans c36
                refine k_p167 H136 t138 c148 (by omega) (by omega) (fun σ144 H145 e146 c147 => ?_)
                refine k_nil ?_
                refine hB _ _ _ _ (kgoC (is := KX4_call_129) rfl ?_)
                refine k_return ?_
                have X149 : ExC [161, 162, 163, 165, 166, 167, 169] σ0 σ23 := ExC.rf.tr (e27.mo (by decide))
                have X150 : ExC [161, 162, 163, 165, 166, 167, 169] σ0 σ134 := X149.tr (e137.mo (by decide))
                have X151 : ExC [161, 162, 163, 165, 166, 167, 169] σ0 σ144 := X150.tr (e146.mo (by decide))
                exact ⟨rfl, H145, X151⟩
            · refine k_nil ?_
              refine hB _ _ _ _ (kgoC (is := KX4_call_62) rfl ?_)
              refine k_aload_n rfl ?_
              refine k_iconst (m := 4) rfl (fun x152 h153 => ?_)
              refine k_putI kp169 H26 t39 (Or.inl fk169) (tiC x152).1 (tiC x152).2 (fun σ154 H155 e156 c157 => ?_)
              refine k_goto ?_
              refine hB _ _ _ _ (kgoC (is := KX4_call_129) rfl ?_)
              refine k_return ?_
              have X158 : ExC [161, 162, 163, 165, 166, 167, 169] σ0 σ23 := ExC.rf.tr (e27.mo (by decide))
              have X159 : ExC [161, 162, 163, 165, 166, 167, 169] σ0 σ154 := X158.tr (e156.mo (by decide))
              exact ⟨rfl, H155, X159⟩
          · refine k_nil ?_
            refine hB _ _ _ _ (kgoC (is := KX4_call_45) rfl ?_)
            refine k_aload_n rfl ?_
            refine k_aload_n rfl ?_
            have t160 := t21.x e27
            refine k_inv (P := P_X4_enter) (Q := Q_X4_enter) rfl rfl rfl rfl (Nat.le_of_ble_eq_true rfl) (t39.rc (by decide)) ⟨_, _, rfl, H26, t39, t160⟩ (fun w161 σ162 q163 => ?_)
            obtain ⟨rfl, H164, e165⟩ := q163
            refine k_st (st' := []) rfl ?_
            refine k_goto ?_
            refine hB _ _ _ _ (kgoC (is := KX4_call_129) rfl ?_)
            refine k_return ?_
            have X166 : ExC [161, 162, 163, 165, 166, 167, 169] σ0 σ23 := ExC.rf.tr (e27.mo (by decide))
            have X167 : ExC [161, 162, 163, 165, 166, 167, 169] σ0 σ162 := X166.tr (e165.mo (by decide))
            exact ⟨rfl, H164, X167⟩
theorem lg_X4_call : ∀ (As : List AvC) (σ : CsC), P_X4_call As σ → lgC As ≤ rX4_call.2.2.1 := by
  rintro As σ ⟨p0, p1, rfl, -⟩
  exact Nat.le_of_ble_eq_true rfl
theorem m_X4_call (l : Launch) : CMetC l 12 100 P_X4_call Q_X4_call :=
  CMetC.of KX4_call [(119, P_X6_methodOf, Q_X6_methodOf), (94, P_X4_step, Q_X4_step), (92, P_X4_pop, Q_X4_pop), (101, P_X4_tellNumber, Q_X4_tellNumber), (91, P_X4_push, Q_X4_push), (102, P_X4_enter, Q_X4_enter)] hX4_call (by decide) (by decide) okX4_call (cc1C (m_X6_methodOf l) (by decide) (cc1C (m_X4_step l) (by decide) (cc1C (m_X4_pop l) (by decide) (cc1C (m_X4_tellNumber l) (by decide) (cc1C (m_X4_push l) (by decide) (cc1C (m_X4_enter l) (by decide) cc0C)))))) (lg_X4_call) (b_X4_call)

abbrev P_X4_work : CpC := fun As σ => ∃ (p0 : Nat) (p1 : Int32) (p2 : Nat), As = [.inr (.inr (some p0)), .inl p1, .inr (.inr (some p2))] ∧ HIC σ ∧ TyC σ p0 5 ∧ TyC σ p2 2
abbrev Q_X4_work : CqC := fun As σ w τ => match As with
  | [.inr (.inr (some p0)), .inl p1, .inr (.inr (some p2))] => w = none ∧ HIC τ ∧ ExC [161, 162, 163, 165, 166, 167, 169] σ τ
  | _ => False
set_option maxRecDepth 100000 in
set_option maxHeartbeats 4000000 in
theorem b_X4_work : TbC KX4_work [(91, P_X4_push, Q_X4_push), (93, P_X4_slot, Q_X4_slot), (92, P_X4_pop, Q_X4_pop), (232, P_X11_workedAlone, Q_X11_workedAlone), (228, P_X11_narrowed, Q_X11_narrowed), (97, P_X4_operate, Q_X4_operate), (98, P_X4_count, Q_X4_count), (99, P_X4_assign, Q_X4_assign), (100, P_X4_call, Q_X4_call)] P_X4_work Q_X4_work := by
  · rintro As σ0 ⟨p0, p1, p2, rfl, H0, h_0_0, h_2_0⟩ hgr G hB hW
    change G 0 [(0, .inr (.inr (some p0))), (1, .inl p1), (2, .inr (.inr (some p2)))] [] σ0
    refine hB _ _ _ _ (kgoC (is := KX4_work_0) rfl ?_)
    refine k_iload_n rfl ?_
    refine k_tsw ?_
    refine k_swc (fun h1 => ?_) (fun h1 => ?_)
    · refine hB _ _ _ _ (kgoC (is := KX4_work_52) rfl ?_)
      refine k_aload_n rfl ?_
      refine k_aload_n rfl ?_
      obtain ⟨y4, e2, c3⟩ := cg71 (σ := σ0) (a := p2)
      refine k_get kg71 h_2_0 e2 ?_
      refine k_inv (P := P_X4_push) (Q := Q_X4_push) rfl rfl rfl rfl (Nat.le_of_ble_eq_true rfl) (h_0_0.rc (by decide)) ⟨_, _, rfl, H0, h_0_0⟩ (fun w5 σ6 q7 => ?_)
      obtain ⟨rfl, H8, e9⟩ := q7
      refine k_st (st' := []) rfl ?_
      refine k_goto ?_
      refine hB _ _ _ _ (kgoC (is := KX4_work_165) rfl ?_)
      refine k_return ?_
      have X10 : ExC [161, 162, 163, 165, 166, 167, 169] σ0 σ6 := ExC.rf.tr (e9.mo (by decide))
      exact ⟨rfl, H8, X10⟩
    refine k_swc (fun h11 => ?_) (fun h11 => ?_)
    · refine hB _ _ _ _ (kgoC (is := KX4_work_63) rfl ?_)
      refine k_aload_n rfl ?_
      refine k_aload_n rfl ?_
      obtain ⟨a14, e12, c13, t15, l16, l17⟩ := cg150 H0.1 h_0_0
      refine k_get kg150 h_0_0 e12 ?_
      refine k_aload_n rfl ?_
      refine k_aload_n rfl ?_
      obtain ⟨x20, e18, c19, h21, h22⟩ := cg67 H0.1 h_2_0
      refine k_get kg67 h_2_0 e18 ?_
      refine k_inv (P := P_X4_slot) (Q := Q_X4_slot) rfl rfl rfl rfl (Nat.le_of_ble_eq_true rfl) (h_0_0.rc (by decide)) ⟨_, _, rfl, H0, h_0_0⟩ (fun w23 σ24 q25 => ?_)
      obtain ⟨x26, rfl, rfl, h27, h28⟩ := q25
      refine k_st (st' := [.inl x26, .inr (.inr (some a14)), .inr (.inr (some p0))]) rfl ?_
      refine k_laload t15 (by omega) (by omega) (fun y29 => ?_)
      refine k_inv (P := P_X4_push) (Q := Q_X4_push) rfl rfl rfl rfl (Nat.le_of_ble_eq_true rfl) (h_0_0.rc (by decide)) ⟨_, _, rfl, H0, h_0_0⟩ (fun w30 σ31 q32 => ?_)
      obtain ⟨rfl, H33, e34⟩ := q32
      refine k_st (st' := []) rfl ?_
      refine k_goto ?_
      refine hB _ _ _ _ (kgoC (is := KX4_work_165) rfl ?_)
      refine k_return ?_
      have X35 : ExC [161, 162, 163, 165, 166, 167, 169] σ0 σ31 := ExC.rf.tr (e34.mo (by decide))
      exact ⟨rfl, H33, X35⟩
    refine k_swc (fun h36 => ?_) (fun h36 => ?_)
    · refine hB _ _ _ _ (kgoC (is := KX4_work_165) rfl ?_)
      refine k_return ?_
      exact ⟨rfl, H0, (ExC.rf : ExC [161, 162, 163, 165, 166, 167, 169] σ0 σ0)⟩
    refine k_swc (fun h37 => ?_) (fun h37 => ?_)
    · refine hB _ _ _ _ (kgoC (is := KX4_work_83) rfl ?_)
      refine k_aload_n rfl ?_
      refine k_aload_n rfl ?_
      obtain ⟨x40, e38, c39, h41, h42⟩ := cg61 H0.1 h_2_0
      refine k_get kg61 h_2_0 e38 ?_
      refine k_aload_n rfl ?_
      obtain ⟨x45, e43, c44, h46, h47⟩ := cg68 H0.1 h_2_0
      refine k_get kg68 h_2_0 e43 ?_
      refine k_aload_n rfl ?_
      refine k_inv (P := P_X4_pop) (Q := Q_X4_pop) rfl rfl rfl rfl (Nat.le_of_ble_eq_true rfl) (h_0_0.rc (by decide)) ⟨_, rfl, H0, h_0_0⟩ (fun w48 σ49 q50 => ?_)
      obtain ⟨y51, rfl, H52, e53⟩ := q50
      refine k_st (st' := [.inr (.inl y51), .inl x45, .inl x40, .inr (.inr (some p0))]) rfl ?_
      refine k_stat (P := P_X11_workedAlone) (Q := Q_X11_workedAlone) rfl rfl (Nat.le_of_ble_eq_true rfl) rfl rfl (Nat.le_of_ble_eq_true rfl) ⟨_, _, _, rfl, H52⟩ (fun w54 σ55 q56 => ?_)
      obtain ⟨y57, rfl, rfl⟩ := q56
      refine k_st (st' := [.inr (.inl y57), .inr (.inr (some p0))]) rfl ?_
      have t58 := h_0_0.x e53
      refine k_inv (P := P_X4_push) (Q := Q_X4_push) rfl rfl rfl rfl (Nat.le_of_ble_eq_true rfl) (t58.rc (by decide)) ⟨_, _, rfl, H52, t58⟩ (fun w59 σ60 q61 => ?_)
      obtain ⟨rfl, H62, e63⟩ := q61
      refine k_st (st' := []) rfl ?_
      refine k_goto ?_
      refine hB _ _ _ _ (kgoC (is := KX4_work_165) rfl ?_)
      refine k_return ?_
      have X64 : ExC [161, 162, 163, 165, 166, 167, 169] σ0 σ49 := ExC.rf.tr (e53.mo (by decide))
      have X65 : ExC [161, 162, 163, 165, 166, 167, 169] σ0 σ60 := X64.tr (e63.mo (by decide))
      exact ⟨rfl, H62, X65⟩
    refine k_swc (fun h66 => ?_) (fun h66 => ?_)
    · refine hB _ _ _ _ (kgoC (is := KX4_work_105) rfl ?_)
      refine k_aload_n rfl ?_
      refine k_aload_n rfl ?_
      obtain ⟨x69, e67, c68, h70, h71⟩ := cg68 H0.1 h_2_0
      refine k_get kg68 h_2_0 e67 ?_
      refine k_aload_n rfl ?_
      refine k_inv (P := P_X4_pop) (Q := Q_X4_pop) rfl rfl rfl rfl (Nat.le_of_ble_eq_true rfl) (h_0_0.rc (by decide)) ⟨_, rfl, H0, h_0_0⟩ (fun w72 σ73 q74 => ?_)
      obtain ⟨y75, rfl, H76, e77⟩ := q74
      refine k_st (st' := [.inr (.inl y75), .inl x69, .inr (.inr (some p0))]) rfl ?_
      refine k_stat (P := P_X11_narrowed) (Q := Q_X11_narrowed) rfl rfl (Nat.le_of_ble_eq_true rfl) rfl rfl (Nat.le_of_ble_eq_true rfl) ⟨_, _, rfl, H76⟩ (fun w78 σ79 q80 => ?_)
      obtain ⟨y81, rfl, rfl⟩ := q80
      refine k_st (st' := [.inr (.inl y81), .inr (.inr (some p0))]) rfl ?_
      have t82 := h_0_0.x e77
      refine k_inv (P := P_X4_push) (Q := Q_X4_push) rfl rfl rfl rfl (Nat.le_of_ble_eq_true rfl) (t82.rc (by decide)) ⟨_, _, rfl, H76, t82⟩ (fun w83 σ84 q85 => ?_)
      obtain ⟨rfl, H86, e87⟩ := q85
      refine k_st (st' := []) rfl ?_
      refine k_goto ?_
      refine hB _ _ _ _ (kgoC (is := KX4_work_165) rfl ?_)
      refine k_return ?_
      have X88 : ExC [161, 162, 163, 165, 166, 167, 169] σ0 σ73 := ExC.rf.tr (e77.mo (by decide))
      have X89 : ExC [161, 162, 163, 165, 166, 167, 169] σ0 σ84 := X88.tr (e87.mo (by decide))
      exact ⟨rfl, H86, X89⟩
    refine k_swc (fun h90 => ?_) (fun h90 => ?_)
    · refine hB _ _ _ _ (kgoC (is := KX4_work_131) rfl ?_)
      refine k_aload_n rfl ?_
      refine k_inv (P := P_X4_pop) (Q := Q_X4_pop) rfl rfl rfl rfl (Nat.le_of_ble_eq_true rfl) (h_0_0.rc (by decide)) ⟨_, rfl, H0, h_0_0⟩ (fun w91 σ92 q93 => ?_)
      obtain ⟨y94, rfl, H95, e96⟩ := q93
      refine k_st (st' := [.inr (.inl y94)]) rfl ?_
      refine k_lstore_n (ls' := [(3, .inr (.inl y94)), (0, .inr (.inr (some p0))), (1, .inl p1), (2, .inr (.inr (some p2)))]) rfl ?_
      refine k_aload_n rfl ?_
      refine k_aload_n rfl ?_
      refine k_aload_n rfl ?_
      have t97 := h_0_0.x e96
      refine k_inv (P := P_X4_pop) (Q := Q_X4_pop) rfl rfl rfl rfl (Nat.le_of_ble_eq_true rfl) (t97.rc (by decide)) ⟨_, rfl, H95, t97⟩ (fun w98 σ99 q100 => ?_)
      obtain ⟨y101, rfl, H102, e103⟩ := q100
      refine k_st (st' := [.inr (.inl y101), .inr (.inr (some p2)), .inr (.inr (some p0))]) rfl ?_
      refine k_lload_n rfl ?_
      have t104 := t97.x e103
      have t105 := h_2_0.x e96
      have t106 := t105.x e103
      refine k_inv (P := P_X4_operate) (Q := Q_X4_operate) rfl rfl rfl rfl (Nat.le_of_ble_eq_true rfl) (t104.rc (by decide)) ⟨_, _, _, _, rfl, H102, t104, t106⟩ (fun w107 σ108 q109 => ?_)
      obtain ⟨rfl, H110, e111⟩ := q109
      refine k_st (st' := []) rfl ?_
      refine k_goto ?_
      refine hB _ _ _ _ (kgoC (is := KX4_work_165) rfl ?_)
      refine k_return ?_
      have X112 : ExC [161, 162, 163, 165, 166, 167, 169] σ0 σ92 := ExC.rf.tr (e96.mo (by decide))
      have X113 : ExC [161, 162, 163, 165, 166, 167, 169] σ0 σ99 := X112.tr (e103.mo (by decide))
      have X114 : ExC [161, 162, 163, 165, 166, 167, 169] σ0 σ108 := X113.tr (e111.mo (by decide))
      exact ⟨rfl, H110, X114⟩
    refine k_swc (fun h115 => ?_) (fun h115 => ?_)
    · refine hB _ _ _ _ (kgoC (is := KX4_work_123) rfl ?_)
      refine k_aload_n rfl ?_
      refine k_aload_n rfl ?_
      refine k_inv (P := P_X4_count) (Q := Q_X4_count) rfl rfl rfl rfl (Nat.le_of_ble_eq_true rfl) (h_0_0.rc (by decide)) ⟨_, _, rfl, H0, h_0_0, h_2_0⟩ (fun w116 σ117 q118 => ?_)
      obtain ⟨rfl, H119, e120⟩ := q118
      refine k_st (st' := []) rfl ?_
      refine k_goto ?_
      refine hB _ _ _ _ (kgoC (is := KX4_work_165) rfl ?_)
      refine k_return ?_
      have X121 : ExC [161, 162, 163, 165, 166, 167, 169] σ0 σ117 := ExC.rf.tr (e120.mo (by decide))
      exact ⟨rfl, H119, X121⟩
    refine k_swc (fun h122 => ?_) (fun h122 => ?_)
    · refine hB _ _ _ _ (kgoC (is := KX4_work_149) rfl ?_)
      refine k_aload_n rfl ?_
      refine k_aload_n rfl ?_
      refine k_inv (P := P_X4_assign) (Q := Q_X4_assign) rfl rfl rfl rfl (Nat.le_of_ble_eq_true rfl) (h_0_0.rc (by decide)) ⟨_, _, rfl, H0, h_0_0, h_2_0⟩ (fun w123 σ124 q125 => ?_)
      obtain ⟨rfl, H126, e127⟩ := q125
      refine k_st (st' := []) rfl ?_
      refine k_goto ?_
      refine hB _ _ _ _ (kgoC (is := KX4_work_165) rfl ?_)
      refine k_return ?_
      have X128 : ExC [161, 162, 163, 165, 166, 167, 169] σ0 σ124 := ExC.rf.tr (e127.mo (by decide))
      exact ⟨rfl, H126, X128⟩
    refine k_swc (fun h129 => ?_) (fun h129 => ?_)
    · refine hB _ _ _ _ (kgoC (is := KX4_work_157) rfl ?_)
      refine k_aload_n rfl ?_
      refine k_aload_n rfl ?_
      refine k_inv (P := P_X4_call) (Q := Q_X4_call) rfl rfl rfl rfl (Nat.le_of_ble_eq_true rfl) (h_0_0.rc (by decide)) ⟨_, _, rfl, H0, h_0_0, h_2_0⟩ (fun w130 σ131 q132 => ?_)
      obtain ⟨rfl, H133, e134⟩ := q132
      refine k_st (st' := []) rfl ?_
      refine k_goto ?_
      refine hB _ _ _ _ (kgoC (is := KX4_work_165) rfl ?_)
      refine k_return ?_
      have X135 : ExC [161, 162, 163, 165, 166, 167, 169] σ0 σ131 := ExC.rf.tr (e134.mo (by decide))
      exact ⟨rfl, H133, X135⟩
    refine k_swn ?_
    refine hB _ _ _ _ (kgoC (is := KX4_work_165) rfl ?_)
    refine k_return ?_
    exact ⟨rfl, H0, (ExC.rf : ExC [161, 162, 163, 165, 166, 167, 169] σ0 σ0)⟩
theorem lg_X4_work : ∀ (As : List AvC) (σ : CsC), P_X4_work As σ → lgC As ≤ rX4_work.2.2.1 := by
  rintro As σ ⟨p0, p1, p2, rfl, -⟩
  exact Nat.le_of_ble_eq_true rfl
theorem m_X4_work (l : Launch) : CMetC l 13 96 P_X4_work Q_X4_work :=
  CMetC.of KX4_work [(91, P_X4_push, Q_X4_push), (93, P_X4_slot, Q_X4_slot), (92, P_X4_pop, Q_X4_pop), (232, P_X11_workedAlone, Q_X11_workedAlone), (228, P_X11_narrowed, Q_X11_narrowed), (97, P_X4_operate, Q_X4_operate), (98, P_X4_count, Q_X4_count), (99, P_X4_assign, Q_X4_assign), (100, P_X4_call, Q_X4_call)] hX4_work (by decide) (by decide) okX4_work (cc1C (m_X4_push l) (by decide) (cc1C (m_X4_slot l) (by decide) (cc1C (m_X4_pop l) (by decide) (cc1C (m_X11_workedAlone l) (by decide) (cc1C (m_X11_narrowed l) (by decide) (cc1C (m_X4_operate l) (by decide) (cc1C (m_X4_count l) (by decide) (cc1C (m_X4_assign l) (by decide) (cc1C (m_X4_call l) (by decide) cc0C))))))))) (lg_X4_work) (b_X4_work)

abbrev P_X4_move : CpC := fun As σ => ∃ (p0 : Nat) (p1 : Int32) (p2 : Int32), As = [.inr (.inr (some p0)), .inl p1, .inl p2] ∧ HIC σ ∧ TyC σ p0 5
abbrev Q_X4_move : CqC := fun As σ w τ => match As with
  | [.inr (.inr (some p0)), .inl p1, .inl p2] => w = none ∧ HIC τ ∧ ExC [161, 162] σ τ
  | _ => False
set_option maxRecDepth 100000 in
set_option maxHeartbeats 4000000 in
theorem b_X4_move : TbC KX4_move [(93, P_X4_slot, Q_X4_slot), (92, P_X4_pop, Q_X4_pop), (91, P_X4_push, Q_X4_push)] P_X4_move Q_X4_move := by
  · rintro As σ0 ⟨p0, p1, p2, rfl, H0, h_0_0⟩ hgr G hB hW
    change G 0 [(0, .inr (.inr (some p0))), (1, .inl p1), (2, .inl p2)] [] σ0
    refine hB _ _ _ _ (kgoC (is := KX4_move_0) rfl ?_)
    refine k_iload_n rfl ?_
    refine k_tsw ?_
    refine k_swc (fun h1 => ?_) (fun h1 => ?_)
    · refine hB _ _ _ _ (kgoC (is := KX4_move_60) rfl ?_)
      refine k_aload_n rfl ?_
      obtain ⟨a4, e2, c3, t5, l6, l7⟩ := cg150 H0.1 h_0_0
      refine k_get kg150 h_0_0 e2 ?_
      refine k_aload_n rfl ?_
      refine k_iload_n rfl ?_
      refine k_inv (P := P_X4_slot) (Q := Q_X4_slot) rfl rfl rfl rfl (Nat.le_of_ble_eq_true rfl) (h_0_0.rc (by decide)) ⟨_, _, rfl, H0, h_0_0⟩ (fun w8 σ9 q10 => ?_)
      obtain ⟨x11, rfl, rfl, h12, h13⟩ := q10
      refine k_st (st' := [.inl x11, .inr (.inr (some a4))]) rfl ?_
      refine k_aload_n rfl ?_
      refine k_inv (P := P_X4_pop) (Q := Q_X4_pop) rfl rfl rfl rfl (Nat.le_of_ble_eq_true rfl) (h_0_0.rc (by decide)) ⟨_, rfl, H0, h_0_0⟩ (fun w14 σ15 q16 => ?_)
      obtain ⟨y17, rfl, H18, e19⟩ := q16
      refine k_st (st' := [.inr (.inl y17), .inl x11, .inr (.inr (some a4))]) rfl ?_
      have t20 := t5.x e19
      have l21 := (t5.al e19).trans l6
      have l25 := (t5.gh e19).trans l7
      refine k_lastore H18 t20 l25 (by omega) (by omega) (fun σ22 H23 e24 => ?_)
      refine k_goto ?_
      refine hB _ _ _ _ (kgoC (is := KX4_move_181) rfl ?_)
      refine k_return ?_
      have X26 : ExC [161, 162] σ0 σ15 := ExC.rf.tr (e19.mo (by decide))
      have X27 : ExC [161, 162] σ0 σ22 := X26.tr (e24.mo (by decide))
      exact ⟨rfl, H23, X27⟩
    refine k_swc (fun h28 => ?_) (fun h28 => ?_)
    · refine hB _ _ _ _ (kgoC (is := KX4_move_141) rfl ?_)
      refine k_aload_n rfl ?_
      refine k_inv (P := P_X4_pop) (Q := Q_X4_pop) rfl rfl rfl rfl (Nat.le_of_ble_eq_true rfl) (h_0_0.rc (by decide)) ⟨_, rfl, H0, h_0_0⟩ (fun w29 σ30 q31 => ?_)
      obtain ⟨y32, rfl, H33, e34⟩ := q31
      refine k_st (st' := [.inr (.inl y32)]) rfl ?_
      refine k_lstore_n (ls' := [(3, .inr (.inl y32)), (0, .inr (.inr (some p0))), (1, .inl p1), (2, .inl p2)]) rfl ?_
      refine k_lload_n rfl ?_
      refine k_lconst ?_
      refine k_lcmp (fun x35 h36 g37 => ?_)
      refine k_if_ne (fun h38 => ?_) (fun h38 => ?_)
      · refine hB _ _ _ _ (kgoC (is := KX4_move_156) rfl ?_)
        refine k_iconst (m := 0) rfl (fun x39 h40 => ?_)
        refine k_nil ?_
        refine hB _ _ _ _ (kgoC (is := KX4_move_157) rfl ?_)
        refine k_iload_n rfl ?_
        refine k_bipush (m := 13) rfl (fun x41 h42 => ?_)
        refine k_ic_ne (fun h43 => ?_) (fun h43 => by exfalso; omega)
        refine hB _ _ _ _ (kgoC (is := KX4_move_167) rfl ?_)
        refine k_iconst (m := 0) rfl (fun x44 h45 => ?_)
        refine k_nil ?_
        refine hB _ _ _ _ (kgoC (is := KX4_move_168) rfl ?_)
        refine k_ic_ne (fun h46 => by exfalso; omega) (fun h46 => ?_)
        refine k_nil ?_
        refine hB _ _ _ _ (kgoC (is := KX4_move_171) rfl ?_)
        refine k_aload_n rfl ?_
        refine k_lload_n rfl ?_
        have t47 := h_0_0.x e34
        refine k_inv (P := P_X4_push) (Q := Q_X4_push) rfl rfl rfl rfl (Nat.le_of_ble_eq_true rfl) (t47.rc (by decide)) ⟨_, _, rfl, H33, t47⟩ (fun w48 σ49 q50 => ?_)
        obtain ⟨rfl, H51, e52⟩ := q50
        refine k_st (st' := []) rfl ?_
        refine k_aload_n rfl ?_
        refine k_iload_n rfl ?_
        have t53 := t47.x e52
        refine k_putI kp161 H51 t53 (Or.inl fk161) (tiC p2).1 (tiC p2).2 (fun σ54 H55 e56 c57 => ?_)
        refine k_nil ?_
        refine hB _ _ _ _ (kgoC (is := KX4_move_181) rfl ?_)
        refine k_return ?_
        have X58 : ExC [161, 162] σ0 σ30 := ExC.rf.tr (e34.mo (by decide))
        have X59 : ExC [161, 162] σ0 σ49 := X58.tr (e52.mo (by decide))
        have X60 : ExC [161, 162] σ0 σ54 := X59.tr (e56.mo (by decide))
        exact ⟨rfl, H55, X60⟩
      · refine k_nil ?_
        refine hB _ _ _ _ (kgoC (is := KX4_move_152) rfl ?_)
        refine k_iconst (m := 1) rfl (fun x61 h62 => ?_)
        refine k_goto ?_
        refine hB _ _ _ _ (kgoC (is := KX4_move_157) rfl ?_)
        refine k_iload_n rfl ?_
        refine k_bipush (m := 13) rfl (fun x63 h64 => ?_)
        refine k_ic_ne (fun h65 => ?_) (fun h65 => by exfalso; omega)
        refine hB _ _ _ _ (kgoC (is := KX4_move_167) rfl ?_)
        refine k_iconst (m := 0) rfl (fun x66 h67 => ?_)
        refine k_nil ?_
        refine hB _ _ _ _ (kgoC (is := KX4_move_168) rfl ?_)
        refine k_ic_ne (fun h68 => ?_) (fun h68 => by exfalso; omega)
        refine hB _ _ _ _ (kgoC (is := KX4_move_181) rfl ?_)
        refine k_return ?_
        have X69 : ExC [161, 162] σ0 σ30 := ExC.rf.tr (e34.mo (by decide))
        exact ⟨rfl, H33, X69⟩
    refine k_swc (fun h70 => ?_) (fun h70 => ?_)
    · refine hB _ _ _ _ (kgoC (is := KX4_move_141) rfl ?_)
      refine k_aload_n rfl ?_
      refine k_inv (P := P_X4_pop) (Q := Q_X4_pop) rfl rfl rfl rfl (Nat.le_of_ble_eq_true rfl) (h_0_0.rc (by decide)) ⟨_, rfl, H0, h_0_0⟩ (fun w71 σ72 q73 => ?_)
      obtain ⟨y74, rfl, H75, e76⟩ := q73
      refine k_st (st' := [.inr (.inl y74)]) rfl ?_
      refine k_lstore_n (ls' := [(3, .inr (.inl y74)), (0, .inr (.inr (some p0))), (1, .inl p1), (2, .inl p2)]) rfl ?_
      refine k_lload_n rfl ?_
      refine k_lconst ?_
      refine k_lcmp (fun x77 h78 g79 => ?_)
      refine k_if_ne (fun h80 => ?_) (fun h80 => ?_)
      · refine hB _ _ _ _ (kgoC (is := KX4_move_156) rfl ?_)
        refine k_iconst (m := 0) rfl (fun x81 h82 => ?_)
        refine k_nil ?_
        refine hB _ _ _ _ (kgoC (is := KX4_move_157) rfl ?_)
        refine k_iload_n rfl ?_
        refine k_bipush (m := 13) rfl (fun x83 h84 => ?_)
        refine k_ic_ne (fun h85 => ?_) (fun h85 => by exfalso; omega)
        refine hB _ _ _ _ (kgoC (is := KX4_move_167) rfl ?_)
        refine k_iconst (m := 0) rfl (fun x86 h87 => ?_)
        refine k_nil ?_
        refine hB _ _ _ _ (kgoC (is := KX4_move_168) rfl ?_)
        refine k_ic_ne (fun h88 => by exfalso; omega) (fun h88 => ?_)
        refine k_nil ?_
        refine hB _ _ _ _ (kgoC (is := KX4_move_171) rfl ?_)
        refine k_aload_n rfl ?_
        refine k_lload_n rfl ?_
        have t89 := h_0_0.x e76
        refine k_inv (P := P_X4_push) (Q := Q_X4_push) rfl rfl rfl rfl (Nat.le_of_ble_eq_true rfl) (t89.rc (by decide)) ⟨_, _, rfl, H75, t89⟩ (fun w90 σ91 q92 => ?_)
        obtain ⟨rfl, H93, e94⟩ := q92
        refine k_st (st' := []) rfl ?_
        refine k_aload_n rfl ?_
        refine k_iload_n rfl ?_
        have t95 := t89.x e94
        refine k_putI kp161 H93 t95 (Or.inl fk161) (tiC p2).1 (tiC p2).2 (fun σ96 H97 e98 c99 => ?_)
        refine k_nil ?_
        refine hB _ _ _ _ (kgoC (is := KX4_move_181) rfl ?_)
        refine k_return ?_
        have X100 : ExC [161, 162] σ0 σ72 := ExC.rf.tr (e76.mo (by decide))
        have X101 : ExC [161, 162] σ0 σ91 := X100.tr (e94.mo (by decide))
        have X102 : ExC [161, 162] σ0 σ96 := X101.tr (e98.mo (by decide))
        exact ⟨rfl, H97, X102⟩
      · refine k_nil ?_
        refine hB _ _ _ _ (kgoC (is := KX4_move_152) rfl ?_)
        refine k_iconst (m := 1) rfl (fun x103 h104 => ?_)
        refine k_goto ?_
        refine hB _ _ _ _ (kgoC (is := KX4_move_157) rfl ?_)
        refine k_iload_n rfl ?_
        refine k_bipush (m := 13) rfl (fun x105 h106 => ?_)
        refine k_ic_ne (fun h107 => ?_) (fun h107 => by exfalso; omega)
        refine hB _ _ _ _ (kgoC (is := KX4_move_167) rfl ?_)
        refine k_iconst (m := 0) rfl (fun x108 h109 => ?_)
        refine k_nil ?_
        refine hB _ _ _ _ (kgoC (is := KX4_move_168) rfl ?_)
        refine k_ic_ne (fun h110 => ?_) (fun h110 => by exfalso; omega)
        refine hB _ _ _ _ (kgoC (is := KX4_move_181) rfl ?_)
        refine k_return ?_
        have X111 : ExC [161, 162] σ0 σ72 := ExC.rf.tr (e76.mo (by decide))
        exact ⟨rfl, H75, X111⟩
    refine k_swc (fun h112 => ?_) (fun h112 => ?_)
    · refine hB _ _ _ _ (kgoC (is := KX4_move_141) rfl ?_)
      refine k_aload_n rfl ?_
      refine k_inv (P := P_X4_pop) (Q := Q_X4_pop) rfl rfl rfl rfl (Nat.le_of_ble_eq_true rfl) (h_0_0.rc (by decide)) ⟨_, rfl, H0, h_0_0⟩ (fun w113 σ114 q115 => ?_)
      obtain ⟨y116, rfl, H117, e118⟩ := q115
      refine k_st (st' := [.inr (.inl y116)]) rfl ?_
      refine k_lstore_n (ls' := [(3, .inr (.inl y116)), (0, .inr (.inr (some p0))), (1, .inl p1), (2, .inl p2)]) rfl ?_
      refine k_lload_n rfl ?_
      refine k_lconst ?_
      refine k_lcmp (fun x119 h120 g121 => ?_)
      refine k_if_ne (fun h122 => ?_) (fun h122 => ?_)
      · refine hB _ _ _ _ (kgoC (is := KX4_move_156) rfl ?_)
        refine k_iconst (m := 0) rfl (fun x123 h124 => ?_)
        refine k_nil ?_
        refine hB _ _ _ _ (kgoC (is := KX4_move_157) rfl ?_)
        refine k_iload_n rfl ?_
        refine k_bipush (m := 13) rfl (fun x125 h126 => ?_)
        refine k_ic_ne (fun h127 => ?_) (fun h127 => by exfalso; omega)
        refine hB _ _ _ _ (kgoC (is := KX4_move_167) rfl ?_)
        refine k_iconst (m := 0) rfl (fun x128 h129 => ?_)
        refine k_nil ?_
        refine hB _ _ _ _ (kgoC (is := KX4_move_168) rfl ?_)
        refine k_ic_ne (fun h130 => by exfalso; omega) (fun h130 => ?_)
        refine k_nil ?_
        refine hB _ _ _ _ (kgoC (is := KX4_move_171) rfl ?_)
        refine k_aload_n rfl ?_
        refine k_lload_n rfl ?_
        have t131 := h_0_0.x e118
        refine k_inv (P := P_X4_push) (Q := Q_X4_push) rfl rfl rfl rfl (Nat.le_of_ble_eq_true rfl) (t131.rc (by decide)) ⟨_, _, rfl, H117, t131⟩ (fun w132 σ133 q134 => ?_)
        obtain ⟨rfl, H135, e136⟩ := q134
        refine k_st (st' := []) rfl ?_
        refine k_aload_n rfl ?_
        refine k_iload_n rfl ?_
        have t137 := t131.x e136
        refine k_putI kp161 H135 t137 (Or.inl fk161) (tiC p2).1 (tiC p2).2 (fun σ138 H139 e140 c141 => ?_)
        refine k_nil ?_
        refine hB _ _ _ _ (kgoC (is := KX4_move_181) rfl ?_)
        refine k_return ?_
        have X142 : ExC [161, 162] σ0 σ114 := ExC.rf.tr (e118.mo (by decide))
        have X143 : ExC [161, 162] σ0 σ133 := X142.tr (e136.mo (by decide))
        have X144 : ExC [161, 162] σ0 σ138 := X143.tr (e140.mo (by decide))
        exact ⟨rfl, H139, X144⟩
      · refine k_nil ?_
        refine hB _ _ _ _ (kgoC (is := KX4_move_152) rfl ?_)
        refine k_iconst (m := 1) rfl (fun x145 h146 => ?_)
        refine k_goto ?_
        refine hB _ _ _ _ (kgoC (is := KX4_move_157) rfl ?_)
        refine k_iload_n rfl ?_
        refine k_bipush (m := 13) rfl (fun x147 h148 => ?_)
        refine k_ic_ne (fun h149 => ?_) (fun h149 => by exfalso; omega)
        refine hB _ _ _ _ (kgoC (is := KX4_move_167) rfl ?_)
        refine k_iconst (m := 0) rfl (fun x150 h151 => ?_)
        refine k_nil ?_
        refine hB _ _ _ _ (kgoC (is := KX4_move_168) rfl ?_)
        refine k_ic_ne (fun h152 => ?_) (fun h152 => by exfalso; omega)
        refine hB _ _ _ _ (kgoC (is := KX4_move_181) rfl ?_)
        refine k_return ?_
        have X153 : ExC [161, 162] σ0 σ114 := ExC.rf.tr (e118.mo (by decide))
        exact ⟨rfl, H117, X153⟩
    refine k_swc (fun h154 => ?_) (fun h154 => ?_)
    · refine hB _ _ _ _ (kgoC (is := KX4_move_141) rfl ?_)
      refine k_aload_n rfl ?_
      refine k_inv (P := P_X4_pop) (Q := Q_X4_pop) rfl rfl rfl rfl (Nat.le_of_ble_eq_true rfl) (h_0_0.rc (by decide)) ⟨_, rfl, H0, h_0_0⟩ (fun w155 σ156 q157 => ?_)
      obtain ⟨y158, rfl, H159, e160⟩ := q157
      refine k_st (st' := [.inr (.inl y158)]) rfl ?_
      refine k_lstore_n (ls' := [(3, .inr (.inl y158)), (0, .inr (.inr (some p0))), (1, .inl p1), (2, .inl p2)]) rfl ?_
      refine k_lload_n rfl ?_
      refine k_lconst ?_
      refine k_lcmp (fun x161 h162 g163 => ?_)
      refine k_if_ne (fun h164 => ?_) (fun h164 => ?_)
      · refine hB _ _ _ _ (kgoC (is := KX4_move_156) rfl ?_)
        refine k_iconst (m := 0) rfl (fun x165 h166 => ?_)
        refine k_nil ?_
        refine hB _ _ _ _ (kgoC (is := KX4_move_157) rfl ?_)
        refine k_iload_n rfl ?_
        refine k_bipush (m := 13) rfl (fun x167 h168 => ?_)
        refine k_ic_ne (fun h169 => ?_) (fun h169 => by exfalso; omega)
        refine hB _ _ _ _ (kgoC (is := KX4_move_167) rfl ?_)
        refine k_iconst (m := 0) rfl (fun x170 h171 => ?_)
        refine k_nil ?_
        refine hB _ _ _ _ (kgoC (is := KX4_move_168) rfl ?_)
        refine k_ic_ne (fun h172 => by exfalso; omega) (fun h172 => ?_)
        refine k_nil ?_
        refine hB _ _ _ _ (kgoC (is := KX4_move_171) rfl ?_)
        refine k_aload_n rfl ?_
        refine k_lload_n rfl ?_
        have t173 := h_0_0.x e160
        refine k_inv (P := P_X4_push) (Q := Q_X4_push) rfl rfl rfl rfl (Nat.le_of_ble_eq_true rfl) (t173.rc (by decide)) ⟨_, _, rfl, H159, t173⟩ (fun w174 σ175 q176 => ?_)
        obtain ⟨rfl, H177, e178⟩ := q176
        refine k_st (st' := []) rfl ?_
        refine k_aload_n rfl ?_
        refine k_iload_n rfl ?_
        have t179 := t173.x e178
        refine k_putI kp161 H177 t179 (Or.inl fk161) (tiC p2).1 (tiC p2).2 (fun σ180 H181 e182 c183 => ?_)
        refine k_nil ?_
        refine hB _ _ _ _ (kgoC (is := KX4_move_181) rfl ?_)
        refine k_return ?_
        have X184 : ExC [161, 162] σ0 σ156 := ExC.rf.tr (e160.mo (by decide))
        have X185 : ExC [161, 162] σ0 σ175 := X184.tr (e178.mo (by decide))
        have X186 : ExC [161, 162] σ0 σ180 := X185.tr (e182.mo (by decide))
        exact ⟨rfl, H181, X186⟩
      · refine k_nil ?_
        refine hB _ _ _ _ (kgoC (is := KX4_move_152) rfl ?_)
        refine k_iconst (m := 1) rfl (fun x187 h188 => ?_)
        refine k_goto ?_
        refine hB _ _ _ _ (kgoC (is := KX4_move_157) rfl ?_)
        refine k_iload_n rfl ?_
        refine k_bipush (m := 13) rfl (fun x189 h190 => ?_)
        refine k_ic_ne (fun h191 => ?_) (fun h191 => by exfalso; omega)
        refine hB _ _ _ _ (kgoC (is := KX4_move_167) rfl ?_)
        refine k_iconst (m := 0) rfl (fun x192 h193 => ?_)
        refine k_nil ?_
        refine hB _ _ _ _ (kgoC (is := KX4_move_168) rfl ?_)
        refine k_ic_ne (fun h194 => ?_) (fun h194 => by exfalso; omega)
        refine hB _ _ _ _ (kgoC (is := KX4_move_181) rfl ?_)
        refine k_return ?_
        have X195 : ExC [161, 162] σ0 σ156 := ExC.rf.tr (e160.mo (by decide))
        exact ⟨rfl, H159, X195⟩
    refine k_swc (fun h196 => ?_) (fun h196 => ?_)
    · refine hB _ _ _ _ (kgoC (is := KX4_move_141) rfl ?_)
      refine k_aload_n rfl ?_
      refine k_inv (P := P_X4_pop) (Q := Q_X4_pop) rfl rfl rfl rfl (Nat.le_of_ble_eq_true rfl) (h_0_0.rc (by decide)) ⟨_, rfl, H0, h_0_0⟩ (fun w197 σ198 q199 => ?_)
      obtain ⟨y200, rfl, H201, e202⟩ := q199
      refine k_st (st' := [.inr (.inl y200)]) rfl ?_
      refine k_lstore_n (ls' := [(3, .inr (.inl y200)), (0, .inr (.inr (some p0))), (1, .inl p1), (2, .inl p2)]) rfl ?_
      refine k_lload_n rfl ?_
      refine k_lconst ?_
      refine k_lcmp (fun x203 h204 g205 => ?_)
      refine k_if_ne (fun h206 => ?_) (fun h206 => ?_)
      · refine hB _ _ _ _ (kgoC (is := KX4_move_156) rfl ?_)
        refine k_iconst (m := 0) rfl (fun x207 h208 => ?_)
        refine k_nil ?_
        refine hB _ _ _ _ (kgoC (is := KX4_move_157) rfl ?_)
        refine k_iload_n rfl ?_
        refine k_bipush (m := 13) rfl (fun x209 h210 => ?_)
        refine k_ic_ne (fun h211 => ?_) (fun h211 => by exfalso; omega)
        refine hB _ _ _ _ (kgoC (is := KX4_move_167) rfl ?_)
        refine k_iconst (m := 0) rfl (fun x212 h213 => ?_)
        refine k_nil ?_
        refine hB _ _ _ _ (kgoC (is := KX4_move_168) rfl ?_)
        refine k_ic_ne (fun h214 => by exfalso; omega) (fun h214 => ?_)
        refine k_nil ?_
        refine hB _ _ _ _ (kgoC (is := KX4_move_171) rfl ?_)
        refine k_aload_n rfl ?_
        refine k_lload_n rfl ?_
        have t215 := h_0_0.x e202
        refine k_inv (P := P_X4_push) (Q := Q_X4_push) rfl rfl rfl rfl (Nat.le_of_ble_eq_true rfl) (t215.rc (by decide)) ⟨_, _, rfl, H201, t215⟩ (fun w216 σ217 q218 => ?_)
        obtain ⟨rfl, H219, e220⟩ := q218
        refine k_st (st' := []) rfl ?_
        refine k_aload_n rfl ?_
        refine k_iload_n rfl ?_
        have t221 := t215.x e220
        refine k_putI kp161 H219 t221 (Or.inl fk161) (tiC p2).1 (tiC p2).2 (fun σ222 H223 e224 c225 => ?_)
        refine k_nil ?_
        refine hB _ _ _ _ (kgoC (is := KX4_move_181) rfl ?_)
        refine k_return ?_
        have X226 : ExC [161, 162] σ0 σ198 := ExC.rf.tr (e202.mo (by decide))
        have X227 : ExC [161, 162] σ0 σ217 := X226.tr (e220.mo (by decide))
        have X228 : ExC [161, 162] σ0 σ222 := X227.tr (e224.mo (by decide))
        exact ⟨rfl, H223, X228⟩
      · refine k_nil ?_
        refine hB _ _ _ _ (kgoC (is := KX4_move_152) rfl ?_)
        refine k_iconst (m := 1) rfl (fun x229 h230 => ?_)
        refine k_goto ?_
        refine hB _ _ _ _ (kgoC (is := KX4_move_157) rfl ?_)
        refine k_iload_n rfl ?_
        refine k_bipush (m := 13) rfl (fun x231 h232 => ?_)
        refine k_ic_ne (fun h233 => ?_) (fun h233 => by exfalso; omega)
        refine hB _ _ _ _ (kgoC (is := KX4_move_167) rfl ?_)
        refine k_iconst (m := 0) rfl (fun x234 h235 => ?_)
        refine k_nil ?_
        refine hB _ _ _ _ (kgoC (is := KX4_move_168) rfl ?_)
        refine k_ic_ne (fun h236 => ?_) (fun h236 => by exfalso; omega)
        refine hB _ _ _ _ (kgoC (is := KX4_move_181) rfl ?_)
        refine k_return ?_
        have X237 : ExC [161, 162] σ0 σ198 := ExC.rf.tr (e202.mo (by decide))
        exact ⟨rfl, H201, X237⟩
    refine k_swc (fun h238 => ?_) (fun h238 => ?_)
    · refine hB _ _ _ _ (kgoC (is := KX4_move_141) rfl ?_)
      refine k_aload_n rfl ?_
      refine k_inv (P := P_X4_pop) (Q := Q_X4_pop) rfl rfl rfl rfl (Nat.le_of_ble_eq_true rfl) (h_0_0.rc (by decide)) ⟨_, rfl, H0, h_0_0⟩ (fun w239 σ240 q241 => ?_)
      obtain ⟨y242, rfl, H243, e244⟩ := q241
      refine k_st (st' := [.inr (.inl y242)]) rfl ?_
      refine k_lstore_n (ls' := [(3, .inr (.inl y242)), (0, .inr (.inr (some p0))), (1, .inl p1), (2, .inl p2)]) rfl ?_
      refine k_lload_n rfl ?_
      refine k_lconst ?_
      refine k_lcmp (fun x245 h246 g247 => ?_)
      refine k_if_ne (fun h248 => ?_) (fun h248 => ?_)
      · refine hB _ _ _ _ (kgoC (is := KX4_move_156) rfl ?_)
        refine k_iconst (m := 0) rfl (fun x249 h250 => ?_)
        refine k_nil ?_
        refine hB _ _ _ _ (kgoC (is := KX4_move_157) rfl ?_)
        refine k_iload_n rfl ?_
        refine k_bipush (m := 13) rfl (fun x251 h252 => ?_)
        refine k_ic_ne (fun h253 => ?_) (fun h253 => by exfalso; omega)
        refine hB _ _ _ _ (kgoC (is := KX4_move_167) rfl ?_)
        refine k_iconst (m := 0) rfl (fun x254 h255 => ?_)
        refine k_nil ?_
        refine hB _ _ _ _ (kgoC (is := KX4_move_168) rfl ?_)
        refine k_ic_ne (fun h256 => by exfalso; omega) (fun h256 => ?_)
        refine k_nil ?_
        refine hB _ _ _ _ (kgoC (is := KX4_move_171) rfl ?_)
        refine k_aload_n rfl ?_
        refine k_lload_n rfl ?_
        have t257 := h_0_0.x e244
        refine k_inv (P := P_X4_push) (Q := Q_X4_push) rfl rfl rfl rfl (Nat.le_of_ble_eq_true rfl) (t257.rc (by decide)) ⟨_, _, rfl, H243, t257⟩ (fun w258 σ259 q260 => ?_)
        obtain ⟨rfl, H261, e262⟩ := q260
        refine k_st (st' := []) rfl ?_
        refine k_aload_n rfl ?_
        refine k_iload_n rfl ?_
        have t263 := t257.x e262
        refine k_putI kp161 H261 t263 (Or.inl fk161) (tiC p2).1 (tiC p2).2 (fun σ264 H265 e266 c267 => ?_)
        refine k_nil ?_
        refine hB _ _ _ _ (kgoC (is := KX4_move_181) rfl ?_)
        refine k_return ?_
        have X268 : ExC [161, 162] σ0 σ240 := ExC.rf.tr (e244.mo (by decide))
        have X269 : ExC [161, 162] σ0 σ259 := X268.tr (e262.mo (by decide))
        have X270 : ExC [161, 162] σ0 σ264 := X269.tr (e266.mo (by decide))
        exact ⟨rfl, H265, X270⟩
      · refine k_nil ?_
        refine hB _ _ _ _ (kgoC (is := KX4_move_152) rfl ?_)
        refine k_iconst (m := 1) rfl (fun x271 h272 => ?_)
        refine k_goto ?_
        refine hB _ _ _ _ (kgoC (is := KX4_move_157) rfl ?_)
        refine k_iload_n rfl ?_
        refine k_bipush (m := 13) rfl (fun x273 h274 => ?_)
        refine k_ic_ne (fun h275 => ?_) (fun h275 => by exfalso; omega)
        refine hB _ _ _ _ (kgoC (is := KX4_move_167) rfl ?_)
        refine k_iconst (m := 0) rfl (fun x276 h277 => ?_)
        refine k_nil ?_
        refine hB _ _ _ _ (kgoC (is := KX4_move_168) rfl ?_)
        refine k_ic_ne (fun h278 => ?_) (fun h278 => by exfalso; omega)
        refine hB _ _ _ _ (kgoC (is := KX4_move_181) rfl ?_)
        refine k_return ?_
        have X279 : ExC [161, 162] σ0 σ240 := ExC.rf.tr (e244.mo (by decide))
        exact ⟨rfl, H243, X279⟩
    refine k_swc (fun h280 => ?_) (fun h280 => ?_)
    · refine hB _ _ _ _ (kgoC (is := KX4_move_77) rfl ?_)
      refine k_aload_n rfl ?_
      refine k_inv (P := P_X4_pop) (Q := Q_X4_pop) rfl rfl rfl rfl (Nat.le_of_ble_eq_true rfl) (h_0_0.rc (by decide)) ⟨_, rfl, H0, h_0_0⟩ (fun w281 σ282 q283 => ?_)
      obtain ⟨y284, rfl, H285, e286⟩ := q283
      refine k_st (st' := [.inr (.inl y284)]) rfl ?_
      refine k_pop2 ?_
      refine k_goto ?_
      refine hB _ _ _ _ (kgoC (is := KX4_move_181) rfl ?_)
      refine k_return ?_
      have X287 : ExC [161, 162] σ0 σ282 := ExC.rf.tr (e286.mo (by decide))
      exact ⟨rfl, H285, X287⟩
    refine k_swc (fun h288 => ?_) (fun h288 => ?_)
    · refine hB _ _ _ _ (kgoC (is := KX4_move_85) rfl ?_)
      refine k_aload_n rfl ?_
      refine k_iload_n rfl ?_
      refine k_putI kp161 H0 h_0_0 (Or.inl fk161) (tiC p2).1 (tiC p2).2 (fun σ289 H290 e291 c292 => ?_)
      refine k_goto ?_
      refine hB _ _ _ _ (kgoC (is := KX4_move_181) rfl ?_)
      refine k_return ?_
      have X293 : ExC [161, 162] σ0 σ289 := ExC.rf.tr (e291.mo (by decide))
      exact ⟨rfl, H290, X293⟩
    refine k_swc (fun h294 => ?_) (fun h294 => ?_)
    · refine hB _ _ _ _ (kgoC (is := KX4_move_93) rfl ?_)
      refine k_aload_n rfl ?_
      refine k_aload_n rfl ?_
      refine k_inv (P := P_X4_pop) (Q := Q_X4_pop) rfl rfl rfl rfl (Nat.le_of_ble_eq_true rfl) (h_0_0.rc (by decide)) ⟨_, rfl, H0, h_0_0⟩ (fun w295 σ296 q297 => ?_)
      obtain ⟨y298, rfl, H299, e300⟩ := q297
      refine k_st (st' := [.inr (.inl y298), .inr (.inr (some p0))]) rfl ?_
      refine k_lconst ?_
      refine k_lcmp (fun x301 h302 g303 => ?_)
      refine k_if_ne (fun h304 => ?_) (fun h304 => ?_)
      · refine hB _ _ _ _ (kgoC (is := KX4_move_107) rfl ?_)
        refine k_aload_n rfl ?_
        have t305 := h_0_0.x e300
        obtain ⟨x308, e306, c307, h309, h310⟩ := cg161 H299.1 t305
        refine k_get kg161 t305 e306 ?_
        refine k_nil ?_
        refine hB _ _ _ _ (kgoC (is := KX4_move_111) rfl ?_)
        refine k_putI kp161 H299 t305 (Or.inl fk161) (tiC x308).1 (tiC x308).2 (fun σ311 H312 e313 c314 => ?_)
        refine k_goto ?_
        refine hB _ _ _ _ (kgoC (is := KX4_move_181) rfl ?_)
        refine k_return ?_
        have X315 : ExC [161, 162] σ0 σ296 := ExC.rf.tr (e300.mo (by decide))
        have X316 : ExC [161, 162] σ0 σ311 := X315.tr (e313.mo (by decide))
        exact ⟨rfl, H312, X316⟩
      · refine k_nil ?_
        refine hB _ _ _ _ (kgoC (is := KX4_move_103) rfl ?_)
        refine k_iload_n rfl ?_
        refine k_goto ?_
        refine hB _ _ _ _ (kgoC (is := KX4_move_111) rfl ?_)
        have t317 := h_0_0.x e300
        refine k_putI kp161 H299 t317 (Or.inl fk161) (tiC p2).1 (tiC p2).2 (fun σ318 H319 e320 c321 => ?_)
        refine k_goto ?_
        refine hB _ _ _ _ (kgoC (is := KX4_move_181) rfl ?_)
        refine k_return ?_
        have X322 : ExC [161, 162] σ0 σ296 := ExC.rf.tr (e300.mo (by decide))
        have X323 : ExC [161, 162] σ0 σ318 := X322.tr (e320.mo (by decide))
        exact ⟨rfl, H319, X323⟩
    refine k_swc (fun h324 => ?_) (fun h324 => ?_)
    · refine hB _ _ _ _ (kgoC (is := KX4_move_117) rfl ?_)
      refine k_aload_n rfl ?_
      refine k_aload_n rfl ?_
      refine k_inv (P := P_X4_pop) (Q := Q_X4_pop) rfl rfl rfl rfl (Nat.le_of_ble_eq_true rfl) (h_0_0.rc (by decide)) ⟨_, rfl, H0, h_0_0⟩ (fun w325 σ326 q327 => ?_)
      obtain ⟨y328, rfl, H329, e330⟩ := q327
      refine k_st (st' := [.inr (.inl y328), .inr (.inr (some p0))]) rfl ?_
      refine k_lconst ?_
      refine k_lcmp (fun x331 h332 g333 => ?_)
      refine k_if_eq (fun h334 => ?_) (fun h334 => ?_)
      · refine hB _ _ _ _ (kgoC (is := KX4_move_131) rfl ?_)
        refine k_aload_n rfl ?_
        have t335 := h_0_0.x e330
        obtain ⟨x338, e336, c337, h339, h340⟩ := cg161 H329.1 t335
        refine k_get kg161 t335 e336 ?_
        refine k_nil ?_
        refine hB _ _ _ _ (kgoC (is := KX4_move_135) rfl ?_)
        refine k_putI kp161 H329 t335 (Or.inl fk161) (tiC x338).1 (tiC x338).2 (fun σ341 H342 e343 c344 => ?_)
        refine k_goto ?_
        refine hB _ _ _ _ (kgoC (is := KX4_move_181) rfl ?_)
        refine k_return ?_
        have X345 : ExC [161, 162] σ0 σ326 := ExC.rf.tr (e330.mo (by decide))
        have X346 : ExC [161, 162] σ0 σ341 := X345.tr (e343.mo (by decide))
        exact ⟨rfl, H342, X346⟩
      · refine k_nil ?_
        refine hB _ _ _ _ (kgoC (is := KX4_move_127) rfl ?_)
        refine k_iload_n rfl ?_
        refine k_goto ?_
        refine hB _ _ _ _ (kgoC (is := KX4_move_135) rfl ?_)
        have t347 := h_0_0.x e330
        refine k_putI kp161 H329 t347 (Or.inl fk161) (tiC p2).1 (tiC p2).2 (fun σ348 H349 e350 c351 => ?_)
        refine k_goto ?_
        refine hB _ _ _ _ (kgoC (is := KX4_move_181) rfl ?_)
        refine k_return ?_
        have X352 : ExC [161, 162] σ0 σ326 := ExC.rf.tr (e330.mo (by decide))
        have X353 : ExC [161, 162] σ0 σ348 := X352.tr (e350.mo (by decide))
        exact ⟨rfl, H349, X353⟩
    refine k_swn ?_
    refine hB _ _ _ _ (kgoC (is := KX4_move_141) rfl ?_)
    refine k_aload_n rfl ?_
    refine k_inv (P := P_X4_pop) (Q := Q_X4_pop) rfl rfl rfl rfl (Nat.le_of_ble_eq_true rfl) (h_0_0.rc (by decide)) ⟨_, rfl, H0, h_0_0⟩ (fun w354 σ355 q356 => ?_)
    obtain ⟨y357, rfl, H358, e359⟩ := q356
    refine k_st (st' := [.inr (.inl y357)]) rfl ?_
    refine k_lstore_n (ls' := [(3, .inr (.inl y357)), (0, .inr (.inr (some p0))), (1, .inl p1), (2, .inl p2)]) rfl ?_
    refine k_lload_n rfl ?_
    refine k_lconst ?_
    refine k_lcmp (fun x360 h361 g362 => ?_)
    refine k_if_ne (fun h363 => ?_) (fun h363 => ?_)
    · refine hB _ _ _ _ (kgoC (is := KX4_move_156) rfl ?_)
      refine k_iconst (m := 0) rfl (fun x364 h365 => ?_)
      refine k_nil ?_
      refine hB _ _ _ _ (kgoC (is := KX4_move_157) rfl ?_)
      refine k_iload_n rfl ?_
      refine k_bipush (m := 13) rfl (fun x366 h367 => ?_)
      refine k_ic_ne (fun h368 => ?_) (fun h368 => ?_)
      · refine hB _ _ _ _ (kgoC (is := KX4_move_167) rfl ?_)
        refine k_iconst (m := 0) rfl (fun x369 h370 => ?_)
        refine k_nil ?_
        refine hB _ _ _ _ (kgoC (is := KX4_move_168) rfl ?_)
        refine k_ic_ne (fun h371 => by exfalso; omega) (fun h371 => ?_)
        refine k_nil ?_
        refine hB _ _ _ _ (kgoC (is := KX4_move_171) rfl ?_)
        refine k_aload_n rfl ?_
        refine k_lload_n rfl ?_
        have t372 := h_0_0.x e359
        refine k_inv (P := P_X4_push) (Q := Q_X4_push) rfl rfl rfl rfl (Nat.le_of_ble_eq_true rfl) (t372.rc (by decide)) ⟨_, _, rfl, H358, t372⟩ (fun w373 σ374 q375 => ?_)
        obtain ⟨rfl, H376, e377⟩ := q375
        refine k_st (st' := []) rfl ?_
        refine k_aload_n rfl ?_
        refine k_iload_n rfl ?_
        have t378 := t372.x e377
        refine k_putI kp161 H376 t378 (Or.inl fk161) (tiC p2).1 (tiC p2).2 (fun σ379 H380 e381 c382 => ?_)
        refine k_nil ?_
        refine hB _ _ _ _ (kgoC (is := KX4_move_181) rfl ?_)
        refine k_return ?_
        have X383 : ExC [161, 162] σ0 σ355 := ExC.rf.tr (e359.mo (by decide))
        have X384 : ExC [161, 162] σ0 σ374 := X383.tr (e377.mo (by decide))
        have X385 : ExC [161, 162] σ0 σ379 := X384.tr (e381.mo (by decide))
        exact ⟨rfl, H380, X385⟩
      · refine k_nil ?_
        refine hB _ _ _ _ (kgoC (is := KX4_move_163) rfl ?_)
        refine k_iconst (m := 1) rfl (fun x386 h387 => ?_)
        refine k_goto ?_
        refine hB _ _ _ _ (kgoC (is := KX4_move_168) rfl ?_)
        refine k_ic_ne (fun h388 => ?_) (fun h388 => by exfalso; omega)
        refine hB _ _ _ _ (kgoC (is := KX4_move_181) rfl ?_)
        refine k_return ?_
        have X389 : ExC [161, 162] σ0 σ355 := ExC.rf.tr (e359.mo (by decide))
        exact ⟨rfl, H358, X389⟩
    · refine k_nil ?_
      refine hB _ _ _ _ (kgoC (is := KX4_move_152) rfl ?_)
      refine k_iconst (m := 1) rfl (fun x390 h391 => ?_)
      refine k_goto ?_
      refine hB _ _ _ _ (kgoC (is := KX4_move_157) rfl ?_)
      refine k_iload_n rfl ?_
      refine k_bipush (m := 13) rfl (fun x392 h393 => ?_)
      refine k_ic_ne (fun h394 => ?_) (fun h394 => ?_)
      · refine hB _ _ _ _ (kgoC (is := KX4_move_167) rfl ?_)
        refine k_iconst (m := 0) rfl (fun x395 h396 => ?_)
        refine k_nil ?_
        refine hB _ _ _ _ (kgoC (is := KX4_move_168) rfl ?_)
        refine k_ic_ne (fun h397 => ?_) (fun h397 => by exfalso; omega)
        refine hB _ _ _ _ (kgoC (is := KX4_move_181) rfl ?_)
        refine k_return ?_
        have X398 : ExC [161, 162] σ0 σ355 := ExC.rf.tr (e359.mo (by decide))
        exact ⟨rfl, H358, X398⟩
      · refine k_nil ?_
        refine hB _ _ _ _ (kgoC (is := KX4_move_163) rfl ?_)
        refine k_iconst (m := 1) rfl (fun x399 h400 => ?_)
        refine k_goto ?_
        refine hB _ _ _ _ (kgoC (is := KX4_move_168) rfl ?_)
        refine k_ic_ne (fun h401 => by exfalso; omega) (fun h401 => ?_)
        refine k_nil ?_
        refine hB _ _ _ _ (kgoC (is := KX4_move_171) rfl ?_)
        refine k_aload_n rfl ?_
        refine k_lload_n rfl ?_
        have t402 := h_0_0.x e359
        refine k_inv (P := P_X4_push) (Q := Q_X4_push) rfl rfl rfl rfl (Nat.le_of_ble_eq_true rfl) (t402.rc (by decide)) ⟨_, _, rfl, H358, t402⟩ (fun w403 σ404 q405 => ?_)
        obtain ⟨rfl, H406, e407⟩ := q405
        refine k_st (st' := []) rfl ?_
        refine k_aload_n rfl ?_
        refine k_iload_n rfl ?_
        have t408 := t402.x e407
        refine k_putI kp161 H406 t408 (Or.inl fk161) (tiC p2).1 (tiC p2).2 (fun σ409 H410 e411 c412 => ?_)
        refine k_nil ?_
        refine hB _ _ _ _ (kgoC (is := KX4_move_181) rfl ?_)
        refine k_return ?_
        have X413 : ExC [161, 162] σ0 σ355 := ExC.rf.tr (e359.mo (by decide))
        have X414 : ExC [161, 162] σ0 σ404 := X413.tr (e407.mo (by decide))
        have X415 : ExC [161, 162] σ0 σ409 := X414.tr (e411.mo (by decide))
        exact ⟨rfl, H410, X415⟩
theorem lg_X4_move : ∀ (As : List AvC) (σ : CsC), P_X4_move As σ → lgC As ≤ rX4_move.2.2.1 := by
  rintro As σ ⟨p0, p1, p2, rfl, -⟩
  exact Nat.le_of_ble_eq_true rfl
theorem m_X4_move (l : Launch) : CMetC l 2 104 P_X4_move Q_X4_move :=
  CMetC.of KX4_move [(93, P_X4_slot, Q_X4_slot), (92, P_X4_pop, Q_X4_pop), (91, P_X4_push, Q_X4_push)] hX4_move (by decide) (by decide) okX4_move (cc1C (m_X4_slot l) (by decide) (cc1C (m_X4_pop l) (by decide) (cc1C (m_X4_push l) (by decide) cc0C))) (lg_X4_move) (b_X4_move)

abbrev P_X4_way : CpC := fun As σ => ∃ (p0 : Nat) (p1 : Nat), As = [.inr (.inr (some p0)), .inr (.inr (some p1))] ∧ HIC σ ∧ TyC σ p0 5 ∧ TyC σ p1 9
abbrev Q_X4_way : CqC := fun As σ w τ => match As with
  | [.inr (.inr (some p0)), .inr (.inr (some p1))] => ∃ r : Int32, w = some (.inl r) ∧ σ = τ ∧ 0 ≤ r.toInt ∧ r.toInt ≤ 629
  | _ => False
set_option maxRecDepth 100000 in
set_option maxHeartbeats 4000000 in
theorem b_X4_way : TbC KX4_way [] P_X4_way Q_X4_way := by
  · rintro As σ0 ⟨p0, p1, rfl, H0, h_0_0, h_1_0⟩ hgr G hB hW
    change G 0 [(0, .inr (.inr (some p0))), (1, .inr (.inr (some p1)))] [] σ0
    refine hB _ _ _ _ (kgoC (is := KX4_way_0) rfl ?_)
    refine k_aload_n rfl ?_
    obtain ⟨x3, e1, c2, h4, h5⟩ := cg163 H0.1 h_0_0
    refine k_get kg163 h_0_0 e1 ?_
    refine k_iconst (m := 1) rfl (fun x6 h7 => ?_)
    refine k_isub (by omega) (by omega) (fun x8 h9 => ?_)
    refine k_bipush (m := 21) rfl (fun x10 h11 => ?_)
    refine k_imul_u (fun x12 => ?_)
    refine k_aload_n rfl ?_
    obtain ⟨x15, e13, c14, h16, h17⟩ := cg272 H0.1 h_1_0
    refine k_get kg272 h_1_0 e13 ?_
    have z20 := tiC x12
    refine k_iadd_u (fun x18 => ?_)
    refine k_istore_n (ls' := [(2, .inl x18), (0, .inr (.inr (some p0))), (1, .inr (.inr (some p1)))]) rfl ?_
    refine k_iload_n rfl ?_
    refine k_if_lt (fun h21 => ?_) (fun h21 => ?_)
    · refine hB _ _ _ _ (kgoC (is := KX4_way_32) rfl ?_)
      refine k_iconst (m := 0) rfl (fun x22 h23 => ?_)
      refine k_nil ?_
      refine hB _ _ _ _ (kgoC (is := KX4_way_33) rfl ?_)
      refine k_ireturn (fun hz => absurd hz (by decide)) ?_
      exact ⟨_, rfl, rfl, (by omega), (by omega)⟩
    · refine k_nil ?_
      refine hB _ _ _ _ (kgoC (is := KX4_way_19) rfl ?_)
      refine k_iload_n rfl ?_
      refine k_aload_n rfl ?_
      obtain ⟨a26, e24, c25, t27, l28, l29⟩ := cg154 H0.1 h_0_0
      refine k_get kg154 h_0_0 e24 ?_
      refine k_alen t27 (by decide) (by decide) l28 (by decide) (fun x30 h31 => ?_)
      refine k_ic_ge (fun h32 => ?_) (fun h32 => ?_)
      · refine hB _ _ _ _ (kgoC (is := KX4_way_32) rfl ?_)
        refine k_iconst (m := 0) rfl (fun x33 h34 => ?_)
        refine k_nil ?_
        refine hB _ _ _ _ (kgoC (is := KX4_way_33) rfl ?_)
        refine k_ireturn (fun hz => absurd hz (by decide)) ?_
        exact ⟨_, rfl, rfl, (by omega), (by omega)⟩
      · refine k_nil ?_
        refine hB _ _ _ _ (kgoC (is := KX4_way_28) rfl ?_)
        refine k_iload_n rfl ?_
        refine k_goto ?_
        refine hB _ _ _ _ (kgoC (is := KX4_way_33) rfl ?_)
        refine k_ireturn (fun hz => absurd hz (by decide)) ?_
        exact ⟨_, rfl, rfl, (by omega), (by omega)⟩
theorem lg_X4_way : ∀ (As : List AvC) (σ : CsC), P_X4_way As σ → lgC As ≤ rX4_way.2.2.1 := by
  rintro As σ ⟨p0, p1, rfl, -⟩
  exact Nat.le_of_ble_eq_true rfl
theorem m_X4_way (l : Launch) : CMetC l 1 106 P_X4_way Q_X4_way :=
  CMetC.of KX4_way [] hX4_way (by decide) (by decide) okX4_way cc0C (lg_X4_way) (b_X4_way)

abbrev P_X4_choose : CpC := fun As σ => ∃ (p0 : Nat) (p1 : Nat) (p2 : Int64), As = [.inr (.inr (some p0)), .inr (.inr (some p1)), .inr (.inl p2)] ∧ HIC σ ∧ TyC σ p0 5 ∧ TyC σ p1 9
abbrev Q_X4_choose : CqC := fun As σ w τ => match As with
  | [.inr (.inr (some p0)), .inr (.inr (some p1)), .inr (.inl p2)] => w = none ∧ HIC τ ∧ ExC [161] σ τ
  | _ => False
set_option maxRecDepth 100000 in
set_option maxHeartbeats 4000000 in
theorem b_X4_choose : TbC KX4_choose [] P_X4_choose Q_X4_choose := by
  · rintro As σ0 ⟨p0, p1, p2, rfl, H0, h_0_0, h_1_0⟩ hgr G hB hW
    change G 0 [(0, .inr (.inr (some p0))), (1, .inr (.inr (some p1))), (2, .inr (.inl p2))] [] σ0
    have L14 : ∀ (n14 : Nat), ∀ (σ1 : CsC) (v14_4 : Option Nat), msNC (cnC σ0) v14_4 = n14 → HIC σ1 → ExC [161] σ0 σ1 → OtC σ1 v14_4 9 → G 14 [(0, .inr (.inr (some p0))), (2, .inr (.inl p2)), (4, .inr (.inr v14_4))] [] σ1 := by
      intro n14
      induction n14 using Nat.strongRecOn with
      | _ n14 ih14 =>
        intro σ1 v14_4 n14_ H2 e3 h4
        refine hB _ _ _ _ (kgoC (is := KX4_choose_14) rfl ?_)
        refine k_aload rfl ?_
        refine k_ifnull (fun h6 => ?_) (fun b5 h6 => ?_)
        · subst h6
          refine hB _ _ _ _ (kgoC (is := KX4_choose_89) rfl ?_)
          refine k_return ?_
          have X7 : ExC [161] σ0 σ1 := ExC.rf.tr (e3.mo (by decide))
          exact ⟨rfl, H2, X7⟩
        · subst h6
          have t8 := h4 b5 rfl
          refine k_nil ?_
          refine hB _ _ _ _ (kgoC (is := KX4_choose_19) rfl ?_)
          refine k_aload rfl ?_
          obtain ⟨x11, e9, c10, h12, h13⟩ := cg270 H2.1 t8
          refine k_get kg270 t8 e9 ?_
          refine k_bipush (m := 62) rfl (fun x14 h15 => ?_)
          refine k_ic_ne (fun h16 => ?_) (fun h16 => ?_)
          · refine hB _ _ _ _ (kgoC (is := KX4_choose_60) rfl ?_)
            refine k_aload rfl ?_
            refine k_get kg270 t8 (congrArg (Sum.inl : Int32 → AvC) c10) ?_
            refine k_bipush (m := 63) rfl (fun x17 h18 => ?_)
            refine k_ic_ne (fun h19 => ?_) (fun h19 => ?_)
            · refine hB _ _ _ _ (kgoC (is := KX4_choose_79) rfl ?_)
              refine k_aload rfl ?_
              obtain ⟨o22, e20, c21, t23, f24⟩ := cg275 H2.1 t8
              refine k_get kg275 t8 e20 ?_
              refine k_astore (ls' := [(4, .inr (.inr o22)), (0, .inr (.inr (some p0))), (2, .inr (.inl p2))]) rfl ?_
              refine k_goto ?_
              have X25 : ExC [161] σ0 σ1 := ExC.rf.tr (e3.mo (by decide))
              exact hW _ _ _ _ _ (List.forall_mem_cons.2 ⟨List.Mem.tail _ (List.Mem.head _), (List.forall_mem_cons.2 ⟨List.Mem.tail _ (List.Mem.tail _ (List.Mem.head _)), (List.forall_mem_cons.2 ⟨List.Mem.head _, fun _ h => absurd h List.not_mem_nil⟩)⟩)⟩) (ih14 (msNC (cnC σ0) o22) (by have qb := t8.1; have qc := (X25.cn (by decide) : cnC σ1 = cnC σ0); have qm := n14_; cases o22 with
                              | none => dsimp only [msNC] at qm ⊢; omega
                              | some bz => have := (t23 bz rfl).1; have qf := (f24 bz rfl).2; have qg := (show _ < bz from by first | exact qf | exact qf.1); dsimp only [msNC] at qm ⊢; omega) σ1 o22 rfl H2 X25 t23)
            · refine k_nil ?_
              refine hB _ _ _ _ (kgoC (is := KX4_choose_70) rfl ?_)
              refine k_aload_n rfl ?_
              refine k_aload rfl ?_
              obtain ⟨x28, e26, c27, h29, h30⟩ := cg289 H2.1 t8
              refine k_get kg289 t8 e26 ?_
              have t31 := h_0_0.x e3
              refine k_putI kp161 H2 t31 (Or.inl fk161) (tiC x28).1 (tiC x28).2 (fun σ32 H33 e34 c35 => ?_)
              refine k_nil ?_
              refine hB _ _ _ _ (kgoC (is := KX4_choose_79) rfl ?_)
              refine k_aload rfl ?_
              have t36 := t8.x e34
              obtain ⟨o39, e37, c38, t40, f41⟩ := cg275 H33.1 t36
              refine k_get kg275 t36 e37 ?_
              refine k_astore (ls' := [(4, .inr (.inr o39)), (0, .inr (.inr (some p0))), (2, .inr (.inl p2))]) rfl ?_
              refine k_goto ?_
              have X42 : ExC [161] σ0 σ1 := ExC.rf.tr (e3.mo (by decide))
              have X43 : ExC [161] σ0 σ32 := X42.tr (e34.mo (by decide))
              exact hW _ _ _ _ _ (List.forall_mem_cons.2 ⟨List.Mem.tail _ (List.Mem.head _), (List.forall_mem_cons.2 ⟨List.Mem.tail _ (List.Mem.tail _ (List.Mem.head _)), (List.forall_mem_cons.2 ⟨List.Mem.head _, fun _ h => absurd h List.not_mem_nil⟩)⟩)⟩) (ih14 (msNC (cnC σ0) o39) (by have qb := t36.1; have qc := (X43.cn (by decide) : cnC σ32 = cnC σ0); have qm := n14_; cases o39 with
                              | none => dsimp only [msNC] at qm ⊢; omega
                              | some bz => have := (t40 bz rfl).1; have qf := (f41 bz rfl).2; have qg := (show _ < bz from by first | exact qf | exact qf.1); dsimp only [msNC] at qm ⊢; omega) σ32 o39 rfl H33 X43 t40)
          · refine k_nil ?_
            refine hB _ _ _ _ (kgoC (is := KX4_choose_29) rfl ?_)
            refine k_aload rfl ?_
            obtain ⟨o46, e44, c45, t47⟩ := cg279 H2.1 t8
            refine k_get kg279 t8 e44 ?_
            refine k_ifnull (fun h49 => ?_) (fun b48 h49 => ?_)
            · subst h49
              refine hB _ _ _ _ (kgoC (is := KX4_choose_60) rfl ?_)
              refine k_aload rfl ?_
              refine k_get kg270 t8 (congrArg (Sum.inl : Int32 → AvC) c10) ?_
              refine k_bipush (m := 63) rfl (fun x50 h51 => ?_)
              refine k_ic_ne (fun h52 => ?_) (fun h52 => by exfalso; omega)
              refine hB _ _ _ _ (kgoC (is := KX4_choose_79) rfl ?_)
              refine k_aload rfl ?_
              obtain ⟨o55, e53, c54, t56, f57⟩ := cg275 H2.1 t8
              refine k_get kg275 t8 e53 ?_
              refine k_astore (ls' := [(4, .inr (.inr o55)), (0, .inr (.inr (some p0))), (2, .inr (.inl p2))]) rfl ?_
              refine k_goto ?_
              have X58 : ExC [161] σ0 σ1 := ExC.rf.tr (e3.mo (by decide))
              exact hW _ _ _ _ _ (List.forall_mem_cons.2 ⟨List.Mem.tail _ (List.Mem.head _), (List.forall_mem_cons.2 ⟨List.Mem.tail _ (List.Mem.tail _ (List.Mem.head _)), (List.forall_mem_cons.2 ⟨List.Mem.head _, fun _ h => absurd h List.not_mem_nil⟩)⟩)⟩) (ih14 (msNC (cnC σ0) o55) (by have qb := t8.1; have qc := (X58.cn (by decide) : cnC σ1 = cnC σ0); have qm := n14_; cases o55 with
                              | none => dsimp only [msNC] at qm ⊢; omega
                              | some bz => have := (t56 bz rfl).1; have qf := (f57 bz rfl).2; have qg := (show _ < bz from by first | exact qf | exact qf.1); dsimp only [msNC] at qm ⊢; omega) σ1 o55 rfl H2 X58 t56)
            · subst h49
              have t59 := t47 b48 rfl
              refine k_nil ?_
              refine hB _ _ _ _ (kgoC (is := KX4_choose_37) rfl ?_)
              refine k_aload rfl ?_
              refine k_get kg279 t8 (congrArg (fun z : Option Nat => (Sum.inr (Sum.inr z) : AvC)) c45) ?_
              obtain ⟨y62, e60, c61⟩ := cg71 (σ := σ1) (a := b48)
              refine k_get kg71 t59 e60 ?_
              refine k_lload_n rfl ?_
              refine k_lcmp (fun x63 h64 g65 => ?_)
              refine k_if_ne (fun h66 => ?_) (fun h66 => ?_)
              · refine hB _ _ _ _ (kgoC (is := KX4_choose_60) rfl ?_)
                refine k_aload rfl ?_
                refine k_get kg270 t8 (congrArg (Sum.inl : Int32 → AvC) c10) ?_
                refine k_bipush (m := 63) rfl (fun x67 h68 => ?_)
                refine k_ic_ne (fun h69 => ?_) (fun h69 => by exfalso; omega)
                refine hB _ _ _ _ (kgoC (is := KX4_choose_79) rfl ?_)
                refine k_aload rfl ?_
                obtain ⟨o72, e70, c71, t73, f74⟩ := cg275 H2.1 t8
                refine k_get kg275 t8 e70 ?_
                refine k_astore (ls' := [(4, .inr (.inr o72)), (0, .inr (.inr (some p0))), (2, .inr (.inl p2))]) rfl ?_
                refine k_goto ?_
                have X75 : ExC [161] σ0 σ1 := ExC.rf.tr (e3.mo (by decide))
                exact hW _ _ _ _ _ (List.forall_mem_cons.2 ⟨List.Mem.tail _ (List.Mem.head _), (List.forall_mem_cons.2 ⟨List.Mem.tail _ (List.Mem.tail _ (List.Mem.head _)), (List.forall_mem_cons.2 ⟨List.Mem.head _, fun _ h => absurd h List.not_mem_nil⟩)⟩)⟩) (ih14 (msNC (cnC σ0) o72) (by have qb := t8.1; have qc := (X75.cn (by decide) : cnC σ1 = cnC σ0); have qm := n14_; cases o72 with
                                  | none => dsimp only [msNC] at qm ⊢; omega
                                  | some bz => have := (t73 bz rfl).1; have qf := (f74 bz rfl).2; have qg := (show _ < bz from by first | exact qf | exact qf.1); dsimp only [msNC] at qm ⊢; omega) σ1 o72 rfl H2 X75 t73)
              · refine k_nil ?_
                refine hB _ _ _ _ (kgoC (is := KX4_choose_50) rfl ?_)
                refine k_aload_n rfl ?_
                refine k_aload rfl ?_
                obtain ⟨x78, e76, c77, h79, h80⟩ := cg289 H2.1 t8
                refine k_get kg289 t8 e76 ?_
                have t81 := h_0_0.x e3
                refine k_putI kp161 H2 t81 (Or.inl fk161) (tiC x78).1 (tiC x78).2 (fun σ82 H83 e84 c85 => ?_)
                refine k_return ?_
                have X86 : ExC [161] σ0 σ1 := ExC.rf.tr (e3.mo (by decide))
                have X87 : ExC [161] σ0 σ82 := X86.tr (e84.mo (by decide))
                exact ⟨rfl, H83, X87⟩
    refine hB _ _ _ _ (kgoC (is := KX4_choose_0) rfl ?_)
    refine k_aload_n rfl ?_
    refine k_aload_n rfl ?_
    obtain ⟨x90, e88, c89, h91, h92⟩ := cg290 H0.1 h_1_0
    refine k_get kg290 h_1_0 e88 ?_
    refine k_putI kp161 H0 h_0_0 (Or.inl fk161) (tiC x90).1 (tiC x90).2 (fun σ93 H94 e95 c96 => ?_)
    refine k_aload_n rfl ?_
    have t97 := h_1_0.x e95
    obtain ⟨o100, e98, c99, t101, f102⟩ := cg276 H94.1 t97
    refine k_get kg276 t97 e98 ?_
    refine k_astore (ls' := [(4, .inr (.inr o100)), (0, .inr (.inr (some p0))), (1, .inr (.inr (some p1))), (2, .inr (.inl p2))]) rfl ?_
    refine k_nil ?_
    have X103 : ExC [161] σ0 σ93 := ExC.rf.tr (e95.mo (by decide))
    exact hW _ _ _ _ _ (List.forall_mem_cons.2 ⟨List.Mem.tail _ (List.Mem.head _), (List.forall_mem_cons.2 ⟨List.Mem.tail _ (List.Mem.tail _ (List.Mem.tail _ (List.Mem.head _))), (List.forall_mem_cons.2 ⟨List.Mem.head _, fun _ h => absurd h List.not_mem_nil⟩)⟩)⟩) (L14 _ σ93 o100 rfl H94 X103 t101)
theorem lg_X4_choose : ∀ (As : List AvC) (σ : CsC), P_X4_choose As σ → lgC As ≤ rX4_choose.2.2.1 := by
  rintro As σ ⟨p0, p1, p2, rfl, -⟩
  exact Nat.le_of_ble_eq_true rfl
theorem m_X4_choose (l : Launch) : CMetC l 1 107 P_X4_choose Q_X4_choose :=
  CMetC.of KX4_choose [] hX4_choose (by decide) (by decide) okX4_choose cc0C (lg_X4_choose) (b_X4_choose)

abbrev P_X4_goInto : CpC := fun As σ => ∃ (p0 : Nat) (p1 : Nat), As = [.inr (.inr (some p0)), .inr (.inr (some p1))] ∧ HIC σ ∧ TyC σ p0 5 ∧ TyC σ p1 9
abbrev Q_X4_goInto : CqC := fun As σ w τ => match As with
  | [.inr (.inr (some p0)), .inr (.inr (some p1))] => w = none ∧ HIC τ ∧ ExC [161, 162] σ τ
  | _ => False
set_option maxRecDepth 100000 in
set_option maxHeartbeats 4000000 in
theorem b_X4_goInto : TbC KX4_goInto [] P_X4_goInto Q_X4_goInto := by
  · rintro As σ0 ⟨p0, p1, rfl, H0, h_0_0, h_1_0⟩ hgr G hB hW
    change G 0 [(0, .inr (.inr (some p0))), (1, .inr (.inr (some p1)))] [] σ0
    refine hB _ _ _ _ (kgoC (is := KX4_goInto_0) rfl ?_)
    refine k_aload_n rfl ?_
    refine k_aload_n rfl ?_
    obtain ⟨a3, e1, c2, t4, l5, l6⟩ := cg152 H0.1 h_0_0
    refine k_get kg152 h_0_0 e1 ?_
    refine k_aload_n rfl ?_
    obtain ⟨x9, e7, c8, h10, h11⟩ := cg163 H0.1 h_0_0
    refine k_get kg163 h_0_0 e7 ?_
    refine k_iaload1 H0 t4 l6 (by omega) (by omega) (fun x12 h13 h14 => ?_)
    refine k_putI kp162 H0 h_0_0 (Or.inl fk162) (by show 0 ≤ _; omega) (by show _ ≤ 7500; omega) (fun σ15 H16 e17 c18 => ?_)
    refine k_aload_n rfl ?_
    refine k_aload_n rfl ?_
    have t19 := h_1_0.x e17
    obtain ⟨x22, e20, c21, h23, h24⟩ := cg289 H16.1 t19
    refine k_get kg289 t19 e20 ?_
    have t25 := h_0_0.x e17
    refine k_putI kp161 H16 t25 (Or.inl fk161) (tiC x22).1 (tiC x22).2 (fun σ26 H27 e28 c29 => ?_)
    refine k_return ?_
    have X30 : ExC [161, 162] σ0 σ15 := ExC.rf.tr (e17.mo (by decide))
    have X31 : ExC [161, 162] σ0 σ26 := X30.tr (e28.mo (by decide))
    exact ⟨rfl, H27, X31⟩
theorem lg_X4_goInto : ∀ (As : List AvC) (σ : CsC), P_X4_goInto As σ → lgC As ≤ rX4_goInto.2.2.1 := by
  rintro As σ ⟨p0, p1, rfl, -⟩
  exact Nat.le_of_ble_eq_true rfl
theorem m_X4_goInto (l : Launch) : CMetC l 1 109 P_X4_goInto Q_X4_goInto :=
  CMetC.of KX4_goInto [] hX4_goInto (by decide) (by decide) okX4_goInto cc0C (lg_X4_goInto) (b_X4_goInto)

abbrev P_X4_behindMethod : CpC := fun As σ => ∃ (p0 : Nat) (p1 : Int32) (p2 : Int64), As = [.inr (.inr (some p0)), .inl p1, .inr (.inl p2)] ∧ HIC σ ∧ TyC σ p0 5
abbrev Q_X4_behindMethod : CqC := fun As σ w τ => match As with
  | [.inr (.inr (some p0)), .inl p1, .inr (.inl p2)] => ∃ r : Option Nat, w = some (.inr (.inr r)) ∧ HIC τ ∧ ExC [161, 162, 163, 169] σ τ ∧ OtC τ r 9
  | _ => False
set_option maxRecDepth 100000 in
set_option maxHeartbeats 4000000 in
theorem b_X4_behindMethod : TbC KX4_behindMethod [(103, P_X4_leaveCall, Q_X4_leaveCall)] P_X4_behindMethod Q_X4_behindMethod := by
  · rintro As σ0 ⟨p0, p1, p2, rfl, H0, h_0_0⟩ hgr G hB hW
    change G 0 [(0, .inr (.inr (some p0))), (1, .inl p1), (2, .inr (.inl p2))] [] σ0
    refine hB _ _ _ _ (kgoC (is := KX4_behindMethod_0) rfl ?_)
    refine k_iload_n rfl ?_
    refine k_bipush (m := 67) rfl (fun x1 h2 => ?_)
    refine k_ic_eq (fun h3 => ?_) (fun h3 => ?_)
    · refine hB _ _ _ _ (kgoC (is := KX4_behindMethod_13) rfl ?_)
      refine k_aload_n rfl ?_
      refine k_lconst ?_
      refine k_inv (P := P_X4_leaveCall) (Q := Q_X4_leaveCall) rfl rfl rfl rfl (Nat.le_of_ble_eq_true rfl) (h_0_0.rc (by decide)) ⟨_, _, rfl, H0, h_0_0⟩ (fun w4 σ5 q6 => ?_)
      obtain ⟨rfl, H7, e8⟩ := q6
      refine k_st (st' := []) rfl ?_
      refine k_aload_n rfl ?_
      have t9 := h_0_0.x e8
      obtain ⟨x12, e10, c11, h13, h14⟩ := cg163 H7.1 t9
      refine k_get kg163 t9 e10 ?_
      refine k_if_ne (fun h15 => ?_) (fun h15 => ?_)
      · refine hB _ _ _ _ (kgoC (is := KX4_behindMethod_37) rfl ?_)
        refine k_aload_n rfl ?_
        obtain ⟨x18, e16, c17, h19, h20⟩ := cg161 H7.1 t9
        refine k_get kg161 t9 e16 ?_
        refine k_if_le (fun h21 => ?_) (fun h21 => ?_)
        · refine hB _ _ _ _ (kgoC (is := KX4_behindMethod_75) rfl ?_)
          refine k_aconst_null ?_
          refine k_nil ?_
          refine hB _ _ _ _ (kgoC (is := KX4_behindMethod_76) rfl ?_)
          refine k_areturn ?_
          have X22 : ExC [161, 162, 163, 169] σ0 σ5 := ExC.rf.tr (e8.mo (by decide))
          exact ⟨none, rfl, H7, X22, OtC.n⟩
        · refine k_nil ?_
          refine hB _ _ _ _ (kgoC (is := KX4_behindMethod_44) rfl ?_)
          refine k_aload_n rfl ?_
          refine k_get kg161 t9 (congrArg (Sum.inl : Int32 → AvC) c17) ?_
          refine k_aload_n rfl ?_
          obtain ⟨a25, e23, c24, t26⟩ := cg158 H7.1 t9
          refine k_get kg158 t9 e23 ?_
          obtain ⟨x29, e27, c28, h30, h31⟩ := cg34 H7.1 t26
          refine k_get kg34 t26 e27 ?_
          refine k_ic_gt (fun h32 => ?_) (fun h32 => ?_)
          · refine hB _ _ _ _ (kgoC (is := KX4_behindMethod_75) rfl ?_)
            refine k_aconst_null ?_
            refine k_nil ?_
            refine hB _ _ _ _ (kgoC (is := KX4_behindMethod_76) rfl ?_)
            refine k_areturn ?_
            have X33 : ExC [161, 162, 163, 169] σ0 σ5 := ExC.rf.tr (e8.mo (by decide))
            exact ⟨none, rfl, H7, X33, OtC.n⟩
          · refine k_nil ?_
            refine hB _ _ _ _ (kgoC (is := KX4_behindMethod_58) rfl ?_)
            refine k_aload_n rfl ?_
            refine k_get kg158 t9 (congrArg (fun z : Option Nat => (Sum.inr (Sum.inr z) : AvC)) c24) ?_
            obtain ⟨a36, e34, c35, t37, l38⟩ := cg33 H7.1 t26
            refine k_get kg33 t26 e34 ?_
            refine k_aload_n rfl ?_
            refine k_get kg161 t9 (congrArg (Sum.inl : Int32 → AvC) c17) ?_
            refine k_iconst (m := 1) rfl (fun x39 h40 => ?_)
            refine k_isub (by omega) (by omega) (fun x41 h42 => ?_)
            refine k_aaload (c := 9) H7 t37 (by decide) (by omega) (by omega) (fun o43 e45 t44 => ?_)
            refine k_goto ?_
            refine hB _ _ _ _ (kgoC (is := KX4_behindMethod_76) rfl ?_)
            refine k_areturn ?_
            have X46 : ExC [161, 162, 163, 169] σ0 σ5 := ExC.rf.tr (e8.mo (by decide))
            exact ⟨o43, rfl, H7, X46, t44⟩
      · refine k_nil ?_
        refine hB _ _ _ _ (kgoC (is := KX4_behindMethod_25) rfl ?_)
        refine k_aload_n rfl ?_
        refine k_iconst (m := 2) rfl (fun x47 h48 => ?_)
        refine k_putI kp169 H7 t9 (Or.inl fk169) (tiC x47).1 (tiC x47).2 (fun σ49 H50 e51 c52 => ?_)
        refine k_aload_n rfl ?_
        refine k_lload_n rfl ?_
        have t53 := t9.x e51
        refine k_putL kg170 H50 t53 fk170 (fun σ54 H55 e56 c57 => ?_)
        refine k_aconst_null ?_
        refine k_areturn ?_
        have X58 : ExC [161, 162, 163, 169] σ0 σ5 := ExC.rf.tr (e8.mo (by decide))
        have X59 : ExC [161, 162, 163, 169] σ0 σ49 := X58.tr (e51.mo (by decide))
        have X60 : ExC [161, 162, 163, 169] σ0 σ54 := X59.tr (e56.mo (by decide))
        exact ⟨none, rfl, H55, X60, OtC.n⟩
    · refine k_nil ?_
      refine hB _ _ _ _ (kgoC (is := KX4_behindMethod_6) rfl ?_)
      refine k_aload_n rfl ?_
      refine k_lload_n rfl ?_
      refine k_inv (P := P_X4_leaveCall) (Q := Q_X4_leaveCall) rfl rfl rfl rfl (Nat.le_of_ble_eq_true rfl) (h_0_0.rc (by decide)) ⟨_, _, rfl, H0, h_0_0⟩ (fun w61 σ62 q63 => ?_)
      obtain ⟨rfl, H64, e65⟩ := q63
      refine k_st (st' := []) rfl ?_
      refine k_aconst_null ?_
      refine k_areturn ?_
      have X66 : ExC [161, 162, 163, 169] σ0 σ62 := ExC.rf.tr (e65.mo (by decide))
      exact ⟨none, rfl, H64, X66, OtC.n⟩
theorem lg_X4_behindMethod : ∀ (As : List AvC) (σ : CsC), P_X4_behindMethod As σ → lgC As ≤ rX4_behindMethod.2.2.1 := by
  rintro As σ ⟨p0, p1, p2, rfl, -⟩
  exact Nat.le_of_ble_eq_true rfl
theorem m_X4_behindMethod (l : Launch) : CMetC l 3 110 P_X4_behindMethod Q_X4_behindMethod :=
  CMetC.of KX4_behindMethod [(103, P_X4_leaveCall, Q_X4_leaveCall)] hX4_behindMethod (by decide) (by decide) okX4_behindMethod (cc1C (m_X4_leaveCall l) (by decide) cc0C) (lg_X4_behindMethod) (b_X4_behindMethod)

abbrev P_X4_leave : CpC := fun As σ => ∃ (p0 : Nat) (p1 : Int32) (p2 : Int64) (p3 : Option Nat) (p4 : Option Nat), As = [.inr (.inr (some p0)), .inl p1, .inr (.inl p2), .inr (.inr p3), .inr (.inr p4)] ∧ HIC σ ∧ TyC σ p0 5 ∧ OtC σ p3 9 ∧ OtC σ p4 9
abbrev Q_X4_leave : CqC := fun As σ w τ => match As with
  | [.inr (.inr (some p0)), .inl p1, .inr (.inl p2), .inr (.inr p3), .inr (.inr p4)] => w = none ∧ HIC τ ∧ ExC [161, 162, 163, 169] σ τ
  | _ => False
set_option maxRecDepth 100000 in
set_option maxHeartbeats 4000000 in
theorem b_X4_leave : TbC KX4_leave [(181, P_X8_hasFinallyAhead, Q_X8_hasFinallyAhead), (110, P_X4_behindMethod, Q_X4_behindMethod), (106, P_X4_way, Q_X4_way), (109, P_X4_goInto, Q_X4_goInto), (182, P_X8_isCaught, Q_X8_isCaught), (93, P_X4_slot, Q_X4_slot)] P_X4_leave Q_X4_leave := by
  · rintro As σ0 ⟨p0, p1, p2, p3, p4, rfl, H0, h_0_0, h_3_0, h_4_0⟩ hgr G hB hW
    change G 0 [(0, .inr (.inr (some p0))), (1, .inl p1), (2, .inr (.inl p2)), (4, .inr (.inr p3)), (5, .inr (.inr p4))] [] σ0
    have L7 : ∀ (n7 : Nat), ∀ (σ1 : CsC) (v7_6 : Option Nat) (v7_7 : Int32), (2147483647 - v7_7.toInt).toNat = n7 → HIC σ1 → ExC [161, 162, 163, 169] σ0 σ1 → OtC σ1 v7_6 9 → 0 ≤ v7_7.toInt → v7_7.toInt ≤ 20000 → G 7 [(0, .inr (.inr (some p0))), (1, .inl p1), (2, .inr (.inl p2)), (5, .inr (.inr p4)), (6, .inr (.inr v7_6)), (7, .inl v7_7)] [] σ1 := by
      intro n7
      induction n7 using Nat.strongRecOn with
      | _ n7 ih7 =>
        intro σ1 v7_6 v7_7 n7_ H2 e3 h4 h5 h6
        refine hB _ _ _ _ (kgoC (is := KX4_leave_7) rfl ?_)
        refine k_iload rfl ?_
        refine k_sipush (m := 2520) rfl (fun x7 h8 => ?_)
        refine k_ic_ge (fun h9 => ?_) (fun h9 => ?_)
        · refine hB _ _ _ _ (kgoC (is := KX4_leave_183) rfl ?_)
          refine k_return ?_
          have X10 : ExC [161, 162, 163, 169] σ0 σ1 := ExC.rf.tr (e3.mo (by decide))
          exact ⟨rfl, H2, X10⟩
        · refine k_nil ?_
          refine hB _ _ _ _ (kgoC (is := KX4_leave_15) rfl ?_)
          refine k_aload rfl ?_
          refine k_ifnull (fun h12 => ?_) (fun b11 h12 => ?_)
          · subst h12
            refine hB _ _ _ _ (kgoC (is := KX4_leave_183) rfl ?_)
            refine k_return ?_
            have X13 : ExC [161, 162, 163, 169] σ0 σ1 := ExC.rf.tr (e3.mo (by decide))
            exact ⟨rfl, H2, X13⟩
          · subst h12
            have t14 := h4 b11 rfl
            refine k_nil ?_
            refine hB _ _ _ _ (kgoC (is := KX4_leave_20) rfl ?_)
            refine k_aload rfl ?_
            refine k_aload rfl ?_
            have t16 := h_4_0.x e3
            refine k_acmp_ne (c := 9) (c' := 9) (t14.ot) (t16) (fun h15 => ?_) (fun h15 => ?_)
            · refine hB _ _ _ _ (kgoC (is := KX4_leave_51) rfl ?_)
              refine k_iload_n rfl ?_
              refine k_bipush (m := 67) rfl (fun x17 h18 => ?_)
              refine k_ic_ne (fun h19 => ?_) (fun h19 => ?_)
              · refine hB _ _ _ _ (kgoC (is := KX4_leave_96) rfl ?_)
                refine k_aload rfl ?_
                refine k_inv (P := P_X8_hasFinallyAhead) (Q := Q_X8_hasFinallyAhead) rfl rfl rfl rfl (Nat.le_of_ble_eq_true rfl) (t14.rc (by decide)) ⟨_, rfl, H2, t14⟩ (fun w20 σ21 q22 => ?_)
                obtain ⟨x23, rfl, rfl, h24, h25, q26⟩ := q22
                refine k_st (st' := [.inl x23]) rfl ?_
                rcases (by omega : x23.toInt = 0 ∨ x23.toInt = 1) with g27 | g27
                · refine k_if_eq (fun h28 => ?_) (fun h28 => by exfalso; omega)
                  refine hB _ _ _ _ (kgoC (is := KX4_leave_153) rfl ?_)
                  refine k_aload rfl ?_
                  obtain ⟨o31, e29, c30, t32, f33⟩ := cg273 H2.1 t14
                  refine k_get kg273 t14 e29 ?_
                  refine k_ifnonnull (fun b34 h35 => ?_) (fun h35 => ?_)
                  · subst h35
                    have t36 := t32 b34 rfl
                    have f37 := (f33 b34 rfl).2
                    refine hB _ _ _ _ (kgoC (is := KX4_leave_170) rfl ?_)
                    refine k_aload rfl ?_
                    refine k_get kg273 t14 (congrArg (fun z : Option Nat => (Sum.inr (Sum.inr z) : AvC)) c30) ?_
                    refine k_nil ?_
                    refine hB _ _ _ _ (kgoC (is := KX4_leave_175) rfl ?_)
                    refine k_astore (ls' := [(6, .inr (.inr (some b34))), (0, .inr (.inr (some p0))), (1, .inl p1), (2, .inr (.inl p2)), (5, .inr (.inr p4)), (7, .inl v7_7)]) rfl ?_
                    obtain ⟨x38, e40, h39⟩ := iincC (n := 1) (m := 1) (v := v7_7) rfl (by omega) (by omega)
                    refine k_iinc (ls' := [(7, .inl x38), (6, .inr (.inr (some b34))), (0, .inr (.inr (some p0))), (1, .inl p1), (2, .inr (.inl p2)), (5, .inr (.inr p4))]) rfl e40 rfl ?_
                    refine k_goto ?_
                    have X41 : ExC [161, 162, 163, 169] σ0 σ1 := ExC.rf.tr (e3.mo (by decide))
                    exact hW _ _ _ _ _ (List.forall_mem_cons.2 ⟨List.Mem.tail _ (List.Mem.tail _ (List.Mem.head _)), (List.forall_mem_cons.2 ⟨List.Mem.tail _ (List.Mem.tail _ (List.Mem.tail _ (List.Mem.head _))), (List.forall_mem_cons.2 ⟨List.Mem.tail _ (List.Mem.tail _ (List.Mem.tail _ (List.Mem.tail _ (List.Mem.head _)))), (List.forall_mem_cons.2 ⟨List.Mem.tail _ (List.Mem.tail _ (List.Mem.tail _ (List.Mem.tail _ (List.Mem.tail _ (List.Mem.head _))))), (List.forall_mem_cons.2 ⟨List.Mem.tail _ (List.Mem.head _), (List.forall_mem_cons.2 ⟨List.Mem.head _, fun _ h => absurd h List.not_mem_nil⟩)⟩)⟩)⟩)⟩)⟩) (ih7 ((2147483647 - x38.toInt).toNat) (by omega) σ1 (some b34) x38 rfl H2 X41 t36.ot (by omega) (by omega))
                  · subst h35
                    refine k_nil ?_
                    refine hB _ _ _ _ (kgoC (is := KX4_leave_161) rfl ?_)
                    refine k_aload_n rfl ?_
                    refine k_iload_n rfl ?_
                    refine k_lload_n rfl ?_
                    have t42 := h_0_0.x e3
                    refine k_inv (P := P_X4_behindMethod) (Q := Q_X4_behindMethod) rfl rfl rfl rfl (Nat.le_of_ble_eq_true rfl) (t42.rc (by decide)) ⟨_, _, _, rfl, H2, t42⟩ (fun w43 σ44 q45 => ?_)
                    obtain ⟨o46, rfl, H47, e48, h49⟩ := q45
                    refine k_st (st' := [.inr (.inr o46)]) rfl ?_
                    refine k_goto ?_
                    refine hB _ _ _ _ (kgoC (is := KX4_leave_175) rfl ?_)
                    refine k_astore (ls' := [(6, .inr (.inr o46)), (0, .inr (.inr (some p0))), (1, .inl p1), (2, .inr (.inl p2)), (5, .inr (.inr p4)), (7, .inl v7_7)]) rfl ?_
                    obtain ⟨x50, e52, h51⟩ := iincC (n := 1) (m := 1) (v := v7_7) rfl (by omega) (by omega)
                    refine k_iinc (ls' := [(7, .inl x50), (6, .inr (.inr o46)), (0, .inr (.inr (some p0))), (1, .inl p1), (2, .inr (.inl p2)), (5, .inr (.inr p4))]) rfl e52 rfl ?_
                    refine k_goto ?_
                    have X53 : ExC [161, 162, 163, 169] σ0 σ1 := ExC.rf.tr (e3.mo (by decide))
                    have X54 : ExC [161, 162, 163, 169] σ0 σ44 := X53.tr (e48.mo (by decide))
                    exact hW _ _ _ _ _ (List.forall_mem_cons.2 ⟨List.Mem.tail _ (List.Mem.tail _ (List.Mem.head _)), (List.forall_mem_cons.2 ⟨List.Mem.tail _ (List.Mem.tail _ (List.Mem.tail _ (List.Mem.head _))), (List.forall_mem_cons.2 ⟨List.Mem.tail _ (List.Mem.tail _ (List.Mem.tail _ (List.Mem.tail _ (List.Mem.head _)))), (List.forall_mem_cons.2 ⟨List.Mem.tail _ (List.Mem.tail _ (List.Mem.tail _ (List.Mem.tail _ (List.Mem.tail _ (List.Mem.head _))))), (List.forall_mem_cons.2 ⟨List.Mem.tail _ (List.Mem.head _), (List.forall_mem_cons.2 ⟨List.Mem.head _, fun _ h => absurd h List.not_mem_nil⟩)⟩)⟩)⟩)⟩)⟩) (ih7 ((2147483647 - x50.toInt).toNat) (by omega) σ44 o46 x50 rfl H47 X54 h49 (by omega) (by omega))
                · obtain ⟨b55, h56, b57, h58⟩ := q26 (by omega)
                  obtain ⟨o59, e60, c61, t62, f63⟩ := cg273 H2.1 t14
                  have h64 : o59 = some b55 := c61.symm.trans h56
                  subst h64
                  have t65 := t62 b55 rfl
                  have f66 := (f63 b55 rfl).2
                  obtain ⟨o67, e68, c69, t70, f71⟩ := cg278 H2.1 t65
                  have h72 : o67 = some b57 := c69.symm.trans h58
                  subst h72
                  have t73 := t70 b57 rfl
                  have f74 := (f71 b57 rfl).2
                  refine k_if_eq (fun h75 => by exfalso; omega) (fun h75 => ?_)
                  refine k_nil ?_
                  refine hB _ _ _ _ (kgoC (is := KX4_leave_104) rfl ?_)
                  refine k_aload_n rfl ?_
                  refine k_aload rfl ?_
                  refine k_get kg273 t14 (congrArg (fun z : Option Nat => (Sum.inr (Sum.inr z) : AvC)) c61) ?_
                  have t76 := h_0_0.x e3
                  refine k_inv (P := P_X4_way) (Q := Q_X4_way) rfl rfl rfl rfl (Nat.le_of_ble_eq_true rfl) (t76.rc (by decide)) ⟨_, _, rfl, H2, t76, t65⟩ (fun w77 σ78 q79 => ?_)
                  obtain ⟨x80, rfl, rfl, h81, h82⟩ := q79
                  refine k_st (st' := [.inl x80]) rfl ?_
                  refine k_istore (ls' := [(8, .inl x80), (0, .inr (.inr (some p0))), (1, .inl p1), (2, .inr (.inl p2)), (5, .inr (.inr p4)), (6, .inr (.inr (some b11))), (7, .inl v7_7)]) rfl ?_
                  refine k_aload_n rfl ?_
                  obtain ⟨a85, e83, c84, t86, l87, l88⟩ := cg154 H2.1 t76
                  refine k_get kg154 t76 e83 ?_
                  refine k_iload rfl ?_
                  refine k_iload_n rfl ?_
                  refine k_iastore H2 t86 l88 (by omega) (by omega) (fun σ89 H90 e91 => ?_)
                  refine k_aload_n rfl ?_
                  have t92 := t76.x e91
                  obtain ⟨a95, e93, c94, t96, l97, l98⟩ := cg155 H90.1 t92
                  refine k_get kg155 t92 e93 ?_
                  refine k_iload rfl ?_
                  refine k_lload_n rfl ?_
                  refine k_lastore H90 t96 l98 (by omega) (by omega) (fun σ99 H100 e101 => ?_)
                  refine k_aload_n rfl ?_
                  have t102 := t92.x e101
                  obtain ⟨a105, e103, c104, t106, l107⟩ := cg156 H100.1 t102
                  refine k_get kg156 t102 e103 ?_
                  refine k_iload rfl ?_
                  refine k_aload rfl ?_
                  have t111 := t16.x e91
                  have t112 := t111.x e101
                  refine k_aastore (c := 9) H100 t106 (by decide) (by omega) (by omega) (t112) (fun σ108 H109 e110 => ?_)
                  refine k_aload_n rfl ?_
                  refine k_aload rfl ?_
                  have t113 := t14.x e91
                  have t114 := t113.x e101
                  have t115 := t114.x e110
                  have c116 := (t14.mr e91 (by decide)).trans c61
                  have c117 := (t113.mr e101 (by decide)).trans c116
                  have c118 := (t114.mr e110 (by decide)).trans c117
                  refine k_get kg273 t115 (congrArg (fun z : Option Nat => (Sum.inr (Sum.inr z) : AvC)) c118) ?_
                  have t119 := t65.x e91
                  have t120 := t119.x e101
                  have t121 := t120.x e110
                  have c122 := (t65.mr e91 (by decide)).trans c69
                  have c123 := (t119.mr e101 (by decide)).trans c122
                  have c124 := (t120.mr e110 (by decide)).trans c123
                  refine k_get kg278 t121 (congrArg (fun z : Option Nat => (Sum.inr (Sum.inr z) : AvC)) c124) ?_
                  have t125 := t102.x e110
                  have t126 := t73.x e91
                  have t127 := t126.x e101
                  have t128 := t127.x e110
                  refine k_inv (P := P_X4_goInto) (Q := Q_X4_goInto) rfl rfl rfl rfl (Nat.le_of_ble_eq_true rfl) (t125.rc (by decide)) ⟨_, _, rfl, H109, t125, t128⟩ (fun w129 σ130 q131 => ?_)
                  obtain ⟨rfl, H132, e133⟩ := q131
                  refine k_st (st' := []) rfl ?_
                  refine k_return ?_
                  have X134 : ExC [161, 162, 163, 169] σ0 σ1 := ExC.rf.tr (e3.mo (by decide))
                  have X135 : ExC [161, 162, 163, 169] σ0 σ89 := X134.tr (e91.mo (by decide))
                  have X136 : ExC [161, 162, 163, 169] σ0 σ99 := X135.tr (e101.mo (by decide))
                  have X137 : ExC [161, 162, 163, 169] σ0 σ108 := X136.tr (e110.mo (by decide))
                  have X138 : ExC [161, 162, 163, 169] σ0 σ130 := X137.tr (e133.mo (by decide))
                  exact ⟨rfl, H132, X138⟩
              · refine k_nil ?_
                refine hB _ _ _ _ (kgoC (is := KX4_leave_57) rfl ?_)
                refine k_aload rfl ?_
                refine k_inv (P := P_X8_isCaught) (Q := Q_X8_isCaught) rfl rfl rfl rfl (Nat.le_of_ble_eq_true rfl) (t14.rc (by decide)) ⟨_, rfl, H2, t14⟩ (fun w139 σ140 q141 => ?_)
                obtain ⟨x142, rfl, rfl, h143, h144, q145⟩ := q141
                refine k_st (st' := [.inl x142]) rfl ?_
                rcases (by omega : x142.toInt = 0 ∨ x142.toInt = 1) with g146 | g146
                · refine k_if_eq (fun h147 => ?_) (fun h147 => by exfalso; omega)
                  refine hB _ _ _ _ (kgoC (is := KX4_leave_96) rfl ?_)
                  refine k_aload rfl ?_
                  refine k_inv (P := P_X8_hasFinallyAhead) (Q := Q_X8_hasFinallyAhead) rfl rfl rfl rfl (Nat.le_of_ble_eq_true rfl) (t14.rc (by decide)) ⟨_, rfl, H2, t14⟩ (fun w148 σ149 q150 => ?_)
                  obtain ⟨x151, rfl, rfl, h152, h153, q154⟩ := q150
                  refine k_st (st' := [.inl x151]) rfl ?_
                  rcases (by omega : x151.toInt = 0 ∨ x151.toInt = 1) with g155 | g155
                  · refine k_if_eq (fun h156 => ?_) (fun h156 => by exfalso; omega)
                    refine hB _ _ _ _ (kgoC (is := KX4_leave_153) rfl ?_)
                    refine k_aload rfl ?_
                    obtain ⟨o159, e157, c158, t160, f161⟩ := cg273 H2.1 t14
                    refine k_get kg273 t14 e157 ?_
                    refine k_ifnonnull (fun b162 h163 => ?_) (fun h163 => ?_)
                    · subst h163
                      have t164 := t160 b162 rfl
                      have f165 := (f161 b162 rfl).2
                      refine hB _ _ _ _ (kgoC (is := KX4_leave_170) rfl ?_)
                      refine k_aload rfl ?_
                      refine k_get kg273 t14 (congrArg (fun z : Option Nat => (Sum.inr (Sum.inr z) : AvC)) c158) ?_
                      refine k_nil ?_
                      refine hB _ _ _ _ (kgoC (is := KX4_leave_175) rfl ?_)
                      refine k_astore (ls' := [(6, .inr (.inr (some b162))), (0, .inr (.inr (some p0))), (1, .inl p1), (2, .inr (.inl p2)), (5, .inr (.inr p4)), (7, .inl v7_7)]) rfl ?_
                      obtain ⟨x166, e168, h167⟩ := iincC (n := 1) (m := 1) (v := v7_7) rfl (by omega) (by omega)
                      refine k_iinc (ls' := [(7, .inl x166), (6, .inr (.inr (some b162))), (0, .inr (.inr (some p0))), (1, .inl p1), (2, .inr (.inl p2)), (5, .inr (.inr p4))]) rfl e168 rfl ?_
                      refine k_goto ?_
                      have X169 : ExC [161, 162, 163, 169] σ0 σ1 := ExC.rf.tr (e3.mo (by decide))
                      exact hW _ _ _ _ _ (List.forall_mem_cons.2 ⟨List.Mem.tail _ (List.Mem.tail _ (List.Mem.head _)), (List.forall_mem_cons.2 ⟨List.Mem.tail _ (List.Mem.tail _ (List.Mem.tail _ (List.Mem.head _))), (List.forall_mem_cons.2 ⟨List.Mem.tail _ (List.Mem.tail _ (List.Mem.tail _ (List.Mem.tail _ (List.Mem.head _)))), (List.forall_mem_cons.2 ⟨List.Mem.tail _ (List.Mem.tail _ (List.Mem.tail _ (List.Mem.tail _ (List.Mem.tail _ (List.Mem.head _))))), (List.forall_mem_cons.2 ⟨List.Mem.tail _ (List.Mem.head _), (List.forall_mem_cons.2 ⟨List.Mem.head _, fun _ h => absurd h List.not_mem_nil⟩)⟩)⟩)⟩)⟩)⟩) (ih7 ((2147483647 - x166.toInt).toNat) (by omega) σ1 (some b162) x166 rfl H2 X169 t164.ot (by omega) (by omega))
                    · subst h163
                      refine k_nil ?_
                      refine hB _ _ _ _ (kgoC (is := KX4_leave_161) rfl ?_)
                      refine k_aload_n rfl ?_
                      refine k_iload_n rfl ?_
                      refine k_lload_n rfl ?_
                      have t170 := h_0_0.x e3
                      refine k_inv (P := P_X4_behindMethod) (Q := Q_X4_behindMethod) rfl rfl rfl rfl (Nat.le_of_ble_eq_true rfl) (t170.rc (by decide)) ⟨_, _, _, rfl, H2, t170⟩ (fun w171 σ172 q173 => ?_)
                      obtain ⟨o174, rfl, H175, e176, h177⟩ := q173
                      refine k_st (st' := [.inr (.inr o174)]) rfl ?_
                      refine k_goto ?_
                      refine hB _ _ _ _ (kgoC (is := KX4_leave_175) rfl ?_)
                      refine k_astore (ls' := [(6, .inr (.inr o174)), (0, .inr (.inr (some p0))), (1, .inl p1), (2, .inr (.inl p2)), (5, .inr (.inr p4)), (7, .inl v7_7)]) rfl ?_
                      obtain ⟨x178, e180, h179⟩ := iincC (n := 1) (m := 1) (v := v7_7) rfl (by omega) (by omega)
                      refine k_iinc (ls' := [(7, .inl x178), (6, .inr (.inr o174)), (0, .inr (.inr (some p0))), (1, .inl p1), (2, .inr (.inl p2)), (5, .inr (.inr p4))]) rfl e180 rfl ?_
                      refine k_goto ?_
                      have X181 : ExC [161, 162, 163, 169] σ0 σ1 := ExC.rf.tr (e3.mo (by decide))
                      have X182 : ExC [161, 162, 163, 169] σ0 σ172 := X181.tr (e176.mo (by decide))
                      exact hW _ _ _ _ _ (List.forall_mem_cons.2 ⟨List.Mem.tail _ (List.Mem.tail _ (List.Mem.head _)), (List.forall_mem_cons.2 ⟨List.Mem.tail _ (List.Mem.tail _ (List.Mem.tail _ (List.Mem.head _))), (List.forall_mem_cons.2 ⟨List.Mem.tail _ (List.Mem.tail _ (List.Mem.tail _ (List.Mem.tail _ (List.Mem.head _)))), (List.forall_mem_cons.2 ⟨List.Mem.tail _ (List.Mem.tail _ (List.Mem.tail _ (List.Mem.tail _ (List.Mem.tail _ (List.Mem.head _))))), (List.forall_mem_cons.2 ⟨List.Mem.tail _ (List.Mem.head _), (List.forall_mem_cons.2 ⟨List.Mem.head _, fun _ h => absurd h List.not_mem_nil⟩)⟩)⟩)⟩)⟩)⟩) (ih7 ((2147483647 - x178.toInt).toNat) (by omega) σ172 o174 x178 rfl H175 X182 h177 (by omega) (by omega))
                  · obtain ⟨b183, h184, b185, h186⟩ := q154 (by omega)
                    obtain ⟨o187, e188, c189, t190, f191⟩ := cg273 H2.1 t14
                    have h192 : o187 = some b183 := c189.symm.trans h184
                    subst h192
                    have t193 := t190 b183 rfl
                    have f194 := (f191 b183 rfl).2
                    obtain ⟨o195, e196, c197, t198, f199⟩ := cg278 H2.1 t193
                    have h200 : o195 = some b185 := c197.symm.trans h186
                    subst h200
                    have t201 := t198 b185 rfl
                    have f202 := (f199 b185 rfl).2
                    refine k_if_eq (fun h203 => by exfalso; omega) (fun h203 => ?_)
                    refine k_nil ?_
                    refine hB _ _ _ _ (kgoC (is := KX4_leave_104) rfl ?_)
                    refine k_aload_n rfl ?_
                    refine k_aload rfl ?_
                    refine k_get kg273 t14 (congrArg (fun z : Option Nat => (Sum.inr (Sum.inr z) : AvC)) c189) ?_
                    have t204 := h_0_0.x e3
                    refine k_inv (P := P_X4_way) (Q := Q_X4_way) rfl rfl rfl rfl (Nat.le_of_ble_eq_true rfl) (t204.rc (by decide)) ⟨_, _, rfl, H2, t204, t193⟩ (fun w205 σ206 q207 => ?_)
                    obtain ⟨x208, rfl, rfl, h209, h210⟩ := q207
                    refine k_st (st' := [.inl x208]) rfl ?_
                    refine k_istore (ls' := [(8, .inl x208), (0, .inr (.inr (some p0))), (1, .inl p1), (2, .inr (.inl p2)), (5, .inr (.inr p4)), (6, .inr (.inr (some b11))), (7, .inl v7_7)]) rfl ?_
                    refine k_aload_n rfl ?_
                    obtain ⟨a213, e211, c212, t214, l215, l216⟩ := cg154 H2.1 t204
                    refine k_get kg154 t204 e211 ?_
                    refine k_iload rfl ?_
                    refine k_iload_n rfl ?_
                    refine k_iastore H2 t214 l216 (by omega) (by omega) (fun σ217 H218 e219 => ?_)
                    refine k_aload_n rfl ?_
                    have t220 := t204.x e219
                    obtain ⟨a223, e221, c222, t224, l225, l226⟩ := cg155 H218.1 t220
                    refine k_get kg155 t220 e221 ?_
                    refine k_iload rfl ?_
                    refine k_lload_n rfl ?_
                    refine k_lastore H218 t224 l226 (by omega) (by omega) (fun σ227 H228 e229 => ?_)
                    refine k_aload_n rfl ?_
                    have t230 := t220.x e229
                    obtain ⟨a233, e231, c232, t234, l235⟩ := cg156 H228.1 t230
                    refine k_get kg156 t230 e231 ?_
                    refine k_iload rfl ?_
                    refine k_aload rfl ?_
                    have t239 := t16.x e219
                    have t240 := t239.x e229
                    refine k_aastore (c := 9) H228 t234 (by decide) (by omega) (by omega) (t240) (fun σ236 H237 e238 => ?_)
                    refine k_aload_n rfl ?_
                    refine k_aload rfl ?_
                    have t241 := t14.x e219
                    have t242 := t241.x e229
                    have t243 := t242.x e238
                    have c244 := (t14.mr e219 (by decide)).trans c189
                    have c245 := (t241.mr e229 (by decide)).trans c244
                    have c246 := (t242.mr e238 (by decide)).trans c245
                    refine k_get kg273 t243 (congrArg (fun z : Option Nat => (Sum.inr (Sum.inr z) : AvC)) c246) ?_
                    have t247 := t193.x e219
                    have t248 := t247.x e229
                    have t249 := t248.x e238
                    have c250 := (t193.mr e219 (by decide)).trans c197
                    have c251 := (t247.mr e229 (by decide)).trans c250
                    have c252 := (t248.mr e238 (by decide)).trans c251
                    refine k_get kg278 t249 (congrArg (fun z : Option Nat => (Sum.inr (Sum.inr z) : AvC)) c252) ?_
                    have t253 := t230.x e238
                    have t254 := t201.x e219
                    have t255 := t254.x e229
                    have t256 := t255.x e238
                    refine k_inv (P := P_X4_goInto) (Q := Q_X4_goInto) rfl rfl rfl rfl (Nat.le_of_ble_eq_true rfl) (t253.rc (by decide)) ⟨_, _, rfl, H237, t253, t256⟩ (fun w257 σ258 q259 => ?_)
                    obtain ⟨rfl, H260, e261⟩ := q259
                    refine k_st (st' := []) rfl ?_
                    refine k_return ?_
                    have X262 : ExC [161, 162, 163, 169] σ0 σ1 := ExC.rf.tr (e3.mo (by decide))
                    have X263 : ExC [161, 162, 163, 169] σ0 σ217 := X262.tr (e219.mo (by decide))
                    have X264 : ExC [161, 162, 163, 169] σ0 σ227 := X263.tr (e229.mo (by decide))
                    have X265 : ExC [161, 162, 163, 169] σ0 σ236 := X264.tr (e238.mo (by decide))
                    have X266 : ExC [161, 162, 163, 169] σ0 σ258 := X265.tr (e261.mo (by decide))
                    exact ⟨rfl, H260, X266⟩
                · obtain ⟨b267, h268, b269, h270⟩ := q145 (by omega)
                  obtain ⟨o271, e272, c273, t274, f275⟩ := cg273 H2.1 t14
                  have h276 : o271 = some b267 := c273.symm.trans h268
                  subst h276
                  have t277 := t274 b267 rfl
                  have f278 := (f275 b267 rfl).2
                  obtain ⟨o279, e280, c281, t282, f283⟩ := cg277 H2.1 t277
                  have h284 : o279 = some b269 := c281.symm.trans h270
                  subst h284
                  have t285 := t282 b269 rfl
                  have f286 := (f283 b269 rfl).2
                  refine k_if_eq (fun h287 => by exfalso; omega) (fun h287 => ?_)
                  refine k_nil ?_
                  refine hB _ _ _ _ (kgoC (is := KX4_leave_65) rfl ?_)
                  refine k_aload_n rfl ?_
                  refine k_aload rfl ?_
                  refine k_get kg273 t14 (congrArg (fun z : Option Nat => (Sum.inr (Sum.inr z) : AvC)) c273) ?_
                  refine k_get kg277 t277 (congrArg (fun z : Option Nat => (Sum.inr (Sum.inr z) : AvC)) c281) ?_
                  have t288 := h_0_0.x e3
                  refine k_inv (P := P_X4_goInto) (Q := Q_X4_goInto) rfl rfl rfl rfl (Nat.le_of_ble_eq_true rfl) (t288.rc (by decide)) ⟨_, _, rfl, H2, t288, t285⟩ (fun w289 σ290 q291 => ?_)
                  obtain ⟨rfl, H292, e293⟩ := q291
                  refine k_st (st' := []) rfl ?_
                  refine k_aload_n rfl ?_
                  have t294 := t288.x e293
                  obtain ⟨a297, e295, c296, t298, l299, l300⟩ := cg150 H292.1 t294
                  refine k_get kg150 t294 e295 ?_
                  refine k_aload_n rfl ?_
                  refine k_aload rfl ?_
                  have t301 := t14.x e293
                  have c302 := (t14.mr e293 (by decide)).trans c273
                  refine k_get kg273 t301 (congrArg (fun z : Option Nat => (Sum.inr (Sum.inr z) : AvC)) c302) ?_
                  have t303 := t277.x e293
                  obtain ⟨x306, e304, c305, h307, h308⟩ := cg280 H292.1 t303
                  refine k_get kg280 t303 e304 ?_
                  refine k_inv (P := P_X4_slot) (Q := Q_X4_slot) rfl rfl rfl rfl (Nat.le_of_ble_eq_true rfl) (t294.rc (by decide)) ⟨_, _, rfl, H292, t294⟩ (fun w309 σ310 q311 => ?_)
                  obtain ⟨x312, rfl, rfl, h313, h314⟩ := q311
                  refine k_st (st' := [.inl x312, .inr (.inr (some a297))]) rfl ?_
                  refine k_lload_n rfl ?_
                  refine k_lastore H292 t298 l300 (by omega) (by omega) (fun σ315 H316 e317 => ?_)
                  refine k_return ?_
                  have X318 : ExC [161, 162, 163, 169] σ0 σ1 := ExC.rf.tr (e3.mo (by decide))
                  have X319 : ExC [161, 162, 163, 169] σ0 σ290 := X318.tr (e293.mo (by decide))
                  have X320 : ExC [161, 162, 163, 169] σ0 σ315 := X319.tr (e317.mo (by decide))
                  exact ⟨rfl, H316, X320⟩
            · refine k_nil ?_
              refine hB _ _ _ _ (kgoC (is := KX4_leave_27) rfl ?_)
              refine k_aload_n rfl ?_
              refine k_iload_n rfl ?_
              refine k_bipush (m := 64) rfl (fun x321 h322 => ?_)
              refine k_ic_ne (fun h323 => ?_) (fun h323 => ?_)
              · refine hB _ _ _ _ (kgoC (is := KX4_leave_42) rfl ?_)
                refine k_aload rfl ?_
                obtain ⟨x326, e324, c325, h327, h328⟩ := cg289 H2.1 t14
                refine k_get kg289 t14 e324 ?_
                refine k_nil ?_
                refine hB _ _ _ _ (kgoC (is := KX4_leave_47) rfl ?_)
                have t329 := h_0_0.x e3
                refine k_putI kp161 H2 t329 (Or.inl fk161) (tiC x326).1 (tiC x326).2 (fun σ330 H331 e332 c333 => ?_)
                refine k_return ?_
                have X334 : ExC [161, 162, 163, 169] σ0 σ1 := ExC.rf.tr (e3.mo (by decide))
                have X335 : ExC [161, 162, 163, 169] σ0 σ330 := X334.tr (e332.mo (by decide))
                exact ⟨rfl, H331, X335⟩
              · refine k_nil ?_
                refine hB _ _ _ _ (kgoC (is := KX4_leave_34) rfl ?_)
                refine k_aload rfl ?_
                obtain ⟨x338, e336, c337, h339, h340⟩ := cg290 H2.1 t14
                refine k_get kg290 t14 e336 ?_
                refine k_goto ?_
                refine hB _ _ _ _ (kgoC (is := KX4_leave_47) rfl ?_)
                have t341 := h_0_0.x e3
                refine k_putI kp161 H2 t341 (Or.inl fk161) (tiC x338).1 (tiC x338).2 (fun σ342 H343 e344 c345 => ?_)
                refine k_return ?_
                have X346 : ExC [161, 162, 163, 169] σ0 σ1 := ExC.rf.tr (e3.mo (by decide))
                have X347 : ExC [161, 162, 163, 169] σ0 σ342 := X346.tr (e344.mo (by decide))
                exact ⟨rfl, H343, X347⟩
    refine hB _ _ _ _ (kgoC (is := KX4_leave_0) rfl ?_)
    refine k_aload rfl ?_
    refine k_astore (ls' := [(6, .inr (.inr p3)), (0, .inr (.inr (some p0))), (1, .inl p1), (2, .inr (.inl p2)), (4, .inr (.inr p3)), (5, .inr (.inr p4))]) rfl ?_
    refine k_iconst (m := 0) rfl (fun x348 h349 => ?_)
    refine k_istore (ls' := [(7, .inl x348), (6, .inr (.inr p3)), (0, .inr (.inr (some p0))), (1, .inl p1), (2, .inr (.inl p2)), (4, .inr (.inr p3)), (5, .inr (.inr p4))]) rfl ?_
    refine k_nil ?_
    exact hW _ _ _ _ _ (List.forall_mem_cons.2 ⟨List.Mem.tail _ (List.Mem.tail _ (List.Mem.head _)), (List.forall_mem_cons.2 ⟨List.Mem.tail _ (List.Mem.tail _ (List.Mem.tail _ (List.Mem.head _))), (List.forall_mem_cons.2 ⟨List.Mem.tail _ (List.Mem.tail _ (List.Mem.tail _ (List.Mem.tail _ (List.Mem.head _)))), (List.forall_mem_cons.2 ⟨List.Mem.tail _ (List.Mem.tail _ (List.Mem.tail _ (List.Mem.tail _ (List.Mem.tail _ (List.Mem.tail _ (List.Mem.head _)))))), (List.forall_mem_cons.2 ⟨List.Mem.tail _ (List.Mem.head _), (List.forall_mem_cons.2 ⟨List.Mem.head _, fun _ h => absurd h List.not_mem_nil⟩)⟩)⟩)⟩)⟩)⟩) (L7 _ σ0 p3 x348 rfl H0 ExC.rf h_3_0 (by omega) (by omega))
theorem lg_X4_leave : ∀ (As : List AvC) (σ : CsC), P_X4_leave As σ → lgC As ≤ rX4_leave.2.2.1 := by
  rintro As σ ⟨p0, p1, p2, p3, p4, rfl, -⟩
  exact Nat.le_of_ble_eq_true rfl
theorem m_X4_leave (l : Launch) : CMetC l 4 108 P_X4_leave Q_X4_leave :=
  CMetC.of KX4_leave [(181, P_X8_hasFinallyAhead, Q_X8_hasFinallyAhead), (110, P_X4_behindMethod, Q_X4_behindMethod), (106, P_X4_way, Q_X4_way), (109, P_X4_goInto, Q_X4_goInto), (182, P_X8_isCaught, Q_X8_isCaught), (93, P_X4_slot, Q_X4_slot)] hX4_leave (by decide) (by decide) okX4_leave (cc1C (m_X8_hasFinallyAhead l) (by decide) (cc1C (m_X4_behindMethod l) (by decide) (cc1C (m_X4_way l) (by decide) (cc1C (m_X4_goInto l) (by decide) (cc1C (m_X8_isCaught l) (by decide) (cc1C (m_X4_slot l) (by decide) cc0C)))))) (lg_X4_leave) (b_X4_leave)

abbrev P_X4_control : CpC := fun As σ => ∃ (p0 : Nat) (p1 : Int32) (p2 : Nat), As = [.inr (.inr (some p0)), .inl p1, .inr (.inr (some p2))] ∧ HIC σ ∧ TyC σ p0 5 ∧ TyC σ p2 9
abbrev Q_X4_control : CqC := fun As σ w τ => match As with
  | [.inr (.inr (some p0)), .inl p1, .inr (.inr (some p2))] => w = none ∧ HIC τ ∧ ExC [161, 162, 163, 165, 168, 169] σ τ
  | _ => False
set_option maxRecDepth 100000 in
set_option maxHeartbeats 4000000 in
theorem b_X4_control : TbC KX4_control [(94, P_X4_step, Q_X4_step), (92, P_X4_pop, Q_X4_pop), (107, P_X4_choose, Q_X4_choose), (108, P_X4_leave, Q_X4_leave), (106, P_X4_way, Q_X4_way), (103, P_X4_leaveCall, Q_X4_leaveCall)] P_X4_control Q_X4_control := by
  · rintro As σ0 ⟨p0, p1, p2, rfl, H0, h_0_0, h_2_0⟩ hgr G hB hW
    change G 0 [(0, .inr (.inr (some p0))), (1, .inl p1), (2, .inr (.inr (some p2)))] [] σ0
    refine hB _ _ _ _ (kgoC (is := KX4_control_0) rfl ?_)
    refine k_iload_n rfl ?_
    refine k_tsw ?_
    refine k_swc (fun h1 => ?_) (fun h1 => ?_)
    · refine hB _ _ _ _ (kgoC (is := KX4_control_48) rfl ?_)
      refine k_aload_n rfl ?_
      refine k_inv (P := P_X4_step) (Q := Q_X4_step) rfl rfl rfl rfl (Nat.le_of_ble_eq_true rfl) (h_0_0.rc (by decide)) ⟨_, rfl, H0, h_0_0⟩ (fun w2 σ3 q4 => ?_)
      obtain ⟨x5, rfl, H6, e7, h8, h9, q10⟩ := q4
      refine k_st (st' := [.inl x5]) rfl ?_
      rcases (by omega : x5.toInt = 0 ∨ x5.toInt = 1) with g11 | g11
      · refine k_if_eq (fun h12 => ?_) (fun h12 => by exfalso; omega)
        refine hB _ _ _ _ (kgoC (is := KX4_control_204) rfl ?_)
        refine k_return ?_
        have X13 : ExC [161, 162, 163, 165, 168, 169] σ0 σ3 := ExC.rf.tr (e7.mo (by decide))
        exact ⟨rfl, H6, X13⟩
      · have t19 := h_0_0.x e7
        obtain ⟨x14, e15, c16, h17, h18⟩ := cg165 H6.1 t19
        obtain ⟨x20, e21, c22, h23, h24⟩ := cg167 H6.1 t19
        have h25 : x20.toInt < x14.toInt := by rw [← c16, ← c22]; exact q10 (by omega)
        refine k_if_eq (fun h26 => by exfalso; omega) (fun h26 => ?_)
        refine k_nil ?_
        refine hB _ _ _ _ (kgoC (is := KX4_control_55) rfl ?_)
        refine k_aload_n rfl ?_
        refine k_aload_n rfl ?_
        have t27 := h_2_0.x e7
        obtain ⟨x30, e28, c29, h31, h32⟩ := cg271 H6.1 t27
        refine k_get kg271 t27 e28 ?_
        refine k_putI kp168 H6 t19 (Or.inl fk168) (tiC x30).1 (tiC x30).2 (fun σ33 H34 e35 c36 => ?_)
        refine k_goto ?_
        refine hB _ _ _ _ (kgoC (is := KX4_control_204) rfl ?_)
        refine k_return ?_
        have X37 : ExC [161, 162, 163, 165, 168, 169] σ0 σ3 := ExC.rf.tr (e7.mo (by decide))
        have X38 : ExC [161, 162, 163, 165, 168, 169] σ0 σ33 := X37.tr (e35.mo (by decide))
        exact ⟨rfl, H34, X38⟩
    refine k_swc (fun h39 => ?_) (fun h39 => ?_)
    · refine hB _ _ _ _ (kgoC (is := KX4_control_66) rfl ?_)
      refine k_aload_n rfl ?_
      refine k_inv (P := P_X4_step) (Q := Q_X4_step) rfl rfl rfl rfl (Nat.le_of_ble_eq_true rfl) (h_0_0.rc (by decide)) ⟨_, rfl, H0, h_0_0⟩ (fun w40 σ41 q42 => ?_)
      obtain ⟨x43, rfl, H44, e45, h46, h47, q48⟩ := q42
      refine k_st (st' := [.inl x43]) rfl ?_
      rcases (by omega : x43.toInt = 0 ∨ x43.toInt = 1) with g49 | g49
      · refine k_popI ?_
        refine k_goto ?_
        refine hB _ _ _ _ (kgoC (is := KX4_control_204) rfl ?_)
        refine k_return ?_
        have X50 : ExC [161, 162, 163, 165, 168, 169] σ0 σ41 := ExC.rf.tr (e45.mo (by decide))
        exact ⟨rfl, H44, X50⟩
      · have t56 := h_0_0.x e45
        obtain ⟨x51, e52, c53, h54, h55⟩ := cg165 H44.1 t56
        obtain ⟨x57, e58, c59, h60, h61⟩ := cg167 H44.1 t56
        have h62 : x57.toInt < x51.toInt := by rw [← c53, ← c59]; exact q48 (by omega)
        refine k_popI ?_
        refine k_goto ?_
        refine hB _ _ _ _ (kgoC (is := KX4_control_204) rfl ?_)
        refine k_return ?_
        have X63 : ExC [161, 162, 163, 165, 168, 169] σ0 σ41 := ExC.rf.tr (e45.mo (by decide))
        exact ⟨rfl, H44, X63⟩
    refine k_swc (fun h64 => ?_) (fun h64 => ?_)
    · refine hB _ _ _ _ (kgoC (is := KX4_control_74) rfl ?_)
      refine k_aload_n rfl ?_
      refine k_aload_n rfl ?_
      refine k_aload_n rfl ?_
      refine k_inv (P := P_X4_pop) (Q := Q_X4_pop) rfl rfl rfl rfl (Nat.le_of_ble_eq_true rfl) (h_0_0.rc (by decide)) ⟨_, rfl, H0, h_0_0⟩ (fun w65 σ66 q67 => ?_)
      obtain ⟨y68, rfl, H69, e70⟩ := q67
      refine k_st (st' := [.inr (.inl y68), .inr (.inr (some p2)), .inr (.inr (some p0))]) rfl ?_
      have t71 := h_0_0.x e70
      have t72 := h_2_0.x e70
      refine k_inv (P := P_X4_choose) (Q := Q_X4_choose) rfl rfl rfl rfl (Nat.le_of_ble_eq_true rfl) (t71.rc (by decide)) ⟨_, _, _, rfl, H69, t71, t72⟩ (fun w73 σ74 q75 => ?_)
      obtain ⟨rfl, H76, e77⟩ := q75
      refine k_st (st' := []) rfl ?_
      refine k_goto ?_
      refine hB _ _ _ _ (kgoC (is := KX4_control_204) rfl ?_)
      refine k_return ?_
      have X78 : ExC [161, 162, 163, 165, 168, 169] σ0 σ66 := ExC.rf.tr (e70.mo (by decide))
      have X79 : ExC [161, 162, 163, 165, 168, 169] σ0 σ74 := X78.tr (e77.mo (by decide))
      exact ⟨rfl, H76, X79⟩
    refine k_swc (fun h80 => ?_) (fun h80 => ?_)
    · refine hB _ _ _ _ (kgoC (is := KX4_control_86) rfl ?_)
      refine k_aload_n rfl ?_
      refine k_aload_n rfl ?_
      obtain ⟨x83, e81, c82, h84, h85⟩ := cg270 H0.1 h_2_0
      refine k_get kg270 h_2_0 e81 ?_
      refine k_lconst ?_
      refine k_aload_n rfl ?_
      refine k_aload_n rfl ?_
      obtain ⟨o88, e86, c87, t89⟩ := cg281 H0.1 h_2_0
      refine k_get kg281 h_2_0 e86 ?_
      refine k_inv (P := P_X4_leave) (Q := Q_X4_leave) rfl rfl rfl rfl (Nat.le_of_ble_eq_true rfl) (h_0_0.rc (by decide)) ⟨_, _, _, (some p2), o88, rfl, H0, h_0_0, h_2_0.ot, t89⟩ (fun w90 σ91 q92 => ?_)
      obtain ⟨rfl, H93, e94⟩ := q92
      refine k_st (st' := []) rfl ?_
      refine k_goto ?_
      refine hB _ _ _ _ (kgoC (is := KX4_control_204) rfl ?_)
      refine k_return ?_
      have X95 : ExC [161, 162, 163, 165, 168, 169] σ0 σ91 := ExC.rf.tr (e94.mo (by decide))
      exact ⟨rfl, H93, X95⟩
    refine k_swc (fun h96 => ?_) (fun h96 => ?_)
    · refine hB _ _ _ _ (kgoC (is := KX4_control_103) rfl ?_)
      refine k_aload_n rfl ?_
      refine k_bipush (m := 66) rfl (fun x97 h98 => ?_)
      refine k_aload_n rfl ?_
      obtain ⟨o101, e99, c100, t102⟩ := cg279 H0.1 h_2_0
      refine k_get kg279 h_2_0 e99 ?_
      refine k_ifnonnull (fun b103 h104 => ?_) (fun h104 => ?_)
      · subst h104
        have t105 := t102 b103 rfl
        refine hB _ _ _ _ (kgoC (is := KX4_control_117) rfl ?_)
        refine k_aload_n rfl ?_
        refine k_inv (P := P_X4_pop) (Q := Q_X4_pop) rfl rfl rfl rfl (Nat.le_of_ble_eq_true rfl) (h_0_0.rc (by decide)) ⟨_, rfl, H0, h_0_0⟩ (fun w106 σ107 q108 => ?_)
        obtain ⟨y109, rfl, H110, e111⟩ := q108
        refine k_st (st' := [.inr (.inl y109), .inl x97, .inr (.inr (some p0))]) rfl ?_
        refine k_nil ?_
        refine hB _ _ _ _ (kgoC (is := KX4_control_121) rfl ?_)
        refine k_aload_n rfl ?_
        refine k_aconst_null ?_
        have t112 := h_0_0.x e111
        have t113 := h_2_0.x e111
        refine k_inv (P := P_X4_leave) (Q := Q_X4_leave) rfl rfl rfl rfl (Nat.le_of_ble_eq_true rfl) (t112.rc (by decide)) ⟨_, _, _, (some p2), none, rfl, H110, t112, t113.ot, OtC.n⟩ (fun w114 σ115 q116 => ?_)
        obtain ⟨rfl, H117, e118⟩ := q116
        refine k_st (st' := []) rfl ?_
        refine k_goto ?_
        refine hB _ _ _ _ (kgoC (is := KX4_control_204) rfl ?_)
        refine k_return ?_
        have X119 : ExC [161, 162, 163, 165, 168, 169] σ0 σ107 := ExC.rf.tr (e111.mo (by decide))
        have X120 : ExC [161, 162, 163, 165, 168, 169] σ0 σ115 := X119.tr (e118.mo (by decide))
        exact ⟨rfl, H117, X120⟩
      · subst h104
        refine k_nil ?_
        refine hB _ _ _ _ (kgoC (is := KX4_control_113) rfl ?_)
        refine k_lconst ?_
        refine k_goto ?_
        refine hB _ _ _ _ (kgoC (is := KX4_control_121) rfl ?_)
        refine k_aload_n rfl ?_
        refine k_aconst_null ?_
        refine k_inv (P := P_X4_leave) (Q := Q_X4_leave) rfl rfl rfl rfl (Nat.le_of_ble_eq_true rfl) (h_0_0.rc (by decide)) ⟨_, _, _, (some p2), none, rfl, H0, h_0_0, h_2_0.ot, OtC.n⟩ (fun w121 σ122 q123 => ?_)
        obtain ⟨rfl, H124, e125⟩ := q123
        refine k_st (st' := []) rfl ?_
        refine k_goto ?_
        refine hB _ _ _ _ (kgoC (is := KX4_control_204) rfl ?_)
        refine k_return ?_
        have X126 : ExC [161, 162, 163, 165, 168, 169] σ0 σ122 := ExC.rf.tr (e125.mo (by decide))
        exact ⟨rfl, H124, X126⟩
    refine k_swc (fun h127 => ?_) (fun h127 => ?_)
    · refine hB _ _ _ _ (kgoC (is := KX4_control_129) rfl ?_)
      refine k_aload_n rfl ?_
      refine k_bipush (m := 67) rfl (fun x128 h129 => ?_)
      refine k_aload_n rfl ?_
      refine k_inv (P := P_X4_pop) (Q := Q_X4_pop) rfl rfl rfl rfl (Nat.le_of_ble_eq_true rfl) (h_0_0.rc (by decide)) ⟨_, rfl, H0, h_0_0⟩ (fun w130 σ131 q132 => ?_)
      obtain ⟨y133, rfl, H134, e135⟩ := q132
      refine k_st (st' := [.inr (.inl y133), .inl x128, .inr (.inr (some p0))]) rfl ?_
      refine k_aload_n rfl ?_
      refine k_aconst_null ?_
      have t136 := h_0_0.x e135
      have t137 := h_2_0.x e135
      refine k_inv (P := P_X4_leave) (Q := Q_X4_leave) rfl rfl rfl rfl (Nat.le_of_ble_eq_true rfl) (t136.rc (by decide)) ⟨_, _, _, (some p2), none, rfl, H134, t136, t137.ot, OtC.n⟩ (fun w138 σ139 q140 => ?_)
      obtain ⟨rfl, H141, e142⟩ := q140
      refine k_st (st' := []) rfl ?_
      refine k_goto ?_
      refine hB _ _ _ _ (kgoC (is := KX4_control_204) rfl ?_)
      refine k_return ?_
      have X143 : ExC [161, 162, 163, 165, 168, 169] σ0 σ131 := ExC.rf.tr (e135.mo (by decide))
      have X144 : ExC [161, 162, 163, 165, 168, 169] σ0 σ139 := X143.tr (e142.mo (by decide))
      exact ⟨rfl, H141, X144⟩
    refine k_swc (fun h145 => ?_) (fun h145 => ?_)
    · refine hB _ _ _ _ (kgoC (is := KX4_control_144) rfl ?_)
      refine k_aload_n rfl ?_
      obtain ⟨a148, e146, c147, t149, l150, l151⟩ := cg154 H0.1 h_0_0
      refine k_get kg154 h_0_0 e146 ?_
      refine k_aload_n rfl ?_
      refine k_aload_n rfl ?_
      refine k_inv (P := P_X4_way) (Q := Q_X4_way) rfl rfl rfl rfl (Nat.le_of_ble_eq_true rfl) (h_0_0.rc (by decide)) ⟨_, _, rfl, H0, h_0_0, h_2_0⟩ (fun w152 σ153 q154 => ?_)
      obtain ⟨x155, rfl, rfl, h156, h157⟩ := q154
      refine k_st (st' := [.inl x155, .inr (.inr (some a148))]) rfl ?_
      refine k_iconst (m := 0) rfl (fun x158 h159 => ?_)
      refine k_iastore H0 t149 l151 (by omega) (by omega) (fun σ160 H161 e162 => ?_)
      refine k_goto ?_
      refine hB _ _ _ _ (kgoC (is := KX4_control_204) rfl ?_)
      refine k_return ?_
      have X163 : ExC [161, 162, 163, 165, 168, 169] σ0 σ160 := ExC.rf.tr (e162.mo (by decide))
      exact ⟨rfl, H161, X163⟩
    refine k_swc (fun h164 => ?_) (fun h164 => ?_)
    · refine hB _ _ _ _ (kgoC (is := KX4_control_158) rfl ?_)
      refine k_aload_n rfl ?_
      refine k_aload_n rfl ?_
      refine k_inv (P := P_X4_way) (Q := Q_X4_way) rfl rfl rfl rfl (Nat.le_of_ble_eq_true rfl) (h_0_0.rc (by decide)) ⟨_, _, rfl, H0, h_0_0, h_2_0⟩ (fun w165 σ166 q167 => ?_)
      obtain ⟨x168, rfl, rfl, h169, h170⟩ := q167
      refine k_st (st' := [.inl x168]) rfl ?_
      refine k_istore_n (ls' := [(3, .inl x168), (0, .inr (.inr (some p0))), (1, .inl p1), (2, .inr (.inr (some p2)))]) rfl ?_
      refine k_aload_n rfl ?_
      obtain ⟨a173, e171, c172, t174, l175, l176⟩ := cg154 H0.1 h_0_0
      refine k_get kg154 h_0_0 e171 ?_
      refine k_iload_n rfl ?_
      refine k_iaload t174 (by omega) (by omega) (fun x177 => ?_)
      refine k_if_eq (fun h178 => ?_) (fun h178 => ?_)
      · refine hB _ _ _ _ (kgoC (is := KX4_control_204) rfl ?_)
        refine k_return ?_
        exact ⟨rfl, H0, (ExC.rf : ExC [161, 162, 163, 165, 168, 169] σ0 σ0)⟩
      · refine k_nil ?_
        refine hB _ _ _ _ (kgoC (is := KX4_control_173) rfl ?_)
        refine k_aload_n rfl ?_
        refine k_aload_n rfl ?_
        refine k_get kg154 h_0_0 (congrArg (fun z : Option Nat => (Sum.inr (Sum.inr z) : AvC)) c172) ?_
        refine k_iload_n rfl ?_
        refine k_iaload t174 (by omega) (by omega) (fun x179 => ?_)
        refine k_aload_n rfl ?_
        obtain ⟨a182, e180, c181, t183, l184, l185⟩ := cg155 H0.1 h_0_0
        refine k_get kg155 h_0_0 e180 ?_
        refine k_iload_n rfl ?_
        refine k_laload t183 (by omega) (by omega) (fun y186 => ?_)
        refine k_aload_n rfl ?_
        refine k_aload_n rfl ?_
        obtain ⟨a189, e187, c188, t190, l191⟩ := cg156 H0.1 h_0_0
        refine k_get kg156 h_0_0 e187 ?_
        refine k_iload_n rfl ?_
        refine k_aaload (c := 9) H0 t190 (by decide) (by omega) (by omega) (fun o192 e194 t193 => ?_)
        refine k_inv (P := P_X4_leave) (Q := Q_X4_leave) rfl rfl rfl rfl (Nat.le_of_ble_eq_true rfl) (h_0_0.rc (by decide)) ⟨_, _, _, (some p2), o192, rfl, H0, h_0_0, h_2_0.ot, t193⟩ (fun w195 σ196 q197 => ?_)
        obtain ⟨rfl, H198, e199⟩ := q197
        refine k_st (st' := []) rfl ?_
        refine k_goto ?_
        refine hB _ _ _ _ (kgoC (is := KX4_control_204) rfl ?_)
        refine k_return ?_
        have X200 : ExC [161, 162, 163, 165, 168, 169] σ0 σ196 := ExC.rf.tr (e199.mo (by decide))
        exact ⟨rfl, H198, X200⟩
    refine k_swn ?_
    refine hB _ _ _ _ (kgoC (is := KX4_control_199) rfl ?_)
    refine k_aload_n rfl ?_
    refine k_lconst ?_
    refine k_inv (P := P_X4_leaveCall) (Q := Q_X4_leaveCall) rfl rfl rfl rfl (Nat.le_of_ble_eq_true rfl) (h_0_0.rc (by decide)) ⟨_, _, rfl, H0, h_0_0⟩ (fun w201 σ202 q203 => ?_)
    obtain ⟨rfl, H204, e205⟩ := q203
    refine k_st (st' := []) rfl ?_
    refine k_nil ?_
    refine hB _ _ _ _ (kgoC (is := KX4_control_204) rfl ?_)
    refine k_return ?_
    have X206 : ExC [161, 162, 163, 165, 168, 169] σ0 σ202 := ExC.rf.tr (e205.mo (by decide))
    exact ⟨rfl, H204, X206⟩
theorem lg_X4_control : ∀ (As : List AvC) (σ : CsC), P_X4_control As σ → lgC As ≤ rX4_control.2.2.1 := by
  rintro As σ ⟨p0, p1, p2, rfl, -⟩
  exact Nat.le_of_ble_eq_true rfl
theorem m_X4_control (l : Launch) : CMetC l 5 105 P_X4_control Q_X4_control :=
  CMetC.of KX4_control [(94, P_X4_step, Q_X4_step), (92, P_X4_pop, Q_X4_pop), (107, P_X4_choose, Q_X4_choose), (108, P_X4_leave, Q_X4_leave), (106, P_X4_way, Q_X4_way), (103, P_X4_leaveCall, Q_X4_leaveCall)] hX4_control (by decide) (by decide) okX4_control (cc1C (m_X4_step l) (by decide) (cc1C (m_X4_pop l) (by decide) (cc1C (m_X4_choose l) (by decide) (cc1C (m_X4_leave l) (by decide) (cc1C (m_X4_way l) (by decide) (cc1C (m_X4_leaveCall l) (by decide) cc0C)))))) (lg_X4_control) (b_X4_control)

abbrev P_X4_obey : CpC := fun As σ => ∃ (p0 : Nat), As = [.inr (.inr (some p0))] ∧ HIC σ ∧ TyC σ p0 5
abbrev Q_X4_obey : CqC := fun As σ w τ => match As with
  | [.inr (.inr (some p0))] => w = none ∧ HIC τ ∧ ExC [161, 162, 163, 165, 166, 167, 168, 169] σ τ
  | _ => False
set_option maxRecDepth 100000 in
set_option maxHeartbeats 4000000 in
theorem b_X4_obey : TbC KX4_obey [(105, P_X4_control, Q_X4_control), (104, P_X4_move, Q_X4_move), (96, P_X4_work, Q_X4_work), (108, P_X4_leave, Q_X4_leave)] P_X4_obey Q_X4_obey := by
  · rintro As σ0 ⟨p0, rfl, H0, h_0_0⟩ hgr G hB hW
    change G 0 [(0, .inr (.inr (some p0)))] [] σ0
    refine hB _ _ _ _ (kgoC (is := KX4_obey_0) rfl ?_)
    refine k_aload_n rfl ?_
    obtain ⟨x3, e1, c2, h4, h5⟩ := cg161 H0.1 h_0_0
    refine k_get kg161 h_0_0 e1 ?_
    refine k_if_lt (fun h6 => ?_) (fun h6 => ?_)
    · refine hB _ _ _ _ (kgoC (is := KX4_obey_21) rfl ?_)
      refine k_aload_n rfl ?_
      refine k_iconst (m := 0) rfl (fun x7 h8 => ?_)
      refine k_putI kp169 H0 h_0_0 (Or.inl fk169) (tiC x7).1 (tiC x7).2 (fun σ9 H10 e11 c12 => ?_)
      refine k_return ?_
      have X13 : ExC [161, 162, 163, 165, 166, 167, 168, 169] σ0 σ9 := ExC.rf.tr (e11.mo (by decide))
      exact ⟨rfl, H10, X13⟩
    · refine k_nil ?_
      refine hB _ _ _ _ (kgoC (is := KX4_obey_7) rfl ?_)
      refine k_aload_n rfl ?_
      refine k_get kg161 h_0_0 (congrArg (Sum.inl : Int32 → AvC) c2) ?_
      refine k_aload_n rfl ?_
      obtain ⟨a16, e14, c15, t17⟩ := cg158 H0.1 h_0_0
      refine k_get kg158 h_0_0 e14 ?_
      obtain ⟨x20, e18, c19, h21, h22⟩ := cg34 H0.1 t17
      refine k_get kg34 t17 e18 ?_
      refine k_ic_lt (fun h23 => ?_) (fun h23 => ?_)
      · refine hB _ _ _ _ (kgoC (is := KX4_obey_27) rfl ?_)
        refine k_aload_n rfl ?_
        refine k_get kg161 h_0_0 (congrArg (Sum.inl : Int32 → AvC) c2) ?_
        refine k_istore_n (ls' := [(1, .inl x3), (0, .inr (.inr (some p0)))]) rfl ?_
        refine k_aload_n rfl ?_
        refine k_dupR ?_
        refine k_get kg161 h_0_0 (congrArg (Sum.inl : Int32 → AvC) c2) ?_
        refine k_iconst (m := 1) rfl (fun x24 h25 => ?_)
        refine k_iadd (by omega) (by omega) (fun x26 h27 => ?_)
        refine k_putI kp161 H0 h_0_0 (Or.inl fk161) (tiC x26).1 (tiC x26).2 (fun σ28 H29 e30 c31 => ?_)
        refine k_aload_n rfl ?_
        have t32 := h_0_0.x e30
        have c33 := (h_0_0.mr e30 (by decide)).trans c15
        refine k_get kg158 t32 (congrArg (fun z : Option Nat => (Sum.inr (Sum.inr z) : AvC)) c33) ?_
        have t34 := t17.x e30
        obtain ⟨a37, e35, c36, t38, l39⟩ := cg32 H29.1 t34
        refine k_get kg32 t34 e35 ?_
        refine k_iload_n rfl ?_
        refine k_aaload (c := 2) H29 t38 (by decide) (by omega) (by omega) (fun o40 e42 t41 => ?_)
        refine k_astore_n (ls' := [(2, .inr (.inr o40)), (1, .inl x3), (0, .inr (.inr (some p0)))]) rfl ?_
        refine k_aload_n rfl ?_
        refine k_get kg158 t32 (congrArg (fun z : Option Nat => (Sum.inr (Sum.inr z) : AvC)) c33) ?_
        obtain ⟨a45, e43, c44, t46, l47, l48⟩ := cg30 H29.1 t34
        refine k_get kg30 t34 e43 ?_
        refine k_iload_n rfl ?_
        refine k_iaload t46 (by omega) (by omega) (fun x49 => ?_)
        refine k_bipush (m := 8) rfl (fun x50 h51 => ?_)
        refine k_ic_gt (fun h52 => ?_) (fun h52 => ?_)
        · refine hB _ _ _ _ (kgoC (is := KX4_obey_121) rfl ?_)
          refine k_aload_n rfl ?_
          refine k_get kg158 t32 (congrArg (fun z : Option Nat => (Sum.inr (Sum.inr z) : AvC)) c33) ?_
          refine k_get kg30 t34 (congrArg (fun z : Option Nat => (Sum.inr (Sum.inr z) : AvC)) c44) ?_
          refine k_iload_n rfl ?_
          refine k_iaload t46 (by omega) (by omega) (fun x53 => ?_)
          refine k_bipush (m := 14) rfl (fun x54 h55 => ?_)
          refine k_ic_gt (fun h56 => ?_) (fun h56 => ?_)
          · refine hB _ _ _ _ (kgoC (is := KX4_obey_160) rfl ?_)
            refine k_aload_n rfl ?_
            refine k_get kg158 t32 (congrArg (fun z : Option Nat => (Sum.inr (Sum.inr z) : AvC)) c33) ?_
            obtain ⟨a59, e57, c58, t60, l61⟩ := cg33 H29.1 t34
            refine k_get kg33 t34 e57 ?_
            refine k_iload_n rfl ?_
            refine k_aaload (c := 9) H29 t60 (by decide) (by omega) (by omega) (fun o62 e64 t63 => ?_)
            refine k_ifnull (fun h66 => ?_) (fun b65 h66 => ?_)
            · subst h66
              refine hB _ _ _ _ (kgoC (is := KX4_obey_194) rfl ?_)
              refine k_return ?_
              have X67 : ExC [161, 162, 163, 165, 166, 167, 168, 169] σ0 σ28 := ExC.rf.tr (e30.mo (by decide))
              exact ⟨rfl, H29, X67⟩
            · subst h66
              have t68 := t63 b65 rfl
              refine k_nil ?_
              refine hB _ _ _ _ (kgoC (is := KX4_obey_172) rfl ?_)
              refine k_aload_n rfl ?_
              refine k_aload_n rfl ?_
              refine k_get kg158 t32 (congrArg (fun z : Option Nat => (Sum.inr (Sum.inr z) : AvC)) c33) ?_
              refine k_get kg30 t34 (congrArg (fun z : Option Nat => (Sum.inr (Sum.inr z) : AvC)) c44) ?_
              refine k_iload_n rfl ?_
              refine k_iaload t46 (by omega) (by omega) (fun x69 => ?_)
              refine k_aload_n rfl ?_
              refine k_get kg158 t32 (congrArg (fun z : Option Nat => (Sum.inr (Sum.inr z) : AvC)) c33) ?_
              refine k_get kg33 t34 (congrArg (fun z : Option Nat => (Sum.inr (Sum.inr z) : AvC)) c58) ?_
              refine k_iload_n rfl ?_
              refine k_aaloadE t60 (by decide) (by omega) (by omega) e64 ?_
              refine k_inv (P := P_X4_control) (Q := Q_X4_control) rfl rfl rfl rfl (Nat.le_of_ble_eq_true rfl) (t32.rc (by decide)) ⟨_, _, _, rfl, H29, t32, t68⟩ (fun w73 σ74 q75 => ?_)
              obtain ⟨rfl, H76, e77⟩ := q75
              refine k_st (st' := []) rfl ?_
              refine k_nil ?_
              refine hB _ _ _ _ (kgoC (is := KX4_obey_194) rfl ?_)
              refine k_return ?_
              have X78 : ExC [161, 162, 163, 165, 166, 167, 168, 169] σ0 σ28 := ExC.rf.tr (e30.mo (by decide))
              have X79 : ExC [161, 162, 163, 165, 166, 167, 168, 169] σ0 σ74 := X78.tr (e77.mo (by decide))
              exact ⟨rfl, H76, X79⟩
          · refine k_nil ?_
            refine hB _ _ _ _ (kgoC (is := KX4_obey_135) rfl ?_)
            refine k_aload_n rfl ?_
            refine k_aload_n rfl ?_
            refine k_get kg158 t32 (congrArg (fun z : Option Nat => (Sum.inr (Sum.inr z) : AvC)) c33) ?_
            refine k_get kg30 t34 (congrArg (fun z : Option Nat => (Sum.inr (Sum.inr z) : AvC)) c44) ?_
            refine k_iload_n rfl ?_
            refine k_iaload t46 (by omega) (by omega) (fun x80 => ?_)
            refine k_aload_n rfl ?_
            refine k_get kg158 t32 (congrArg (fun z : Option Nat => (Sum.inr (Sum.inr z) : AvC)) c33) ?_
            obtain ⟨a83, e81, c82, t84, l85, l86⟩ := cg31 H29.1 t34
            refine k_get kg31 t34 e81 ?_
            refine k_iload_n rfl ?_
            refine k_iaload t84 (by omega) (by omega) (fun x87 => ?_)
            refine k_inv (P := P_X4_move) (Q := Q_X4_move) rfl rfl rfl rfl (Nat.le_of_ble_eq_true rfl) (t32.rc (by decide)) ⟨_, _, _, rfl, H29, t32⟩ (fun w88 σ89 q90 => ?_)
            obtain ⟨rfl, H91, e92⟩ := q90
            refine k_st (st' := []) rfl ?_
            refine k_goto ?_
            refine hB _ _ _ _ (kgoC (is := KX4_obey_194) rfl ?_)
            refine k_return ?_
            have X93 : ExC [161, 162, 163, 165, 166, 167, 168, 169] σ0 σ28 := ExC.rf.tr (e30.mo (by decide))
            have X94 : ExC [161, 162, 163, 165, 166, 167, 168, 169] σ0 σ89 := X93.tr (e92.mo (by decide))
            exact ⟨rfl, H91, X94⟩
        · refine k_nil ?_
          refine hB _ _ _ _ (kgoC (is := KX4_obey_66) rfl ?_)
          refine k_aload_n rfl ?_
          refine k_ifnull (fun h96 => ?_) (fun b95 h96 => ?_)
          · subst h96
            refine hB _ _ _ _ (kgoC (is := KX4_obey_121) rfl ?_)
            refine k_aload_n rfl ?_
            refine k_get kg158 t32 (congrArg (fun z : Option Nat => (Sum.inr (Sum.inr z) : AvC)) c33) ?_
            refine k_get kg30 t34 (congrArg (fun z : Option Nat => (Sum.inr (Sum.inr z) : AvC)) c44) ?_
            refine k_iload_n rfl ?_
            refine k_iaload t46 (by omega) (by omega) (fun x97 => ?_)
            refine k_bipush (m := 14) rfl (fun x98 h99 => ?_)
            refine k_ic_gt (fun h100 => ?_) (fun h100 => ?_)
            · refine hB _ _ _ _ (kgoC (is := KX4_obey_160) rfl ?_)
              refine k_aload_n rfl ?_
              refine k_get kg158 t32 (congrArg (fun z : Option Nat => (Sum.inr (Sum.inr z) : AvC)) c33) ?_
              obtain ⟨a103, e101, c102, t104, l105⟩ := cg33 H29.1 t34
              refine k_get kg33 t34 e101 ?_
              refine k_iload_n rfl ?_
              refine k_aaload (c := 9) H29 t104 (by decide) (by omega) (by omega) (fun o106 e108 t107 => ?_)
              refine k_ifnull (fun h110 => ?_) (fun b109 h110 => ?_)
              · subst h110
                refine hB _ _ _ _ (kgoC (is := KX4_obey_194) rfl ?_)
                refine k_return ?_
                have X111 : ExC [161, 162, 163, 165, 166, 167, 168, 169] σ0 σ28 := ExC.rf.tr (e30.mo (by decide))
                exact ⟨rfl, H29, X111⟩
              · subst h110
                have t112 := t107 b109 rfl
                refine k_nil ?_
                refine hB _ _ _ _ (kgoC (is := KX4_obey_172) rfl ?_)
                refine k_aload_n rfl ?_
                refine k_aload_n rfl ?_
                refine k_get kg158 t32 (congrArg (fun z : Option Nat => (Sum.inr (Sum.inr z) : AvC)) c33) ?_
                refine k_get kg30 t34 (congrArg (fun z : Option Nat => (Sum.inr (Sum.inr z) : AvC)) c44) ?_
                refine k_iload_n rfl ?_
                refine k_iaload t46 (by omega) (by omega) (fun x113 => ?_)
                refine k_aload_n rfl ?_
                refine k_get kg158 t32 (congrArg (fun z : Option Nat => (Sum.inr (Sum.inr z) : AvC)) c33) ?_
                refine k_get kg33 t34 (congrArg (fun z : Option Nat => (Sum.inr (Sum.inr z) : AvC)) c102) ?_
                refine k_iload_n rfl ?_
                refine k_aaloadE t104 (by decide) (by omega) (by omega) e108 ?_
                refine k_inv (P := P_X4_control) (Q := Q_X4_control) rfl rfl rfl rfl (Nat.le_of_ble_eq_true rfl) (t32.rc (by decide)) ⟨_, _, _, rfl, H29, t32, t112⟩ (fun w117 σ118 q119 => ?_)
                obtain ⟨rfl, H120, e121⟩ := q119
                refine k_st (st' := []) rfl ?_
                refine k_nil ?_
                refine hB _ _ _ _ (kgoC (is := KX4_obey_194) rfl ?_)
                refine k_return ?_
                have X122 : ExC [161, 162, 163, 165, 166, 167, 168, 169] σ0 σ28 := ExC.rf.tr (e30.mo (by decide))
                have X123 : ExC [161, 162, 163, 165, 166, 167, 168, 169] σ0 σ118 := X122.tr (e121.mo (by decide))
                exact ⟨rfl, H120, X123⟩
            · refine k_nil ?_
              refine hB _ _ _ _ (kgoC (is := KX4_obey_135) rfl ?_)
              refine k_aload_n rfl ?_
              refine k_aload_n rfl ?_
              refine k_get kg158 t32 (congrArg (fun z : Option Nat => (Sum.inr (Sum.inr z) : AvC)) c33) ?_
              refine k_get kg30 t34 (congrArg (fun z : Option Nat => (Sum.inr (Sum.inr z) : AvC)) c44) ?_
              refine k_iload_n rfl ?_
              refine k_iaload t46 (by omega) (by omega) (fun x124 => ?_)
              refine k_aload_n rfl ?_
              refine k_get kg158 t32 (congrArg (fun z : Option Nat => (Sum.inr (Sum.inr z) : AvC)) c33) ?_
              obtain ⟨a127, e125, c126, t128, l129, l130⟩ := cg31 H29.1 t34
              refine k_get kg31 t34 e125 ?_
              refine k_iload_n rfl ?_
              refine k_iaload t128 (by omega) (by omega) (fun x131 => ?_)
              refine k_inv (P := P_X4_move) (Q := Q_X4_move) rfl rfl rfl rfl (Nat.le_of_ble_eq_true rfl) (t32.rc (by decide)) ⟨_, _, _, rfl, H29, t32⟩ (fun w132 σ133 q134 => ?_)
              obtain ⟨rfl, H135, e136⟩ := q134
              refine k_st (st' := []) rfl ?_
              refine k_goto ?_
              refine hB _ _ _ _ (kgoC (is := KX4_obey_194) rfl ?_)
              refine k_return ?_
              have X137 : ExC [161, 162, 163, 165, 166, 167, 168, 169] σ0 σ28 := ExC.rf.tr (e30.mo (by decide))
              have X138 : ExC [161, 162, 163, 165, 166, 167, 168, 169] σ0 σ133 := X137.tr (e136.mo (by decide))
              exact ⟨rfl, H135, X138⟩
          · subst h96
            have t139 := t41 b95 rfl
            refine k_nil ?_
            refine hB _ _ _ _ (kgoC (is := KX4_obey_70) rfl ?_)
            refine k_aload_n rfl ?_
            refine k_aload_n rfl ?_
            refine k_get kg158 t32 (congrArg (fun z : Option Nat => (Sum.inr (Sum.inr z) : AvC)) c33) ?_
            refine k_get kg30 t34 (congrArg (fun z : Option Nat => (Sum.inr (Sum.inr z) : AvC)) c44) ?_
            refine k_iload_n rfl ?_
            refine k_iaload t46 (by omega) (by omega) (fun x140 => ?_)
            refine k_aload_n rfl ?_
            refine k_inv (P := P_X4_work) (Q := Q_X4_work) rfl rfl rfl rfl (Nat.le_of_ble_eq_true rfl) (t32.rc (by decide)) ⟨_, _, _, rfl, H29, t32, t139⟩ (fun w141 σ142 q143 => ?_)
            obtain ⟨rfl, H144, e145⟩ := q143
            refine k_st (st' := []) rfl ?_
            refine k_aload_n rfl ?_
            have t146 := t32.x e145
            obtain ⟨x149, e147, c148, h150, h151⟩ := cg169 H144.1 t146
            refine k_get kg169 t146 e147 ?_
            refine k_bipush (m := 7) rfl (fun x152 h153 => ?_)
            refine k_ic_ne (fun h154 => ?_) (fun h154 => ?_)
            · refine hB _ _ _ _ (kgoC (is := KX4_obey_194) rfl ?_)
              refine k_return ?_
              have X155 : ExC [161, 162, 163, 165, 166, 167, 168, 169] σ0 σ28 := ExC.rf.tr (e30.mo (by decide))
              have X156 : ExC [161, 162, 163, 165, 166, 167, 168, 169] σ0 σ142 := X155.tr (e145.mo (by decide))
              exact ⟨rfl, H144, X156⟩
            · refine k_nil ?_
              refine hB _ _ _ _ (kgoC (is := KX4_obey_93) rfl ?_)
              refine k_aload_n rfl ?_
              refine k_bipush (m := 6) rfl (fun x157 h158 => ?_)
              refine k_putI kp169 H144 t146 (Or.inl fk169) (tiC x157).1 (tiC x157).2 (fun σ159 H160 e161 c162 => ?_)
              refine k_aload_n rfl ?_
              refine k_bipush (m := 67) rfl (fun x163 h164 => ?_)
              refine k_ldc2_w ?_
              refine k_aload_n rfl ?_
              have t165 := t146.x e161
              have c166 := (t32.mr e145 (by decide)).trans c33
              have c167 := (t146.mr e161 (by decide)).trans c166
              refine k_get kg158 t165 (congrArg (fun z : Option Nat => (Sum.inr (Sum.inr z) : AvC)) c167) ?_
              have t168 := t34.x e145
              have t169 := t168.x e161
              obtain ⟨a172, e170, c171, t173, l174⟩ := cg33 H160.1 t169
              refine k_get kg33 t169 e170 ?_
              refine k_iload_n rfl ?_
              refine k_aaload (c := 9) H160 t173 (by decide) (by omega) (by omega) (fun o175 e177 t176 => ?_)
              refine k_aconst_null ?_
              refine k_inv (P := P_X4_leave) (Q := Q_X4_leave) rfl rfl rfl rfl (Nat.le_of_ble_eq_true rfl) (t165.rc (by decide)) ⟨_, _, _, o175, none, rfl, H160, t165, t176, OtC.n⟩ (fun w178 σ179 q180 => ?_)
              obtain ⟨rfl, H181, e182⟩ := q180
              refine k_st (st' := []) rfl ?_
              refine k_goto ?_
              refine hB _ _ _ _ (kgoC (is := KX4_obey_194) rfl ?_)
              refine k_return ?_
              have X183 : ExC [161, 162, 163, 165, 166, 167, 168, 169] σ0 σ28 := ExC.rf.tr (e30.mo (by decide))
              have X184 : ExC [161, 162, 163, 165, 166, 167, 168, 169] σ0 σ142 := X183.tr (e145.mo (by decide))
              have X185 : ExC [161, 162, 163, 165, 166, 167, 168, 169] σ0 σ159 := X184.tr (e161.mo (by decide))
              have X186 : ExC [161, 162, 163, 165, 166, 167, 168, 169] σ0 σ179 := X185.tr (e182.mo (by decide))
              exact ⟨rfl, H181, X186⟩
      · refine k_nil ?_
        refine hB _ _ _ _ (kgoC (is := KX4_obey_21) rfl ?_)
        refine k_aload_n rfl ?_
        refine k_iconst (m := 0) rfl (fun x187 h188 => ?_)
        refine k_putI kp169 H0 h_0_0 (Or.inl fk169) (tiC x187).1 (tiC x187).2 (fun σ189 H190 e191 c192 => ?_)
        refine k_return ?_
        have X193 : ExC [161, 162, 163, 165, 166, 167, 168, 169] σ0 σ189 := ExC.rf.tr (e191.mo (by decide))
        exact ⟨rfl, H190, X193⟩
theorem lg_X4_obey : ∀ (As : List AvC) (σ : CsC), P_X4_obey As σ → lgC As ≤ rX4_obey.2.2.1 := by
  rintro As σ ⟨p0, rfl, -⟩
  exact Nat.le_of_ble_eq_true rfl
theorem m_X4_obey (l : Launch) : CMetC l 14 95 P_X4_obey Q_X4_obey :=
  CMetC.of KX4_obey [(105, P_X4_control, Q_X4_control), (104, P_X4_move, Q_X4_move), (96, P_X4_work, Q_X4_work), (108, P_X4_leave, Q_X4_leave)] hX4_obey (by decide) (by decide) okX4_obey (cc1C (m_X4_control l) (by decide) (cc1C (m_X4_move l) (by decide) (cc1C (m_X4_work l) (by decide) (cc1C (m_X4_leave l) (by decide) cc0C)))) (lg_X4_obey) (b_X4_obey)

abbrev P_X4_perform : CpC := fun As σ => ∃ (p0 : Nat) (p1 : Nat) (p2 : Nat) (p3 : Int32), As = [.inr (.inr (some p0)), .inr (.inr (some p1)), .inr (.inr (some p2)), .inl p3] ∧ HIC σ ∧ TyC σ p0 5 ∧ TyC σ p1 6 ∧ TyC σ p2 102 ∧ alC σ p2 = 6 ∧ 1 ≤ p3.toInt ∧ p3.toInt ≤ 20000
abbrev Q_X4_perform : CqC := fun As σ w τ => match As with
  | [.inr (.inr (some p0)), .inr (.inr (some p1)), .inr (.inr (some p2)), .inl p3] => ∃ r : Int32, w = some (.inl r) ∧ HIC τ ∧ ExC [161, 162, 163, 164, 165, 166, 167, 168, 169] σ τ
  | _ => False
set_option maxRecDepth 100000 in
set_option maxHeartbeats 4000000 in
theorem b_X4_perform : TbC KX4_perform [(94, P_X4_step, Q_X4_step), (102, P_X4_enter, Q_X4_enter), (228, P_X11_narrowed, Q_X11_narrowed), (91, P_X4_push, Q_X4_push), (95, P_X4_obey, Q_X4_obey)] P_X4_perform Q_X4_perform := by
  · rintro As σ0 ⟨p0, p1, p2, p3, rfl, H0, h_0_0, h_1_0, h_2_0, h_2_1, h_3_0, h_3_1⟩ hgr G hB hW
    change G 0 [(0, .inr (.inr (some p0))), (1, .inr (.inr (some p1))), (2, .inr (.inr (some p2))), (3, .inl p3)] [] σ0
    have L89 : ∀ (n89 : Nat), ∀ (σ1 : CsC) (v89_4 : Int32), (2147483647 - v89_4.toInt).toNat = n89 → HIC σ1 → ExC [161, 162, 163, 164, 165, 166, 167, 168, 169] σ0 σ1 → 0 ≤ v89_4.toInt → G 89 [(0, .inr (.inr (some p0))), (1, .inr (.inr (some p1))), (4, .inl v89_4)] [] σ1 := by
      intro n89
      induction n89 using Nat.strongRecOn with
      | _ n89 ih89 =>
        intro σ1 v89_4 n89_ H2 e3 h4
        refine hB _ _ _ _ (kgoC (is := KX4_perform_89) rfl ?_)
        refine k_aload_n rfl ?_
        have t5 := h_0_0.x e3
        obtain ⟨x8, e6, c7, h9, h10⟩ := cg169 H2.1 t5
        refine k_get kg169 t5 e6 ?_
        refine k_bipush (m := 6) rfl (fun x11 h12 => ?_)
        refine k_ic_ne (fun h13 => ?_) (fun h13 => ?_)
        · refine hB _ _ _ _ (kgoC (is := KX4_perform_115) rfl ?_)
          refine k_aload_n rfl ?_
          refine k_get kg169 t5 (congrArg (Sum.inl : Int32 → AvC) c7) ?_
          refine k_if_ne (fun h14 => ?_) (fun h14 => ?_)
          · refine hB _ _ _ _ (kgoC (is := KX4_perform_135) rfl ?_)
            refine k_aload_n rfl ?_
            refine k_get kg169 t5 (congrArg (Sum.inl : Int32 → AvC) c7) ?_
            refine k_ireturn (fun hz => absurd hz (by decide)) ?_
            have X15 : ExC [161, 162, 163, 164, 165, 166, 167, 168, 169] σ0 σ1 := ExC.rf.tr (e3.mo (by decide))
            exact ⟨_, rfl, H2, X15⟩
          · refine k_nil ?_
            refine hB _ _ _ _ (kgoC (is := KX4_perform_122) rfl ?_)
            refine k_aload_n rfl ?_
            have t16 := h_1_0.x e3
            obtain ⟨x19, e17, c18, h20, h21⟩ := cg182 H2.1 t16
            refine k_get kg182 t16 e17 ?_
            refine k_iconst (m := 5) rfl (fun x22 h23 => ?_)
            refine k_ic_eq (fun h24 => ?_) (fun h24 => ?_)
            · refine hB _ _ _ _ (kgoC (is := KX4_perform_135) rfl ?_)
              refine k_aload_n rfl ?_
              refine k_get kg169 t5 (congrArg (Sum.inl : Int32 → AvC) c7) ?_
              refine k_ireturn (fun hz => absurd hz (by decide)) ?_
              have X25 : ExC [161, 162, 163, 164, 165, 166, 167, 168, 169] σ0 σ1 := ExC.rf.tr (e3.mo (by decide))
              exact ⟨_, rfl, H2, X25⟩
            · refine k_nil ?_
              refine hB _ _ _ _ (kgoC (is := KX4_perform_130) rfl ?_)
              refine k_aload_n rfl ?_
              refine k_iconst (m := 1) rfl (fun x26 h27 => ?_)
              refine k_putI kp169 H2 t5 (Or.inl fk169) (tiC x26).1 (tiC x26).2 (fun σ28 H29 e30 c31 => ?_)
              refine k_nil ?_
              refine hB _ _ _ _ (kgoC (is := KX4_perform_135) rfl ?_)
              refine k_aload_n rfl ?_
              have t32 := t5.x e30
              refine k_get kg169 t32 (congrArg (Sum.inl : Int32 → AvC) c31) ?_
              refine k_ireturn (fun hz => absurd hz (by decide)) ?_
              have X33 : ExC [161, 162, 163, 164, 165, 166, 167, 168, 169] σ0 σ1 := ExC.rf.tr (e3.mo (by decide))
              have X34 : ExC [161, 162, 163, 164, 165, 166, 167, 168, 169] σ0 σ28 := X33.tr (e30.mo (by decide))
              exact ⟨_, rfl, H29, X34⟩
        · refine k_nil ?_
          refine hB _ _ _ _ (kgoC (is := KX4_perform_98) rfl ?_)
          refine k_iload rfl ?_
          refine k_ldcI (m := 100000000) rfl (fun x35 h36 => ?_)
          refine k_ic_ge (fun h37 => ?_) (fun h37 => ?_)
          · refine hB _ _ _ _ (kgoC (is := KX4_perform_115) rfl ?_)
            refine k_aload_n rfl ?_
            refine k_get kg169 t5 (congrArg (Sum.inl : Int32 → AvC) c7) ?_
            refine k_if_ne (fun h38 => ?_) (fun h38 => by exfalso; omega)
            refine hB _ _ _ _ (kgoC (is := KX4_perform_135) rfl ?_)
            refine k_aload_n rfl ?_
            refine k_get kg169 t5 (congrArg (Sum.inl : Int32 → AvC) c7) ?_
            refine k_ireturn (fun hz => absurd hz (by decide)) ?_
            have X39 : ExC [161, 162, 163, 164, 165, 166, 167, 168, 169] σ0 σ1 := ExC.rf.tr (e3.mo (by decide))
            exact ⟨_, rfl, H2, X39⟩
          · refine k_nil ?_
            refine hB _ _ _ _ (kgoC (is := KX4_perform_105) rfl ?_)
            refine k_aload_n rfl ?_
            refine k_inv (P := P_X4_obey) (Q := Q_X4_obey) rfl rfl rfl rfl (Nat.le_of_ble_eq_true rfl) (t5.rc (by decide)) ⟨_, rfl, H2, t5⟩ (fun w40 σ41 q42 => ?_)
            obtain ⟨rfl, H43, e44⟩ := q42
            refine k_st (st' := []) rfl ?_
            obtain ⟨x45, e47, h46⟩ := iincC (n := 1) (m := 1) (v := v89_4) rfl (by omega) (by omega)
            refine k_iinc (ls' := [(4, .inl x45), (0, .inr (.inr (some p0))), (1, .inr (.inr (some p1)))]) rfl e47 rfl ?_
            refine k_goto ?_
            have X48 : ExC [161, 162, 163, 164, 165, 166, 167, 168, 169] σ0 σ1 := ExC.rf.tr (e3.mo (by decide))
            have X49 : ExC [161, 162, 163, 164, 165, 166, 167, 168, 169] σ0 σ41 := X48.tr (e44.mo (by decide))
            exact hW _ _ _ _ _ (List.forall_mem_cons.2 ⟨List.Mem.tail _ (List.Mem.head _), (List.forall_mem_cons.2 ⟨List.Mem.tail _ (List.Mem.tail _ (List.Mem.head _)), (List.forall_mem_cons.2 ⟨List.Mem.head _, fun _ h => absurd h List.not_mem_nil⟩)⟩)⟩) (ih89 ((2147483647 - x45.toInt).toNat) (by omega) σ41 x45 rfl H43 X49 (by omega))
    have L8 : ∀ (n8 : Nat), ∀ (σ50 : CsC) (v8_4 : Int32), (2147483647 - v8_4.toInt).toNat = n8 → HIC σ50 → ExC [161, 162, 163, 164, 165, 166, 167, 168, 169] σ0 σ50 → 0 ≤ v8_4.toInt → v8_4.toInt ≤ 10 → G 8 [(0, .inr (.inr (some p0))), (1, .inr (.inr (some p1))), (2, .inr (.inr (some p2))), (4, .inl v8_4)] [] σ50 := by
      intro n8
      induction n8 using Nat.strongRecOn with
      | _ n8 ih8 =>
        intro σ50 v8_4 n8_ H51 e52 h53 h54
        refine hB _ _ _ _ (kgoC (is := KX4_perform_8) rfl ?_)
        refine k_iload rfl ?_
        refine k_aload_n rfl ?_
        have t55 := h_1_0.x e52
        obtain ⟨x58, e56, c57, h59, h60⟩ := cg185 H51.1 t55
        refine k_get kg185 t55 e56 ?_
        refine k_ic_ge (fun h61 => ?_) (fun h61 => ?_)
        · refine hB _ _ _ _ (kgoC (is := KX4_perform_74) rfl ?_)
          refine k_aload_n rfl ?_
          have t62 := h_0_0.x e52
          refine k_inv (P := P_X4_step) (Q := Q_X4_step) rfl rfl rfl rfl (Nat.le_of_ble_eq_true rfl) (t62.rc (by decide)) ⟨_, rfl, H51, t62⟩ (fun w63 σ64 q65 => ?_)
          obtain ⟨x66, rfl, H67, e68, h69, h70, q71⟩ := q65
          refine k_st (st' := [.inl x66]) rfl ?_
          rcases (by omega : x66.toInt = 0 ∨ x66.toInt = 1) with g72 | g72
          · refine k_if_eq (fun h73 => ?_) (fun h73 => by exfalso; omega)
            refine hB _ _ _ _ (kgoC (is := KX4_perform_86) rfl ?_)
            refine k_iconst (m := 0) rfl (fun x74 h75 => ?_)
            refine k_istore (ls' := [(4, .inl x74), (0, .inr (.inr (some p0))), (1, .inr (.inr (some p1))), (2, .inr (.inr (some p2)))]) rfl ?_
            refine k_nil ?_
            have X76 : ExC [161, 162, 163, 164, 165, 166, 167, 168, 169] σ0 σ50 := ExC.rf.tr (e52.mo (by decide))
            have X77 : ExC [161, 162, 163, 164, 165, 166, 167, 168, 169] σ0 σ64 := X76.tr (e68.mo (by decide))
            exact hW _ _ _ _ _ (List.forall_mem_cons.2 ⟨List.Mem.tail _ (List.Mem.head _), (List.forall_mem_cons.2 ⟨List.Mem.tail _ (List.Mem.tail _ (List.Mem.head _)), (List.forall_mem_cons.2 ⟨List.Mem.head _, fun _ h => absurd h List.not_mem_nil⟩)⟩)⟩) (L89 _ σ64 x74 rfl H67 X77 (by omega))
          · have t83 := t62.x e68
            obtain ⟨x78, e79, c80, h81, h82⟩ := cg165 H67.1 t83
            obtain ⟨x84, e85, c86, h87, h88⟩ := cg167 H67.1 t83
            have h89 : x84.toInt < x78.toInt := by rw [← c80, ← c86]; exact q71 (by omega)
            refine k_if_eq (fun h90 => by exfalso; omega) (fun h90 => ?_)
            refine k_nil ?_
            refine hB _ _ _ _ (kgoC (is := KX4_perform_81) rfl ?_)
            refine k_aload_n rfl ?_
            refine k_aload_n rfl ?_
            have t91 := t55.x e68
            refine k_inv (P := P_X4_enter) (Q := Q_X4_enter) rfl rfl rfl rfl (Nat.le_of_ble_eq_true rfl) (t83.rc (by decide)) ⟨_, _, rfl, H67, t83, t91⟩ (fun w92 σ93 q94 => ?_)
            obtain ⟨rfl, H95, e96⟩ := q94
            refine k_st (st' := []) rfl ?_
            refine k_nil ?_
            refine hB _ _ _ _ (kgoC (is := KX4_perform_86) rfl ?_)
            refine k_iconst (m := 0) rfl (fun x97 h98 => ?_)
            refine k_istore (ls' := [(4, .inl x97), (0, .inr (.inr (some p0))), (1, .inr (.inr (some p1))), (2, .inr (.inr (some p2)))]) rfl ?_
            refine k_nil ?_
            have X99 : ExC [161, 162, 163, 164, 165, 166, 167, 168, 169] σ0 σ50 := ExC.rf.tr (e52.mo (by decide))
            have X100 : ExC [161, 162, 163, 164, 165, 166, 167, 168, 169] σ0 σ64 := X99.tr (e68.mo (by decide))
            have X101 : ExC [161, 162, 163, 164, 165, 166, 167, 168, 169] σ0 σ93 := X100.tr (e96.mo (by decide))
            exact hW _ _ _ _ _ (List.forall_mem_cons.2 ⟨List.Mem.tail _ (List.Mem.head _), (List.forall_mem_cons.2 ⟨List.Mem.tail _ (List.Mem.tail _ (List.Mem.head _)), (List.forall_mem_cons.2 ⟨List.Mem.head _, fun _ h => absurd h List.not_mem_nil⟩)⟩)⟩) (L89 _ σ93 x97 rfl H95 X101 (by omega))
        · refine k_nil ?_
          refine hB _ _ _ _ (kgoC (is := KX4_perform_17) rfl ?_)
          refine k_iload rfl ?_
          refine k_aload_n rfl ?_
          have t104 := h_2_0.x e52
          have l105 := (h_2_0.al e52).trans h_2_1
          refine k_alen t104 (by decide) (by decide) l105 (by decide) (fun x102 h103 => ?_)
          refine k_ic_ge (fun h106 => by exfalso; omega) (fun h106 => ?_)
          refine k_nil ?_
          refine hB _ _ _ _ (kgoC (is := KX4_perform_24) rfl ?_)
          refine k_aload_n rfl ?_
          obtain ⟨a109, e107, c108, t110, l111, l112⟩ := cg183 H51.1 t55
          refine k_get kg183 t55 e107 ?_
          refine k_iload rfl ?_
          refine k_iaload t110 (by omega) (by omega) (fun x113 => ?_)
          refine k_istore (ls' := [(5, .inl x113), (0, .inr (.inr (some p0))), (1, .inr (.inr (some p1))), (2, .inr (.inr (some p2))), (4, .inl v8_4)]) rfl ?_
          refine k_aload_n rfl ?_
          refine k_iload rfl ?_
          refine k_if_ne (fun h114 => ?_) (fun h114 => ?_)
          · refine hB _ _ _ _ (kgoC (is := KX4_perform_56) rfl ?_)
            refine k_iload rfl ?_
            refine k_aload_n rfl ?_
            refine k_iload rfl ?_
            refine k_laload t104 (by omega) (by omega) (fun y115 => ?_)
            refine k_stat (P := P_X11_narrowed) (Q := Q_X11_narrowed) rfl rfl (Nat.le_of_ble_eq_true rfl) rfl rfl (Nat.le_of_ble_eq_true rfl) ⟨_, _, rfl, H51⟩ (fun w116 σ117 q118 => ?_)
            obtain ⟨y119, rfl, rfl⟩ := q118
            refine k_st (st' := [.inr (.inl y119), .inr (.inr (some p0))]) rfl ?_
            refine k_nil ?_
            refine hB _ _ _ _ (kgoC (is := KX4_perform_65) rfl ?_)
            have t120 := h_0_0.x e52
            refine k_inv (P := P_X4_push) (Q := Q_X4_push) rfl rfl rfl rfl (Nat.le_of_ble_eq_true rfl) (t120.rc (by decide)) ⟨_, _, rfl, H51, t120⟩ (fun w121 σ122 q123 => ?_)
            obtain ⟨rfl, H124, e125⟩ := q123
            refine k_st (st' := []) rfl ?_
            obtain ⟨x126, e128, h127⟩ := iincC (n := 1) (m := 1) (v := v8_4) rfl (by omega) (by omega)
            refine k_iinc (ls' := [(4, .inl x126), (5, .inl x113), (0, .inr (.inr (some p0))), (1, .inr (.inr (some p1))), (2, .inr (.inr (some p2)))]) rfl e128 rfl ?_
            refine k_goto ?_
            have X129 : ExC [161, 162, 163, 164, 165, 166, 167, 168, 169] σ0 σ50 := ExC.rf.tr (e52.mo (by decide))
            have X130 : ExC [161, 162, 163, 164, 165, 166, 167, 168, 169] σ0 σ122 := X129.tr (e125.mo (by decide))
            exact hW _ _ _ _ _ (List.forall_mem_cons.2 ⟨List.Mem.tail _ (List.Mem.tail _ (List.Mem.head _)), (List.forall_mem_cons.2 ⟨List.Mem.tail _ (List.Mem.tail _ (List.Mem.tail _ (List.Mem.head _))), (List.forall_mem_cons.2 ⟨List.Mem.tail _ (List.Mem.tail _ (List.Mem.tail _ (List.Mem.tail _ (List.Mem.head _)))), (List.forall_mem_cons.2 ⟨List.Mem.head _, fun _ h => absurd h List.not_mem_nil⟩)⟩)⟩)⟩) (ih8 ((2147483647 - x126.toInt).toNat) (by omega) σ122 x126 rfl H124 X130 (by omega) (by omega))
          · refine k_nil ?_
            refine hB _ _ _ _ (kgoC (is := KX4_perform_39) rfl ?_)
            refine k_aload_n rfl ?_
            refine k_iload rfl ?_
            refine k_laload t104 (by omega) (by omega) (fun y131 => ?_)
            refine k_lconst ?_
            refine k_lcmp (fun x132 h133 g134 => ?_)
            refine k_if_eq (fun h135 => ?_) (fun h135 => ?_)
            · refine hB _ _ _ _ (kgoC (is := KX4_perform_52) rfl ?_)
              refine k_lconst ?_
              refine k_goto ?_
              refine hB _ _ _ _ (kgoC (is := KX4_perform_65) rfl ?_)
              have t136 := h_0_0.x e52
              refine k_inv (P := P_X4_push) (Q := Q_X4_push) rfl rfl rfl rfl (Nat.le_of_ble_eq_true rfl) (t136.rc (by decide)) ⟨_, _, rfl, H51, t136⟩ (fun w137 σ138 q139 => ?_)
              obtain ⟨rfl, H140, e141⟩ := q139
              refine k_st (st' := []) rfl ?_
              obtain ⟨x142, e144, h143⟩ := iincC (n := 1) (m := 1) (v := v8_4) rfl (by omega) (by omega)
              refine k_iinc (ls' := [(4, .inl x142), (5, .inl x113), (0, .inr (.inr (some p0))), (1, .inr (.inr (some p1))), (2, .inr (.inr (some p2)))]) rfl e144 rfl ?_
              refine k_goto ?_
              have X145 : ExC [161, 162, 163, 164, 165, 166, 167, 168, 169] σ0 σ50 := ExC.rf.tr (e52.mo (by decide))
              have X146 : ExC [161, 162, 163, 164, 165, 166, 167, 168, 169] σ0 σ138 := X145.tr (e141.mo (by decide))
              exact hW _ _ _ _ _ (List.forall_mem_cons.2 ⟨List.Mem.tail _ (List.Mem.tail _ (List.Mem.head _)), (List.forall_mem_cons.2 ⟨List.Mem.tail _ (List.Mem.tail _ (List.Mem.tail _ (List.Mem.head _))), (List.forall_mem_cons.2 ⟨List.Mem.tail _ (List.Mem.tail _ (List.Mem.tail _ (List.Mem.tail _ (List.Mem.head _)))), (List.forall_mem_cons.2 ⟨List.Mem.head _, fun _ h => absurd h List.not_mem_nil⟩)⟩)⟩)⟩) (ih8 ((2147483647 - x142.toInt).toNat) (by omega) σ138 x142 rfl H140 X146 (by omega) (by omega))
            · refine k_nil ?_
              refine hB _ _ _ _ (kgoC (is := KX4_perform_48) rfl ?_)
              refine k_lconst ?_
              refine k_goto ?_
              refine hB _ _ _ _ (kgoC (is := KX4_perform_65) rfl ?_)
              have t147 := h_0_0.x e52
              refine k_inv (P := P_X4_push) (Q := Q_X4_push) rfl rfl rfl rfl (Nat.le_of_ble_eq_true rfl) (t147.rc (by decide)) ⟨_, _, rfl, H51, t147⟩ (fun w148 σ149 q150 => ?_)
              obtain ⟨rfl, H151, e152⟩ := q150
              refine k_st (st' := []) rfl ?_
              obtain ⟨x153, e155, h154⟩ := iincC (n := 1) (m := 1) (v := v8_4) rfl (by omega) (by omega)
              refine k_iinc (ls' := [(4, .inl x153), (5, .inl x113), (0, .inr (.inr (some p0))), (1, .inr (.inr (some p1))), (2, .inr (.inr (some p2)))]) rfl e155 rfl ?_
              refine k_goto ?_
              have X156 : ExC [161, 162, 163, 164, 165, 166, 167, 168, 169] σ0 σ50 := ExC.rf.tr (e52.mo (by decide))
              have X157 : ExC [161, 162, 163, 164, 165, 166, 167, 168, 169] σ0 σ149 := X156.tr (e152.mo (by decide))
              exact hW _ _ _ _ _ (List.forall_mem_cons.2 ⟨List.Mem.tail _ (List.Mem.tail _ (List.Mem.head _)), (List.forall_mem_cons.2 ⟨List.Mem.tail _ (List.Mem.tail _ (List.Mem.tail _ (List.Mem.head _))), (List.forall_mem_cons.2 ⟨List.Mem.tail _ (List.Mem.tail _ (List.Mem.tail _ (List.Mem.tail _ (List.Mem.head _)))), (List.forall_mem_cons.2 ⟨List.Mem.head _, fun _ h => absurd h List.not_mem_nil⟩)⟩)⟩)⟩) (ih8 ((2147483647 - x153.toInt).toNat) (by omega) σ149 x153 rfl H151 X157 (by omega) (by omega))
    refine hB _ _ _ _ (kgoC (is := KX4_perform_0) rfl ?_)
    refine k_aload_n rfl ?_
    refine k_iload_n rfl ?_
    refine k_putI kp164 H0 h_0_0 (Or.inl fk164) (by show (-2147483648) ≤ _; omega) (by show _ ≤ 20000; omega) (fun σ158 H159 e160 c161 => ?_)
    refine k_iconst (m := 0) rfl (fun x162 h163 => ?_)
    refine k_istore (ls' := [(4, .inl x162), (0, .inr (.inr (some p0))), (1, .inr (.inr (some p1))), (2, .inr (.inr (some p2))), (3, .inl p3)]) rfl ?_
    refine k_nil ?_
    have X164 : ExC [161, 162, 163, 164, 165, 166, 167, 168, 169] σ0 σ158 := ExC.rf.tr (e160.mo (by decide))
    exact hW _ _ _ _ _ (List.forall_mem_cons.2 ⟨List.Mem.tail _ (List.Mem.head _), (List.forall_mem_cons.2 ⟨List.Mem.tail _ (List.Mem.tail _ (List.Mem.head _)), (List.forall_mem_cons.2 ⟨List.Mem.tail _ (List.Mem.tail _ (List.Mem.tail _ (List.Mem.head _))), (List.forall_mem_cons.2 ⟨List.Mem.head _, fun _ h => absurd h List.not_mem_nil⟩)⟩)⟩)⟩) (L8 _ σ158 x162 rfl H159 X164 (by omega) (by omega))
theorem lg_X4_perform : ∀ (As : List AvC) (σ : CsC), P_X4_perform As σ → lgC As ≤ rX4_perform.2.2.1 := by
  rintro As σ ⟨p0, p1, p2, p3, rfl, -⟩
  exact Nat.le_of_ble_eq_true rfl
theorem m_X4_perform (l : Launch) : CMetC l 15 89 P_X4_perform Q_X4_perform :=
  CMetC.of KX4_perform [(94, P_X4_step, Q_X4_step), (102, P_X4_enter, Q_X4_enter), (228, P_X11_narrowed, Q_X11_narrowed), (91, P_X4_push, Q_X4_push), (95, P_X4_obey, Q_X4_obey)] hX4_perform (by decide) (by decide) okX4_perform (cc1C (m_X4_step l) (by decide) (cc1C (m_X4_enter l) (by decide) (cc1C (m_X11_narrowed l) (by decide) (cc1C (m_X4_push l) (by decide) (cc1C (m_X4_obey l) (by decide) cc0C))))) (lg_X4_perform) (b_X4_perform)

abbrev P_X4_report : CpC := fun As σ => ∃ (p0 : Nat) (p1 : Int32), As = [.inr (.inr (some p0)), .inl p1] ∧ HIC σ ∧ TyC σ p0 5
abbrev Q_X4_report : CqC := fun As σ w τ => match As with
  | [.inr (.inr (some p0)), .inl p1] => ∃ r : Int64, w = some (.inr (.inl r)) ∧ σ = τ
  | _ => False
set_option maxRecDepth 100000 in
set_option maxHeartbeats 4000000 in
theorem b_X4_report : TbC KX4_report [] P_X4_report Q_X4_report := by
  · rintro As σ0 ⟨p0, p1, rfl, H0, h_0_0⟩ hgr G hB hW
    change G 0 [(0, .inr (.inr (some p0))), (1, .inl p1)] [] σ0
    refine hB _ _ _ _ (kgoC (is := KX4_report_0) rfl ?_)
    refine k_iload_n rfl ?_
    refine k_tsw ?_
    refine k_swc (fun h1 => ?_) (fun h1 => ?_)
    · refine hB _ _ _ _ (kgoC (is := KX4_report_36) rfl ?_)
      refine k_aload_n rfl ?_
      obtain ⟨y4, e2, c3⟩ := cg170 (σ := σ0) (a := p0)
      refine k_get kg170 h_0_0 e2 ?_
      refine k_lreturn ?_
      exact ⟨_, rfl, rfl⟩
    refine k_swc (fun h5 => ?_) (fun h5 => ?_)
    · refine hB _ _ _ _ (kgoC (is := KX4_report_41) rfl ?_)
      refine k_aload_n rfl ?_
      obtain ⟨x8, e6, c7, h9, h10⟩ := cg165 H0.1 h_0_0
      refine k_get kg165 h_0_0 e6 ?_
      refine k_i2l (fun y11 => ?_)
      refine k_lreturn ?_
      exact ⟨_, rfl, rfl⟩
    refine k_swc (fun h12 => ?_) (fun h12 => ?_)
    · refine hB _ _ _ _ (kgoC (is := KX4_report_47) rfl ?_)
      refine k_aload_n rfl ?_
      obtain ⟨x15, e13, c14, h16, h17⟩ := cg166 H0.1 h_0_0
      refine k_get kg166 h_0_0 e13 ?_
      refine k_i2l (fun y18 => ?_)
      refine k_lreturn ?_
      exact ⟨_, rfl, rfl⟩
    refine k_swc (fun h19 => ?_) (fun h19 => ?_)
    · refine hB _ _ _ _ (kgoC (is := KX4_report_53) rfl ?_)
      refine k_aload_n rfl ?_
      obtain ⟨x22, e20, c21, h23, h24⟩ := cg167 H0.1 h_0_0
      refine k_get kg167 h_0_0 e20 ?_
      refine k_i2l (fun y25 => ?_)
      refine k_lreturn ?_
      exact ⟨_, rfl, rfl⟩
    refine k_swc (fun h26 => ?_) (fun h26 => ?_)
    · refine hB _ _ _ _ (kgoC (is := KX4_report_59) rfl ?_)
      refine k_aload_n rfl ?_
      obtain ⟨x29, e27, c28, h30, h31⟩ := cg168 H0.1 h_0_0
      refine k_get kg168 h_0_0 e27 ?_
      refine k_if_ge (fun h32 => ?_) (fun h32 => ?_)
      · refine hB _ _ _ _ (kgoC (is := KX4_report_72) rfl ?_)
        refine k_aload_n rfl ?_
        refine k_get kg168 h_0_0 (congrArg (Sum.inl : Int32 → AvC) c28) ?_
        refine k_i2l (fun y33 => ?_)
        refine k_nil ?_
        refine hB _ _ _ _ (kgoC (is := KX4_report_77) rfl ?_)
        refine k_lreturn ?_
        exact ⟨_, rfl, rfl⟩
      · refine k_nil ?_
        refine hB _ _ _ _ (kgoC (is := KX4_report_66) rfl ?_)
        refine k_ldc2_w ?_
        refine k_goto ?_
        refine hB _ _ _ _ (kgoC (is := KX4_report_77) rfl ?_)
        refine k_lreturn ?_
        exact ⟨_, rfl, rfl⟩
    refine k_swn ?_
    refine hB _ _ _ _ (kgoC (is := KX4_report_78) rfl ?_)
    refine k_iload_n rfl ?_
    refine k_bipush (m := 10) rfl (fun x34 h35 => ?_)
    refine k_ic_lt (fun h36 => ?_) (fun h36 => ?_)
    · refine hB _ _ _ _ (kgoC (is := KX4_report_107) rfl ?_)
      refine k_ldc2_w ?_
      refine k_nil ?_
      refine hB _ _ _ _ (kgoC (is := KX4_report_110) rfl ?_)
      refine k_lreturn ?_
      exact ⟨_, rfl, rfl⟩
    · refine k_nil ?_
      refine hB _ _ _ _ (kgoC (is := KX4_report_84) rfl ?_)
      refine k_iload_n rfl ?_
      refine k_bipush (m := 10) rfl (fun x37 h38 => ?_)
      have z41 := tiC p1
      refine k_isub (by omega) (by omega) (fun x39 h40 => ?_)
      refine k_aload_n rfl ?_
      obtain ⟨x44, e42, c43, h45, h46⟩ := cg166 H0.1 h_0_0
      refine k_get kg166 h_0_0 e42 ?_
      refine k_ic_ge (fun h47 => ?_) (fun h47 => ?_)
      · refine hB _ _ _ _ (kgoC (is := KX4_report_107) rfl ?_)
        refine k_ldc2_w ?_
        refine k_nil ?_
        refine hB _ _ _ _ (kgoC (is := KX4_report_110) rfl ?_)
        refine k_lreturn ?_
        exact ⟨_, rfl, rfl⟩
      · refine k_nil ?_
        refine hB _ _ _ _ (kgoC (is := KX4_report_95) rfl ?_)
        refine k_aload_n rfl ?_
        obtain ⟨a50, e48, c49, t51, l52, l53⟩ := cg157 H0.1 h_0_0
        refine k_get kg157 h_0_0 e48 ?_
        refine k_iload_n rfl ?_
        refine k_bipush (m := 10) rfl (fun x54 h55 => ?_)
        have z58 := tiC p1
        refine k_isub (by omega) (by omega) (fun x56 h57 => ?_)
        refine k_laload t51 (by omega) (by omega) (fun y59 => ?_)
        refine k_goto ?_
        refine hB _ _ _ _ (kgoC (is := KX4_report_110) rfl ?_)
        refine k_lreturn ?_
        exact ⟨_, rfl, rfl⟩
theorem lg_X4_report : ∀ (As : List AvC) (σ : CsC), P_X4_report As σ → lgC As ≤ rX4_report.2.2.1 := by
  rintro As σ ⟨p0, p1, rfl, -⟩
  exact Nat.le_of_ble_eq_true rfl
theorem m_X4_report (l : Launch) : CMetC l 1 90 P_X4_report Q_X4_report :=
  CMetC.of KX4_report [] hX4_report (by decide) (by decide) okX4_report cc0C (lg_X4_report) (b_X4_report)
