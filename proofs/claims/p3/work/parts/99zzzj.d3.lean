abbrev P_X4_push : CpC := fun As σ => ∃ (p0 : Nat) (p1 : Int64), As = [.inr (.inr (some p0)), .inr (.inl p1)] ∧ HIC σ ∧ TyC σ p0 5
abbrev Q_X4_push : CqC := fun As σ w τ => match As with
  | [.inr (.inr (some p0)), .inr (.inl p1)] => w = none ∧ HIC τ ∧ ExC [162] σ τ
  | _ => False
set_option maxRecDepth 100000 in
set_option maxHeartbeats 4000000 in
theorem m_X4_push (l : Launch) : CMetC l 1 91 P_X4_push Q_X4_push := by
  refine CMetC.of KX4_push [] hX4_push (by decide) (by decide) okX4_push cc0C ?_ ?_
  · rintro As σ ⟨p0, p1, rfl, -⟩
    exact Nat.le_of_ble_eq_true rfl
  · rintro As σ0 ⟨p0, p1, rfl, H0, h_0_0⟩ hgr G hB hW
    change G 0 [(0, .inr (.inr (some p0))), (1, .inr (.inl p1))] [] σ0
    refine hB _ _ _ _ (kgoC (is := KX4_push_0) rfl ?_)
    refine k_aload_n rfl ?_
    obtain ⟨x3, e1, c2, h4, h5⟩ := cg162 H0.1 h_0_0
    refine k_get kg162 h_0_0 e1 ?_
    refine k_aload_n rfl ?_
    obtain ⟨a8, e6, c7, t9, l10⟩ := cg151 H0.1 h_0_0
    refine k_get kg151 h_0_0 e6 ?_
    refine k_alen t9 (by decide) (by decide) l10 (by decide) (fun x11 h12 => ?_)
    refine k_ic_ge (fun h13 => ?_) (fun h13 => ?_)
    · refine hB _ _ _ _ (kgoC (is := KX4_push_32) rfl ?_)
      refine k_return ?_
      exact ⟨rfl, H0, (ExC.rf : ExC [162] σ0 σ0)⟩
    · refine k_nil ?_
      refine hB _ _ _ _ (kgoC (is := KX4_push_12) rfl ?_)
      refine k_aload_n rfl ?_
      refine k_get kg151 h_0_0 (congrArg (fun z : Option Nat => (Sum.inr (Sum.inr z) : AvC)) c7) ?_
      refine k_aload_n rfl ?_
      refine k_get kg162 h_0_0 (congrArg (Sum.inl : Int32 → AvC) c2) ?_
      refine k_lload_n rfl ?_
      refine k_lastore H0 t9 (by omega) (by omega) (fun σ14 H15 e16 => ?_)
      refine k_aload_n rfl ?_
      refine k_dupR ?_
      have t17 := h_0_0.x e16
      have c18 := (h_0_0.mi e16 (by decide)).trans c2
      refine k_get kg162 t17 (congrArg (Sum.inl : Int32 → AvC) c18) ?_
      refine k_iconst (m := 1) rfl (fun x19 h20 => ?_)
      refine k_iadd (by omega) (by omega) (fun x21 h22 => ?_)
      refine k_putI kp162 H15 t17 (Or.inl fk162) (by show 0 ≤ _; omega) (by show _ ≤ 7500; omega) (fun σ23 H24 e25 c26 => ?_)
      refine k_nil ?_
      refine hB _ _ _ _ (kgoC (is := KX4_push_32) rfl ?_)
      refine k_return ?_
      have X27 : ExC [162] σ0 σ14 := ExC.rf.tr (e16.mo (by decide))
      have X28 : ExC [162] σ0 σ23 := X27.tr (e25.mo (by decide))
      exact ⟨rfl, H24, X28⟩

abbrev P_X4_pop : CpC := fun As σ => ∃ (p0 : Nat), As = [.inr (.inr (some p0))] ∧ HIC σ ∧ TyC σ p0 5
abbrev Q_X4_pop : CqC := fun As σ w τ => match As with
  | [.inr (.inr (some p0))] => ∃ r : Int64, w = some (.inr (.inl r)) ∧ HIC τ ∧ ExC [162] σ τ
  | _ => False
set_option maxRecDepth 100000 in
set_option maxHeartbeats 4000000 in
theorem m_X4_pop (l : Launch) : CMetC l 1 92 P_X4_pop Q_X4_pop := by
  refine CMetC.of KX4_pop [] hX4_pop (by decide) (by decide) okX4_pop cc0C ?_ ?_
  · rintro As σ ⟨p0, rfl, -⟩
    exact Nat.le_of_ble_eq_true rfl
  · rintro As σ0 ⟨p0, rfl, H0, h_0_0⟩ hgr G hB hW
    change G 0 [(0, .inr (.inr (some p0)))] [] σ0
    refine hB _ _ _ _ (kgoC (is := KX4_pop_0) rfl ?_)
    refine k_aload_n rfl ?_
    obtain ⟨x3, e1, c2, h4, h5⟩ := cg162 H0.1 h_0_0
    refine k_get kg162 h_0_0 e1 ?_
    refine k_if_gt (fun h6 => ?_) (fun h6 => ?_)
    · refine hB _ _ _ _ (kgoC (is := KX4_pop_9) rfl ?_)
      refine k_aload_n rfl ?_
      refine k_dupR ?_
      refine k_get kg162 h_0_0 (congrArg (Sum.inl : Int32 → AvC) c2) ?_
      refine k_iconst (m := 1) rfl (fun x7 h8 => ?_)
      refine k_isub (by omega) (by omega) (fun x9 h10 => ?_)
      refine k_putI kp162 H0 h_0_0 (Or.inl fk162) (by show 0 ≤ _; omega) (by show _ ≤ 7500; omega) (fun σ11 H12 e13 c14 => ?_)
      refine k_aload_n rfl ?_
      have t15 := h_0_0.x e13
      obtain ⟨a18, e16, c17, t19, l20⟩ := cg151 H12.1 t15
      refine k_get kg151 t15 e16 ?_
      refine k_aload_n rfl ?_
      refine k_get kg162 t15 (congrArg (Sum.inl : Int32 → AvC) c14) ?_
      refine k_laload t19 (by omega) (by omega) (fun y21 => ?_)
      refine k_lreturn ?_
      have X22 : ExC [162] σ0 σ11 := ExC.rf.tr (e13.mo (by decide))
      exact ⟨_, rfl, H12, X22⟩
    · refine k_nil ?_
      refine hB _ _ _ _ (kgoC (is := KX4_pop_7) rfl ?_)
      refine k_lconst ?_
      refine k_lreturn ?_
      exact ⟨_, rfl, H0, (ExC.rf : ExC [162] σ0 σ0)⟩

abbrev P_X4_slot : CpC := fun As σ => ∃ (p0 : Nat) (p1 : Int32), As = [.inr (.inr (some p0)), .inl p1] ∧ HIC σ ∧ TyC σ p0 5
abbrev Q_X4_slot : CqC := fun As σ w τ => match As with
  | [.inr (.inr (some p0)), .inl p1] => ∃ r : Int32, w = some (.inl r) ∧ σ = τ ∧ 0 ≤ r.toInt ∧ r.toInt ≤ 1799
  | _ => False
set_option maxRecDepth 100000 in
set_option maxHeartbeats 4000000 in
theorem m_X4_slot (l : Launch) : CMetC l 1 93 P_X4_slot Q_X4_slot := by
  refine CMetC.of KX4_slot [] hX4_slot (by decide) (by decide) okX4_slot cc0C ?_ ?_
  · rintro As σ ⟨p0, p1, rfl, -⟩
    exact Nat.le_of_ble_eq_true rfl
  · rintro As σ0 ⟨p0, p1, rfl, H0, h_0_0⟩ hgr G hB hW
    change G 0 [(0, .inr (.inr (some p0))), (1, .inl p1)] [] σ0
    refine hB _ _ _ _ (kgoC (is := KX4_slot_0) rfl ?_)
    refine k_aload_n rfl ?_
    obtain ⟨x3, e1, c2, h4, h5⟩ := cg163 H0.1 h_0_0
    refine k_get kg163 h_0_0 e1 ?_
    refine k_iconst (m := 1) rfl (fun x6 h7 => ?_)
    refine k_isub (by omega) (by omega) (fun x8 h9 => ?_)
    refine k_bipush (m := 60) rfl (fun x10 h11 => ?_)
    refine k_imul_u (fun x12 => ?_)
    refine k_iload_n rfl ?_
    have z15 := tiC x12
    have z16 := tiC p1
    refine k_iadd_u (fun x13 => ?_)
    refine k_istore_n (ls' := [(2, .inl x13), (0, .inr (.inr (some p0))), (1, .inl p1)]) rfl ?_
    refine k_iload_n rfl ?_
    refine k_if_lt (fun h17 => ?_) (fun h17 => ?_)
    · refine hB _ _ _ _ (kgoC (is := KX4_slot_29) rfl ?_)
      refine k_iconst (m := 0) rfl (fun x18 h19 => ?_)
      refine k_nil ?_
      refine hB _ _ _ _ (kgoC (is := KX4_slot_30) rfl ?_)
      refine k_ireturn (fun hz => absurd hz (by decide)) ?_
      exact ⟨_, rfl, rfl, (by omega), (by omega)⟩
    · refine k_nil ?_
      refine hB _ _ _ _ (kgoC (is := KX4_slot_16) rfl ?_)
      refine k_iload_n rfl ?_
      refine k_aload_n rfl ?_
      obtain ⟨a22, e20, c21, t23, l24⟩ := cg150 H0.1 h_0_0
      refine k_get kg150 h_0_0 e20 ?_
      refine k_alen t23 (by decide) (by decide) l24 (by decide) (fun x25 h26 => ?_)
      refine k_ic_ge (fun h27 => ?_) (fun h27 => ?_)
      · refine hB _ _ _ _ (kgoC (is := KX4_slot_29) rfl ?_)
        refine k_iconst (m := 0) rfl (fun x28 h29 => ?_)
        refine k_nil ?_
        refine hB _ _ _ _ (kgoC (is := KX4_slot_30) rfl ?_)
        refine k_ireturn (fun hz => absurd hz (by decide)) ?_
        exact ⟨_, rfl, rfl, (by omega), (by omega)⟩
      · refine k_nil ?_
        refine hB _ _ _ _ (kgoC (is := KX4_slot_25) rfl ?_)
        refine k_iload_n rfl ?_
        refine k_goto ?_
        refine hB _ _ _ _ (kgoC (is := KX4_slot_30) rfl ?_)
        refine k_ireturn (fun hz => absurd hz (by decide)) ?_
        exact ⟨_, rfl, rfl, (by omega), (by omega)⟩

abbrev P_X4_step : CpC := fun As σ => ∃ (p0 : Nat), As = [.inr (.inr (some p0))] ∧ HIC σ ∧ TyC σ p0 5
abbrev Q_X4_step : CqC := fun As σ w τ => match As with
  | [.inr (.inr (some p0))] => ∃ r : Int32, w = some (.inl r) ∧ HIC τ ∧ ExC [165, 169] σ τ ∧ 0 ≤ r.toInt ∧ r.toInt ≤ 1 ∧ (r.toInt = 1 → (fIC τ p0 167).toInt < (fIC τ p0 165).toInt)
  | _ => False
set_option maxRecDepth 100000 in
set_option maxHeartbeats 4000000 in
theorem m_X4_step (l : Launch) : CMetC l 1 94 P_X4_step Q_X4_step := by
  refine CMetC.of KX4_step [] hX4_step (by decide) (by decide) okX4_step cc0C ?_ ?_
  · rintro As σ ⟨p0, rfl, -⟩
    exact Nat.le_of_ble_eq_true rfl
  · rintro As σ0 ⟨p0, rfl, H0, h_0_0⟩ hgr G hB hW
    change G 0 [(0, .inr (.inr (some p0)))] [] σ0
    refine hB _ _ _ _ (kgoC (is := KX4_step_0) rfl ?_)
    refine k_aload_n rfl ?_
    obtain ⟨x3, e1, c2, h4, h5⟩ := cg165 H0.1 h_0_0
    refine k_get kg165 h_0_0 e1 ?_
    refine k_aload_n rfl ?_
    obtain ⟨x8, e6, c7, h9, h10⟩ := cg164 H0.1 h_0_0
    refine k_get kg164 h_0_0 e6 ?_
    refine k_ic_lt (fun h11 => ?_) (fun h11 => ?_)
    · refine hB _ _ _ _ (kgoC (is := KX4_step_18) rfl ?_)
      refine k_aload_n rfl ?_
      refine k_dupR ?_
      refine k_get kg165 h_0_0 (congrArg (Sum.inl : Int32 → AvC) c2) ?_
      refine k_iconst (m := 1) rfl (fun x12 h13 => ?_)
      refine k_iadd (by omega) (by omega) (fun x14 h15 => ?_)
      refine k_p165 H0 h_0_0 c2 (by omega) (by omega) (fun σ16 H17 e18 c19 => ?_)
      refine k_iconst (m := 1) rfl (fun x20 h21 => ?_)
      refine k_ireturn (fun _ => b01C (by omega) (by omega)) ?_
      have X22 : ExC [165, 169] σ0 σ16 := ExC.rf.tr (e18.mo (by decide))
      exact ⟨_, rfl, H17, X22, (by omega), (by omega), (by intro _; have z := H0.x5 h_0_0; have z1 := congrArg Int32.toInt c2; have z2 := congrArg Int32.toInt (h_0_0.mi e18 (k := 167) (by decide)); have z3 := congrArg Int32.toInt c19; omega)⟩
    · refine k_nil ?_
      refine hB _ _ _ _ (kgoC (is := KX4_step_11) rfl ?_)
      refine k_aload_n rfl ?_
      refine k_iconst (m := 3) rfl (fun x23 h24 => ?_)
      refine k_putI kp169 H0 h_0_0 (Or.inl fk169) (tiC x23).1 (tiC x23).2 (fun σ25 H26 e27 c28 => ?_)
      refine k_iconst (m := 0) rfl (fun x29 h30 => ?_)
      refine k_ireturn (fun _ => b01C (by omega) (by omega)) ?_
      have X31 : ExC [165, 169] σ0 σ25 := ExC.rf.tr (e27.mo (by decide))
      exact ⟨_, rfl, H26, X31, (by omega), (by omega), (fun hz => by exfalso; omega)⟩

abbrev P_X4_prepare : CpC := fun As σ => ∃ (p0 : Nat) (p1 : Nat) (p2 : Int32), As = [.inr (.inr (some p0)), .inr (.inr (some p1)), .inl p2] ∧ HIC σ ∧ TyC σ p0 5 ∧ TyC σ p1 100 ∧ alC σ p1 = 40 ∧ ghC σ p1 = 0 ∧ 0 ≤ p2.toInt ∧ p2.toInt ≤ 40
abbrev Q_X4_prepare : CqC := fun As σ w τ => match As with
  | [.inr (.inr (some p0)), .inr (.inr (some p1)), .inl p2] => w = none ∧ HIC τ ∧ ExC [159, 160, 162, 163, 165, 166, 167, 168, 169] σ τ
  | _ => False
set_option maxRecDepth 100000 in
set_option maxHeartbeats 4000000 in
theorem m_X4_prepare (l : Launch) : CMetC l 1 88 P_X4_prepare Q_X4_prepare := by
  refine CMetC.of KX4_prepare [] hX4_prepare (by decide) (by decide) okX4_prepare cc0C ?_ ?_
  · rintro As σ ⟨p0, p1, p2, rfl, -⟩
    exact Nat.le_of_ble_eq_true rfl
  · rintro As σ0 ⟨p0, p1, p2, rfl, H0, h_0_0, h_1_0, h_1_1, h_1_2, h_2_0, h_2_1⟩ hgr G hB hW
    change G 0 [(0, .inr (.inr (some p0))), (1, .inr (.inr (some p1))), (2, .inl p2)] [] σ0
    refine hB _ _ _ _ (kgoC (is := KX4_prepare_0) rfl ?_)
    refine k_aload_n rfl ?_
    refine k_aload_n rfl ?_
    refine k_x159 rfl rfl rfl (Nat.le_of_ble_eq_true rfl) H0 h_0_0 h_1_0 h_1_2 h_1_1 (by decide) (by omega) (fun σ1 H2 e3 _ => ?_)
    refine k_aload_n rfl ?_
    refine k_iconst (m := 0) rfl (fun x4 h5 => ?_)
    have t6 := h_0_0.x e3
    refine k_putI kp162 H2 t6 (Or.inl fk162) (by show 0 ≤ _; omega) (by show _ ≤ 7500; omega) (fun σ7 H8 e9 c10 => ?_)
    refine k_aload_n rfl ?_
    refine k_iconst (m := 0) rfl (fun x11 h12 => ?_)
    have t13 := t6.x e9
    refine k_putI kp163 H8 t13 (Or.inl fk163) (by show 0 ≤ _; omega) (by show _ ≤ 30; omega) (fun σ14 H15 e16 c17 => ?_)
    refine k_aload_n rfl ?_
    refine k_iconst (m := 0) rfl (fun x18 h19 => ?_)
    have t23 := t13.x e16
    refine k_z165 rfl H15 t23 (by omega) (fun σ20 H21 e22 => ?_)
    refine k_aload_n rfl ?_
    refine k_iconst (m := (-1)) rfl (fun x24 h25 => ?_)
    have t26 := t23.x e22
    refine k_putI kp168 H21 t26 (Or.inl fk168) (tiC x24).1 (tiC x24).2 (fun σ27 H28 e29 c30 => ?_)
    refine k_aload_n rfl ?_
    refine k_lconst ?_
    have t31 := t26.x e29
    refine k_putL kg170 H28 t31 fk170 (fun σ32 H33 e34 c35 => ?_)
    refine k_aload_n rfl ?_
    refine k_bipush (m := 6) rfl (fun x36 h37 => ?_)
    have t38 := t31.x e34
    refine k_putI kp169 H33 t38 (Or.inl fk169) (tiC x36).1 (tiC x36).2 (fun σ39 H40 e41 c42 => ?_)
    refine k_return ?_
    have X43 : ExC [159, 160, 162, 163, 165, 166, 167, 168, 169] σ0 σ1 := ExC.rf.tr (e3.mo (by decide))
    have X44 : ExC [159, 160, 162, 163, 165, 166, 167, 168, 169] σ0 σ7 := X43.tr (e9.mo (by decide))
    have X45 : ExC [159, 160, 162, 163, 165, 166, 167, 168, 169] σ0 σ14 := X44.tr (e16.mo (by decide))
    have X46 : ExC [159, 160, 162, 163, 165, 166, 167, 168, 169] σ0 σ20 := X45.tr (e22.mo (by decide))
    have X47 : ExC [159, 160, 162, 163, 165, 166, 167, 168, 169] σ0 σ27 := X46.tr (e29.mo (by decide))
    have X48 : ExC [159, 160, 162, 163, 165, 166, 167, 168, 169] σ0 σ32 := X47.tr (e34.mo (by decide))
    have X49 : ExC [159, 160, 162, 163, 165, 166, 167, 168, 169] σ0 σ39 := X48.tr (e41.mo (by decide))
    exact ⟨rfl, H40, X49⟩

abbrev P_X4_tellNumber : CpC := fun As σ => ∃ (p0 : Nat) (p1 : Int64), As = [.inr (.inr (some p0)), .inr (.inl p1)] ∧ HIC σ ∧ TyC σ p0 5
abbrev Q_X4_tellNumber : CqC := fun As σ w τ => match As with
  | [.inr (.inr (some p0)), .inr (.inl p1)] => w = none ∧ HIC τ ∧ ExC [162, 166, 169] σ τ
  | _ => False
set_option maxRecDepth 100000 in
set_option maxHeartbeats 4000000 in
theorem m_X4_tellNumber (l : Launch) : CMetC l 2 101 P_X4_tellNumber Q_X4_tellNumber := by
  refine CMetC.of KX4_tellNumber [(91, P_X4_push, Q_X4_push)] hX4_tellNumber (by decide) (by decide) okX4_tellNumber (cc1C (m_X4_push l) (by decide) cc0C) ?_ ?_
  · rintro As σ ⟨p0, p1, rfl, -⟩
    exact Nat.le_of_ble_eq_true rfl
  · rintro As σ0 ⟨p0, p1, rfl, H0, h_0_0⟩ hgr G hB hW
    change G 0 [(0, .inr (.inr (some p0))), (1, .inr (.inl p1))] [] σ0
    refine hB _ _ _ _ (kgoC (is := KX4_tellNumber_0) rfl ?_)
    refine k_aload_n rfl ?_
    obtain ⟨x3, e1, c2, h4, h5⟩ := cg166 H0.1 h_0_0
    refine k_get kg166 h_0_0 e1 ?_
    refine k_sipush (m := 200) rfl (fun x6 h7 => ?_)
    refine k_ic_lt (fun h8 => ?_) (fun h8 => ?_)
    · refine hB _ _ _ _ (kgoC (is := KX4_tellNumber_16) rfl ?_)
      refine k_aload_n rfl ?_
      obtain ⟨a11, e9, c10, t12, l13⟩ := cg157 H0.1 h_0_0
      refine k_get kg157 h_0_0 e9 ?_
      refine k_aload_n rfl ?_
      refine k_get kg166 h_0_0 (congrArg (Sum.inl : Int32 → AvC) c2) ?_
      refine k_lload_n rfl ?_
      refine k_lastore H0 t12 (by omega) (by omega) (fun σ14 H15 e16 => ?_)
      refine k_aload_n rfl ?_
      refine k_dupR ?_
      have t17 := h_0_0.x e16
      have c18 := (h_0_0.mi e16 (by decide)).trans c2
      refine k_get kg166 t17 (congrArg (Sum.inl : Int32 → AvC) c18) ?_
      refine k_iconst (m := 1) rfl (fun x19 h20 => ?_)
      refine k_iadd (by omega) (by omega) (fun x21 h22 => ?_)
      refine k_putI kp166 H15 t17 (Or.inl fk166) (by show 0 ≤ _; omega) (by show _ ≤ 200; omega) (fun σ23 H24 e25 c26 => ?_)
      refine k_aload_n rfl ?_
      refine k_lconst ?_
      have t27 := t17.x e25
      refine k_inv (P := P_X4_push) (Q := Q_X4_push) rfl rfl rfl rfl (Nat.le_of_ble_eq_true rfl) (t27.rc (by decide)) ⟨_, _, rfl, H24, t27⟩ (fun w28 σ29 q30 => ?_)
      obtain ⟨rfl, H31, e32⟩ := q30
      refine k_st (st' := []) rfl ?_
      refine k_return ?_
      have X33 : ExC [162, 166, 169] σ0 σ14 := ExC.rf.tr (e16.mo (by decide))
      have X34 : ExC [162, 166, 169] σ0 σ23 := X33.tr (e25.mo (by decide))
      have X35 : ExC [162, 166, 169] σ0 σ29 := X34.tr (e32.mo (by decide))
      exact ⟨rfl, H31, X35⟩
    · refine k_nil ?_
      refine hB _ _ _ _ (kgoC (is := KX4_tellNumber_10) rfl ?_)
      refine k_aload_n rfl ?_
      refine k_iconst (m := 5) rfl (fun x36 h37 => ?_)
      refine k_putI kp169 H0 h_0_0 (Or.inl fk169) (tiC x36).1 (tiC x36).2 (fun σ38 H39 e40 c41 => ?_)
      refine k_return ?_
      have X42 : ExC [162, 166, 169] σ0 σ38 := ExC.rf.tr (e40.mo (by decide))
      exact ⟨rfl, H39, X42⟩

abbrev P_X4_enter : CpC := fun As σ => ∃ (p0 : Nat) (p1 : Nat), As = [.inr (.inr (some p0)), .inr (.inr (some p1))] ∧ HIC σ ∧ TyC σ p0 5 ∧ TyC σ p1 6
abbrev Q_X4_enter : CqC := fun As σ w τ => match As with
  | [.inr (.inr (some p0)), .inr (.inr (some p1))] => w = none ∧ HIC τ ∧ ExC [161, 162, 163, 169] σ τ
  | _ => False
set_option maxRecDepth 100000 in
set_option maxHeartbeats 4000000 in
theorem m_X4_enter (l : Launch) : CMetC l 2 102 P_X4_enter Q_X4_enter := by
  refine CMetC.of KX4_enter [(93, P_X4_slot, Q_X4_slot), (92, P_X4_pop, Q_X4_pop)] hX4_enter (by decide) (by decide) okX4_enter (cc1C (m_X4_slot l) (by decide) (cc1C (m_X4_pop l) (by decide) cc0C)) ?_ ?_
  · rintro As σ ⟨p0, p1, rfl, -⟩
    exact Nat.le_of_ble_eq_true rfl
  · rintro As σ0 ⟨p0, p1, rfl, H0, h_0_0, h_1_0⟩ hgr G hB hW
    change G 0 [(0, .inr (.inr (some p0))), (1, .inr (.inr (some p1)))] [] σ0
    have L45 : ∀ (n45 : Nat), ∀ (σ1 : CsC) (v45_2 : Int32), (v45_2.toInt + 2147483648).toNat = n45 → HIC σ1 → ExC [161, 162, 163, 169] σ0 σ1 → (-1) ≤ v45_2.toInt → v45_2.toInt ≤ 5 → G 45 [(0, .inr (.inr (some p0))), (1, .inr (.inr (some p1))), (2, .inl v45_2)] [] σ1 := by
      intro n45
      induction n45 using Nat.strongRecOn with
      | _ n45 ih45 =>
        intro σ1 v45_2 n45_ H2 e3 h4 h5
        refine hB _ _ _ _ (kgoC (is := KX4_enter_45) rfl ?_)
        refine k_iload_n rfl ?_
        refine k_if_lt (fun h6 => ?_) (fun h6 => ?_)
        · refine hB _ _ _ _ (kgoC (is := KX4_enter_74) rfl ?_)
          refine k_aload_n rfl ?_
          have t7 := h_0_0.x e3
          obtain ⟨a10, e8, c9, t11, l12, l13⟩ := cg152 H2.1 t7
          refine k_get kg152 t7 e8 ?_
          refine k_aload_n rfl ?_
          obtain ⟨x16, e14, c15, h17, h18⟩ := cg163 H2.1 t7
          refine k_get kg163 t7 e14 ?_
          refine k_aload_n rfl ?_
          obtain ⟨x21, e19, c20, h22, h23⟩ := cg162 H2.1 t7
          refine k_get kg162 t7 e19 ?_
          refine k_iastore1 H2 t11 l13 (by omega) (by omega) (by omega) (by omega) (fun σ24 H25 e26 => ?_)
          refine k_aload_n rfl ?_
          refine k_aload_n rfl ?_
          have t27 := h_1_0.x e3
          have t28 := t27.x e26
          obtain ⟨a31, e29, c30, t32, k33⟩ := cg186 H25.1 t28
          refine k_get kg186 t28 e29 ?_
          obtain ⟨x36, e34, c35, h37, h38⟩ := cg289 H25.1 t32
          refine k_get kg289 t32 e34 ?_
          have t39 := t7.x e26
          refine k_putI kp161 H25 t39 (Or.inl fk161) (tiC x36).1 (tiC x36).2 (fun σ40 H41 e42 c43 => ?_)
          refine k_return ?_
          have X44 : ExC [161, 162, 163, 169] σ0 σ1 := ExC.rf.tr (e3.mo (by decide))
          have X45 : ExC [161, 162, 163, 169] σ0 σ24 := X44.tr (e26.mo (by decide))
          have X46 : ExC [161, 162, 163, 169] σ0 σ40 := X45.tr (e42.mo (by decide))
          exact ⟨rfl, H41, X46⟩
        · refine k_nil ?_
          refine hB _ _ _ _ (kgoC (is := KX4_enter_49) rfl ?_)
          refine k_aload_n rfl ?_
          have t47 := h_0_0.x e3
          obtain ⟨a50, e48, c49, t51, l52⟩ := cg150 H2.1 t47
          refine k_get kg150 t47 e48 ?_
          refine k_aload_n rfl ?_
          refine k_aload_n rfl ?_
          have t53 := h_1_0.x e3
          obtain ⟨x56, e54, c55, h57, h58⟩ := cg184 H2.1 t53
          refine k_get kg184 t53 e54 ?_
          refine k_iload_n rfl ?_
          have z61 := tiC x56
          refine k_iadd_u (fun x59 => ?_)
          refine k_inv (P := P_X4_slot) (Q := Q_X4_slot) rfl rfl rfl rfl (Nat.le_of_ble_eq_true rfl) (t47.rc (by decide)) ⟨_, _, rfl, H2, t47⟩ (fun w62 σ63 q64 => ?_)
          obtain ⟨x65, rfl, rfl, h66, h67⟩ := q64
          refine k_st (st' := [.inl x65, .inr (.inr (some a50))]) rfl ?_
          refine k_aload_n rfl ?_
          refine k_inv (P := P_X4_pop) (Q := Q_X4_pop) rfl rfl rfl rfl (Nat.le_of_ble_eq_true rfl) (t47.rc (by decide)) ⟨_, rfl, H2, t47⟩ (fun w68 σ69 q70 => ?_)
          obtain ⟨y71, rfl, H72, e73⟩ := q70
          refine k_st (st' := [.inr (.inl y71), .inl x65, .inr (.inr (some a50))]) rfl ?_
          have t74 := t51.x e73
          have l75 := (t51.al e73).trans l52
          refine k_lastore H72 t74 (by omega) (by omega) (fun σ76 H77 e78 => ?_)
          obtain ⟨x79, e81, h80⟩ := iincC (n := (-1)) (m := (-1)) (v := v45_2) rfl (by omega) (by omega)
          refine k_iinc (ls' := [(2, .inl x79), (0, .inr (.inr (some p0))), (1, .inr (.inr (some p1)))]) rfl e81 rfl ?_
          refine k_goto ?_
          have X82 : ExC [161, 162, 163, 169] σ0 σ1 := ExC.rf.tr (e3.mo (by decide))
          have X83 : ExC [161, 162, 163, 169] σ0 σ69 := X82.tr (e73.mo (by decide))
          have X84 : ExC [161, 162, 163, 169] σ0 σ76 := X83.tr (e78.mo (by decide))
          exact hW _ _ _ _ _ (List.forall_mem_cons.2 ⟨List.Mem.tail _ (List.Mem.head _), (List.forall_mem_cons.2 ⟨List.Mem.tail _ (List.Mem.tail _ (List.Mem.head _)), (List.forall_mem_cons.2 ⟨List.Mem.head _, fun _ h => absurd h List.not_mem_nil⟩)⟩)⟩) (ih45 ((x79.toInt + 2147483648).toNat) (by omega) σ76 x79 rfl H77 X84 (by omega) (by omega))
    refine hB _ _ _ _ (kgoC (is := KX4_enter_0) rfl ?_)
    refine k_aload_n rfl ?_
    obtain ⟨x87, e85, c86, h88, h89⟩ := cg163 H0.1 h_0_0
    refine k_get kg163 h_0_0 e85 ?_
    refine k_bipush (m := 30) rfl (fun x90 h91 => ?_)
    refine k_ic_lt (fun h92 => ?_) (fun h92 => ?_)
    · refine hB _ _ _ _ (kgoC (is := KX4_enter_15) rfl ?_)
      refine k_aload_n rfl ?_
      obtain ⟨a95, e93, c94, t96, l97, l98⟩ := cg153 H0.1 h_0_0
      refine k_get kg153 h_0_0 e93 ?_
      refine k_aload_n rfl ?_
      refine k_get kg163 h_0_0 (congrArg (Sum.inl : Int32 → AvC) c86) ?_
      refine k_aload_n rfl ?_
      obtain ⟨x101, e99, c100, h102, h103⟩ := cg161 H0.1 h_0_0
      refine k_get kg161 h_0_0 e99 ?_
      refine k_iastore H0 t96 l98 (by omega) (by omega) (fun σ104 H105 e106 => ?_)
      refine k_aload_n rfl ?_
      refine k_dupR ?_
      have t107 := h_0_0.x e106
      have c108 := (h_0_0.mi e106 (by decide)).trans c86
      refine k_get kg163 t107 (congrArg (Sum.inl : Int32 → AvC) c108) ?_
      refine k_iconst (m := 1) rfl (fun x109 h110 => ?_)
      refine k_iadd (by omega) (by omega) (fun x111 h112 => ?_)
      refine k_putI kp163 H105 t107 (Or.inl fk163) (by show 0 ≤ _; omega) (by show _ ≤ 30; omega) (fun σ113 H114 e115 c116 => ?_)
      refine k_aload_n rfl ?_
      have t117 := h_1_0.x e106
      have t118 := t117.x e115
      obtain ⟨x121, e119, c120, h122, h123⟩ := cg185 H114.1 t118
      refine k_get kg185 t118 e119 ?_
      refine k_iconst (m := 1) rfl (fun x124 h125 => ?_)
      refine k_isub (by omega) (by omega) (fun x126 h127 => ?_)
      refine k_istore_n (ls' := [(2, .inl x126), (0, .inr (.inr (some p0))), (1, .inr (.inr (some p1)))]) rfl ?_
      refine k_nil ?_
      have X128 : ExC [161, 162, 163, 169] σ0 σ104 := ExC.rf.tr (e106.mo (by decide))
      have X129 : ExC [161, 162, 163, 169] σ0 σ113 := X128.tr (e115.mo (by decide))
      exact hW _ _ _ _ _ (List.forall_mem_cons.2 ⟨List.Mem.tail _ (List.Mem.head _), (List.forall_mem_cons.2 ⟨List.Mem.tail _ (List.Mem.tail _ (List.Mem.head _)), (List.forall_mem_cons.2 ⟨List.Mem.head _, fun _ h => absurd h List.not_mem_nil⟩)⟩)⟩) (L45 _ σ113 x126 rfl H114 X129 (by omega) (by omega))
    · refine k_nil ?_
      refine hB _ _ _ _ (kgoC (is := KX4_enter_9) rfl ?_)
      refine k_aload_n rfl ?_
      refine k_iconst (m := 4) rfl (fun x130 h131 => ?_)
      refine k_putI kp169 H0 h_0_0 (Or.inl fk169) (tiC x130).1 (tiC x130).2 (fun σ132 H133 e134 c135 => ?_)
      refine k_return ?_
      have X136 : ExC [161, 162, 163, 169] σ0 σ132 := ExC.rf.tr (e134.mo (by decide))
      exact ⟨rfl, H133, X136⟩

abbrev P_X4_leaveCall : CpC := fun As σ => ∃ (p0 : Nat) (p1 : Int64), As = [.inr (.inr (some p0)), .inr (.inl p1)] ∧ HIC σ ∧ TyC σ p0 5
abbrev Q_X4_leaveCall : CqC := fun As σ w τ => match As with
  | [.inr (.inr (some p0)), .inr (.inl p1)] => w = none ∧ HIC τ ∧ ExC [161, 162, 163, 169] σ τ
  | _ => False
set_option maxRecDepth 100000 in
set_option maxHeartbeats 4000000 in
theorem m_X4_leaveCall (l : Launch) : CMetC l 2 103 P_X4_leaveCall Q_X4_leaveCall := by
  refine CMetC.of KX4_leaveCall [(91, P_X4_push, Q_X4_push)] hX4_leaveCall (by decide) (by decide) okX4_leaveCall (cc1C (m_X4_push l) (by decide) cc0C) ?_ ?_
  · rintro As σ ⟨p0, p1, rfl, -⟩
    exact Nat.le_of_ble_eq_true rfl
  · rintro As σ0 ⟨p0, p1, rfl, H0, h_0_0⟩ hgr G hB hW
    change G 0 [(0, .inr (.inr (some p0))), (1, .inr (.inl p1))] [] σ0
    refine hB _ _ _ _ (kgoC (is := KX4_leaveCall_0) rfl ?_)
    refine k_aload_n rfl ?_
    obtain ⟨x3, e1, c2, h4, h5⟩ := cg163 H0.1 h_0_0
    refine k_get kg163 h_0_0 e1 ?_
    refine k_if_gt (fun h6 => ?_) (fun h6 => ?_)
    · refine hB _ _ _ _ (kgoC (is := KX4_leaveCall_13) rfl ?_)
      refine k_aload_n rfl ?_
      refine k_aload_n rfl ?_
      obtain ⟨a9, e7, c8, t10, l11, l12⟩ := cg152 H0.1 h_0_0
      refine k_get kg152 h_0_0 e7 ?_
      refine k_aload_n rfl ?_
      refine k_get kg163 h_0_0 (congrArg (Sum.inl : Int32 → AvC) c2) ?_
      refine k_iaload1 H0 t10 l12 (by omega) (by omega) (fun x13 h14 h15 => ?_)
      refine k_putI kp162 H0 h_0_0 (Or.inl fk162) (by show 0 ≤ _; omega) (by show _ ≤ 7500; omega) (fun σ16 H17 e18 c19 => ?_)
      refine k_aload_n rfl ?_
      refine k_dupR ?_
      have t20 := h_0_0.x e18
      have c21 := (h_0_0.mi e18 (by decide)).trans c2
      refine k_get kg163 t20 (congrArg (Sum.inl : Int32 → AvC) c21) ?_
      refine k_iconst (m := 1) rfl (fun x22 h23 => ?_)
      refine k_isub (by omega) (by omega) (fun x24 h25 => ?_)
      refine k_putI kp163 H17 t20 (Or.inl fk163) (by show 0 ≤ _; omega) (by show _ ≤ 30; omega) (fun σ26 H27 e28 c29 => ?_)
      refine k_aload_n rfl ?_
      refine k_aload_n rfl ?_
      have t30 := t20.x e28
      obtain ⟨a33, e31, c32, t34, l35, l36⟩ := cg153 H27.1 t30
      refine k_get kg153 t30 e31 ?_
      refine k_aload_n rfl ?_
      refine k_get kg163 t30 (congrArg (Sum.inl : Int32 → AvC) c29) ?_
      refine k_iaload t34 (by omega) (by omega) (fun x37 => ?_)
      refine k_putI kp161 H27 t30 (Or.inl fk161) (tiC x37).1 (tiC x37).2 (fun σ38 H39 e40 c41 => ?_)
      refine k_aload_n rfl ?_
      have t42 := t30.x e40
      have c43 := (t30.mi e40 (by decide)).trans c29
      refine k_get kg163 t42 (congrArg (Sum.inl : Int32 → AvC) c43) ?_
      refine k_if_ne (fun h44 => ?_) (fun h44 => ?_)
      · refine hB _ _ _ _ (kgoC (is := KX4_leaveCall_69) rfl ?_)
        refine k_aload_n rfl ?_
        refine k_lload_n rfl ?_
        refine k_inv (P := P_X4_push) (Q := Q_X4_push) rfl rfl rfl rfl (Nat.le_of_ble_eq_true rfl) (t42.rc (by decide)) ⟨_, _, rfl, H39, t42⟩ (fun w45 σ46 q47 => ?_)
        obtain ⟨rfl, H48, e49⟩ := q47
        refine k_st (st' := []) rfl ?_
        refine k_nil ?_
        refine hB _ _ _ _ (kgoC (is := KX4_leaveCall_74) rfl ?_)
        refine k_return ?_
        have X50 : ExC [161, 162, 163, 169] σ0 σ16 := ExC.rf.tr (e18.mo (by decide))
        have X51 : ExC [161, 162, 163, 169] σ0 σ26 := X50.tr (e28.mo (by decide))
        have X52 : ExC [161, 162, 163, 169] σ0 σ38 := X51.tr (e40.mo (by decide))
        have X53 : ExC [161, 162, 163, 169] σ0 σ46 := X52.tr (e49.mo (by decide))
        exact ⟨rfl, H48, X53⟩
      · refine k_nil ?_
        refine hB _ _ _ _ (kgoC (is := KX4_leaveCall_56) rfl ?_)
        refine k_aload_n rfl ?_
        refine k_iconst (m := 0) rfl (fun x54 h55 => ?_)
        refine k_putI kp169 H39 t42 (Or.inl fk169) (tiC x54).1 (tiC x54).2 (fun σ56 H57 e58 c59 => ?_)
        refine k_aload_n rfl ?_
        refine k_lload_n rfl ?_
        have t60 := t42.x e58
        refine k_putL kg170 H57 t60 fk170 (fun σ61 H62 e63 c64 => ?_)
        refine k_goto ?_
        refine hB _ _ _ _ (kgoC (is := KX4_leaveCall_74) rfl ?_)
        refine k_return ?_
        have X65 : ExC [161, 162, 163, 169] σ0 σ16 := ExC.rf.tr (e18.mo (by decide))
        have X66 : ExC [161, 162, 163, 169] σ0 σ26 := X65.tr (e28.mo (by decide))
        have X67 : ExC [161, 162, 163, 169] σ0 σ38 := X66.tr (e40.mo (by decide))
        have X68 : ExC [161, 162, 163, 169] σ0 σ56 := X67.tr (e58.mo (by decide))
        have X69 : ExC [161, 162, 163, 169] σ0 σ61 := X68.tr (e63.mo (by decide))
        exact ⟨rfl, H62, X69⟩
    · refine k_nil ?_
      refine hB _ _ _ _ (kgoC (is := KX4_leaveCall_7) rfl ?_)
      refine k_aload_n rfl ?_
      refine k_iconst (m := 0) rfl (fun x70 h71 => ?_)
      refine k_putI kp169 H0 h_0_0 (Or.inl fk169) (tiC x70).1 (tiC x70).2 (fun σ72 H73 e74 c75 => ?_)
      refine k_return ?_
      have X76 : ExC [161, 162, 163, 169] σ0 σ72 := ExC.rf.tr (e74.mo (by decide))
      exact ⟨rfl, H73, X76⟩

abbrev P_X4_operate : CpC := fun As σ => ∃ (p0 : Nat) (p1 : Nat) (p2 : Int64) (p3 : Int64), As = [.inr (.inr (some p0)), .inr (.inr (some p1)), .inr (.inl p2), .inr (.inl p3)] ∧ HIC σ ∧ TyC σ p0 5 ∧ TyC σ p1 2
abbrev Q_X4_operate : CqC := fun As σ w τ => match As with
  | [.inr (.inr (some p0)), .inr (.inr (some p1)), .inr (.inl p2), .inr (.inl p3)] => w = none ∧ HIC τ ∧ ExC [162, 169] σ τ
  | _ => False
set_option maxRecDepth 100000 in
set_option maxHeartbeats 4000000 in
theorem m_X4_operate (l : Launch) : CMetC l 3 97 P_X4_operate Q_X4_operate := by
  refine CMetC.of KX4_operate [(227, P_X11_isDivision, Q_X11_isDivision), (229, P_X11_worked, Q_X11_worked), (91, P_X4_push, Q_X4_push)] hX4_operate (by decide) (by decide) okX4_operate (cc1C (m_X11_isDivision l) (by decide) (cc1C (m_X11_worked l) (by decide) (cc1C (m_X4_push l) (by decide) cc0C))) ?_ ?_
  · rintro As σ ⟨p0, p1, p2, p3, rfl, -⟩
    exact Nat.le_of_ble_eq_true rfl
  · rintro As σ0 ⟨p0, p1, p2, p3, rfl, H0, h_0_0, h_1_0⟩ hgr G hB hW
    change G 0 [(0, .inr (.inr (some p0))), (1, .inr (.inr (some p1))), (2, .inr (.inl p2)), (4, .inr (.inl p3))] [] σ0
    refine hB _ _ _ _ (kgoC (is := KX4_operate_0) rfl ?_)
    refine k_aload_n rfl ?_
    obtain ⟨x3, e1, c2, h4, h5⟩ := cg61 H0.1 h_1_0
    refine k_get kg61 h_1_0 e1 ?_
    refine k_stat (P := P_X11_isDivision) (Q := Q_X11_isDivision) rfl rfl (Nat.le_of_ble_eq_true rfl) rfl rfl (Nat.le_of_ble_eq_true rfl) ⟨_, rfl, H0⟩ (fun w6 σ7 q8 => ?_)
    obtain ⟨x9, rfl, rfl, h10, h11⟩ := q8
    refine k_st (st' := [.inl x9]) rfl ?_
    refine k_if_eq (fun h12 => ?_) (fun h12 => ?_)
    · refine hB _ _ _ _ (kgoC (is := KX4_operate_26) rfl ?_)
      refine k_aload_n rfl ?_
      refine k_aload_n rfl ?_
      refine k_get kg61 h_1_0 (congrArg (Sum.inl : Int32 → AvC) c2) ?_
      refine k_aload_n rfl ?_
      obtain ⟨x15, e13, c14, h16, h17⟩ := cg69 H0.1 h_1_0
      refine k_get kg69 h_1_0 e13 ?_
      refine k_lload_n rfl ?_
      refine k_lload rfl ?_
      refine k_stat (P := P_X11_worked) (Q := Q_X11_worked) rfl rfl (Nat.le_of_ble_eq_true rfl) rfl rfl (Nat.le_of_ble_eq_true rfl) ⟨_, _, _, _, rfl, H0⟩ (fun w18 σ19 q20 => ?_)
      obtain ⟨y21, rfl, rfl⟩ := q20
      refine k_st (st' := [.inr (.inl y21), .inr (.inr (some p0))]) rfl ?_
      refine k_inv (P := P_X4_push) (Q := Q_X4_push) rfl rfl rfl rfl (Nat.le_of_ble_eq_true rfl) (h_0_0.rc (by decide)) ⟨_, _, rfl, H0, h_0_0⟩ (fun w22 σ23 q24 => ?_)
      obtain ⟨rfl, H25, e26⟩ := q24
      refine k_st (st' := []) rfl ?_
      refine k_nil ?_
      refine hB _ _ _ _ (kgoC (is := KX4_operate_44) rfl ?_)
      refine k_return ?_
      have X27 : ExC [162, 169] σ0 σ23 := ExC.rf.tr (e26.mo (by decide))
      exact ⟨rfl, H25, X27⟩
    · refine k_nil ?_
      refine hB _ _ _ _ (kgoC (is := KX4_operate_10) rfl ?_)
      refine k_lload rfl ?_
      refine k_lconst ?_
      refine k_lcmp (fun x28 h29 g30 => ?_)
      refine k_if_ne (fun h31 => ?_) (fun h31 => ?_)
      · refine hB _ _ _ _ (kgoC (is := KX4_operate_26) rfl ?_)
        refine k_aload_n rfl ?_
        refine k_aload_n rfl ?_
        refine k_get kg61 h_1_0 (congrArg (Sum.inl : Int32 → AvC) c2) ?_
        refine k_aload_n rfl ?_
        obtain ⟨x34, e32, c33, h35, h36⟩ := cg69 H0.1 h_1_0
        refine k_get kg69 h_1_0 e32 ?_
        refine k_lload_n rfl ?_
        refine k_lload rfl ?_
        refine k_stat (P := P_X11_worked) (Q := Q_X11_worked) rfl rfl (Nat.le_of_ble_eq_true rfl) rfl rfl (Nat.le_of_ble_eq_true rfl) ⟨_, _, _, _, rfl, H0⟩ (fun w37 σ38 q39 => ?_)
        obtain ⟨y40, rfl, rfl⟩ := q39
        refine k_st (st' := [.inr (.inl y40), .inr (.inr (some p0))]) rfl ?_
        refine k_inv (P := P_X4_push) (Q := Q_X4_push) rfl rfl rfl rfl (Nat.le_of_ble_eq_true rfl) (h_0_0.rc (by decide)) ⟨_, _, rfl, H0, h_0_0⟩ (fun w41 σ42 q43 => ?_)
        obtain ⟨rfl, H44, e45⟩ := q43
        refine k_st (st' := []) rfl ?_
        refine k_nil ?_
        refine hB _ _ _ _ (kgoC (is := KX4_operate_44) rfl ?_)
        refine k_return ?_
        have X46 : ExC [162, 169] σ0 σ42 := ExC.rf.tr (e45.mo (by decide))
        exact ⟨rfl, H44, X46⟩
      · refine k_nil ?_
        refine hB _ _ _ _ (kgoC (is := KX4_operate_17) rfl ?_)
        refine k_aload_n rfl ?_
        refine k_bipush (m := 7) rfl (fun x47 h48 => ?_)
        refine k_putI kp169 H0 h_0_0 (Or.inl fk169) (tiC x47).1 (tiC x47).2 (fun σ49 H50 e51 c52 => ?_)
        refine k_goto ?_
        refine hB _ _ _ _ (kgoC (is := KX4_operate_44) rfl ?_)
        refine k_return ?_
        have X53 : ExC [162, 169] σ0 σ49 := ExC.rf.tr (e51.mo (by decide))
        exact ⟨rfl, H50, X53⟩

abbrev P_X4_count : CpC := fun As σ => ∃ (p0 : Nat) (p1 : Nat), As = [.inr (.inr (some p0)), .inr (.inr (some p1))] ∧ HIC σ ∧ TyC σ p0 5 ∧ TyC σ p1 2
abbrev Q_X4_count : CqC := fun As σ w τ => match As with
  | [.inr (.inr (some p0)), .inr (.inr (some p1))] => w = none ∧ HIC τ ∧ ExC [162] σ τ
  | _ => False
set_option maxRecDepth 100000 in
set_option maxHeartbeats 4000000 in
theorem m_X4_count (l : Launch) : CMetC l 2 98 P_X4_count Q_X4_count := by
  refine CMetC.of KX4_count [(93, P_X4_slot, Q_X4_slot), (228, P_X11_narrowed, Q_X11_narrowed), (91, P_X4_push, Q_X4_push)] hX4_count (by decide) (by decide) okX4_count (cc1C (m_X4_slot l) (by decide) (cc1C (m_X11_narrowed l) (by decide) (cc1C (m_X4_push l) (by decide) cc0C))) ?_ ?_
  · rintro As σ ⟨p0, p1, rfl, -⟩
    exact Nat.le_of_ble_eq_true rfl
  · rintro As σ0 ⟨p0, p1, rfl, H0, h_0_0, h_1_0⟩ hgr G hB hW
    change G 0 [(0, .inr (.inr (some p0))), (1, .inr (.inr (some p1)))] [] σ0
    refine hB _ _ _ _ (kgoC (is := KX4_count_0) rfl ?_)
    refine k_aload_n rfl ?_
    refine k_aload_n rfl ?_
    obtain ⟨x3, e1, c2, h4, h5⟩ := cg67 H0.1 h_1_0
    refine k_get kg67 h_1_0 e1 ?_
    refine k_inv (P := P_X4_slot) (Q := Q_X4_slot) rfl rfl rfl rfl (Nat.le_of_ble_eq_true rfl) (h_0_0.rc (by decide)) ⟨_, _, rfl, H0, h_0_0⟩ (fun w6 σ7 q8 => ?_)
    obtain ⟨x9, rfl, rfl, h10, h11⟩ := q8
    refine k_st (st' := [.inl x9]) rfl ?_
    refine k_istore_n (ls' := [(2, .inl x9), (0, .inr (.inr (some p0))), (1, .inr (.inr (some p1)))]) rfl ?_
    refine k_aload_n rfl ?_
    obtain ⟨a14, e12, c13, t15, l16⟩ := cg150 H0.1 h_0_0
    refine k_get kg150 h_0_0 e12 ?_
    refine k_iload_n rfl ?_
    refine k_laload t15 (by omega) (by omega) (fun y17 => ?_)
    refine k_lstore_n (ls' := [(3, .inr (.inl y17)), (2, .inl x9), (0, .inr (.inr (some p0))), (1, .inr (.inr (some p1)))]) rfl ?_
    refine k_aload_n rfl ?_
    refine k_get kg150 h_0_0 (congrArg (fun z : Option Nat => (Sum.inr (Sum.inr z) : AvC)) c13) ?_
    refine k_iload_n rfl ?_
    refine k_aload_n rfl ?_
    obtain ⟨x20, e18, c19, h21, h22⟩ := cg68 H0.1 h_1_0
    refine k_get kg68 h_1_0 e18 ?_
    refine k_aload_n rfl ?_
    obtain ⟨x25, e23, c24, h26, h27⟩ := cg61 H0.1 h_1_0
    refine k_get kg61 h_1_0 e23 ?_
    refine k_bipush (m := 41) rfl (fun x28 h29 => ?_)
    refine k_ic_ne (fun h30 => ?_) (fun h30 => ?_)
    · refine hB _ _ _ _ (kgoC (is := KX4_count_40) rfl ?_)
      refine k_lload_n rfl ?_
      refine k_lconst ?_
      refine k_lsub (fun y31 => ?_)
      refine k_nil ?_
      refine hB _ _ _ _ (kgoC (is := KX4_count_43) rfl ?_)
      refine k_stat (P := P_X11_narrowed) (Q := Q_X11_narrowed) rfl rfl (Nat.le_of_ble_eq_true rfl) rfl rfl (Nat.le_of_ble_eq_true rfl) ⟨_, _, rfl, H0⟩ (fun w32 σ33 q34 => ?_)
      obtain ⟨y35, rfl, rfl⟩ := q34
      refine k_st (st' := [.inr (.inl y35), .inl x9, .inr (.inr (some a14))]) rfl ?_
      refine k_lastore H0 t15 (by omega) (by omega) (fun σ36 H37 e38 => ?_)
      refine k_aload_n rfl ?_
      refine k_aload_n rfl ?_
      have t39 := h_1_0.x e38
      obtain ⟨x42, e40, c41, h43, h44⟩ := cg66 H37.1 t39
      refine k_get kg66 t39 e40 ?_
      refine k_aload_n rfl ?_
      obtain ⟨x47, e45, c46, h48, h49⟩ := cg62 H37.1 t39
      refine k_get kg62 t39 e45 ?_
      refine k_ic_ne (fun h50 => ?_) (fun h50 => ?_)
      · refine hB _ _ _ _ (kgoC (is := KX4_count_63) rfl ?_)
        refine k_aload_n rfl ?_
        have t51 := h_0_0.x e38
        have c52 := (h_0_0.mr e38 (by decide)).trans c13
        refine k_get kg150 t51 (congrArg (fun z : Option Nat => (Sum.inr (Sum.inr z) : AvC)) c52) ?_
        refine k_iload_n rfl ?_
        have t53 := t15.x e38
        have l54 := (t15.al e38).trans l16
        refine k_laload t53 (by omega) (by omega) (fun y55 => ?_)
        refine k_nil ?_
        refine hB _ _ _ _ (kgoC (is := KX4_count_69) rfl ?_)
        refine k_inv (P := P_X4_push) (Q := Q_X4_push) rfl rfl rfl rfl (Nat.le_of_ble_eq_true rfl) (t51.rc (by decide)) ⟨_, _, rfl, H37, t51⟩ (fun w56 σ57 q58 => ?_)
        obtain ⟨rfl, H59, e60⟩ := q58
        refine k_st (st' := []) rfl ?_
        refine k_return ?_
        have X61 : ExC [162] σ0 σ36 := ExC.rf.tr (e38.mo (by decide))
        have X62 : ExC [162] σ0 σ57 := X61.tr (e60.mo (by decide))
        exact ⟨rfl, H59, X62⟩
      · refine k_nil ?_
        refine hB _ _ _ _ (kgoC (is := KX4_count_59) rfl ?_)
        refine k_lload_n rfl ?_
        refine k_goto ?_
        refine hB _ _ _ _ (kgoC (is := KX4_count_69) rfl ?_)
        have t63 := h_0_0.x e38
        refine k_inv (P := P_X4_push) (Q := Q_X4_push) rfl rfl rfl rfl (Nat.le_of_ble_eq_true rfl) (t63.rc (by decide)) ⟨_, _, rfl, H37, t63⟩ (fun w64 σ65 q66 => ?_)
        obtain ⟨rfl, H67, e68⟩ := q66
        refine k_st (st' := []) rfl ?_
        refine k_return ?_
        have X69 : ExC [162] σ0 σ36 := ExC.rf.tr (e38.mo (by decide))
        have X70 : ExC [162] σ0 σ65 := X69.tr (e68.mo (by decide))
        exact ⟨rfl, H67, X70⟩
    · refine k_nil ?_
      refine hB _ _ _ _ (kgoC (is := KX4_count_34) rfl ?_)
      refine k_lload_n rfl ?_
      refine k_lconst ?_
      refine k_ladd (fun y71 => ?_)
      refine k_goto ?_
      refine hB _ _ _ _ (kgoC (is := KX4_count_43) rfl ?_)
      refine k_stat (P := P_X11_narrowed) (Q := Q_X11_narrowed) rfl rfl (Nat.le_of_ble_eq_true rfl) rfl rfl (Nat.le_of_ble_eq_true rfl) ⟨_, _, rfl, H0⟩ (fun w72 σ73 q74 => ?_)
      obtain ⟨y75, rfl, rfl⟩ := q74
      refine k_st (st' := [.inr (.inl y75), .inl x9, .inr (.inr (some a14))]) rfl ?_
      refine k_lastore H0 t15 (by omega) (by omega) (fun σ76 H77 e78 => ?_)
      refine k_aload_n rfl ?_
      refine k_aload_n rfl ?_
      have t79 := h_1_0.x e78
      obtain ⟨x82, e80, c81, h83, h84⟩ := cg66 H77.1 t79
      refine k_get kg66 t79 e80 ?_
      refine k_aload_n rfl ?_
      obtain ⟨x87, e85, c86, h88, h89⟩ := cg62 H77.1 t79
      refine k_get kg62 t79 e85 ?_
      refine k_ic_ne (fun h90 => ?_) (fun h90 => ?_)
      · refine hB _ _ _ _ (kgoC (is := KX4_count_63) rfl ?_)
        refine k_aload_n rfl ?_
        have t91 := h_0_0.x e78
        have c92 := (h_0_0.mr e78 (by decide)).trans c13
        refine k_get kg150 t91 (congrArg (fun z : Option Nat => (Sum.inr (Sum.inr z) : AvC)) c92) ?_
        refine k_iload_n rfl ?_
        have t93 := t15.x e78
        have l94 := (t15.al e78).trans l16
        refine k_laload t93 (by omega) (by omega) (fun y95 => ?_)
        refine k_nil ?_
        refine hB _ _ _ _ (kgoC (is := KX4_count_69) rfl ?_)
        refine k_inv (P := P_X4_push) (Q := Q_X4_push) rfl rfl rfl rfl (Nat.le_of_ble_eq_true rfl) (t91.rc (by decide)) ⟨_, _, rfl, H77, t91⟩ (fun w96 σ97 q98 => ?_)
        obtain ⟨rfl, H99, e100⟩ := q98
        refine k_st (st' := []) rfl ?_
        refine k_return ?_
        have X101 : ExC [162] σ0 σ76 := ExC.rf.tr (e78.mo (by decide))
        have X102 : ExC [162] σ0 σ97 := X101.tr (e100.mo (by decide))
        exact ⟨rfl, H99, X102⟩
      · refine k_nil ?_
        refine hB _ _ _ _ (kgoC (is := KX4_count_59) rfl ?_)
        refine k_lload_n rfl ?_
        refine k_goto ?_
        refine hB _ _ _ _ (kgoC (is := KX4_count_69) rfl ?_)
        have t103 := h_0_0.x e78
        refine k_inv (P := P_X4_push) (Q := Q_X4_push) rfl rfl rfl rfl (Nat.le_of_ble_eq_true rfl) (t103.rc (by decide)) ⟨_, _, rfl, H77, t103⟩ (fun w104 σ105 q106 => ?_)
        obtain ⟨rfl, H107, e108⟩ := q106
        refine k_st (st' := []) rfl ?_
        refine k_return ?_
        have X109 : ExC [162] σ0 σ76 := ExC.rf.tr (e78.mo (by decide))
        have X110 : ExC [162] σ0 σ105 := X109.tr (e108.mo (by decide))
        exact ⟨rfl, H107, X110⟩

abbrev P_X4_assign : CpC := fun As σ => ∃ (p0 : Nat) (p1 : Nat), As = [.inr (.inr (some p0)), .inr (.inr (some p1))] ∧ HIC σ ∧ TyC σ p0 5 ∧ TyC σ p1 2
abbrev Q_X4_assign : CqC := fun As σ w τ => match As with
  | [.inr (.inr (some p0)), .inr (.inr (some p1))] => w = none ∧ HIC τ ∧ ExC [162, 169] σ τ
  | _ => False
set_option maxRecDepth 100000 in
set_option maxHeartbeats 4000000 in
theorem m_X4_assign (l : Launch) : CMetC l 3 99 P_X4_assign Q_X4_assign := by
  refine CMetC.of KX4_assign [(92, P_X4_pop, Q_X4_pop), (227, P_X11_isDivision, Q_X11_isDivision), (229, P_X11_worked, Q_X11_worked), (228, P_X11_narrowed, Q_X11_narrowed), (93, P_X4_slot, Q_X4_slot), (91, P_X4_push, Q_X4_push)] hX4_assign (by decide) (by decide) okX4_assign (cc1C (m_X4_pop l) (by decide) (cc1C (m_X11_isDivision l) (by decide) (cc1C (m_X11_worked l) (by decide) (cc1C (m_X11_narrowed l) (by decide) (cc1C (m_X4_slot l) (by decide) (cc1C (m_X4_push l) (by decide) cc0C)))))) ?_ ?_
  · rintro As σ ⟨p0, p1, rfl, -⟩
    exact Nat.le_of_ble_eq_true rfl
  · rintro As σ0 ⟨p0, p1, rfl, H0, h_0_0, h_1_0⟩ hgr G hB hW
    change G 0 [(0, .inr (.inr (some p0))), (1, .inr (.inr (some p1)))] [] σ0
    refine hB _ _ _ _ (kgoC (is := KX4_assign_0) rfl ?_)
    refine k_aload_n rfl ?_
    refine k_inv (P := P_X4_pop) (Q := Q_X4_pop) rfl rfl rfl rfl (Nat.le_of_ble_eq_true rfl) (h_0_0.rc (by decide)) ⟨_, rfl, H0, h_0_0⟩ (fun w1 σ2 q3 => ?_)
    obtain ⟨y4, rfl, H5, e6⟩ := q3
    refine k_st (st' := [.inr (.inl y4)]) rfl ?_
    refine k_lstore_n (ls' := [(2, .inr (.inl y4)), (0, .inr (.inr (some p0))), (1, .inr (.inr (some p1)))]) rfl ?_
    refine k_aload_n rfl ?_
    have t7 := h_1_0.x e6
    obtain ⟨x10, e8, c9, h11, h12⟩ := cg61 H5.1 t7
    refine k_get kg61 t7 e8 ?_
    refine k_bipush (m := 8) rfl (fun x13 h14 => ?_)
    refine k_ic_ne (fun h15 => ?_) (fun h15 => ?_)
    · refine hB _ _ _ _ (kgoC (is := KX4_assign_34) rfl ?_)
      refine k_aload_n rfl ?_
      have t16 := h_0_0.x e6
      refine k_inv (P := P_X4_pop) (Q := Q_X4_pop) rfl rfl rfl rfl (Nat.le_of_ble_eq_true rfl) (t16.rc (by decide)) ⟨_, rfl, H5, t16⟩ (fun w17 σ18 q19 => ?_)
      obtain ⟨y20, rfl, H21, e22⟩ := q19
      refine k_st (st' := [.inr (.inl y20)]) rfl ?_
      refine k_lstore (ls' := [(4, .inr (.inl y20)), (2, .inr (.inl y4)), (0, .inr (.inr (some p0))), (1, .inr (.inr (some p1)))]) rfl ?_
      refine k_aload_n rfl ?_
      have t23 := t7.x e22
      have c24 := (t7.mi e22 (by decide)).trans c9
      refine k_get kg61 t23 (congrArg (Sum.inl : Int32 → AvC) c24) ?_
      refine k_stat (P := P_X11_isDivision) (Q := Q_X11_isDivision) rfl rfl (Nat.le_of_ble_eq_true rfl) rfl rfl (Nat.le_of_ble_eq_true rfl) ⟨_, rfl, H21⟩ (fun w25 σ26 q27 => ?_)
      obtain ⟨x28, rfl, rfl, h29, h30⟩ := q27
      refine k_st (st' := [.inl x28]) rfl ?_
      refine k_if_eq (fun h31 => ?_) (fun h31 => ?_)
      · refine hB _ _ _ _ (kgoC (is := KX4_assign_63) rfl ?_)
        refine k_aload_n rfl ?_
        obtain ⟨x34, e32, c33, h35, h36⟩ := cg68 H21.1 t23
        refine k_get kg68 t23 e32 ?_
        refine k_aload_n rfl ?_
        refine k_get kg61 t23 (congrArg (Sum.inl : Int32 → AvC) c24) ?_
        refine k_aload_n rfl ?_
        obtain ⟨x39, e37, c38, h40, h41⟩ := cg69 H21.1 t23
        refine k_get kg69 t23 e37 ?_
        refine k_lload rfl ?_
        refine k_lload_n rfl ?_
        refine k_stat (P := P_X11_worked) (Q := Q_X11_worked) rfl rfl (Nat.le_of_ble_eq_true rfl) rfl rfl (Nat.le_of_ble_eq_true rfl) ⟨_, _, _, _, rfl, H21⟩ (fun w42 σ43 q44 => ?_)
        obtain ⟨y45, rfl, rfl⟩ := q44
        refine k_st (st' := [.inr (.inl y45), .inl x34]) rfl ?_
        refine k_stat (P := P_X11_narrowed) (Q := Q_X11_narrowed) rfl rfl (Nat.le_of_ble_eq_true rfl) rfl rfl (Nat.le_of_ble_eq_true rfl) ⟨_, _, rfl, H21⟩ (fun w46 σ47 q48 => ?_)
        obtain ⟨y49, rfl, rfl⟩ := q48
        refine k_st (st' := [.inr (.inl y49)]) rfl ?_
        refine k_lstore (ls' := [(6, .inr (.inl y49)), (4, .inr (.inl y20)), (2, .inr (.inl y4)), (0, .inr (.inr (some p0))), (1, .inr (.inr (some p1)))]) rfl ?_
        refine k_aload_n rfl ?_
        have t50 := t16.x e22
        obtain ⟨a53, e51, c52, t54, l55⟩ := cg150 H21.1 t50
        refine k_get kg150 t50 e51 ?_
        refine k_aload_n rfl ?_
        refine k_aload_n rfl ?_
        obtain ⟨x58, e56, c57, h59, h60⟩ := cg67 H21.1 t23
        refine k_get kg67 t23 e56 ?_
        refine k_inv (P := P_X4_slot) (Q := Q_X4_slot) rfl rfl rfl rfl (Nat.le_of_ble_eq_true rfl) (t50.rc (by decide)) ⟨_, _, rfl, H21, t50⟩ (fun w61 σ62 q63 => ?_)
        obtain ⟨x64, rfl, rfl, h65, h66⟩ := q63
        refine k_st (st' := [.inl x64, .inr (.inr (some a53))]) rfl ?_
        refine k_lload rfl ?_
        refine k_lastore H21 t54 (by omega) (by omega) (fun σ67 H68 e69 => ?_)
        refine k_aload_n rfl ?_
        refine k_lload rfl ?_
        have t70 := t50.x e69
        refine k_inv (P := P_X4_push) (Q := Q_X4_push) rfl rfl rfl rfl (Nat.le_of_ble_eq_true rfl) (t70.rc (by decide)) ⟨_, _, rfl, H68, t70⟩ (fun w71 σ72 q73 => ?_)
        obtain ⟨rfl, H74, e75⟩ := q73
        refine k_st (st' := []) rfl ?_
        refine k_return ?_
        have X76 : ExC [162, 169] σ0 σ2 := ExC.rf.tr (e6.mo (by decide))
        have X77 : ExC [162, 169] σ0 σ18 := X76.tr (e22.mo (by decide))
        have X78 : ExC [162, 169] σ0 σ67 := X77.tr (e69.mo (by decide))
        have X79 : ExC [162, 169] σ0 σ72 := X78.tr (e75.mo (by decide))
        exact ⟨rfl, H74, X79⟩
      · refine k_nil ?_
        refine hB _ _ _ _ (kgoC (is := KX4_assign_50) rfl ?_)
        refine k_lload_n rfl ?_
        refine k_lconst ?_
        refine k_lcmp (fun x80 h81 g82 => ?_)
        refine k_if_ne (fun h83 => ?_) (fun h83 => ?_)
        · refine hB _ _ _ _ (kgoC (is := KX4_assign_63) rfl ?_)
          refine k_aload_n rfl ?_
          obtain ⟨x86, e84, c85, h87, h88⟩ := cg68 H21.1 t23
          refine k_get kg68 t23 e84 ?_
          refine k_aload_n rfl ?_
          refine k_get kg61 t23 (congrArg (Sum.inl : Int32 → AvC) c24) ?_
          refine k_aload_n rfl ?_
          obtain ⟨x91, e89, c90, h92, h93⟩ := cg69 H21.1 t23
          refine k_get kg69 t23 e89 ?_
          refine k_lload rfl ?_
          refine k_lload_n rfl ?_
          refine k_stat (P := P_X11_worked) (Q := Q_X11_worked) rfl rfl (Nat.le_of_ble_eq_true rfl) rfl rfl (Nat.le_of_ble_eq_true rfl) ⟨_, _, _, _, rfl, H21⟩ (fun w94 σ95 q96 => ?_)
          obtain ⟨y97, rfl, rfl⟩ := q96
          refine k_st (st' := [.inr (.inl y97), .inl x86]) rfl ?_
          refine k_stat (P := P_X11_narrowed) (Q := Q_X11_narrowed) rfl rfl (Nat.le_of_ble_eq_true rfl) rfl rfl (Nat.le_of_ble_eq_true rfl) ⟨_, _, rfl, H21⟩ (fun w98 σ99 q100 => ?_)
          obtain ⟨y101, rfl, rfl⟩ := q100
          refine k_st (st' := [.inr (.inl y101)]) rfl ?_
          refine k_lstore (ls' := [(6, .inr (.inl y101)), (4, .inr (.inl y20)), (2, .inr (.inl y4)), (0, .inr (.inr (some p0))), (1, .inr (.inr (some p1)))]) rfl ?_
          refine k_aload_n rfl ?_
          have t102 := t16.x e22
          obtain ⟨a105, e103, c104, t106, l107⟩ := cg150 H21.1 t102
          refine k_get kg150 t102 e103 ?_
          refine k_aload_n rfl ?_
          refine k_aload_n rfl ?_
          obtain ⟨x110, e108, c109, h111, h112⟩ := cg67 H21.1 t23
          refine k_get kg67 t23 e108 ?_
          refine k_inv (P := P_X4_slot) (Q := Q_X4_slot) rfl rfl rfl rfl (Nat.le_of_ble_eq_true rfl) (t102.rc (by decide)) ⟨_, _, rfl, H21, t102⟩ (fun w113 σ114 q115 => ?_)
          obtain ⟨x116, rfl, rfl, h117, h118⟩ := q115
          refine k_st (st' := [.inl x116, .inr (.inr (some a105))]) rfl ?_
          refine k_lload rfl ?_
          refine k_lastore H21 t106 (by omega) (by omega) (fun σ119 H120 e121 => ?_)
          refine k_aload_n rfl ?_
          refine k_lload rfl ?_
          have t122 := t102.x e121
          refine k_inv (P := P_X4_push) (Q := Q_X4_push) rfl rfl rfl rfl (Nat.le_of_ble_eq_true rfl) (t122.rc (by decide)) ⟨_, _, rfl, H120, t122⟩ (fun w123 σ124 q125 => ?_)
          obtain ⟨rfl, H126, e127⟩ := q125
          refine k_st (st' := []) rfl ?_
          refine k_return ?_
          have X128 : ExC [162, 169] σ0 σ2 := ExC.rf.tr (e6.mo (by decide))
          have X129 : ExC [162, 169] σ0 σ18 := X128.tr (e22.mo (by decide))
          have X130 : ExC [162, 169] σ0 σ119 := X129.tr (e121.mo (by decide))
          have X131 : ExC [162, 169] σ0 σ124 := X130.tr (e127.mo (by decide))
          exact ⟨rfl, H126, X131⟩
        · refine k_nil ?_
          refine hB _ _ _ _ (kgoC (is := KX4_assign_56) rfl ?_)
          refine k_aload_n rfl ?_
          refine k_bipush (m := 7) rfl (fun x132 h133 => ?_)
          have t134 := t16.x e22
          refine k_putI kp169 H21 t134 (Or.inl fk169) (tiC x132).1 (tiC x132).2 (fun σ135 H136 e137 c138 => ?_)
          refine k_return ?_
          have X139 : ExC [162, 169] σ0 σ2 := ExC.rf.tr (e6.mo (by decide))
          have X140 : ExC [162, 169] σ0 σ18 := X139.tr (e22.mo (by decide))
          have X141 : ExC [162, 169] σ0 σ135 := X140.tr (e137.mo (by decide))
          exact ⟨rfl, H136, X141⟩
    · refine k_nil ?_
      refine hB _ _ _ _ (kgoC (is := KX4_assign_14) rfl ?_)
      refine k_aload_n rfl ?_
      have t142 := h_0_0.x e6
      obtain ⟨a145, e143, c144, t146, l147⟩ := cg150 H5.1 t142
      refine k_get kg150 t142 e143 ?_
      refine k_aload_n rfl ?_
      refine k_aload_n rfl ?_
      obtain ⟨x150, e148, c149, h151, h152⟩ := cg67 H5.1 t7
      refine k_get kg67 t7 e148 ?_
      refine k_inv (P := P_X4_slot) (Q := Q_X4_slot) rfl rfl rfl rfl (Nat.le_of_ble_eq_true rfl) (t142.rc (by decide)) ⟨_, _, rfl, H5, t142⟩ (fun w153 σ154 q155 => ?_)
      obtain ⟨x156, rfl, rfl, h157, h158⟩ := q155
      refine k_st (st' := [.inl x156, .inr (.inr (some a145))]) rfl ?_
      refine k_lload_n rfl ?_
      refine k_lastore H5 t146 (by omega) (by omega) (fun σ159 H160 e161 => ?_)
      refine k_aload_n rfl ?_
      refine k_lload_n rfl ?_
      have t162 := t142.x e161
      refine k_inv (P := P_X4_push) (Q := Q_X4_push) rfl rfl rfl rfl (Nat.le_of_ble_eq_true rfl) (t162.rc (by decide)) ⟨_, _, rfl, H160, t162⟩ (fun w163 σ164 q165 => ?_)
      obtain ⟨rfl, H166, e167⟩ := q165
      refine k_st (st' := []) rfl ?_
      refine k_return ?_
      have X168 : ExC [162, 169] σ0 σ2 := ExC.rf.tr (e6.mo (by decide))
      have X169 : ExC [162, 169] σ0 σ159 := X168.tr (e161.mo (by decide))
      have X170 : ExC [162, 169] σ0 σ164 := X169.tr (e167.mo (by decide))
      exact ⟨rfl, H166, X170⟩

abbrev P_X4_call : CpC := fun As σ => ∃ (p0 : Nat) (p1 : Nat), As = [.inr (.inr (some p0)), .inr (.inr (some p1))] ∧ HIC σ ∧ TyC σ p0 5 ∧ TyC σ p1 2
abbrev Q_X4_call : CqC := fun As σ w τ => match As with
  | [.inr (.inr (some p0)), .inr (.inr (some p1))] => w = none ∧ HIC τ ∧ ExC [161, 162, 163, 165, 166, 167, 169] σ τ
  | _ => False
set_option maxRecDepth 100000 in
set_option maxHeartbeats 4000000 in
theorem m_X4_call (l : Launch) : CMetC l 12 100 P_X4_call Q_X4_call := by
  refine CMetC.of KX4_call [(119, P_X6_methodOf, Q_X6_methodOf), (94, P_X4_step, Q_X4_step), (92, P_X4_pop, Q_X4_pop), (101, P_X4_tellNumber, Q_X4_tellNumber), (91, P_X4_push, Q_X4_push), (102, P_X4_enter, Q_X4_enter)] hX4_call (by decide) (by decide) okX4_call (cc1C (m_X6_methodOf l) (by decide) (cc1C (m_X4_step l) (by decide) (cc1C (m_X4_pop l) (by decide) (cc1C (m_X4_tellNumber l) (by decide) (cc1C (m_X4_push l) (by decide) (cc1C (m_X4_enter l) (by decide) cc0C)))))) ?_ ?_
  · rintro As σ ⟨p0, p1, rfl, -⟩
    exact Nat.le_of_ble_eq_true rfl
  · rintro As σ0 ⟨p0, p1, rfl, H0, h_0_0, h_1_0⟩ hgr G hB hW
    change G 0 [(0, .inr (.inr (some p0))), (1, .inr (.inr (some p1)))] [] σ0
    refine hB _ _ _ _ (kgoC (is := KX4_call_0) rfl ?_)
    refine k_aload_n rfl ?_
    obtain ⟨a3, e1, c2, t4⟩ := cg158 H0.1 h_0_0
    refine k_get kg158 h_0_0 e1 ?_
    obtain ⟨a7, e5, c6, t8⟩ := cg35 H0.1 t4
    refine k_get kg35 t4 e5 ?_
    refine k_aload_n rfl ?_
    obtain ⟨x11, e9, c10, h12, h13⟩ := cg67 H0.1 h_1_0
    refine k_get kg67 h_1_0 e9 ?_
    refine k_inv (P := P_X6_methodOf) (Q := Q_X6_methodOf) rfl rfl rfl rfl (Nat.le_of_ble_eq_true rfl) (t8.rc (by decide)) ⟨_, _, rfl, H0, t8⟩ (fun w14 σ15 q16 => ?_)
    obtain ⟨o17, rfl, rfl, h18⟩ := q16
    refine k_st (st' := [.inr (.inr o17)]) rfl ?_
    refine k_astore_n (ls' := [(2, .inr (.inr o17)), (0, .inr (.inr (some p0))), (1, .inr (.inr (some p1)))]) rfl ?_
    refine k_aload_n rfl ?_
    refine k_ifnull (fun h20 => ?_) (fun b19 h20 => ?_)
    · subst h20
      refine hB _ _ _ _ (kgoC (is := KX4_call_26) rfl ?_)
      refine k_return ?_
      exact ⟨rfl, H0, (ExC.rf : ExC [161, 162, 163, 165, 166, 167, 169] σ0 σ0)⟩
    · subst h20
      have t21 := h18 b19 rfl
      refine k_nil ?_
      refine hB _ _ _ _ (kgoC (is := KX4_call_19) rfl ?_)
      refine k_aload_n rfl ?_
      refine k_inv (P := P_X4_step) (Q := Q_X4_step) rfl rfl rfl rfl (Nat.le_of_ble_eq_true rfl) (h_0_0.rc (by decide)) ⟨_, rfl, H0, h_0_0⟩ (fun w22 σ23 q24 => ?_)
      obtain ⟨x25, rfl, H26, e27, h28, h29, q30⟩ := q24
      refine k_st (st' := [.inl x25]) rfl ?_
      rcases (by omega : x25.toInt = 0 ∨ x25.toInt = 1) with g31 | g31
      · refine k_if_ne (fun h32 => by exfalso; omega) (fun h32 => ?_)
        refine k_nil ?_
        refine hB _ _ _ _ (kgoC (is := KX4_call_26) rfl ?_)
        refine k_return ?_
        have X33 : ExC [161, 162, 163, 165, 166, 167, 169] σ0 σ23 := ExC.rf.tr (e27.mo (by decide))
        exact ⟨rfl, H26, X33⟩
      · have t39 := h_0_0.x e27
        obtain ⟨x34, e35, c36, h37, h38⟩ := cg165 H26.1 t39
        obtain ⟨x40, e41, c42, h43, h44⟩ := cg167 H26.1 t39
        have h45 : x40.toInt < x34.toInt := by rw [← c36, ← c42]; exact q30 (by omega)
        refine k_if_ne (fun h46 => ?_) (fun h46 => by exfalso; omega)
        refine hB _ _ _ _ (kgoC (is := KX4_call_27) rfl ?_)
        refine k_aload_n rfl ?_
        have t47 := h_1_0.x e27
        have c48 := (h_1_0.mi e27 (by decide)).trans c10
        refine k_get kg67 t47 (congrArg (Sum.inl : Int32 → AvC) c48) ?_
        refine k_bipush (m := 10) rfl (fun x49 h50 => ?_)
        refine k_ic_eq (fun h51 => ?_) (fun h51 => ?_)
        · refine hB _ _ _ _ (kgoC (is := KX4_call_53) rfl ?_)
          refine k_aload_n rfl ?_
          obtain ⟨x54, e52, c53, h55, h56⟩ := cg163 H26.1 t39
          refine k_get kg163 t39 e52 ?_
          refine k_bipush (m := 30) rfl (fun x57 h58 => ?_)
          refine k_ic_lt (fun h59 => ?_) (fun h59 => ?_)
          · refine hB _ _ _ _ (kgoC (is := KX4_call_70) rfl ?_)
            refine k_aload_n rfl ?_
            refine k_get kg67 t47 (congrArg (Sum.inl : Int32 → AvC) c48) ?_
            refine k_bipush (m := 10) rfl (fun x60 h61 => ?_)
            refine k_ic_ne (fun h62 => by exfalso; omega) (fun h62 => ?_)
            refine k_nil ?_
            refine hB _ _ _ _ (kgoC (is := KX4_call_79) rfl ?_)
            refine k_aload_n rfl ?_
            refine k_aload_n rfl ?_
            refine k_inv (P := P_X4_pop) (Q := Q_X4_pop) rfl rfl rfl rfl (Nat.le_of_ble_eq_true rfl) (t39.rc (by decide)) ⟨_, rfl, H26, t39⟩ (fun w63 σ64 q65 => ?_)
            obtain ⟨y66, rfl, H67, e68⟩ := q65
            refine k_st (st' := [.inr (.inl y66), .inr (.inr (some p0))]) rfl ?_
            have t69 := t39.x e68
            refine k_inv (P := P_X4_tellNumber) (Q := Q_X4_tellNumber) rfl rfl rfl rfl (Nat.le_of_ble_eq_true rfl) (t69.rc (by decide)) ⟨_, _, rfl, H67, t69⟩ (fun w70 σ71 q72 => ?_)
            obtain ⟨rfl, H73, e74⟩ := q72
            refine k_st (st' := []) rfl ?_
            refine k_goto ?_
            refine hB _ _ _ _ (kgoC (is := KX4_call_129) rfl ?_)
            refine k_return ?_
            have X75 : ExC [161, 162, 163, 165, 166, 167, 169] σ0 σ23 := ExC.rf.tr (e27.mo (by decide))
            have X76 : ExC [161, 162, 163, 165, 166, 167, 169] σ0 σ64 := X75.tr (e68.mo (by decide))
            have X77 : ExC [161, 162, 163, 165, 166, 167, 169] σ0 σ71 := X76.tr (e74.mo (by decide))
            exact ⟨rfl, H73, X77⟩
          · refine k_nil ?_
            refine hB _ _ _ _ (kgoC (is := KX4_call_62) rfl ?_)
            refine k_aload_n rfl ?_
            refine k_iconst (m := 4) rfl (fun x78 h79 => ?_)
            refine k_putI kp169 H26 t39 (Or.inl fk169) (tiC x78).1 (tiC x78).2 (fun σ80 H81 e82 c83 => ?_)
            refine k_goto ?_
            refine hB _ _ _ _ (kgoC (is := KX4_call_129) rfl ?_)
            refine k_return ?_
            have X84 : ExC [161, 162, 163, 165, 166, 167, 169] σ0 σ23 := ExC.rf.tr (e27.mo (by decide))
            have X85 : ExC [161, 162, 163, 165, 166, 167, 169] σ0 σ80 := X84.tr (e82.mo (by decide))
            exact ⟨rfl, H81, X85⟩
        · refine k_nil ?_
          refine hB _ _ _ _ (kgoC (is := KX4_call_36) rfl ?_)
          refine k_aload_n rfl ?_
          refine k_get kg67 t47 (congrArg (Sum.inl : Int32 → AvC) c48) ?_
          refine k_bipush (m := 11) rfl (fun x86 h87 => ?_)
          refine k_ic_eq (fun h88 => ?_) (fun h88 => ?_)
          · refine hB _ _ _ _ (kgoC (is := KX4_call_53) rfl ?_)
            refine k_aload_n rfl ?_
            obtain ⟨x91, e89, c90, h92, h93⟩ := cg163 H26.1 t39
            refine k_get kg163 t39 e89 ?_
            refine k_bipush (m := 30) rfl (fun x94 h95 => ?_)
            refine k_ic_lt (fun h96 => ?_) (fun h96 => ?_)
            · refine hB _ _ _ _ (kgoC (is := KX4_call_70) rfl ?_)
              refine k_aload_n rfl ?_
              refine k_get kg67 t47 (congrArg (Sum.inl : Int32 → AvC) c48) ?_
              refine k_bipush (m := 10) rfl (fun x97 h98 => ?_)
              refine k_ic_ne (fun h99 => ?_) (fun h99 => by exfalso; omega)
              refine hB _ _ _ _ (kgoC (is := KX4_call_90) rfl ?_)
              refine k_aload_n rfl ?_
              refine k_aload_n rfl ?_
              refine k_get kg167 t39 (congrArg (Sum.inl : Int32 → AvC) c42) ?_
              refine k_aload_n rfl ?_
              obtain ⟨x102, e100, c101, h103, h104⟩ := cg160 H26.1 t39
              refine k_get kg160 t39 e100 ?_
              refine k_ic_ge (fun h105 => ?_) (fun h105 => ?_)
              · refine hB _ _ _ _ (kgoC (is := KX4_call_115) rfl ?_)
                refine k_lconst ?_
                refine k_nil ?_
                refine hB _ _ _ _ (kgoC (is := KX4_call_116) rfl ?_)
                refine k_inv (P := P_X4_push) (Q := Q_X4_push) rfl rfl rfl rfl (Nat.le_of_ble_eq_true rfl) (t39.rc (by decide)) ⟨_, _, rfl, H26, t39⟩ (fun w106 σ107 q108 => ?_)
                obtain ⟨rfl, H109, e110⟩ := q108
                refine k_st (st' := []) rfl ?_
                refine k_aload_n rfl ?_
                refine k_dupR ?_
                have t111 := t39.x e110
                have c112 := (t39.mi e110 (by decide)).trans c42
                refine k_get kg167 t111 (congrArg (Sum.inl : Int32 → AvC) c112) ?_
                refine k_iconst (m := 1) rfl (fun x113 h114 => ?_)
                refine k_iadd (by omega) (by omega) (fun x115 h116 => ?_)
                have c121 := (t39.mi e110 (by decide)).trans c36
                refine k_p167 H109 t111 c121 (by omega) (by omega) (fun σ117 H118 e119 c120 => ?_)
                refine k_nil ?_
                refine hB _ _ _ _ (kgoC (is := KX4_call_129) rfl ?_)
                refine k_return ?_
                have X122 : ExC [161, 162, 163, 165, 166, 167, 169] σ0 σ23 := ExC.rf.tr (e27.mo (by decide))
                have X123 : ExC [161, 162, 163, 165, 166, 167, 169] σ0 σ107 := X122.tr (e110.mo (by decide))
                have X124 : ExC [161, 162, 163, 165, 166, 167, 169] σ0 σ117 := X123.tr (e119.mo (by decide))
                exact ⟨rfl, H118, X124⟩
              · refine k_nil ?_
                refine hB _ _ _ _ (kgoC (is := KX4_call_102) rfl ?_)
                refine k_aload_n rfl ?_
                obtain ⟨a127, e125, c126, t128, l129⟩ := cg159 H26.1 t39
                refine k_get kg159 t39 e125 ?_
                refine k_aload_n rfl ?_
                refine k_get kg167 t39 (congrArg (Sum.inl : Int32 → AvC) c42) ?_
                have z130 := H26.x5i t39 c126 c101
                refine k_iaload t128 (by omega) (by omega) (fun x131 => ?_)
                refine k_i2l (fun y132 => ?_)
                refine k_goto ?_
                refine hB _ _ _ _ (kgoC (is := KX4_call_116) rfl ?_)
                refine k_inv (P := P_X4_push) (Q := Q_X4_push) rfl rfl rfl rfl (Nat.le_of_ble_eq_true rfl) (t39.rc (by decide)) ⟨_, _, rfl, H26, t39⟩ (fun w133 σ134 q135 => ?_)
                obtain ⟨rfl, H136, e137⟩ := q135
                refine k_st (st' := []) rfl ?_
                refine k_aload_n rfl ?_
                refine k_dupR ?_
                have t138 := t39.x e137
                have c139 := (t39.mi e137 (by decide)).trans c42
                refine k_get kg167 t138 (congrArg (Sum.inl : Int32 → AvC) c139) ?_
                refine k_iconst (m := 1) rfl (fun x140 h141 => ?_)
                refine k_iadd (by omega) (by omega) (fun x142 h143 => ?_)
                have c148 := (t39.mi e137 (by decide)).trans c36
                refine k_p167 H136 t138 c148 (by omega) (by omega) (fun σ144 H145 e146 c147 => ?_)
                refine k_nil ?_
                refine hB _ _ _ _ (kgoC (is := KX4_call_129) rfl ?_)
                refine k_return ?_
                have X149 : ExC [161, 162, 163, 165, 166, 167, 169] σ0 σ23 := ExC.rf.tr (e27.mo (by decide))
                have X150 : ExC [161, 162, 163, 165, 166, 167, 169] σ0 σ134 := X149.tr (e137.mo (by decide))
                have X151 : ExC [161, 162, 163, 165, 166, 167, 169] σ0 σ144 := X150.tr (e146.mo (by decide))
                exact ⟨rfl, H145, X151⟩
            · refine k_nil ?_
              refine hB _ _ _ _ (kgoC (is := KX4_call_62) rfl ?_)
              refine k_aload_n rfl ?_
              refine k_iconst (m := 4) rfl (fun x152 h153 => ?_)
              refine k_putI kp169 H26 t39 (Or.inl fk169) (tiC x152).1 (tiC x152).2 (fun σ154 H155 e156 c157 => ?_)
              refine k_goto ?_
              refine hB _ _ _ _ (kgoC (is := KX4_call_129) rfl ?_)
              refine k_return ?_
              have X158 : ExC [161, 162, 163, 165, 166, 167, 169] σ0 σ23 := ExC.rf.tr (e27.mo (by decide))
              have X159 : ExC [161, 162, 163, 165, 166, 167, 169] σ0 σ154 := X158.tr (e156.mo (by decide))
              exact ⟨rfl, H155, X159⟩
          · refine k_nil ?_
            refine hB _ _ _ _ (kgoC (is := KX4_call_45) rfl ?_)
            refine k_aload_n rfl ?_
            refine k_aload_n rfl ?_
            have t160 := t21.x e27
            refine k_inv (P := P_X4_enter) (Q := Q_X4_enter) rfl rfl rfl rfl (Nat.le_of_ble_eq_true rfl) (t39.rc (by decide)) ⟨_, _, rfl, H26, t39, t160⟩ (fun w161 σ162 q163 => ?_)
            obtain ⟨rfl, H164, e165⟩ := q163
            refine k_st (st' := []) rfl ?_
            refine k_goto ?_
            refine hB _ _ _ _ (kgoC (is := KX4_call_129) rfl ?_)
            refine k_return ?_
            have X166 : ExC [161, 162, 163, 165, 166, 167, 169] σ0 σ23 := ExC.rf.tr (e27.mo (by decide))
            have X167 : ExC [161, 162, 163, 165, 166, 167, 169] σ0 σ162 := X166.tr (e165.mo (by decide))
            exact ⟨rfl, H164, X167⟩

abbrev P_X4_work : CpC := fun As σ => ∃ (p0 : Nat) (p1 : Int32) (p2 : Nat), As = [.inr (.inr (some p0)), .inl p1, .inr (.inr (some p2))] ∧ HIC σ ∧ TyC σ p0 5 ∧ TyC σ p2 2
abbrev Q_X4_work : CqC := fun As σ w τ => match As with
  | [.inr (.inr (some p0)), .inl p1, .inr (.inr (some p2))] => w = none ∧ HIC τ ∧ ExC [161, 162, 163, 165, 166, 167, 169] σ τ
  | _ => False
set_option maxRecDepth 100000 in
set_option maxHeartbeats 4000000 in
theorem m_X4_work (l : Launch) : CMetC l 13 96 P_X4_work Q_X4_work := by
  refine CMetC.of KX4_work [(91, P_X4_push, Q_X4_push), (93, P_X4_slot, Q_X4_slot), (92, P_X4_pop, Q_X4_pop), (232, P_X11_workedAlone, Q_X11_workedAlone), (228, P_X11_narrowed, Q_X11_narrowed), (97, P_X4_operate, Q_X4_operate), (98, P_X4_count, Q_X4_count), (99, P_X4_assign, Q_X4_assign), (100, P_X4_call, Q_X4_call)] hX4_work (by decide) (by decide) okX4_work (cc1C (m_X4_push l) (by decide) (cc1C (m_X4_slot l) (by decide) (cc1C (m_X4_pop l) (by decide) (cc1C (m_X11_workedAlone l) (by decide) (cc1C (m_X11_narrowed l) (by decide) (cc1C (m_X4_operate l) (by decide) (cc1C (m_X4_count l) (by decide) (cc1C (m_X4_assign l) (by decide) (cc1C (m_X4_call l) (by decide) cc0C))))))))) ?_ ?_
  · rintro As σ ⟨p0, p1, p2, rfl, -⟩
    exact Nat.le_of_ble_eq_true rfl
  · rintro As σ0 ⟨p0, p1, p2, rfl, H0, h_0_0, h_2_0⟩ hgr G hB hW
    change G 0 [(0, .inr (.inr (some p0))), (1, .inl p1), (2, .inr (.inr (some p2)))] [] σ0
    refine hB _ _ _ _ (kgoC (is := KX4_work_0) rfl ?_)
    refine k_iload_n rfl ?_
    refine k_tsw ?_
    refine k_swc (fun h1 => ?_) (fun h1 => ?_)
    · refine hB _ _ _ _ (kgoC (is := KX4_work_52) rfl ?_)
      refine k_aload_n rfl ?_
      refine k_aload_n rfl ?_
      obtain ⟨y4, e2, c3⟩ := cg71 (σ := σ0) (a := p2)
      refine k_get kg71 h_2_0 e2 ?_
      refine k_inv (P := P_X4_push) (Q := Q_X4_push) rfl rfl rfl rfl (Nat.le_of_ble_eq_true rfl) (h_0_0.rc (by decide)) ⟨_, _, rfl, H0, h_0_0⟩ (fun w5 σ6 q7 => ?_)
      obtain ⟨rfl, H8, e9⟩ := q7
      refine k_st (st' := []) rfl ?_
      refine k_goto ?_
      refine hB _ _ _ _ (kgoC (is := KX4_work_165) rfl ?_)
      refine k_return ?_
      have X10 : ExC [161, 162, 163, 165, 166, 167, 169] σ0 σ6 := ExC.rf.tr (e9.mo (by decide))
      exact ⟨rfl, H8, X10⟩
    refine k_swc (fun h11 => ?_) (fun h11 => ?_)
    · refine hB _ _ _ _ (kgoC (is := KX4_work_63) rfl ?_)
      refine k_aload_n rfl ?_
      refine k_aload_n rfl ?_
      obtain ⟨a14, e12, c13, t15, l16⟩ := cg150 H0.1 h_0_0
      refine k_get kg150 h_0_0 e12 ?_
      refine k_aload_n rfl ?_
      refine k_aload_n rfl ?_
      obtain ⟨x19, e17, c18, h20, h21⟩ := cg67 H0.1 h_2_0
      refine k_get kg67 h_2_0 e17 ?_
      refine k_inv (P := P_X4_slot) (Q := Q_X4_slot) rfl rfl rfl rfl (Nat.le_of_ble_eq_true rfl) (h_0_0.rc (by decide)) ⟨_, _, rfl, H0, h_0_0⟩ (fun w22 σ23 q24 => ?_)
      obtain ⟨x25, rfl, rfl, h26, h27⟩ := q24
      refine k_st (st' := [.inl x25, .inr (.inr (some a14)), .inr (.inr (some p0))]) rfl ?_
      refine k_laload t15 (by omega) (by omega) (fun y28 => ?_)
      refine k_inv (P := P_X4_push) (Q := Q_X4_push) rfl rfl rfl rfl (Nat.le_of_ble_eq_true rfl) (h_0_0.rc (by decide)) ⟨_, _, rfl, H0, h_0_0⟩ (fun w29 σ30 q31 => ?_)
      obtain ⟨rfl, H32, e33⟩ := q31
      refine k_st (st' := []) rfl ?_
      refine k_goto ?_
      refine hB _ _ _ _ (kgoC (is := KX4_work_165) rfl ?_)
      refine k_return ?_
      have X34 : ExC [161, 162, 163, 165, 166, 167, 169] σ0 σ30 := ExC.rf.tr (e33.mo (by decide))
      exact ⟨rfl, H32, X34⟩
    refine k_swc (fun h35 => ?_) (fun h35 => ?_)
    · refine hB _ _ _ _ (kgoC (is := KX4_work_165) rfl ?_)
      refine k_return ?_
      exact ⟨rfl, H0, (ExC.rf : ExC [161, 162, 163, 165, 166, 167, 169] σ0 σ0)⟩
    refine k_swc (fun h36 => ?_) (fun h36 => ?_)
    · refine hB _ _ _ _ (kgoC (is := KX4_work_83) rfl ?_)
      refine k_aload_n rfl ?_
      refine k_aload_n rfl ?_
      obtain ⟨x39, e37, c38, h40, h41⟩ := cg61 H0.1 h_2_0
      refine k_get kg61 h_2_0 e37 ?_
      refine k_aload_n rfl ?_
      obtain ⟨x44, e42, c43, h45, h46⟩ := cg68 H0.1 h_2_0
      refine k_get kg68 h_2_0 e42 ?_
      refine k_aload_n rfl ?_
      refine k_inv (P := P_X4_pop) (Q := Q_X4_pop) rfl rfl rfl rfl (Nat.le_of_ble_eq_true rfl) (h_0_0.rc (by decide)) ⟨_, rfl, H0, h_0_0⟩ (fun w47 σ48 q49 => ?_)
      obtain ⟨y50, rfl, H51, e52⟩ := q49
      refine k_st (st' := [.inr (.inl y50), .inl x44, .inl x39, .inr (.inr (some p0))]) rfl ?_
      refine k_stat (P := P_X11_workedAlone) (Q := Q_X11_workedAlone) rfl rfl (Nat.le_of_ble_eq_true rfl) rfl rfl (Nat.le_of_ble_eq_true rfl) ⟨_, _, _, rfl, H51⟩ (fun w53 σ54 q55 => ?_)
      obtain ⟨y56, rfl, rfl⟩ := q55
      refine k_st (st' := [.inr (.inl y56), .inr (.inr (some p0))]) rfl ?_
      have t57 := h_0_0.x e52
      refine k_inv (P := P_X4_push) (Q := Q_X4_push) rfl rfl rfl rfl (Nat.le_of_ble_eq_true rfl) (t57.rc (by decide)) ⟨_, _, rfl, H51, t57⟩ (fun w58 σ59 q60 => ?_)
      obtain ⟨rfl, H61, e62⟩ := q60
      refine k_st (st' := []) rfl ?_
      refine k_goto ?_
      refine hB _ _ _ _ (kgoC (is := KX4_work_165) rfl ?_)
      refine k_return ?_
      have X63 : ExC [161, 162, 163, 165, 166, 167, 169] σ0 σ48 := ExC.rf.tr (e52.mo (by decide))
      have X64 : ExC [161, 162, 163, 165, 166, 167, 169] σ0 σ59 := X63.tr (e62.mo (by decide))
      exact ⟨rfl, H61, X64⟩
    refine k_swc (fun h65 => ?_) (fun h65 => ?_)
    · refine hB _ _ _ _ (kgoC (is := KX4_work_105) rfl ?_)
      refine k_aload_n rfl ?_
      refine k_aload_n rfl ?_
      obtain ⟨x68, e66, c67, h69, h70⟩ := cg68 H0.1 h_2_0
      refine k_get kg68 h_2_0 e66 ?_
      refine k_aload_n rfl ?_
      refine k_inv (P := P_X4_pop) (Q := Q_X4_pop) rfl rfl rfl rfl (Nat.le_of_ble_eq_true rfl) (h_0_0.rc (by decide)) ⟨_, rfl, H0, h_0_0⟩ (fun w71 σ72 q73 => ?_)
      obtain ⟨y74, rfl, H75, e76⟩ := q73
      refine k_st (st' := [.inr (.inl y74), .inl x68, .inr (.inr (some p0))]) rfl ?_
      refine k_stat (P := P_X11_narrowed) (Q := Q_X11_narrowed) rfl rfl (Nat.le_of_ble_eq_true rfl) rfl rfl (Nat.le_of_ble_eq_true rfl) ⟨_, _, rfl, H75⟩ (fun w77 σ78 q79 => ?_)
      obtain ⟨y80, rfl, rfl⟩ := q79
      refine k_st (st' := [.inr (.inl y80), .inr (.inr (some p0))]) rfl ?_
      have t81 := h_0_0.x e76
      refine k_inv (P := P_X4_push) (Q := Q_X4_push) rfl rfl rfl rfl (Nat.le_of_ble_eq_true rfl) (t81.rc (by decide)) ⟨_, _, rfl, H75, t81⟩ (fun w82 σ83 q84 => ?_)
      obtain ⟨rfl, H85, e86⟩ := q84
      refine k_st (st' := []) rfl ?_
      refine k_goto ?_
      refine hB _ _ _ _ (kgoC (is := KX4_work_165) rfl ?_)
      refine k_return ?_
      have X87 : ExC [161, 162, 163, 165, 166, 167, 169] σ0 σ72 := ExC.rf.tr (e76.mo (by decide))
      have X88 : ExC [161, 162, 163, 165, 166, 167, 169] σ0 σ83 := X87.tr (e86.mo (by decide))
      exact ⟨rfl, H85, X88⟩
    refine k_swc (fun h89 => ?_) (fun h89 => ?_)
    · refine hB _ _ _ _ (kgoC (is := KX4_work_131) rfl ?_)
      refine k_aload_n rfl ?_
      refine k_inv (P := P_X4_pop) (Q := Q_X4_pop) rfl rfl rfl rfl (Nat.le_of_ble_eq_true rfl) (h_0_0.rc (by decide)) ⟨_, rfl, H0, h_0_0⟩ (fun w90 σ91 q92 => ?_)
      obtain ⟨y93, rfl, H94, e95⟩ := q92
      refine k_st (st' := [.inr (.inl y93)]) rfl ?_
      refine k_lstore_n (ls' := [(3, .inr (.inl y93)), (0, .inr (.inr (some p0))), (1, .inl p1), (2, .inr (.inr (some p2)))]) rfl ?_
      refine k_aload_n rfl ?_
      refine k_aload_n rfl ?_
      refine k_aload_n rfl ?_
      have t96 := h_0_0.x e95
      refine k_inv (P := P_X4_pop) (Q := Q_X4_pop) rfl rfl rfl rfl (Nat.le_of_ble_eq_true rfl) (t96.rc (by decide)) ⟨_, rfl, H94, t96⟩ (fun w97 σ98 q99 => ?_)
      obtain ⟨y100, rfl, H101, e102⟩ := q99
      refine k_st (st' := [.inr (.inl y100), .inr (.inr (some p2)), .inr (.inr (some p0))]) rfl ?_
      refine k_lload_n rfl ?_
      have t103 := t96.x e102
      have t104 := h_2_0.x e95
      have t105 := t104.x e102
      refine k_inv (P := P_X4_operate) (Q := Q_X4_operate) rfl rfl rfl rfl (Nat.le_of_ble_eq_true rfl) (t103.rc (by decide)) ⟨_, _, _, _, rfl, H101, t103, t105⟩ (fun w106 σ107 q108 => ?_)
      obtain ⟨rfl, H109, e110⟩ := q108
      refine k_st (st' := []) rfl ?_
      refine k_goto ?_
      refine hB _ _ _ _ (kgoC (is := KX4_work_165) rfl ?_)
      refine k_return ?_
      have X111 : ExC [161, 162, 163, 165, 166, 167, 169] σ0 σ91 := ExC.rf.tr (e95.mo (by decide))
      have X112 : ExC [161, 162, 163, 165, 166, 167, 169] σ0 σ98 := X111.tr (e102.mo (by decide))
      have X113 : ExC [161, 162, 163, 165, 166, 167, 169] σ0 σ107 := X112.tr (e110.mo (by decide))
      exact ⟨rfl, H109, X113⟩
    refine k_swc (fun h114 => ?_) (fun h114 => ?_)
    · refine hB _ _ _ _ (kgoC (is := KX4_work_123) rfl ?_)
      refine k_aload_n rfl ?_
      refine k_aload_n rfl ?_
      refine k_inv (P := P_X4_count) (Q := Q_X4_count) rfl rfl rfl rfl (Nat.le_of_ble_eq_true rfl) (h_0_0.rc (by decide)) ⟨_, _, rfl, H0, h_0_0, h_2_0⟩ (fun w115 σ116 q117 => ?_)
      obtain ⟨rfl, H118, e119⟩ := q117
      refine k_st (st' := []) rfl ?_
      refine k_goto ?_
      refine hB _ _ _ _ (kgoC (is := KX4_work_165) rfl ?_)
      refine k_return ?_
      have X120 : ExC [161, 162, 163, 165, 166, 167, 169] σ0 σ116 := ExC.rf.tr (e119.mo (by decide))
      exact ⟨rfl, H118, X120⟩
    refine k_swc (fun h121 => ?_) (fun h121 => ?_)
    · refine hB _ _ _ _ (kgoC (is := KX4_work_149) rfl ?_)
      refine k_aload_n rfl ?_
      refine k_aload_n rfl ?_
      refine k_inv (P := P_X4_assign) (Q := Q_X4_assign) rfl rfl rfl rfl (Nat.le_of_ble_eq_true rfl) (h_0_0.rc (by decide)) ⟨_, _, rfl, H0, h_0_0, h_2_0⟩ (fun w122 σ123 q124 => ?_)
      obtain ⟨rfl, H125, e126⟩ := q124
      refine k_st (st' := []) rfl ?_
      refine k_goto ?_
      refine hB _ _ _ _ (kgoC (is := KX4_work_165) rfl ?_)
      refine k_return ?_
      have X127 : ExC [161, 162, 163, 165, 166, 167, 169] σ0 σ123 := ExC.rf.tr (e126.mo (by decide))
      exact ⟨rfl, H125, X127⟩
    refine k_swc (fun h128 => ?_) (fun h128 => ?_)
    · refine hB _ _ _ _ (kgoC (is := KX4_work_157) rfl ?_)
      refine k_aload_n rfl ?_
      refine k_aload_n rfl ?_
      refine k_inv (P := P_X4_call) (Q := Q_X4_call) rfl rfl rfl rfl (Nat.le_of_ble_eq_true rfl) (h_0_0.rc (by decide)) ⟨_, _, rfl, H0, h_0_0, h_2_0⟩ (fun w129 σ130 q131 => ?_)
      obtain ⟨rfl, H132, e133⟩ := q131
      refine k_st (st' := []) rfl ?_
      refine k_goto ?_
      refine hB _ _ _ _ (kgoC (is := KX4_work_165) rfl ?_)
      refine k_return ?_
      have X134 : ExC [161, 162, 163, 165, 166, 167, 169] σ0 σ130 := ExC.rf.tr (e133.mo (by decide))
      exact ⟨rfl, H132, X134⟩
    refine k_swn ?_
    refine hB _ _ _ _ (kgoC (is := KX4_work_165) rfl ?_)
    refine k_return ?_
    exact ⟨rfl, H0, (ExC.rf : ExC [161, 162, 163, 165, 166, 167, 169] σ0 σ0)⟩

abbrev P_X4_move : CpC := fun As σ => ∃ (p0 : Nat) (p1 : Int32) (p2 : Int32), As = [.inr (.inr (some p0)), .inl p1, .inl p2] ∧ HIC σ ∧ TyC σ p0 5
abbrev Q_X4_move : CqC := fun As σ w τ => match As with
  | [.inr (.inr (some p0)), .inl p1, .inl p2] => w = none ∧ HIC τ ∧ ExC [161, 162] σ τ
  | _ => False
set_option maxRecDepth 100000 in
set_option maxHeartbeats 4000000 in
theorem m_X4_move (l : Launch) : CMetC l 2 104 P_X4_move Q_X4_move := by
  refine CMetC.of KX4_move [(93, P_X4_slot, Q_X4_slot), (92, P_X4_pop, Q_X4_pop), (91, P_X4_push, Q_X4_push)] hX4_move (by decide) (by decide) okX4_move (cc1C (m_X4_slot l) (by decide) (cc1C (m_X4_pop l) (by decide) (cc1C (m_X4_push l) (by decide) cc0C))) ?_ ?_
  · rintro As σ ⟨p0, p1, p2, rfl, -⟩
    exact Nat.le_of_ble_eq_true rfl
  · rintro As σ0 ⟨p0, p1, p2, rfl, H0, h_0_0⟩ hgr G hB hW
    change G 0 [(0, .inr (.inr (some p0))), (1, .inl p1), (2, .inl p2)] [] σ0
    refine hB _ _ _ _ (kgoC (is := KX4_move_0) rfl ?_)
    refine k_iload_n rfl ?_
    refine k_tsw ?_
    refine k_swc (fun h1 => ?_) (fun h1 => ?_)
    · refine hB _ _ _ _ (kgoC (is := KX4_move_60) rfl ?_)
      refine k_aload_n rfl ?_
      obtain ⟨a4, e2, c3, t5, l6⟩ := cg150 H0.1 h_0_0
      refine k_get kg150 h_0_0 e2 ?_
      refine k_aload_n rfl ?_
      refine k_iload_n rfl ?_
      refine k_inv (P := P_X4_slot) (Q := Q_X4_slot) rfl rfl rfl rfl (Nat.le_of_ble_eq_true rfl) (h_0_0.rc (by decide)) ⟨_, _, rfl, H0, h_0_0⟩ (fun w7 σ8 q9 => ?_)
      obtain ⟨x10, rfl, rfl, h11, h12⟩ := q9
      refine k_st (st' := [.inl x10, .inr (.inr (some a4))]) rfl ?_
      refine k_aload_n rfl ?_
      refine k_inv (P := P_X4_pop) (Q := Q_X4_pop) rfl rfl rfl rfl (Nat.le_of_ble_eq_true rfl) (h_0_0.rc (by decide)) ⟨_, rfl, H0, h_0_0⟩ (fun w13 σ14 q15 => ?_)
      obtain ⟨y16, rfl, H17, e18⟩ := q15
      refine k_st (st' := [.inr (.inl y16), .inl x10, .inr (.inr (some a4))]) rfl ?_
      have t19 := t5.x e18
      have l20 := (t5.al e18).trans l6
      refine k_lastore H17 t19 (by omega) (by omega) (fun σ21 H22 e23 => ?_)
      refine k_goto ?_
      refine hB _ _ _ _ (kgoC (is := KX4_move_181) rfl ?_)
      refine k_return ?_
      have X24 : ExC [161, 162] σ0 σ14 := ExC.rf.tr (e18.mo (by decide))
      have X25 : ExC [161, 162] σ0 σ21 := X24.tr (e23.mo (by decide))
      exact ⟨rfl, H22, X25⟩
    refine k_swc (fun h26 => ?_) (fun h26 => ?_)
    · refine hB _ _ _ _ (kgoC (is := KX4_move_141) rfl ?_)
      refine k_aload_n rfl ?_
      refine k_inv (P := P_X4_pop) (Q := Q_X4_pop) rfl rfl rfl rfl (Nat.le_of_ble_eq_true rfl) (h_0_0.rc (by decide)) ⟨_, rfl, H0, h_0_0⟩ (fun w27 σ28 q29 => ?_)
      obtain ⟨y30, rfl, H31, e32⟩ := q29
      refine k_st (st' := [.inr (.inl y30)]) rfl ?_
      refine k_lstore_n (ls' := [(3, .inr (.inl y30)), (0, .inr (.inr (some p0))), (1, .inl p1), (2, .inl p2)]) rfl ?_
      refine k_lload_n rfl ?_
      refine k_lconst ?_
      refine k_lcmp (fun x33 h34 g35 => ?_)
      refine k_if_ne (fun h36 => ?_) (fun h36 => ?_)
      · refine hB _ _ _ _ (kgoC (is := KX4_move_156) rfl ?_)
        refine k_iconst (m := 0) rfl (fun x37 h38 => ?_)
        refine k_nil ?_
        refine hB _ _ _ _ (kgoC (is := KX4_move_157) rfl ?_)
        refine k_iload_n rfl ?_
        refine k_bipush (m := 13) rfl (fun x39 h40 => ?_)
        refine k_ic_ne (fun h41 => ?_) (fun h41 => by exfalso; omega)
        refine hB _ _ _ _ (kgoC (is := KX4_move_167) rfl ?_)
        refine k_iconst (m := 0) rfl (fun x42 h43 => ?_)
        refine k_nil ?_
        refine hB _ _ _ _ (kgoC (is := KX4_move_168) rfl ?_)
        refine k_ic_ne (fun h44 => by exfalso; omega) (fun h44 => ?_)
        refine k_nil ?_
        refine hB _ _ _ _ (kgoC (is := KX4_move_171) rfl ?_)
        refine k_aload_n rfl ?_
        refine k_lload_n rfl ?_
        have t45 := h_0_0.x e32
        refine k_inv (P := P_X4_push) (Q := Q_X4_push) rfl rfl rfl rfl (Nat.le_of_ble_eq_true rfl) (t45.rc (by decide)) ⟨_, _, rfl, H31, t45⟩ (fun w46 σ47 q48 => ?_)
        obtain ⟨rfl, H49, e50⟩ := q48
        refine k_st (st' := []) rfl ?_
        refine k_aload_n rfl ?_
        refine k_iload_n rfl ?_
        have t51 := t45.x e50
        refine k_putI kp161 H49 t51 (Or.inl fk161) (tiC p2).1 (tiC p2).2 (fun σ52 H53 e54 c55 => ?_)
        refine k_nil ?_
        refine hB _ _ _ _ (kgoC (is := KX4_move_181) rfl ?_)
        refine k_return ?_
        have X56 : ExC [161, 162] σ0 σ28 := ExC.rf.tr (e32.mo (by decide))
        have X57 : ExC [161, 162] σ0 σ47 := X56.tr (e50.mo (by decide))
        have X58 : ExC [161, 162] σ0 σ52 := X57.tr (e54.mo (by decide))
        exact ⟨rfl, H53, X58⟩
      · refine k_nil ?_
        refine hB _ _ _ _ (kgoC (is := KX4_move_152) rfl ?_)
        refine k_iconst (m := 1) rfl (fun x59 h60 => ?_)
        refine k_goto ?_
        refine hB _ _ _ _ (kgoC (is := KX4_move_157) rfl ?_)
        refine k_iload_n rfl ?_
        refine k_bipush (m := 13) rfl (fun x61 h62 => ?_)
        refine k_ic_ne (fun h63 => ?_) (fun h63 => by exfalso; omega)
        refine hB _ _ _ _ (kgoC (is := KX4_move_167) rfl ?_)
        refine k_iconst (m := 0) rfl (fun x64 h65 => ?_)
        refine k_nil ?_
        refine hB _ _ _ _ (kgoC (is := KX4_move_168) rfl ?_)
        refine k_ic_ne (fun h66 => ?_) (fun h66 => by exfalso; omega)
        refine hB _ _ _ _ (kgoC (is := KX4_move_181) rfl ?_)
        refine k_return ?_
        have X67 : ExC [161, 162] σ0 σ28 := ExC.rf.tr (e32.mo (by decide))
        exact ⟨rfl, H31, X67⟩
    refine k_swc (fun h68 => ?_) (fun h68 => ?_)
    · refine hB _ _ _ _ (kgoC (is := KX4_move_141) rfl ?_)
      refine k_aload_n rfl ?_
      refine k_inv (P := P_X4_pop) (Q := Q_X4_pop) rfl rfl rfl rfl (Nat.le_of_ble_eq_true rfl) (h_0_0.rc (by decide)) ⟨_, rfl, H0, h_0_0⟩ (fun w69 σ70 q71 => ?_)
      obtain ⟨y72, rfl, H73, e74⟩ := q71
      refine k_st (st' := [.inr (.inl y72)]) rfl ?_
      refine k_lstore_n (ls' := [(3, .inr (.inl y72)), (0, .inr (.inr (some p0))), (1, .inl p1), (2, .inl p2)]) rfl ?_
      refine k_lload_n rfl ?_
      refine k_lconst ?_
      refine k_lcmp (fun x75 h76 g77 => ?_)
      refine k_if_ne (fun h78 => ?_) (fun h78 => ?_)
      · refine hB _ _ _ _ (kgoC (is := KX4_move_156) rfl ?_)
        refine k_iconst (m := 0) rfl (fun x79 h80 => ?_)
        refine k_nil ?_
        refine hB _ _ _ _ (kgoC (is := KX4_move_157) rfl ?_)
        refine k_iload_n rfl ?_
        refine k_bipush (m := 13) rfl (fun x81 h82 => ?_)
        refine k_ic_ne (fun h83 => ?_) (fun h83 => by exfalso; omega)
        refine hB _ _ _ _ (kgoC (is := KX4_move_167) rfl ?_)
        refine k_iconst (m := 0) rfl (fun x84 h85 => ?_)
        refine k_nil ?_
        refine hB _ _ _ _ (kgoC (is := KX4_move_168) rfl ?_)
        refine k_ic_ne (fun h86 => by exfalso; omega) (fun h86 => ?_)
        refine k_nil ?_
        refine hB _ _ _ _ (kgoC (is := KX4_move_171) rfl ?_)
        refine k_aload_n rfl ?_
        refine k_lload_n rfl ?_
        have t87 := h_0_0.x e74
        refine k_inv (P := P_X4_push) (Q := Q_X4_push) rfl rfl rfl rfl (Nat.le_of_ble_eq_true rfl) (t87.rc (by decide)) ⟨_, _, rfl, H73, t87⟩ (fun w88 σ89 q90 => ?_)
        obtain ⟨rfl, H91, e92⟩ := q90
        refine k_st (st' := []) rfl ?_
        refine k_aload_n rfl ?_
        refine k_iload_n rfl ?_
        have t93 := t87.x e92
        refine k_putI kp161 H91 t93 (Or.inl fk161) (tiC p2).1 (tiC p2).2 (fun σ94 H95 e96 c97 => ?_)
        refine k_nil ?_
        refine hB _ _ _ _ (kgoC (is := KX4_move_181) rfl ?_)
        refine k_return ?_
        have X98 : ExC [161, 162] σ0 σ70 := ExC.rf.tr (e74.mo (by decide))
        have X99 : ExC [161, 162] σ0 σ89 := X98.tr (e92.mo (by decide))
        have X100 : ExC [161, 162] σ0 σ94 := X99.tr (e96.mo (by decide))
        exact ⟨rfl, H95, X100⟩
      · refine k_nil ?_
        refine hB _ _ _ _ (kgoC (is := KX4_move_152) rfl ?_)
        refine k_iconst (m := 1) rfl (fun x101 h102 => ?_)
        refine k_goto ?_
        refine hB _ _ _ _ (kgoC (is := KX4_move_157) rfl ?_)
        refine k_iload_n rfl ?_
        refine k_bipush (m := 13) rfl (fun x103 h104 => ?_)
        refine k_ic_ne (fun h105 => ?_) (fun h105 => by exfalso; omega)
        refine hB _ _ _ _ (kgoC (is := KX4_move_167) rfl ?_)
        refine k_iconst (m := 0) rfl (fun x106 h107 => ?_)
        refine k_nil ?_
        refine hB _ _ _ _ (kgoC (is := KX4_move_168) rfl ?_)
        refine k_ic_ne (fun h108 => ?_) (fun h108 => by exfalso; omega)
        refine hB _ _ _ _ (kgoC (is := KX4_move_181) rfl ?_)
        refine k_return ?_
        have X109 : ExC [161, 162] σ0 σ70 := ExC.rf.tr (e74.mo (by decide))
        exact ⟨rfl, H73, X109⟩
    refine k_swc (fun h110 => ?_) (fun h110 => ?_)
    · refine hB _ _ _ _ (kgoC (is := KX4_move_141) rfl ?_)
      refine k_aload_n rfl ?_
      refine k_inv (P := P_X4_pop) (Q := Q_X4_pop) rfl rfl rfl rfl (Nat.le_of_ble_eq_true rfl) (h_0_0.rc (by decide)) ⟨_, rfl, H0, h_0_0⟩ (fun w111 σ112 q113 => ?_)
      obtain ⟨y114, rfl, H115, e116⟩ := q113
      refine k_st (st' := [.inr (.inl y114)]) rfl ?_
      refine k_lstore_n (ls' := [(3, .inr (.inl y114)), (0, .inr (.inr (some p0))), (1, .inl p1), (2, .inl p2)]) rfl ?_
      refine k_lload_n rfl ?_
      refine k_lconst ?_
      refine k_lcmp (fun x117 h118 g119 => ?_)
      refine k_if_ne (fun h120 => ?_) (fun h120 => ?_)
      · refine hB _ _ _ _ (kgoC (is := KX4_move_156) rfl ?_)
        refine k_iconst (m := 0) rfl (fun x121 h122 => ?_)
        refine k_nil ?_
        refine hB _ _ _ _ (kgoC (is := KX4_move_157) rfl ?_)
        refine k_iload_n rfl ?_
        refine k_bipush (m := 13) rfl (fun x123 h124 => ?_)
        refine k_ic_ne (fun h125 => ?_) (fun h125 => by exfalso; omega)
        refine hB _ _ _ _ (kgoC (is := KX4_move_167) rfl ?_)
        refine k_iconst (m := 0) rfl (fun x126 h127 => ?_)
        refine k_nil ?_
        refine hB _ _ _ _ (kgoC (is := KX4_move_168) rfl ?_)
        refine k_ic_ne (fun h128 => by exfalso; omega) (fun h128 => ?_)
        refine k_nil ?_
        refine hB _ _ _ _ (kgoC (is := KX4_move_171) rfl ?_)
        refine k_aload_n rfl ?_
        refine k_lload_n rfl ?_
        have t129 := h_0_0.x e116
        refine k_inv (P := P_X4_push) (Q := Q_X4_push) rfl rfl rfl rfl (Nat.le_of_ble_eq_true rfl) (t129.rc (by decide)) ⟨_, _, rfl, H115, t129⟩ (fun w130 σ131 q132 => ?_)
        obtain ⟨rfl, H133, e134⟩ := q132
        refine k_st (st' := []) rfl ?_
        refine k_aload_n rfl ?_
        refine k_iload_n rfl ?_
        have t135 := t129.x e134
        refine k_putI kp161 H133 t135 (Or.inl fk161) (tiC p2).1 (tiC p2).2 (fun σ136 H137 e138 c139 => ?_)
        refine k_nil ?_
        refine hB _ _ _ _ (kgoC (is := KX4_move_181) rfl ?_)
        refine k_return ?_
        have X140 : ExC [161, 162] σ0 σ112 := ExC.rf.tr (e116.mo (by decide))
        have X141 : ExC [161, 162] σ0 σ131 := X140.tr (e134.mo (by decide))
        have X142 : ExC [161, 162] σ0 σ136 := X141.tr (e138.mo (by decide))
        exact ⟨rfl, H137, X142⟩
      · refine k_nil ?_
        refine hB _ _ _ _ (kgoC (is := KX4_move_152) rfl ?_)
        refine k_iconst (m := 1) rfl (fun x143 h144 => ?_)
        refine k_goto ?_
        refine hB _ _ _ _ (kgoC (is := KX4_move_157) rfl ?_)
        refine k_iload_n rfl ?_
        refine k_bipush (m := 13) rfl (fun x145 h146 => ?_)
        refine k_ic_ne (fun h147 => ?_) (fun h147 => by exfalso; omega)
        refine hB _ _ _ _ (kgoC (is := KX4_move_167) rfl ?_)
        refine k_iconst (m := 0) rfl (fun x148 h149 => ?_)
        refine k_nil ?_
        refine hB _ _ _ _ (kgoC (is := KX4_move_168) rfl ?_)
        refine k_ic_ne (fun h150 => ?_) (fun h150 => by exfalso; omega)
        refine hB _ _ _ _ (kgoC (is := KX4_move_181) rfl ?_)
        refine k_return ?_
        have X151 : ExC [161, 162] σ0 σ112 := ExC.rf.tr (e116.mo (by decide))
        exact ⟨rfl, H115, X151⟩
    refine k_swc (fun h152 => ?_) (fun h152 => ?_)
    · refine hB _ _ _ _ (kgoC (is := KX4_move_141) rfl ?_)
      refine k_aload_n rfl ?_
      refine k_inv (P := P_X4_pop) (Q := Q_X4_pop) rfl rfl rfl rfl (Nat.le_of_ble_eq_true rfl) (h_0_0.rc (by decide)) ⟨_, rfl, H0, h_0_0⟩ (fun w153 σ154 q155 => ?_)
      obtain ⟨y156, rfl, H157, e158⟩ := q155
      refine k_st (st' := [.inr (.inl y156)]) rfl ?_
      refine k_lstore_n (ls' := [(3, .inr (.inl y156)), (0, .inr (.inr (some p0))), (1, .inl p1), (2, .inl p2)]) rfl ?_
      refine k_lload_n rfl ?_
      refine k_lconst ?_
      refine k_lcmp (fun x159 h160 g161 => ?_)
      refine k_if_ne (fun h162 => ?_) (fun h162 => ?_)
      · refine hB _ _ _ _ (kgoC (is := KX4_move_156) rfl ?_)
        refine k_iconst (m := 0) rfl (fun x163 h164 => ?_)
        refine k_nil ?_
        refine hB _ _ _ _ (kgoC (is := KX4_move_157) rfl ?_)
        refine k_iload_n rfl ?_
        refine k_bipush (m := 13) rfl (fun x165 h166 => ?_)
        refine k_ic_ne (fun h167 => ?_) (fun h167 => by exfalso; omega)
        refine hB _ _ _ _ (kgoC (is := KX4_move_167) rfl ?_)
        refine k_iconst (m := 0) rfl (fun x168 h169 => ?_)
        refine k_nil ?_
        refine hB _ _ _ _ (kgoC (is := KX4_move_168) rfl ?_)
        refine k_ic_ne (fun h170 => by exfalso; omega) (fun h170 => ?_)
        refine k_nil ?_
        refine hB _ _ _ _ (kgoC (is := KX4_move_171) rfl ?_)
        refine k_aload_n rfl ?_
        refine k_lload_n rfl ?_
        have t171 := h_0_0.x e158
        refine k_inv (P := P_X4_push) (Q := Q_X4_push) rfl rfl rfl rfl (Nat.le_of_ble_eq_true rfl) (t171.rc (by decide)) ⟨_, _, rfl, H157, t171⟩ (fun w172 σ173 q174 => ?_)
        obtain ⟨rfl, H175, e176⟩ := q174
        refine k_st (st' := []) rfl ?_
        refine k_aload_n rfl ?_
        refine k_iload_n rfl ?_
        have t177 := t171.x e176
        refine k_putI kp161 H175 t177 (Or.inl fk161) (tiC p2).1 (tiC p2).2 (fun σ178 H179 e180 c181 => ?_)
        refine k_nil ?_
        refine hB _ _ _ _ (kgoC (is := KX4_move_181) rfl ?_)
        refine k_return ?_
        have X182 : ExC [161, 162] σ0 σ154 := ExC.rf.tr (e158.mo (by decide))
        have X183 : ExC [161, 162] σ0 σ173 := X182.tr (e176.mo (by decide))
        have X184 : ExC [161, 162] σ0 σ178 := X183.tr (e180.mo (by decide))
        exact ⟨rfl, H179, X184⟩
      · refine k_nil ?_
        refine hB _ _ _ _ (kgoC (is := KX4_move_152) rfl ?_)
        refine k_iconst (m := 1) rfl (fun x185 h186 => ?_)
        refine k_goto ?_
        refine hB _ _ _ _ (kgoC (is := KX4_move_157) rfl ?_)
        refine k_iload_n rfl ?_
        refine k_bipush (m := 13) rfl (fun x187 h188 => ?_)
        refine k_ic_ne (fun h189 => ?_) (fun h189 => by exfalso; omega)
        refine hB _ _ _ _ (kgoC (is := KX4_move_167) rfl ?_)
        refine k_iconst (m := 0) rfl (fun x190 h191 => ?_)
        refine k_nil ?_
        refine hB _ _ _ _ (kgoC (is := KX4_move_168) rfl ?_)
        refine k_ic_ne (fun h192 => ?_) (fun h192 => by exfalso; omega)
        refine hB _ _ _ _ (kgoC (is := KX4_move_181) rfl ?_)
        refine k_return ?_
        have X193 : ExC [161, 162] σ0 σ154 := ExC.rf.tr (e158.mo (by decide))
        exact ⟨rfl, H157, X193⟩
    refine k_swc (fun h194 => ?_) (fun h194 => ?_)
    · refine hB _ _ _ _ (kgoC (is := KX4_move_141) rfl ?_)
      refine k_aload_n rfl ?_
      refine k_inv (P := P_X4_pop) (Q := Q_X4_pop) rfl rfl rfl rfl (Nat.le_of_ble_eq_true rfl) (h_0_0.rc (by decide)) ⟨_, rfl, H0, h_0_0⟩ (fun w195 σ196 q197 => ?_)
      obtain ⟨y198, rfl, H199, e200⟩ := q197
      refine k_st (st' := [.inr (.inl y198)]) rfl ?_
      refine k_lstore_n (ls' := [(3, .inr (.inl y198)), (0, .inr (.inr (some p0))), (1, .inl p1), (2, .inl p2)]) rfl ?_
      refine k_lload_n rfl ?_
      refine k_lconst ?_
      refine k_lcmp (fun x201 h202 g203 => ?_)
      refine k_if_ne (fun h204 => ?_) (fun h204 => ?_)
      · refine hB _ _ _ _ (kgoC (is := KX4_move_156) rfl ?_)
        refine k_iconst (m := 0) rfl (fun x205 h206 => ?_)
        refine k_nil ?_
        refine hB _ _ _ _ (kgoC (is := KX4_move_157) rfl ?_)
        refine k_iload_n rfl ?_
        refine k_bipush (m := 13) rfl (fun x207 h208 => ?_)
        refine k_ic_ne (fun h209 => ?_) (fun h209 => by exfalso; omega)
        refine hB _ _ _ _ (kgoC (is := KX4_move_167) rfl ?_)
        refine k_iconst (m := 0) rfl (fun x210 h211 => ?_)
        refine k_nil ?_
        refine hB _ _ _ _ (kgoC (is := KX4_move_168) rfl ?_)
        refine k_ic_ne (fun h212 => by exfalso; omega) (fun h212 => ?_)
        refine k_nil ?_
        refine hB _ _ _ _ (kgoC (is := KX4_move_171) rfl ?_)
        refine k_aload_n rfl ?_
        refine k_lload_n rfl ?_
        have t213 := h_0_0.x e200
        refine k_inv (P := P_X4_push) (Q := Q_X4_push) rfl rfl rfl rfl (Nat.le_of_ble_eq_true rfl) (t213.rc (by decide)) ⟨_, _, rfl, H199, t213⟩ (fun w214 σ215 q216 => ?_)
        obtain ⟨rfl, H217, e218⟩ := q216
        refine k_st (st' := []) rfl ?_
        refine k_aload_n rfl ?_
        refine k_iload_n rfl ?_
        have t219 := t213.x e218
        refine k_putI kp161 H217 t219 (Or.inl fk161) (tiC p2).1 (tiC p2).2 (fun σ220 H221 e222 c223 => ?_)
        refine k_nil ?_
        refine hB _ _ _ _ (kgoC (is := KX4_move_181) rfl ?_)
        refine k_return ?_
        have X224 : ExC [161, 162] σ0 σ196 := ExC.rf.tr (e200.mo (by decide))
        have X225 : ExC [161, 162] σ0 σ215 := X224.tr (e218.mo (by decide))
        have X226 : ExC [161, 162] σ0 σ220 := X225.tr (e222.mo (by decide))
        exact ⟨rfl, H221, X226⟩
      · refine k_nil ?_
        refine hB _ _ _ _ (kgoC (is := KX4_move_152) rfl ?_)
        refine k_iconst (m := 1) rfl (fun x227 h228 => ?_)
        refine k_goto ?_
        refine hB _ _ _ _ (kgoC (is := KX4_move_157) rfl ?_)
        refine k_iload_n rfl ?_
        refine k_bipush (m := 13) rfl (fun x229 h230 => ?_)
        refine k_ic_ne (fun h231 => ?_) (fun h231 => by exfalso; omega)
        refine hB _ _ _ _ (kgoC (is := KX4_move_167) rfl ?_)
        refine k_iconst (m := 0) rfl (fun x232 h233 => ?_)
        refine k_nil ?_
        refine hB _ _ _ _ (kgoC (is := KX4_move_168) rfl ?_)
        refine k_ic_ne (fun h234 => ?_) (fun h234 => by exfalso; omega)
        refine hB _ _ _ _ (kgoC (is := KX4_move_181) rfl ?_)
        refine k_return ?_
        have X235 : ExC [161, 162] σ0 σ196 := ExC.rf.tr (e200.mo (by decide))
        exact ⟨rfl, H199, X235⟩
    refine k_swc (fun h236 => ?_) (fun h236 => ?_)
    · refine hB _ _ _ _ (kgoC (is := KX4_move_141) rfl ?_)
      refine k_aload_n rfl ?_
      refine k_inv (P := P_X4_pop) (Q := Q_X4_pop) rfl rfl rfl rfl (Nat.le_of_ble_eq_true rfl) (h_0_0.rc (by decide)) ⟨_, rfl, H0, h_0_0⟩ (fun w237 σ238 q239 => ?_)
      obtain ⟨y240, rfl, H241, e242⟩ := q239
      refine k_st (st' := [.inr (.inl y240)]) rfl ?_
      refine k_lstore_n (ls' := [(3, .inr (.inl y240)), (0, .inr (.inr (some p0))), (1, .inl p1), (2, .inl p2)]) rfl ?_
      refine k_lload_n rfl ?_
      refine k_lconst ?_
      refine k_lcmp (fun x243 h244 g245 => ?_)
      refine k_if_ne (fun h246 => ?_) (fun h246 => ?_)
      · refine hB _ _ _ _ (kgoC (is := KX4_move_156) rfl ?_)
        refine k_iconst (m := 0) rfl (fun x247 h248 => ?_)
        refine k_nil ?_
        refine hB _ _ _ _ (kgoC (is := KX4_move_157) rfl ?_)
        refine k_iload_n rfl ?_
        refine k_bipush (m := 13) rfl (fun x249 h250 => ?_)
        refine k_ic_ne (fun h251 => ?_) (fun h251 => by exfalso; omega)
        refine hB _ _ _ _ (kgoC (is := KX4_move_167) rfl ?_)
        refine k_iconst (m := 0) rfl (fun x252 h253 => ?_)
        refine k_nil ?_
        refine hB _ _ _ _ (kgoC (is := KX4_move_168) rfl ?_)
        refine k_ic_ne (fun h254 => by exfalso; omega) (fun h254 => ?_)
        refine k_nil ?_
        refine hB _ _ _ _ (kgoC (is := KX4_move_171) rfl ?_)
        refine k_aload_n rfl ?_
        refine k_lload_n rfl ?_
        have t255 := h_0_0.x e242
        refine k_inv (P := P_X4_push) (Q := Q_X4_push) rfl rfl rfl rfl (Nat.le_of_ble_eq_true rfl) (t255.rc (by decide)) ⟨_, _, rfl, H241, t255⟩ (fun w256 σ257 q258 => ?_)
        obtain ⟨rfl, H259, e260⟩ := q258
        refine k_st (st' := []) rfl ?_
        refine k_aload_n rfl ?_
        refine k_iload_n rfl ?_
        have t261 := t255.x e260
        refine k_putI kp161 H259 t261 (Or.inl fk161) (tiC p2).1 (tiC p2).2 (fun σ262 H263 e264 c265 => ?_)
        refine k_nil ?_
        refine hB _ _ _ _ (kgoC (is := KX4_move_181) rfl ?_)
        refine k_return ?_
        have X266 : ExC [161, 162] σ0 σ238 := ExC.rf.tr (e242.mo (by decide))
        have X267 : ExC [161, 162] σ0 σ257 := X266.tr (e260.mo (by decide))
        have X268 : ExC [161, 162] σ0 σ262 := X267.tr (e264.mo (by decide))
        exact ⟨rfl, H263, X268⟩
      · refine k_nil ?_
        refine hB _ _ _ _ (kgoC (is := KX4_move_152) rfl ?_)
        refine k_iconst (m := 1) rfl (fun x269 h270 => ?_)
        refine k_goto ?_
        refine hB _ _ _ _ (kgoC (is := KX4_move_157) rfl ?_)
        refine k_iload_n rfl ?_
        refine k_bipush (m := 13) rfl (fun x271 h272 => ?_)
        refine k_ic_ne (fun h273 => ?_) (fun h273 => by exfalso; omega)
        refine hB _ _ _ _ (kgoC (is := KX4_move_167) rfl ?_)
        refine k_iconst (m := 0) rfl (fun x274 h275 => ?_)
        refine k_nil ?_
        refine hB _ _ _ _ (kgoC (is := KX4_move_168) rfl ?_)
        refine k_ic_ne (fun h276 => ?_) (fun h276 => by exfalso; omega)
        refine hB _ _ _ _ (kgoC (is := KX4_move_181) rfl ?_)
        refine k_return ?_
        have X277 : ExC [161, 162] σ0 σ238 := ExC.rf.tr (e242.mo (by decide))
        exact ⟨rfl, H241, X277⟩
    refine k_swc (fun h278 => ?_) (fun h278 => ?_)
    · refine hB _ _ _ _ (kgoC (is := KX4_move_77) rfl ?_)
      refine k_aload_n rfl ?_
      refine k_inv (P := P_X4_pop) (Q := Q_X4_pop) rfl rfl rfl rfl (Nat.le_of_ble_eq_true rfl) (h_0_0.rc (by decide)) ⟨_, rfl, H0, h_0_0⟩ (fun w279 σ280 q281 => ?_)
      obtain ⟨y282, rfl, H283, e284⟩ := q281
      refine k_st (st' := [.inr (.inl y282)]) rfl ?_
      refine k_pop2 ?_
      refine k_goto ?_
      refine hB _ _ _ _ (kgoC (is := KX4_move_181) rfl ?_)
      refine k_return ?_
      have X285 : ExC [161, 162] σ0 σ280 := ExC.rf.tr (e284.mo (by decide))
      exact ⟨rfl, H283, X285⟩
    refine k_swc (fun h286 => ?_) (fun h286 => ?_)
    · refine hB _ _ _ _ (kgoC (is := KX4_move_85) rfl ?_)
      refine k_aload_n rfl ?_
      refine k_iload_n rfl ?_
      refine k_putI kp161 H0 h_0_0 (Or.inl fk161) (tiC p2).1 (tiC p2).2 (fun σ287 H288 e289 c290 => ?_)
      refine k_goto ?_
      refine hB _ _ _ _ (kgoC (is := KX4_move_181) rfl ?_)
      refine k_return ?_
      have X291 : ExC [161, 162] σ0 σ287 := ExC.rf.tr (e289.mo (by decide))
      exact ⟨rfl, H288, X291⟩
    refine k_swc (fun h292 => ?_) (fun h292 => ?_)
    · refine hB _ _ _ _ (kgoC (is := KX4_move_93) rfl ?_)
      refine k_aload_n rfl ?_
      refine k_aload_n rfl ?_
      refine k_inv (P := P_X4_pop) (Q := Q_X4_pop) rfl rfl rfl rfl (Nat.le_of_ble_eq_true rfl) (h_0_0.rc (by decide)) ⟨_, rfl, H0, h_0_0⟩ (fun w293 σ294 q295 => ?_)
      obtain ⟨y296, rfl, H297, e298⟩ := q295
      refine k_st (st' := [.inr (.inl y296), .inr (.inr (some p0))]) rfl ?_
      refine k_lconst ?_
      refine k_lcmp (fun x299 h300 g301 => ?_)
      refine k_if_ne (fun h302 => ?_) (fun h302 => ?_)
      · refine hB _ _ _ _ (kgoC (is := KX4_move_107) rfl ?_)
        refine k_aload_n rfl ?_
        have t303 := h_0_0.x e298
        obtain ⟨x306, e304, c305, h307, h308⟩ := cg161 H297.1 t303
        refine k_get kg161 t303 e304 ?_
        refine k_nil ?_
        refine hB _ _ _ _ (kgoC (is := KX4_move_111) rfl ?_)
        refine k_putI kp161 H297 t303 (Or.inl fk161) (tiC x306).1 (tiC x306).2 (fun σ309 H310 e311 c312 => ?_)
        refine k_goto ?_
        refine hB _ _ _ _ (kgoC (is := KX4_move_181) rfl ?_)
        refine k_return ?_
        have X313 : ExC [161, 162] σ0 σ294 := ExC.rf.tr (e298.mo (by decide))
        have X314 : ExC [161, 162] σ0 σ309 := X313.tr (e311.mo (by decide))
        exact ⟨rfl, H310, X314⟩
      · refine k_nil ?_
        refine hB _ _ _ _ (kgoC (is := KX4_move_103) rfl ?_)
        refine k_iload_n rfl ?_
        refine k_goto ?_
        refine hB _ _ _ _ (kgoC (is := KX4_move_111) rfl ?_)
        have t315 := h_0_0.x e298
        refine k_putI kp161 H297 t315 (Or.inl fk161) (tiC p2).1 (tiC p2).2 (fun σ316 H317 e318 c319 => ?_)
        refine k_goto ?_
        refine hB _ _ _ _ (kgoC (is := KX4_move_181) rfl ?_)
        refine k_return ?_
        have X320 : ExC [161, 162] σ0 σ294 := ExC.rf.tr (e298.mo (by decide))
        have X321 : ExC [161, 162] σ0 σ316 := X320.tr (e318.mo (by decide))
        exact ⟨rfl, H317, X321⟩
    refine k_swc (fun h322 => ?_) (fun h322 => ?_)
    · refine hB _ _ _ _ (kgoC (is := KX4_move_117) rfl ?_)
      refine k_aload_n rfl ?_
      refine k_aload_n rfl ?_
      refine k_inv (P := P_X4_pop) (Q := Q_X4_pop) rfl rfl rfl rfl (Nat.le_of_ble_eq_true rfl) (h_0_0.rc (by decide)) ⟨_, rfl, H0, h_0_0⟩ (fun w323 σ324 q325 => ?_)
      obtain ⟨y326, rfl, H327, e328⟩ := q325
      refine k_st (st' := [.inr (.inl y326), .inr (.inr (some p0))]) rfl ?_
      refine k_lconst ?_
      refine k_lcmp (fun x329 h330 g331 => ?_)
      refine k_if_eq (fun h332 => ?_) (fun h332 => ?_)
      · refine hB _ _ _ _ (kgoC (is := KX4_move_131) rfl ?_)
        refine k_aload_n rfl ?_
        have t333 := h_0_0.x e328
        obtain ⟨x336, e334, c335, h337, h338⟩ := cg161 H327.1 t333
        refine k_get kg161 t333 e334 ?_
        refine k_nil ?_
        refine hB _ _ _ _ (kgoC (is := KX4_move_135) rfl ?_)
        refine k_putI kp161 H327 t333 (Or.inl fk161) (tiC x336).1 (tiC x336).2 (fun σ339 H340 e341 c342 => ?_)
        refine k_goto ?_
        refine hB _ _ _ _ (kgoC (is := KX4_move_181) rfl ?_)
        refine k_return ?_
        have X343 : ExC [161, 162] σ0 σ324 := ExC.rf.tr (e328.mo (by decide))
        have X344 : ExC [161, 162] σ0 σ339 := X343.tr (e341.mo (by decide))
        exact ⟨rfl, H340, X344⟩
      · refine k_nil ?_
        refine hB _ _ _ _ (kgoC (is := KX4_move_127) rfl ?_)
        refine k_iload_n rfl ?_
        refine k_goto ?_
        refine hB _ _ _ _ (kgoC (is := KX4_move_135) rfl ?_)
        have t345 := h_0_0.x e328
        refine k_putI kp161 H327 t345 (Or.inl fk161) (tiC p2).1 (tiC p2).2 (fun σ346 H347 e348 c349 => ?_)
        refine k_goto ?_
        refine hB _ _ _ _ (kgoC (is := KX4_move_181) rfl ?_)
        refine k_return ?_
        have X350 : ExC [161, 162] σ0 σ324 := ExC.rf.tr (e328.mo (by decide))
        have X351 : ExC [161, 162] σ0 σ346 := X350.tr (e348.mo (by decide))
        exact ⟨rfl, H347, X351⟩
    refine k_swn ?_
    refine hB _ _ _ _ (kgoC (is := KX4_move_141) rfl ?_)
    refine k_aload_n rfl ?_
    refine k_inv (P := P_X4_pop) (Q := Q_X4_pop) rfl rfl rfl rfl (Nat.le_of_ble_eq_true rfl) (h_0_0.rc (by decide)) ⟨_, rfl, H0, h_0_0⟩ (fun w352 σ353 q354 => ?_)
    obtain ⟨y355, rfl, H356, e357⟩ := q354
    refine k_st (st' := [.inr (.inl y355)]) rfl ?_
    refine k_lstore_n (ls' := [(3, .inr (.inl y355)), (0, .inr (.inr (some p0))), (1, .inl p1), (2, .inl p2)]) rfl ?_
    refine k_lload_n rfl ?_
    refine k_lconst ?_
    refine k_lcmp (fun x358 h359 g360 => ?_)
    refine k_if_ne (fun h361 => ?_) (fun h361 => ?_)
    · refine hB _ _ _ _ (kgoC (is := KX4_move_156) rfl ?_)
      refine k_iconst (m := 0) rfl (fun x362 h363 => ?_)
      refine k_nil ?_
      refine hB _ _ _ _ (kgoC (is := KX4_move_157) rfl ?_)
      refine k_iload_n rfl ?_
      refine k_bipush (m := 13) rfl (fun x364 h365 => ?_)
      refine k_ic_ne (fun h366 => ?_) (fun h366 => ?_)
      · refine hB _ _ _ _ (kgoC (is := KX4_move_167) rfl ?_)
        refine k_iconst (m := 0) rfl (fun x367 h368 => ?_)
        refine k_nil ?_
        refine hB _ _ _ _ (kgoC (is := KX4_move_168) rfl ?_)
        refine k_ic_ne (fun h369 => by exfalso; omega) (fun h369 => ?_)
        refine k_nil ?_
        refine hB _ _ _ _ (kgoC (is := KX4_move_171) rfl ?_)
        refine k_aload_n rfl ?_
        refine k_lload_n rfl ?_
        have t370 := h_0_0.x e357
        refine k_inv (P := P_X4_push) (Q := Q_X4_push) rfl rfl rfl rfl (Nat.le_of_ble_eq_true rfl) (t370.rc (by decide)) ⟨_, _, rfl, H356, t370⟩ (fun w371 σ372 q373 => ?_)
        obtain ⟨rfl, H374, e375⟩ := q373
        refine k_st (st' := []) rfl ?_
        refine k_aload_n rfl ?_
        refine k_iload_n rfl ?_
        have t376 := t370.x e375
        refine k_putI kp161 H374 t376 (Or.inl fk161) (tiC p2).1 (tiC p2).2 (fun σ377 H378 e379 c380 => ?_)
        refine k_nil ?_
        refine hB _ _ _ _ (kgoC (is := KX4_move_181) rfl ?_)
        refine k_return ?_
        have X381 : ExC [161, 162] σ0 σ353 := ExC.rf.tr (e357.mo (by decide))
        have X382 : ExC [161, 162] σ0 σ372 := X381.tr (e375.mo (by decide))
        have X383 : ExC [161, 162] σ0 σ377 := X382.tr (e379.mo (by decide))
        exact ⟨rfl, H378, X383⟩
      · refine k_nil ?_
        refine hB _ _ _ _ (kgoC (is := KX4_move_163) rfl ?_)
        refine k_iconst (m := 1) rfl (fun x384 h385 => ?_)
        refine k_goto ?_
        refine hB _ _ _ _ (kgoC (is := KX4_move_168) rfl ?_)
        refine k_ic_ne (fun h386 => ?_) (fun h386 => by exfalso; omega)
        refine hB _ _ _ _ (kgoC (is := KX4_move_181) rfl ?_)
        refine k_return ?_
        have X387 : ExC [161, 162] σ0 σ353 := ExC.rf.tr (e357.mo (by decide))
        exact ⟨rfl, H356, X387⟩
    · refine k_nil ?_
      refine hB _ _ _ _ (kgoC (is := KX4_move_152) rfl ?_)
      refine k_iconst (m := 1) rfl (fun x388 h389 => ?_)
      refine k_goto ?_
      refine hB _ _ _ _ (kgoC (is := KX4_move_157) rfl ?_)
      refine k_iload_n rfl ?_
      refine k_bipush (m := 13) rfl (fun x390 h391 => ?_)
      refine k_ic_ne (fun h392 => ?_) (fun h392 => ?_)
      · refine hB _ _ _ _ (kgoC (is := KX4_move_167) rfl ?_)
        refine k_iconst (m := 0) rfl (fun x393 h394 => ?_)
        refine k_nil ?_
        refine hB _ _ _ _ (kgoC (is := KX4_move_168) rfl ?_)
        refine k_ic_ne (fun h395 => ?_) (fun h395 => by exfalso; omega)
        refine hB _ _ _ _ (kgoC (is := KX4_move_181) rfl ?_)
        refine k_return ?_
        have X396 : ExC [161, 162] σ0 σ353 := ExC.rf.tr (e357.mo (by decide))
        exact ⟨rfl, H356, X396⟩
      · refine k_nil ?_
        refine hB _ _ _ _ (kgoC (is := KX4_move_163) rfl ?_)
        refine k_iconst (m := 1) rfl (fun x397 h398 => ?_)
        refine k_goto ?_
        refine hB _ _ _ _ (kgoC (is := KX4_move_168) rfl ?_)
        refine k_ic_ne (fun h399 => by exfalso; omega) (fun h399 => ?_)
        refine k_nil ?_
        refine hB _ _ _ _ (kgoC (is := KX4_move_171) rfl ?_)
        refine k_aload_n rfl ?_
        refine k_lload_n rfl ?_
        have t400 := h_0_0.x e357
        refine k_inv (P := P_X4_push) (Q := Q_X4_push) rfl rfl rfl rfl (Nat.le_of_ble_eq_true rfl) (t400.rc (by decide)) ⟨_, _, rfl, H356, t400⟩ (fun w401 σ402 q403 => ?_)
        obtain ⟨rfl, H404, e405⟩ := q403
        refine k_st (st' := []) rfl ?_
        refine k_aload_n rfl ?_
        refine k_iload_n rfl ?_
        have t406 := t400.x e405
        refine k_putI kp161 H404 t406 (Or.inl fk161) (tiC p2).1 (tiC p2).2 (fun σ407 H408 e409 c410 => ?_)
        refine k_nil ?_
        refine hB _ _ _ _ (kgoC (is := KX4_move_181) rfl ?_)
        refine k_return ?_
        have X411 : ExC [161, 162] σ0 σ353 := ExC.rf.tr (e357.mo (by decide))
        have X412 : ExC [161, 162] σ0 σ402 := X411.tr (e405.mo (by decide))
        have X413 : ExC [161, 162] σ0 σ407 := X412.tr (e409.mo (by decide))
        exact ⟨rfl, H408, X413⟩

abbrev P_X4_way : CpC := fun As σ => ∃ (p0 : Nat) (p1 : Nat), As = [.inr (.inr (some p0)), .inr (.inr (some p1))] ∧ HIC σ ∧ TyC σ p0 5 ∧ TyC σ p1 9
abbrev Q_X4_way : CqC := fun As σ w τ => match As with
  | [.inr (.inr (some p0)), .inr (.inr (some p1))] => ∃ r : Int32, w = some (.inl r) ∧ σ = τ ∧ 0 ≤ r.toInt ∧ r.toInt ≤ 629
  | _ => False
set_option maxRecDepth 100000 in
set_option maxHeartbeats 4000000 in
theorem m_X4_way (l : Launch) : CMetC l 1 106 P_X4_way Q_X4_way := by
  refine CMetC.of KX4_way [] hX4_way (by decide) (by decide) okX4_way cc0C ?_ ?_
  · rintro As σ ⟨p0, p1, rfl, -⟩
    exact Nat.le_of_ble_eq_true rfl
  · rintro As σ0 ⟨p0, p1, rfl, H0, h_0_0, h_1_0⟩ hgr G hB hW
    change G 0 [(0, .inr (.inr (some p0))), (1, .inr (.inr (some p1)))] [] σ0
    refine hB _ _ _ _ (kgoC (is := KX4_way_0) rfl ?_)
    refine k_aload_n rfl ?_
    obtain ⟨x3, e1, c2, h4, h5⟩ := cg163 H0.1 h_0_0
    refine k_get kg163 h_0_0 e1 ?_
    refine k_iconst (m := 1) rfl (fun x6 h7 => ?_)
    refine k_isub (by omega) (by omega) (fun x8 h9 => ?_)
    refine k_bipush (m := 21) rfl (fun x10 h11 => ?_)
    refine k_imul_u (fun x12 => ?_)
    refine k_aload_n rfl ?_
    obtain ⟨x15, e13, c14, h16, h17⟩ := cg272 H0.1 h_1_0
    refine k_get kg272 h_1_0 e13 ?_
    have z20 := tiC x12
    refine k_iadd_u (fun x18 => ?_)
    refine k_istore_n (ls' := [(2, .inl x18), (0, .inr (.inr (some p0))), (1, .inr (.inr (some p1)))]) rfl ?_
    refine k_iload_n rfl ?_
    refine k_if_lt (fun h21 => ?_) (fun h21 => ?_)
    · refine hB _ _ _ _ (kgoC (is := KX4_way_32) rfl ?_)
      refine k_iconst (m := 0) rfl (fun x22 h23 => ?_)
      refine k_nil ?_
      refine hB _ _ _ _ (kgoC (is := KX4_way_33) rfl ?_)
      refine k_ireturn (fun hz => absurd hz (by decide)) ?_
      exact ⟨_, rfl, rfl, (by omega), (by omega)⟩
    · refine k_nil ?_
      refine hB _ _ _ _ (kgoC (is := KX4_way_19) rfl ?_)
      refine k_iload_n rfl ?_
      refine k_aload_n rfl ?_
      obtain ⟨a26, e24, c25, t27, l28, l29⟩ := cg154 H0.1 h_0_0
      refine k_get kg154 h_0_0 e24 ?_
      refine k_alen t27 (by decide) (by decide) l28 (by decide) (fun x30 h31 => ?_)
      refine k_ic_ge (fun h32 => ?_) (fun h32 => ?_)
      · refine hB _ _ _ _ (kgoC (is := KX4_way_32) rfl ?_)
        refine k_iconst (m := 0) rfl (fun x33 h34 => ?_)
        refine k_nil ?_
        refine hB _ _ _ _ (kgoC (is := KX4_way_33) rfl ?_)
        refine k_ireturn (fun hz => absurd hz (by decide)) ?_
        exact ⟨_, rfl, rfl, (by omega), (by omega)⟩
      · refine k_nil ?_
        refine hB _ _ _ _ (kgoC (is := KX4_way_28) rfl ?_)
        refine k_iload_n rfl ?_
        refine k_goto ?_
        refine hB _ _ _ _ (kgoC (is := KX4_way_33) rfl ?_)
        refine k_ireturn (fun hz => absurd hz (by decide)) ?_
        exact ⟨_, rfl, rfl, (by omega), (by omega)⟩

abbrev P_X4_choose : CpC := fun As σ => ∃ (p0 : Nat) (p1 : Nat) (p2 : Int64), As = [.inr (.inr (some p0)), .inr (.inr (some p1)), .inr (.inl p2)] ∧ HIC σ ∧ TyC σ p0 5 ∧ TyC σ p1 9
abbrev Q_X4_choose : CqC := fun As σ w τ => match As with
  | [.inr (.inr (some p0)), .inr (.inr (some p1)), .inr (.inl p2)] => w = none ∧ HIC τ ∧ ExC [161] σ τ
  | _ => False
set_option maxRecDepth 100000 in
set_option maxHeartbeats 4000000 in
theorem m_X4_choose (l : Launch) : CMetC l 1 107 P_X4_choose Q_X4_choose := by
  refine CMetC.of KX4_choose [] hX4_choose (by decide) (by decide) okX4_choose cc0C ?_ ?_
  · rintro As σ ⟨p0, p1, p2, rfl, -⟩
    exact Nat.le_of_ble_eq_true rfl
  · rintro As σ0 ⟨p0, p1, p2, rfl, H0, h_0_0, h_1_0⟩ hgr G hB hW
    change G 0 [(0, .inr (.inr (some p0))), (1, .inr (.inr (some p1))), (2, .inr (.inl p2))] [] σ0
    have L14 : ∀ (n14 : Nat), ∀ (σ1 : CsC) (v14_4 : Option Nat), msNC (cnC σ0) v14_4 = n14 → HIC σ1 → ExC [161] σ0 σ1 → OtC σ1 v14_4 9 → G 14 [(0, .inr (.inr (some p0))), (2, .inr (.inl p2)), (4, .inr (.inr v14_4))] [] σ1 := by
      intro n14
      induction n14 using Nat.strongRecOn with
      | _ n14 ih14 =>
        intro σ1 v14_4 n14_ H2 e3 h4
        refine hB _ _ _ _ (kgoC (is := KX4_choose_14) rfl ?_)
        refine k_aload rfl ?_
        refine k_ifnull (fun h6 => ?_) (fun b5 h6 => ?_)
        · subst h6
          refine hB _ _ _ _ (kgoC (is := KX4_choose_89) rfl ?_)
          refine k_return ?_
          have X7 : ExC [161] σ0 σ1 := ExC.rf.tr (e3.mo (by decide))
          exact ⟨rfl, H2, X7⟩
        · subst h6
          have t8 := h4 b5 rfl
          refine k_nil ?_
          refine hB _ _ _ _ (kgoC (is := KX4_choose_19) rfl ?_)
          refine k_aload rfl ?_
          obtain ⟨x11, e9, c10, h12, h13⟩ := cg270 H2.1 t8
          refine k_get kg270 t8 e9 ?_
          refine k_bipush (m := 62) rfl (fun x14 h15 => ?_)
          refine k_ic_ne (fun h16 => ?_) (fun h16 => ?_)
          · refine hB _ _ _ _ (kgoC (is := KX4_choose_60) rfl ?_)
            refine k_aload rfl ?_
            refine k_get kg270 t8 (congrArg (Sum.inl : Int32 → AvC) c10) ?_
            refine k_bipush (m := 63) rfl (fun x17 h18 => ?_)
            refine k_ic_ne (fun h19 => ?_) (fun h19 => ?_)
            · refine hB _ _ _ _ (kgoC (is := KX4_choose_79) rfl ?_)
              refine k_aload rfl ?_
              obtain ⟨o22, e20, c21, t23, f24⟩ := cg275 H2.1 t8
              refine k_get kg275 t8 e20 ?_
              refine k_astore (ls' := [(4, .inr (.inr o22)), (0, .inr (.inr (some p0))), (2, .inr (.inl p2))]) rfl ?_
              refine k_goto ?_
              have X25 : ExC [161] σ0 σ1 := ExC.rf.tr (e3.mo (by decide))
              exact hW _ _ _ _ _ (List.forall_mem_cons.2 ⟨List.Mem.tail _ (List.Mem.head _), (List.forall_mem_cons.2 ⟨List.Mem.tail _ (List.Mem.tail _ (List.Mem.head _)), (List.forall_mem_cons.2 ⟨List.Mem.head _, fun _ h => absurd h List.not_mem_nil⟩)⟩)⟩) (ih14 (msNC (cnC σ0) o22) (by have qb := t8.1; have qc := (X25.cn (by decide) : cnC σ1 = cnC σ0); have qm := n14_; cases o22 with
                              | none => dsimp only [msNC] at qm ⊢; omega
                              | some bz => have := (t23 bz rfl).1; have qf := (f24 bz rfl).2; have qg := (show _ < bz from by first | exact qf | exact qf.1); dsimp only [msNC] at qm ⊢; omega) σ1 o22 rfl H2 X25 t23)
            · refine k_nil ?_
              refine hB _ _ _ _ (kgoC (is := KX4_choose_70) rfl ?_)
              refine k_aload_n rfl ?_
              refine k_aload rfl ?_
              obtain ⟨x28, e26, c27, h29, h30⟩ := cg289 H2.1 t8
              refine k_get kg289 t8 e26 ?_
              have t31 := h_0_0.x e3
              refine k_putI kp161 H2 t31 (Or.inl fk161) (tiC x28).1 (tiC x28).2 (fun σ32 H33 e34 c35 => ?_)
              refine k_nil ?_
              refine hB _ _ _ _ (kgoC (is := KX4_choose_79) rfl ?_)
              refine k_aload rfl ?_
              have t36 := t8.x e34
              obtain ⟨o39, e37, c38, t40, f41⟩ := cg275 H33.1 t36
              refine k_get kg275 t36 e37 ?_
              refine k_astore (ls' := [(4, .inr (.inr o39)), (0, .inr (.inr (some p0))), (2, .inr (.inl p2))]) rfl ?_
              refine k_goto ?_
              have X42 : ExC [161] σ0 σ1 := ExC.rf.tr (e3.mo (by decide))
              have X43 : ExC [161] σ0 σ32 := X42.tr (e34.mo (by decide))
              exact hW _ _ _ _ _ (List.forall_mem_cons.2 ⟨List.Mem.tail _ (List.Mem.head _), (List.forall_mem_cons.2 ⟨List.Mem.tail _ (List.Mem.tail _ (List.Mem.head _)), (List.forall_mem_cons.2 ⟨List.Mem.head _, fun _ h => absurd h List.not_mem_nil⟩)⟩)⟩) (ih14 (msNC (cnC σ0) o39) (by have qb := t36.1; have qc := (X43.cn (by decide) : cnC σ32 = cnC σ0); have qm := n14_; cases o39 with
                              | none => dsimp only [msNC] at qm ⊢; omega
                              | some bz => have := (t40 bz rfl).1; have qf := (f41 bz rfl).2; have qg := (show _ < bz from by first | exact qf | exact qf.1); dsimp only [msNC] at qm ⊢; omega) σ32 o39 rfl H33 X43 t40)
          · refine k_nil ?_
            refine hB _ _ _ _ (kgoC (is := KX4_choose_29) rfl ?_)
            refine k_aload rfl ?_
            obtain ⟨o46, e44, c45, t47⟩ := cg279 H2.1 t8
            refine k_get kg279 t8 e44 ?_
            refine k_ifnull (fun h49 => ?_) (fun b48 h49 => ?_)
            · subst h49
              refine hB _ _ _ _ (kgoC (is := KX4_choose_60) rfl ?_)
              refine k_aload rfl ?_
              refine k_get kg270 t8 (congrArg (Sum.inl : Int32 → AvC) c10) ?_
              refine k_bipush (m := 63) rfl (fun x50 h51 => ?_)
              refine k_ic_ne (fun h52 => ?_) (fun h52 => by exfalso; omega)
              refine hB _ _ _ _ (kgoC (is := KX4_choose_79) rfl ?_)
              refine k_aload rfl ?_
              obtain ⟨o55, e53, c54, t56, f57⟩ := cg275 H2.1 t8
              refine k_get kg275 t8 e53 ?_
              refine k_astore (ls' := [(4, .inr (.inr o55)), (0, .inr (.inr (some p0))), (2, .inr (.inl p2))]) rfl ?_
              refine k_goto ?_
              have X58 : ExC [161] σ0 σ1 := ExC.rf.tr (e3.mo (by decide))
              exact hW _ _ _ _ _ (List.forall_mem_cons.2 ⟨List.Mem.tail _ (List.Mem.head _), (List.forall_mem_cons.2 ⟨List.Mem.tail _ (List.Mem.tail _ (List.Mem.head _)), (List.forall_mem_cons.2 ⟨List.Mem.head _, fun _ h => absurd h List.not_mem_nil⟩)⟩)⟩) (ih14 (msNC (cnC σ0) o55) (by have qb := t8.1; have qc := (X58.cn (by decide) : cnC σ1 = cnC σ0); have qm := n14_; cases o55 with
                              | none => dsimp only [msNC] at qm ⊢; omega
                              | some bz => have := (t56 bz rfl).1; have qf := (f57 bz rfl).2; have qg := (show _ < bz from by first | exact qf | exact qf.1); dsimp only [msNC] at qm ⊢; omega) σ1 o55 rfl H2 X58 t56)
            · subst h49
              have t59 := t47 b48 rfl
              refine k_nil ?_
              refine hB _ _ _ _ (kgoC (is := KX4_choose_37) rfl ?_)
              refine k_aload rfl ?_
              refine k_get kg279 t8 (congrArg (fun z : Option Nat => (Sum.inr (Sum.inr z) : AvC)) c45) ?_
              obtain ⟨y62, e60, c61⟩ := cg71 (σ := σ1) (a := b48)
              refine k_get kg71 t59 e60 ?_
              refine k_lload_n rfl ?_
              refine k_lcmp (fun x63 h64 g65 => ?_)
              refine k_if_ne (fun h66 => ?_) (fun h66 => ?_)
              · refine hB _ _ _ _ (kgoC (is := KX4_choose_60) rfl ?_)
                refine k_aload rfl ?_
                refine k_get kg270 t8 (congrArg (Sum.inl : Int32 → AvC) c10) ?_
                refine k_bipush (m := 63) rfl (fun x67 h68 => ?_)
                refine k_ic_ne (fun h69 => ?_) (fun h69 => by exfalso; omega)
                refine hB _ _ _ _ (kgoC (is := KX4_choose_79) rfl ?_)
                refine k_aload rfl ?_
                obtain ⟨o72, e70, c71, t73, f74⟩ := cg275 H2.1 t8
                refine k_get kg275 t8 e70 ?_
                refine k_astore (ls' := [(4, .inr (.inr o72)), (0, .inr (.inr (some p0))), (2, .inr (.inl p2))]) rfl ?_
                refine k_goto ?_
                have X75 : ExC [161] σ0 σ1 := ExC.rf.tr (e3.mo (by decide))
                exact hW _ _ _ _ _ (List.forall_mem_cons.2 ⟨List.Mem.tail _ (List.Mem.head _), (List.forall_mem_cons.2 ⟨List.Mem.tail _ (List.Mem.tail _ (List.Mem.head _)), (List.forall_mem_cons.2 ⟨List.Mem.head _, fun _ h => absurd h List.not_mem_nil⟩)⟩)⟩) (ih14 (msNC (cnC σ0) o72) (by have qb := t8.1; have qc := (X75.cn (by decide) : cnC σ1 = cnC σ0); have qm := n14_; cases o72 with
                                  | none => dsimp only [msNC] at qm ⊢; omega
                                  | some bz => have := (t73 bz rfl).1; have qf := (f74 bz rfl).2; have qg := (show _ < bz from by first | exact qf | exact qf.1); dsimp only [msNC] at qm ⊢; omega) σ1 o72 rfl H2 X75 t73)
              · refine k_nil ?_
                refine hB _ _ _ _ (kgoC (is := KX4_choose_50) rfl ?_)
                refine k_aload_n rfl ?_
                refine k_aload rfl ?_
                obtain ⟨x78, e76, c77, h79, h80⟩ := cg289 H2.1 t8
                refine k_get kg289 t8 e76 ?_
                have t81 := h_0_0.x e3
                refine k_putI kp161 H2 t81 (Or.inl fk161) (tiC x78).1 (tiC x78).2 (fun σ82 H83 e84 c85 => ?_)
                refine k_return ?_
                have X86 : ExC [161] σ0 σ1 := ExC.rf.tr (e3.mo (by decide))
                have X87 : ExC [161] σ0 σ82 := X86.tr (e84.mo (by decide))
                exact ⟨rfl, H83, X87⟩
    refine hB _ _ _ _ (kgoC (is := KX4_choose_0) rfl ?_)
    refine k_aload_n rfl ?_
    refine k_aload_n rfl ?_
    obtain ⟨x90, e88, c89, h91, h92⟩ := cg290 H0.1 h_1_0
    refine k_get kg290 h_1_0 e88 ?_
    refine k_putI kp161 H0 h_0_0 (Or.inl fk161) (tiC x90).1 (tiC x90).2 (fun σ93 H94 e95 c96 => ?_)
    refine k_aload_n rfl ?_
    have t97 := h_1_0.x e95
    obtain ⟨o100, e98, c99, t101, f102⟩ := cg276 H94.1 t97
    refine k_get kg276 t97 e98 ?_
    refine k_astore (ls' := [(4, .inr (.inr o100)), (0, .inr (.inr (some p0))), (1, .inr (.inr (some p1))), (2, .inr (.inl p2))]) rfl ?_
    refine k_nil ?_
    have X103 : ExC [161] σ0 σ93 := ExC.rf.tr (e95.mo (by decide))
    exact hW _ _ _ _ _ (List.forall_mem_cons.2 ⟨List.Mem.tail _ (List.Mem.head _), (List.forall_mem_cons.2 ⟨List.Mem.tail _ (List.Mem.tail _ (List.Mem.tail _ (List.Mem.head _))), (List.forall_mem_cons.2 ⟨List.Mem.head _, fun _ h => absurd h List.not_mem_nil⟩)⟩)⟩) (L14 _ σ93 o100 rfl H94 X103 t101)

abbrev P_X4_goInto : CpC := fun As σ => ∃ (p0 : Nat) (p1 : Nat), As = [.inr (.inr (some p0)), .inr (.inr (some p1))] ∧ HIC σ ∧ TyC σ p0 5 ∧ TyC σ p1 9
abbrev Q_X4_goInto : CqC := fun As σ w τ => match As with
  | [.inr (.inr (some p0)), .inr (.inr (some p1))] => w = none ∧ HIC τ ∧ ExC [161, 162] σ τ
  | _ => False
set_option maxRecDepth 100000 in
set_option maxHeartbeats 4000000 in
theorem m_X4_goInto (l : Launch) : CMetC l 1 109 P_X4_goInto Q_X4_goInto := by
  refine CMetC.of KX4_goInto [] hX4_goInto (by decide) (by decide) okX4_goInto cc0C ?_ ?_
  · rintro As σ ⟨p0, p1, rfl, -⟩
    exact Nat.le_of_ble_eq_true rfl
  · rintro As σ0 ⟨p0, p1, rfl, H0, h_0_0, h_1_0⟩ hgr G hB hW
    change G 0 [(0, .inr (.inr (some p0))), (1, .inr (.inr (some p1)))] [] σ0
    refine hB _ _ _ _ (kgoC (is := KX4_goInto_0) rfl ?_)
    refine k_aload_n rfl ?_
    refine k_aload_n rfl ?_
    obtain ⟨a3, e1, c2, t4, l5, l6⟩ := cg152 H0.1 h_0_0
    refine k_get kg152 h_0_0 e1 ?_
    refine k_aload_n rfl ?_
    obtain ⟨x9, e7, c8, h10, h11⟩ := cg163 H0.1 h_0_0
    refine k_get kg163 h_0_0 e7 ?_
    refine k_iaload1 H0 t4 l6 (by omega) (by omega) (fun x12 h13 h14 => ?_)
    refine k_putI kp162 H0 h_0_0 (Or.inl fk162) (by show 0 ≤ _; omega) (by show _ ≤ 7500; omega) (fun σ15 H16 e17 c18 => ?_)
    refine k_aload_n rfl ?_
    refine k_aload_n rfl ?_
    have t19 := h_1_0.x e17
    obtain ⟨x22, e20, c21, h23, h24⟩ := cg289 H16.1 t19
    refine k_get kg289 t19 e20 ?_
    have t25 := h_0_0.x e17
    refine k_putI kp161 H16 t25 (Or.inl fk161) (tiC x22).1 (tiC x22).2 (fun σ26 H27 e28 c29 => ?_)
    refine k_return ?_
    have X30 : ExC [161, 162] σ0 σ15 := ExC.rf.tr (e17.mo (by decide))
    have X31 : ExC [161, 162] σ0 σ26 := X30.tr (e28.mo (by decide))
    exact ⟨rfl, H27, X31⟩

abbrev P_X4_behindMethod : CpC := fun As σ => ∃ (p0 : Nat) (p1 : Int32) (p2 : Int64), As = [.inr (.inr (some p0)), .inl p1, .inr (.inl p2)] ∧ HIC σ ∧ TyC σ p0 5
abbrev Q_X4_behindMethod : CqC := fun As σ w τ => match As with
  | [.inr (.inr (some p0)), .inl p1, .inr (.inl p2)] => ∃ r : Option Nat, w = some (.inr (.inr r)) ∧ HIC τ ∧ ExC [161, 162, 163, 169] σ τ ∧ OtC τ r 9
  | _ => False
set_option maxRecDepth 100000 in
set_option maxHeartbeats 4000000 in
theorem m_X4_behindMethod (l : Launch) : CMetC l 3 110 P_X4_behindMethod Q_X4_behindMethod := by
  refine CMetC.of KX4_behindMethod [(103, P_X4_leaveCall, Q_X4_leaveCall)] hX4_behindMethod (by decide) (by decide) okX4_behindMethod (cc1C (m_X4_leaveCall l) (by decide) cc0C) ?_ ?_
  · rintro As σ ⟨p0, p1, p2, rfl, -⟩
    exact Nat.le_of_ble_eq_true rfl
  · rintro As σ0 ⟨p0, p1, p2, rfl, H0, h_0_0⟩ hgr G hB hW
    change G 0 [(0, .inr (.inr (some p0))), (1, .inl p1), (2, .inr (.inl p2))] [] σ0
    refine hB _ _ _ _ (kgoC (is := KX4_behindMethod_0) rfl ?_)
    refine k_iload_n rfl ?_
    refine k_bipush (m := 67) rfl (fun x1 h2 => ?_)
    refine k_ic_eq (fun h3 => ?_) (fun h3 => ?_)
    · refine hB _ _ _ _ (kgoC (is := KX4_behindMethod_13) rfl ?_)
      refine k_aload_n rfl ?_
      refine k_lconst ?_
      refine k_inv (P := P_X4_leaveCall) (Q := Q_X4_leaveCall) rfl rfl rfl rfl (Nat.le_of_ble_eq_true rfl) (h_0_0.rc (by decide)) ⟨_, _, rfl, H0, h_0_0⟩ (fun w4 σ5 q6 => ?_)
      obtain ⟨rfl, H7, e8⟩ := q6
      refine k_st (st' := []) rfl ?_
      refine k_aload_n rfl ?_
      have t9 := h_0_0.x e8
      obtain ⟨x12, e10, c11, h13, h14⟩ := cg163 H7.1 t9
      refine k_get kg163 t9 e10 ?_
      refine k_if_ne (fun h15 => ?_) (fun h15 => ?_)
      · refine hB _ _ _ _ (kgoC (is := KX4_behindMethod_37) rfl ?_)
        refine k_aload_n rfl ?_
        obtain ⟨x18, e16, c17, h19, h20⟩ := cg161 H7.1 t9
        refine k_get kg161 t9 e16 ?_
        refine k_if_le (fun h21 => ?_) (fun h21 => ?_)
        · refine hB _ _ _ _ (kgoC (is := KX4_behindMethod_75) rfl ?_)
          refine k_aconst_null ?_
          refine k_nil ?_
          refine hB _ _ _ _ (kgoC (is := KX4_behindMethod_76) rfl ?_)
          refine k_areturn ?_
          have X22 : ExC [161, 162, 163, 169] σ0 σ5 := ExC.rf.tr (e8.mo (by decide))
          exact ⟨none, rfl, H7, X22, OtC.n⟩
        · refine k_nil ?_
          refine hB _ _ _ _ (kgoC (is := KX4_behindMethod_44) rfl ?_)
          refine k_aload_n rfl ?_
          refine k_get kg161 t9 (congrArg (Sum.inl : Int32 → AvC) c17) ?_
          refine k_aload_n rfl ?_
          obtain ⟨a25, e23, c24, t26⟩ := cg158 H7.1 t9
          refine k_get kg158 t9 e23 ?_
          obtain ⟨x29, e27, c28, h30, h31⟩ := cg34 H7.1 t26
          refine k_get kg34 t26 e27 ?_
          refine k_ic_gt (fun h32 => ?_) (fun h32 => ?_)
          · refine hB _ _ _ _ (kgoC (is := KX4_behindMethod_75) rfl ?_)
            refine k_aconst_null ?_
            refine k_nil ?_
            refine hB _ _ _ _ (kgoC (is := KX4_behindMethod_76) rfl ?_)
            refine k_areturn ?_
            have X33 : ExC [161, 162, 163, 169] σ0 σ5 := ExC.rf.tr (e8.mo (by decide))
            exact ⟨none, rfl, H7, X33, OtC.n⟩
          · refine k_nil ?_
            refine hB _ _ _ _ (kgoC (is := KX4_behindMethod_58) rfl ?_)
            refine k_aload_n rfl ?_
            refine k_get kg158 t9 (congrArg (fun z : Option Nat => (Sum.inr (Sum.inr z) : AvC)) c24) ?_
            obtain ⟨a36, e34, c35, t37, l38⟩ := cg33 H7.1 t26
            refine k_get kg33 t26 e34 ?_
            refine k_aload_n rfl ?_
            refine k_get kg161 t9 (congrArg (Sum.inl : Int32 → AvC) c17) ?_
            refine k_iconst (m := 1) rfl (fun x39 h40 => ?_)
            refine k_isub (by omega) (by omega) (fun x41 h42 => ?_)
            refine k_aaload (c := 9) H7 t37 (by decide) (by omega) (by omega) (fun o43 e45 t44 => ?_)
            refine k_goto ?_
            refine hB _ _ _ _ (kgoC (is := KX4_behindMethod_76) rfl ?_)
            refine k_areturn ?_
            have X46 : ExC [161, 162, 163, 169] σ0 σ5 := ExC.rf.tr (e8.mo (by decide))
            exact ⟨o43, rfl, H7, X46, t44⟩
      · refine k_nil ?_
        refine hB _ _ _ _ (kgoC (is := KX4_behindMethod_25) rfl ?_)
        refine k_aload_n rfl ?_
        refine k_iconst (m := 2) rfl (fun x47 h48 => ?_)
        refine k_putI kp169 H7 t9 (Or.inl fk169) (tiC x47).1 (tiC x47).2 (fun σ49 H50 e51 c52 => ?_)
        refine k_aload_n rfl ?_
        refine k_lload_n rfl ?_
        have t53 := t9.x e51
        refine k_putL kg170 H50 t53 fk170 (fun σ54 H55 e56 c57 => ?_)
        refine k_aconst_null ?_
        refine k_areturn ?_
        have X58 : ExC [161, 162, 163, 169] σ0 σ5 := ExC.rf.tr (e8.mo (by decide))
        have X59 : ExC [161, 162, 163, 169] σ0 σ49 := X58.tr (e51.mo (by decide))
        have X60 : ExC [161, 162, 163, 169] σ0 σ54 := X59.tr (e56.mo (by decide))
        exact ⟨none, rfl, H55, X60, OtC.n⟩
    · refine k_nil ?_
      refine hB _ _ _ _ (kgoC (is := KX4_behindMethod_6) rfl ?_)
      refine k_aload_n rfl ?_
      refine k_lload_n rfl ?_
      refine k_inv (P := P_X4_leaveCall) (Q := Q_X4_leaveCall) rfl rfl rfl rfl (Nat.le_of_ble_eq_true rfl) (h_0_0.rc (by decide)) ⟨_, _, rfl, H0, h_0_0⟩ (fun w61 σ62 q63 => ?_)
      obtain ⟨rfl, H64, e65⟩ := q63
      refine k_st (st' := []) rfl ?_
      refine k_aconst_null ?_
      refine k_areturn ?_
      have X66 : ExC [161, 162, 163, 169] σ0 σ62 := ExC.rf.tr (e65.mo (by decide))
      exact ⟨none, rfl, H64, X66, OtC.n⟩

abbrev P_X4_leave : CpC := fun As σ => ∃ (p0 : Nat) (p1 : Int32) (p2 : Int64) (p3 : Option Nat) (p4 : Option Nat), As = [.inr (.inr (some p0)), .inl p1, .inr (.inl p2), .inr (.inr p3), .inr (.inr p4)] ∧ HIC σ ∧ TyC σ p0 5 ∧ OtC σ p3 9 ∧ OtC σ p4 9
abbrev Q_X4_leave : CqC := fun As σ w τ => match As with
  | [.inr (.inr (some p0)), .inl p1, .inr (.inl p2), .inr (.inr p3), .inr (.inr p4)] => w = none ∧ HIC τ ∧ ExC [161, 162, 163, 169] σ τ
  | _ => False
set_option maxRecDepth 100000 in
set_option maxHeartbeats 4000000 in
theorem m_X4_leave (l : Launch) : CMetC l 4 108 P_X4_leave Q_X4_leave := by
  refine CMetC.of KX4_leave [(181, P_X8_hasFinallyAhead, Q_X8_hasFinallyAhead), (110, P_X4_behindMethod, Q_X4_behindMethod), (106, P_X4_way, Q_X4_way), (109, P_X4_goInto, Q_X4_goInto), (182, P_X8_isCaught, Q_X8_isCaught), (93, P_X4_slot, Q_X4_slot)] hX4_leave (by decide) (by decide) okX4_leave (cc1C (m_X8_hasFinallyAhead l) (by decide) (cc1C (m_X4_behindMethod l) (by decide) (cc1C (m_X4_way l) (by decide) (cc1C (m_X4_goInto l) (by decide) (cc1C (m_X8_isCaught l) (by decide) (cc1C (m_X4_slot l) (by decide) cc0C)))))) ?_ ?_
  · rintro As σ ⟨p0, p1, p2, p3, p4, rfl, -⟩
    exact Nat.le_of_ble_eq_true rfl
  · rintro As σ0 ⟨p0, p1, p2, p3, p4, rfl, H0, h_0_0, h_3_0, h_4_0⟩ hgr G hB hW
    change G 0 [(0, .inr (.inr (some p0))), (1, .inl p1), (2, .inr (.inl p2)), (4, .inr (.inr p3)), (5, .inr (.inr p4))] [] σ0
    have L7 : ∀ (n7 : Nat), ∀ (σ1 : CsC) (v7_6 : Option Nat) (v7_7 : Int32), (2147483647 - v7_7.toInt).toNat = n7 → HIC σ1 → ExC [161, 162, 163, 169] σ0 σ1 → OtC σ1 v7_6 9 → 0 ≤ v7_7.toInt → v7_7.toInt ≤ 20000 → G 7 [(0, .inr (.inr (some p0))), (1, .inl p1), (2, .inr (.inl p2)), (5, .inr (.inr p4)), (6, .inr (.inr v7_6)), (7, .inl v7_7)] [] σ1 := by
      intro n7
      induction n7 using Nat.strongRecOn with
      | _ n7 ih7 =>
        intro σ1 v7_6 v7_7 n7_ H2 e3 h4 h5 h6
        refine hB _ _ _ _ (kgoC (is := KX4_leave_7) rfl ?_)
        refine k_iload rfl ?_
        refine k_sipush (m := 2520) rfl (fun x7 h8 => ?_)
        refine k_ic_ge (fun h9 => ?_) (fun h9 => ?_)
        · refine hB _ _ _ _ (kgoC (is := KX4_leave_183) rfl ?_)
          refine k_return ?_
          have X10 : ExC [161, 162, 163, 169] σ0 σ1 := ExC.rf.tr (e3.mo (by decide))
          exact ⟨rfl, H2, X10⟩
        · refine k_nil ?_
          refine hB _ _ _ _ (kgoC (is := KX4_leave_15) rfl ?_)
          refine k_aload rfl ?_
          refine k_ifnull (fun h12 => ?_) (fun b11 h12 => ?_)
          · subst h12
            refine hB _ _ _ _ (kgoC (is := KX4_leave_183) rfl ?_)
            refine k_return ?_
            have X13 : ExC [161, 162, 163, 169] σ0 σ1 := ExC.rf.tr (e3.mo (by decide))
            exact ⟨rfl, H2, X13⟩
          · subst h12
            have t14 := h4 b11 rfl
            refine k_nil ?_
            refine hB _ _ _ _ (kgoC (is := KX4_leave_20) rfl ?_)
            refine k_aload rfl ?_
            refine k_aload rfl ?_
            have t16 := h_4_0.x e3
            refine k_acmp_ne (c := 9) (c' := 9) (t14.ot) (t16) (fun h15 => ?_) (fun h15 => ?_)
            · refine hB _ _ _ _ (kgoC (is := KX4_leave_51) rfl ?_)
              refine k_iload_n rfl ?_
              refine k_bipush (m := 67) rfl (fun x17 h18 => ?_)
              refine k_ic_ne (fun h19 => ?_) (fun h19 => ?_)
              · refine hB _ _ _ _ (kgoC (is := KX4_leave_96) rfl ?_)
                refine k_aload rfl ?_
                refine k_inv (P := P_X8_hasFinallyAhead) (Q := Q_X8_hasFinallyAhead) rfl rfl rfl rfl (Nat.le_of_ble_eq_true rfl) (t14.rc (by decide)) ⟨_, rfl, H2, t14⟩ (fun w20 σ21 q22 => ?_)
                obtain ⟨x23, rfl, rfl, h24, h25, q26⟩ := q22
                refine k_st (st' := [.inl x23]) rfl ?_
                rcases (by omega : x23.toInt = 0 ∨ x23.toInt = 1) with g27 | g27
                · refine k_if_eq (fun h28 => ?_) (fun h28 => by exfalso; omega)
                  refine hB _ _ _ _ (kgoC (is := KX4_leave_153) rfl ?_)
                  refine k_aload rfl ?_
                  obtain ⟨o31, e29, c30, t32, f33⟩ := cg273 H2.1 t14
                  refine k_get kg273 t14 e29 ?_
                  refine k_ifnonnull (fun b34 h35 => ?_) (fun h35 => ?_)
                  · subst h35
                    have t36 := t32 b34 rfl
                    have f37 := (f33 b34 rfl).2
                    refine hB _ _ _ _ (kgoC (is := KX4_leave_170) rfl ?_)
                    refine k_aload rfl ?_
                    refine k_get kg273 t14 (congrArg (fun z : Option Nat => (Sum.inr (Sum.inr z) : AvC)) c30) ?_
                    refine k_nil ?_
                    refine hB _ _ _ _ (kgoC (is := KX4_leave_175) rfl ?_)
                    refine k_astore (ls' := [(6, .inr (.inr (some b34))), (0, .inr (.inr (some p0))), (1, .inl p1), (2, .inr (.inl p2)), (5, .inr (.inr p4)), (7, .inl v7_7)]) rfl ?_
                    obtain ⟨x38, e40, h39⟩ := iincC (n := 1) (m := 1) (v := v7_7) rfl (by omega) (by omega)
                    refine k_iinc (ls' := [(7, .inl x38), (6, .inr (.inr (some b34))), (0, .inr (.inr (some p0))), (1, .inl p1), (2, .inr (.inl p2)), (5, .inr (.inr p4))]) rfl e40 rfl ?_
                    refine k_goto ?_
                    have X41 : ExC [161, 162, 163, 169] σ0 σ1 := ExC.rf.tr (e3.mo (by decide))
                    exact hW _ _ _ _ _ (List.forall_mem_cons.2 ⟨List.Mem.tail _ (List.Mem.tail _ (List.Mem.head _)), (List.forall_mem_cons.2 ⟨List.Mem.tail _ (List.Mem.tail _ (List.Mem.tail _ (List.Mem.head _))), (List.forall_mem_cons.2 ⟨List.Mem.tail _ (List.Mem.tail _ (List.Mem.tail _ (List.Mem.tail _ (List.Mem.head _)))), (List.forall_mem_cons.2 ⟨List.Mem.tail _ (List.Mem.tail _ (List.Mem.tail _ (List.Mem.tail _ (List.Mem.tail _ (List.Mem.head _))))), (List.forall_mem_cons.2 ⟨List.Mem.tail _ (List.Mem.head _), (List.forall_mem_cons.2 ⟨List.Mem.head _, fun _ h => absurd h List.not_mem_nil⟩)⟩)⟩)⟩)⟩)⟩) (ih7 ((2147483647 - x38.toInt).toNat) (by omega) σ1 (some b34) x38 rfl H2 X41 t36.ot (by omega) (by omega))
                  · subst h35
                    refine k_nil ?_
                    refine hB _ _ _ _ (kgoC (is := KX4_leave_161) rfl ?_)
                    refine k_aload_n rfl ?_
                    refine k_iload_n rfl ?_
                    refine k_lload_n rfl ?_
                    have t42 := h_0_0.x e3
                    refine k_inv (P := P_X4_behindMethod) (Q := Q_X4_behindMethod) rfl rfl rfl rfl (Nat.le_of_ble_eq_true rfl) (t42.rc (by decide)) ⟨_, _, _, rfl, H2, t42⟩ (fun w43 σ44 q45 => ?_)
                    obtain ⟨o46, rfl, H47, e48, h49⟩ := q45
                    refine k_st (st' := [.inr (.inr o46)]) rfl ?_
                    refine k_goto ?_
                    refine hB _ _ _ _ (kgoC (is := KX4_leave_175) rfl ?_)
                    refine k_astore (ls' := [(6, .inr (.inr o46)), (0, .inr (.inr (some p0))), (1, .inl p1), (2, .inr (.inl p2)), (5, .inr (.inr p4)), (7, .inl v7_7)]) rfl ?_
                    obtain ⟨x50, e52, h51⟩ := iincC (n := 1) (m := 1) (v := v7_7) rfl (by omega) (by omega)
                    refine k_iinc (ls' := [(7, .inl x50), (6, .inr (.inr o46)), (0, .inr (.inr (some p0))), (1, .inl p1), (2, .inr (.inl p2)), (5, .inr (.inr p4))]) rfl e52 rfl ?_
                    refine k_goto ?_
                    have X53 : ExC [161, 162, 163, 169] σ0 σ1 := ExC.rf.tr (e3.mo (by decide))
                    have X54 : ExC [161, 162, 163, 169] σ0 σ44 := X53.tr (e48.mo (by decide))
                    exact hW _ _ _ _ _ (List.forall_mem_cons.2 ⟨List.Mem.tail _ (List.Mem.tail _ (List.Mem.head _)), (List.forall_mem_cons.2 ⟨List.Mem.tail _ (List.Mem.tail _ (List.Mem.tail _ (List.Mem.head _))), (List.forall_mem_cons.2 ⟨List.Mem.tail _ (List.Mem.tail _ (List.Mem.tail _ (List.Mem.tail _ (List.Mem.head _)))), (List.forall_mem_cons.2 ⟨List.Mem.tail _ (List.Mem.tail _ (List.Mem.tail _ (List.Mem.tail _ (List.Mem.tail _ (List.Mem.head _))))), (List.forall_mem_cons.2 ⟨List.Mem.tail _ (List.Mem.head _), (List.forall_mem_cons.2 ⟨List.Mem.head _, fun _ h => absurd h List.not_mem_nil⟩)⟩)⟩)⟩)⟩)⟩) (ih7 ((2147483647 - x50.toInt).toNat) (by omega) σ44 o46 x50 rfl H47 X54 h49 (by omega) (by omega))
                · obtain ⟨b55, h56, b57, h58⟩ := q26 (by omega)
                  obtain ⟨o59, e60, c61, t62, f63⟩ := cg273 H2.1 t14
                  have h64 : o59 = some b55 := c61.symm.trans h56
                  subst h64
                  have t65 := t62 b55 rfl
                  have f66 := (f63 b55 rfl).2
                  obtain ⟨o67, e68, c69, t70, f71⟩ := cg278 H2.1 t65
                  have h72 : o67 = some b57 := c69.symm.trans h58
                  subst h72
                  have t73 := t70 b57 rfl
                  have f74 := (f71 b57 rfl).2
                  refine k_if_eq (fun h75 => by exfalso; omega) (fun h75 => ?_)
                  refine k_nil ?_
                  refine hB _ _ _ _ (kgoC (is := KX4_leave_104) rfl ?_)
                  refine k_aload_n rfl ?_
                  refine k_aload rfl ?_
                  refine k_get kg273 t14 (congrArg (fun z : Option Nat => (Sum.inr (Sum.inr z) : AvC)) c61) ?_
                  have t76 := h_0_0.x e3
                  refine k_inv (P := P_X4_way) (Q := Q_X4_way) rfl rfl rfl rfl (Nat.le_of_ble_eq_true rfl) (t76.rc (by decide)) ⟨_, _, rfl, H2, t76, t65⟩ (fun w77 σ78 q79 => ?_)
                  obtain ⟨x80, rfl, rfl, h81, h82⟩ := q79
                  refine k_st (st' := [.inl x80]) rfl ?_
                  refine k_istore (ls' := [(8, .inl x80), (0, .inr (.inr (some p0))), (1, .inl p1), (2, .inr (.inl p2)), (5, .inr (.inr p4)), (6, .inr (.inr (some b11))), (7, .inl v7_7)]) rfl ?_
                  refine k_aload_n rfl ?_
                  obtain ⟨a85, e83, c84, t86, l87, l88⟩ := cg154 H2.1 t76
                  refine k_get kg154 t76 e83 ?_
                  refine k_iload rfl ?_
                  refine k_iload_n rfl ?_
                  refine k_iastore H2 t86 l88 (by omega) (by omega) (fun σ89 H90 e91 => ?_)
                  refine k_aload_n rfl ?_
                  have t92 := t76.x e91
                  obtain ⟨a95, e93, c94, t96, l97⟩ := cg155 H90.1 t92
                  refine k_get kg155 t92 e93 ?_
                  refine k_iload rfl ?_
                  refine k_lload_n rfl ?_
                  refine k_lastore H90 t96 (by omega) (by omega) (fun σ98 H99 e100 => ?_)
                  refine k_aload_n rfl ?_
                  have t101 := t92.x e100
                  obtain ⟨a104, e102, c103, t105, l106⟩ := cg156 H99.1 t101
                  refine k_get kg156 t101 e102 ?_
                  refine k_iload rfl ?_
                  refine k_aload rfl ?_
                  have t110 := t16.x e91
                  have t111 := t110.x e100
                  refine k_aastore (c := 9) H99 t105 (by decide) (by omega) (by omega) (t111) (fun σ107 H108 e109 => ?_)
                  refine k_aload_n rfl ?_
                  refine k_aload rfl ?_
                  have t112 := t14.x e91
                  have t113 := t112.x e100
                  have t114 := t113.x e109
                  have c115 := (t14.mr e91 (by decide)).trans c61
                  have c116 := (t112.mr e100 (by decide)).trans c115
                  have c117 := (t113.mr e109 (by decide)).trans c116
                  refine k_get kg273 t114 (congrArg (fun z : Option Nat => (Sum.inr (Sum.inr z) : AvC)) c117) ?_
                  have t118 := t65.x e91
                  have t119 := t118.x e100
                  have t120 := t119.x e109
                  have c121 := (t65.mr e91 (by decide)).trans c69
                  have c122 := (t118.mr e100 (by decide)).trans c121
                  have c123 := (t119.mr e109 (by decide)).trans c122
                  refine k_get kg278 t120 (congrArg (fun z : Option Nat => (Sum.inr (Sum.inr z) : AvC)) c123) ?_
                  have t124 := t101.x e109
                  have t125 := t73.x e91
                  have t126 := t125.x e100
                  have t127 := t126.x e109
                  refine k_inv (P := P_X4_goInto) (Q := Q_X4_goInto) rfl rfl rfl rfl (Nat.le_of_ble_eq_true rfl) (t124.rc (by decide)) ⟨_, _, rfl, H108, t124, t127⟩ (fun w128 σ129 q130 => ?_)
                  obtain ⟨rfl, H131, e132⟩ := q130
                  refine k_st (st' := []) rfl ?_
                  refine k_return ?_
                  have X133 : ExC [161, 162, 163, 169] σ0 σ1 := ExC.rf.tr (e3.mo (by decide))
                  have X134 : ExC [161, 162, 163, 169] σ0 σ89 := X133.tr (e91.mo (by decide))
                  have X135 : ExC [161, 162, 163, 169] σ0 σ98 := X134.tr (e100.mo (by decide))
                  have X136 : ExC [161, 162, 163, 169] σ0 σ107 := X135.tr (e109.mo (by decide))
                  have X137 : ExC [161, 162, 163, 169] σ0 σ129 := X136.tr (e132.mo (by decide))
                  exact ⟨rfl, H131, X137⟩
              · refine k_nil ?_
                refine hB _ _ _ _ (kgoC (is := KX4_leave_57) rfl ?_)
                refine k_aload rfl ?_
                refine k_inv (P := P_X8_isCaught) (Q := Q_X8_isCaught) rfl rfl rfl rfl (Nat.le_of_ble_eq_true rfl) (t14.rc (by decide)) ⟨_, rfl, H2, t14⟩ (fun w138 σ139 q140 => ?_)
                obtain ⟨x141, rfl, rfl, h142, h143, q144⟩ := q140
                refine k_st (st' := [.inl x141]) rfl ?_
                rcases (by omega : x141.toInt = 0 ∨ x141.toInt = 1) with g145 | g145
                · refine k_if_eq (fun h146 => ?_) (fun h146 => by exfalso; omega)
                  refine hB _ _ _ _ (kgoC (is := KX4_leave_96) rfl ?_)
                  refine k_aload rfl ?_
                  refine k_inv (P := P_X8_hasFinallyAhead) (Q := Q_X8_hasFinallyAhead) rfl rfl rfl rfl (Nat.le_of_ble_eq_true rfl) (t14.rc (by decide)) ⟨_, rfl, H2, t14⟩ (fun w147 σ148 q149 => ?_)
                  obtain ⟨x150, rfl, rfl, h151, h152, q153⟩ := q149
                  refine k_st (st' := [.inl x150]) rfl ?_
                  rcases (by omega : x150.toInt = 0 ∨ x150.toInt = 1) with g154 | g154
                  · refine k_if_eq (fun h155 => ?_) (fun h155 => by exfalso; omega)
                    refine hB _ _ _ _ (kgoC (is := KX4_leave_153) rfl ?_)
                    refine k_aload rfl ?_
                    obtain ⟨o158, e156, c157, t159, f160⟩ := cg273 H2.1 t14
                    refine k_get kg273 t14 e156 ?_
                    refine k_ifnonnull (fun b161 h162 => ?_) (fun h162 => ?_)
                    · subst h162
                      have t163 := t159 b161 rfl
                      have f164 := (f160 b161 rfl).2
                      refine hB _ _ _ _ (kgoC (is := KX4_leave_170) rfl ?_)
                      refine k_aload rfl ?_
                      refine k_get kg273 t14 (congrArg (fun z : Option Nat => (Sum.inr (Sum.inr z) : AvC)) c157) ?_
                      refine k_nil ?_
                      refine hB _ _ _ _ (kgoC (is := KX4_leave_175) rfl ?_)
                      refine k_astore (ls' := [(6, .inr (.inr (some b161))), (0, .inr (.inr (some p0))), (1, .inl p1), (2, .inr (.inl p2)), (5, .inr (.inr p4)), (7, .inl v7_7)]) rfl ?_
                      obtain ⟨x165, e167, h166⟩ := iincC (n := 1) (m := 1) (v := v7_7) rfl (by omega) (by omega)
                      refine k_iinc (ls' := [(7, .inl x165), (6, .inr (.inr (some b161))), (0, .inr (.inr (some p0))), (1, .inl p1), (2, .inr (.inl p2)), (5, .inr (.inr p4))]) rfl e167 rfl ?_
                      refine k_goto ?_
                      have X168 : ExC [161, 162, 163, 169] σ0 σ1 := ExC.rf.tr (e3.mo (by decide))
                      exact hW _ _ _ _ _ (List.forall_mem_cons.2 ⟨List.Mem.tail _ (List.Mem.tail _ (List.Mem.head _)), (List.forall_mem_cons.2 ⟨List.Mem.tail _ (List.Mem.tail _ (List.Mem.tail _ (List.Mem.head _))), (List.forall_mem_cons.2 ⟨List.Mem.tail _ (List.Mem.tail _ (List.Mem.tail _ (List.Mem.tail _ (List.Mem.head _)))), (List.forall_mem_cons.2 ⟨List.Mem.tail _ (List.Mem.tail _ (List.Mem.tail _ (List.Mem.tail _ (List.Mem.tail _ (List.Mem.head _))))), (List.forall_mem_cons.2 ⟨List.Mem.tail _ (List.Mem.head _), (List.forall_mem_cons.2 ⟨List.Mem.head _, fun _ h => absurd h List.not_mem_nil⟩)⟩)⟩)⟩)⟩)⟩) (ih7 ((2147483647 - x165.toInt).toNat) (by omega) σ1 (some b161) x165 rfl H2 X168 t163.ot (by omega) (by omega))
                    · subst h162
                      refine k_nil ?_
                      refine hB _ _ _ _ (kgoC (is := KX4_leave_161) rfl ?_)
                      refine k_aload_n rfl ?_
                      refine k_iload_n rfl ?_
                      refine k_lload_n rfl ?_
                      have t169 := h_0_0.x e3
                      refine k_inv (P := P_X4_behindMethod) (Q := Q_X4_behindMethod) rfl rfl rfl rfl (Nat.le_of_ble_eq_true rfl) (t169.rc (by decide)) ⟨_, _, _, rfl, H2, t169⟩ (fun w170 σ171 q172 => ?_)
                      obtain ⟨o173, rfl, H174, e175, h176⟩ := q172
                      refine k_st (st' := [.inr (.inr o173)]) rfl ?_
                      refine k_goto ?_
                      refine hB _ _ _ _ (kgoC (is := KX4_leave_175) rfl ?_)
                      refine k_astore (ls' := [(6, .inr (.inr o173)), (0, .inr (.inr (some p0))), (1, .inl p1), (2, .inr (.inl p2)), (5, .inr (.inr p4)), (7, .inl v7_7)]) rfl ?_
                      obtain ⟨x177, e179, h178⟩ := iincC (n := 1) (m := 1) (v := v7_7) rfl (by omega) (by omega)
                      refine k_iinc (ls' := [(7, .inl x177), (6, .inr (.inr o173)), (0, .inr (.inr (some p0))), (1, .inl p1), (2, .inr (.inl p2)), (5, .inr (.inr p4))]) rfl e179 rfl ?_
                      refine k_goto ?_
                      have X180 : ExC [161, 162, 163, 169] σ0 σ1 := ExC.rf.tr (e3.mo (by decide))
                      have X181 : ExC [161, 162, 163, 169] σ0 σ171 := X180.tr (e175.mo (by decide))
                      exact hW _ _ _ _ _ (List.forall_mem_cons.2 ⟨List.Mem.tail _ (List.Mem.tail _ (List.Mem.head _)), (List.forall_mem_cons.2 ⟨List.Mem.tail _ (List.Mem.tail _ (List.Mem.tail _ (List.Mem.head _))), (List.forall_mem_cons.2 ⟨List.Mem.tail _ (List.Mem.tail _ (List.Mem.tail _ (List.Mem.tail _ (List.Mem.head _)))), (List.forall_mem_cons.2 ⟨List.Mem.tail _ (List.Mem.tail _ (List.Mem.tail _ (List.Mem.tail _ (List.Mem.tail _ (List.Mem.head _))))), (List.forall_mem_cons.2 ⟨List.Mem.tail _ (List.Mem.head _), (List.forall_mem_cons.2 ⟨List.Mem.head _, fun _ h => absurd h List.not_mem_nil⟩)⟩)⟩)⟩)⟩)⟩) (ih7 ((2147483647 - x177.toInt).toNat) (by omega) σ171 o173 x177 rfl H174 X181 h176 (by omega) (by omega))
                  · obtain ⟨b182, h183, b184, h185⟩ := q153 (by omega)
                    obtain ⟨o186, e187, c188, t189, f190⟩ := cg273 H2.1 t14
                    have h191 : o186 = some b182 := c188.symm.trans h183
                    subst h191
                    have t192 := t189 b182 rfl
                    have f193 := (f190 b182 rfl).2
                    obtain ⟨o194, e195, c196, t197, f198⟩ := cg278 H2.1 t192
                    have h199 : o194 = some b184 := c196.symm.trans h185
                    subst h199
                    have t200 := t197 b184 rfl
                    have f201 := (f198 b184 rfl).2
                    refine k_if_eq (fun h202 => by exfalso; omega) (fun h202 => ?_)
                    refine k_nil ?_
                    refine hB _ _ _ _ (kgoC (is := KX4_leave_104) rfl ?_)
                    refine k_aload_n rfl ?_
                    refine k_aload rfl ?_
                    refine k_get kg273 t14 (congrArg (fun z : Option Nat => (Sum.inr (Sum.inr z) : AvC)) c188) ?_
                    have t203 := h_0_0.x e3
                    refine k_inv (P := P_X4_way) (Q := Q_X4_way) rfl rfl rfl rfl (Nat.le_of_ble_eq_true rfl) (t203.rc (by decide)) ⟨_, _, rfl, H2, t203, t192⟩ (fun w204 σ205 q206 => ?_)
                    obtain ⟨x207, rfl, rfl, h208, h209⟩ := q206
                    refine k_st (st' := [.inl x207]) rfl ?_
                    refine k_istore (ls' := [(8, .inl x207), (0, .inr (.inr (some p0))), (1, .inl p1), (2, .inr (.inl p2)), (5, .inr (.inr p4)), (6, .inr (.inr (some b11))), (7, .inl v7_7)]) rfl ?_
                    refine k_aload_n rfl ?_
                    obtain ⟨a212, e210, c211, t213, l214, l215⟩ := cg154 H2.1 t203
                    refine k_get kg154 t203 e210 ?_
                    refine k_iload rfl ?_
                    refine k_iload_n rfl ?_
                    refine k_iastore H2 t213 l215 (by omega) (by omega) (fun σ216 H217 e218 => ?_)
                    refine k_aload_n rfl ?_
                    have t219 := t203.x e218
                    obtain ⟨a222, e220, c221, t223, l224⟩ := cg155 H217.1 t219
                    refine k_get kg155 t219 e220 ?_
                    refine k_iload rfl ?_
                    refine k_lload_n rfl ?_
                    refine k_lastore H217 t223 (by omega) (by omega) (fun σ225 H226 e227 => ?_)
                    refine k_aload_n rfl ?_
                    have t228 := t219.x e227
                    obtain ⟨a231, e229, c230, t232, l233⟩ := cg156 H226.1 t228
                    refine k_get kg156 t228 e229 ?_
                    refine k_iload rfl ?_
                    refine k_aload rfl ?_
                    have t237 := t16.x e218
                    have t238 := t237.x e227
                    refine k_aastore (c := 9) H226 t232 (by decide) (by omega) (by omega) (t238) (fun σ234 H235 e236 => ?_)
                    refine k_aload_n rfl ?_
                    refine k_aload rfl ?_
                    have t239 := t14.x e218
                    have t240 := t239.x e227
                    have t241 := t240.x e236
                    have c242 := (t14.mr e218 (by decide)).trans c188
                    have c243 := (t239.mr e227 (by decide)).trans c242
                    have c244 := (t240.mr e236 (by decide)).trans c243
                    refine k_get kg273 t241 (congrArg (fun z : Option Nat => (Sum.inr (Sum.inr z) : AvC)) c244) ?_
                    have t245 := t192.x e218
                    have t246 := t245.x e227
                    have t247 := t246.x e236
                    have c248 := (t192.mr e218 (by decide)).trans c196
                    have c249 := (t245.mr e227 (by decide)).trans c248
                    have c250 := (t246.mr e236 (by decide)).trans c249
                    refine k_get kg278 t247 (congrArg (fun z : Option Nat => (Sum.inr (Sum.inr z) : AvC)) c250) ?_
                    have t251 := t228.x e236
                    have t252 := t200.x e218
                    have t253 := t252.x e227
                    have t254 := t253.x e236
                    refine k_inv (P := P_X4_goInto) (Q := Q_X4_goInto) rfl rfl rfl rfl (Nat.le_of_ble_eq_true rfl) (t251.rc (by decide)) ⟨_, _, rfl, H235, t251, t254⟩ (fun w255 σ256 q257 => ?_)
                    obtain ⟨rfl, H258, e259⟩ := q257
                    refine k_st (st' := []) rfl ?_
                    refine k_return ?_
                    have X260 : ExC [161, 162, 163, 169] σ0 σ1 := ExC.rf.tr (e3.mo (by decide))
                    have X261 : ExC [161, 162, 163, 169] σ0 σ216 := X260.tr (e218.mo (by decide))
                    have X262 : ExC [161, 162, 163, 169] σ0 σ225 := X261.tr (e227.mo (by decide))
                    have X263 : ExC [161, 162, 163, 169] σ0 σ234 := X262.tr (e236.mo (by decide))
                    have X264 : ExC [161, 162, 163, 169] σ0 σ256 := X263.tr (e259.mo (by decide))
                    exact ⟨rfl, H258, X264⟩
                · obtain ⟨b265, h266, b267, h268⟩ := q144 (by omega)
                  obtain ⟨o269, e270, c271, t272, f273⟩ := cg273 H2.1 t14
                  have h274 : o269 = some b265 := c271.symm.trans h266
                  subst h274
                  have t275 := t272 b265 rfl
                  have f276 := (f273 b265 rfl).2
                  obtain ⟨o277, e278, c279, t280, f281⟩ := cg277 H2.1 t275
                  have h282 : o277 = some b267 := c279.symm.trans h268
                  subst h282
                  have t283 := t280 b267 rfl
                  have f284 := (f281 b267 rfl).2
                  refine k_if_eq (fun h285 => by exfalso; omega) (fun h285 => ?_)
                  refine k_nil ?_
                  refine hB _ _ _ _ (kgoC (is := KX4_leave_65) rfl ?_)
                  refine k_aload_n rfl ?_
                  refine k_aload rfl ?_
                  refine k_get kg273 t14 (congrArg (fun z : Option Nat => (Sum.inr (Sum.inr z) : AvC)) c271) ?_
                  refine k_get kg277 t275 (congrArg (fun z : Option Nat => (Sum.inr (Sum.inr z) : AvC)) c279) ?_
                  have t286 := h_0_0.x e3
                  refine k_inv (P := P_X4_goInto) (Q := Q_X4_goInto) rfl rfl rfl rfl (Nat.le_of_ble_eq_true rfl) (t286.rc (by decide)) ⟨_, _, rfl, H2, t286, t283⟩ (fun w287 σ288 q289 => ?_)
                  obtain ⟨rfl, H290, e291⟩ := q289
                  refine k_st (st' := []) rfl ?_
                  refine k_aload_n rfl ?_
                  have t292 := t286.x e291
                  obtain ⟨a295, e293, c294, t296, l297⟩ := cg150 H290.1 t292
                  refine k_get kg150 t292 e293 ?_
                  refine k_aload_n rfl ?_
                  refine k_aload rfl ?_
                  have t298 := t14.x e291
                  have c299 := (t14.mr e291 (by decide)).trans c271
                  refine k_get kg273 t298 (congrArg (fun z : Option Nat => (Sum.inr (Sum.inr z) : AvC)) c299) ?_
                  have t300 := t275.x e291
                  obtain ⟨x303, e301, c302, h304, h305⟩ := cg280 H290.1 t300
                  refine k_get kg280 t300 e301 ?_
                  refine k_inv (P := P_X4_slot) (Q := Q_X4_slot) rfl rfl rfl rfl (Nat.le_of_ble_eq_true rfl) (t292.rc (by decide)) ⟨_, _, rfl, H290, t292⟩ (fun w306 σ307 q308 => ?_)
                  obtain ⟨x309, rfl, rfl, h310, h311⟩ := q308
                  refine k_st (st' := [.inl x309, .inr (.inr (some a295))]) rfl ?_
                  refine k_lload_n rfl ?_
                  refine k_lastore H290 t296 (by omega) (by omega) (fun σ312 H313 e314 => ?_)
                  refine k_return ?_
                  have X315 : ExC [161, 162, 163, 169] σ0 σ1 := ExC.rf.tr (e3.mo (by decide))
                  have X316 : ExC [161, 162, 163, 169] σ0 σ288 := X315.tr (e291.mo (by decide))
                  have X317 : ExC [161, 162, 163, 169] σ0 σ312 := X316.tr (e314.mo (by decide))
                  exact ⟨rfl, H313, X317⟩
            · refine k_nil ?_
              refine hB _ _ _ _ (kgoC (is := KX4_leave_27) rfl ?_)
              refine k_aload_n rfl ?_
              refine k_iload_n rfl ?_
              refine k_bipush (m := 64) rfl (fun x318 h319 => ?_)
              refine k_ic_ne (fun h320 => ?_) (fun h320 => ?_)
              · refine hB _ _ _ _ (kgoC (is := KX4_leave_42) rfl ?_)
                refine k_aload rfl ?_
                obtain ⟨x323, e321, c322, h324, h325⟩ := cg289 H2.1 t14
                refine k_get kg289 t14 e321 ?_
                refine k_nil ?_
                refine hB _ _ _ _ (kgoC (is := KX4_leave_47) rfl ?_)
                have t326 := h_0_0.x e3
                refine k_putI kp161 H2 t326 (Or.inl fk161) (tiC x323).1 (tiC x323).2 (fun σ327 H328 e329 c330 => ?_)
                refine k_return ?_
                have X331 : ExC [161, 162, 163, 169] σ0 σ1 := ExC.rf.tr (e3.mo (by decide))
                have X332 : ExC [161, 162, 163, 169] σ0 σ327 := X331.tr (e329.mo (by decide))
                exact ⟨rfl, H328, X332⟩
              · refine k_nil ?_
                refine hB _ _ _ _ (kgoC (is := KX4_leave_34) rfl ?_)
                refine k_aload rfl ?_
                obtain ⟨x335, e333, c334, h336, h337⟩ := cg290 H2.1 t14
                refine k_get kg290 t14 e333 ?_
                refine k_goto ?_
                refine hB _ _ _ _ (kgoC (is := KX4_leave_47) rfl ?_)
                have t338 := h_0_0.x e3
                refine k_putI kp161 H2 t338 (Or.inl fk161) (tiC x335).1 (tiC x335).2 (fun σ339 H340 e341 c342 => ?_)
                refine k_return ?_
                have X343 : ExC [161, 162, 163, 169] σ0 σ1 := ExC.rf.tr (e3.mo (by decide))
                have X344 : ExC [161, 162, 163, 169] σ0 σ339 := X343.tr (e341.mo (by decide))
                exact ⟨rfl, H340, X344⟩
    refine hB _ _ _ _ (kgoC (is := KX4_leave_0) rfl ?_)
    refine k_aload rfl ?_
    refine k_astore (ls' := [(6, .inr (.inr p3)), (0, .inr (.inr (some p0))), (1, .inl p1), (2, .inr (.inl p2)), (4, .inr (.inr p3)), (5, .inr (.inr p4))]) rfl ?_
    refine k_iconst (m := 0) rfl (fun x345 h346 => ?_)
    refine k_istore (ls' := [(7, .inl x345), (6, .inr (.inr p3)), (0, .inr (.inr (some p0))), (1, .inl p1), (2, .inr (.inl p2)), (4, .inr (.inr p3)), (5, .inr (.inr p4))]) rfl ?_
    refine k_nil ?_
    exact hW _ _ _ _ _ (List.forall_mem_cons.2 ⟨List.Mem.tail _ (List.Mem.tail _ (List.Mem.head _)), (List.forall_mem_cons.2 ⟨List.Mem.tail _ (List.Mem.tail _ (List.Mem.tail _ (List.Mem.head _))), (List.forall_mem_cons.2 ⟨List.Mem.tail _ (List.Mem.tail _ (List.Mem.tail _ (List.Mem.tail _ (List.Mem.head _)))), (List.forall_mem_cons.2 ⟨List.Mem.tail _ (List.Mem.tail _ (List.Mem.tail _ (List.Mem.tail _ (List.Mem.tail _ (List.Mem.tail _ (List.Mem.head _)))))), (List.forall_mem_cons.2 ⟨List.Mem.tail _ (List.Mem.head _), (List.forall_mem_cons.2 ⟨List.Mem.head _, fun _ h => absurd h List.not_mem_nil⟩)⟩)⟩)⟩)⟩)⟩) (L7 _ σ0 p3 x345 rfl H0 ExC.rf h_3_0 (by omega) (by omega))

abbrev P_X4_control : CpC := fun As σ => ∃ (p0 : Nat) (p1 : Int32) (p2 : Nat), As = [.inr (.inr (some p0)), .inl p1, .inr (.inr (some p2))] ∧ HIC σ ∧ TyC σ p0 5 ∧ TyC σ p2 9
abbrev Q_X4_control : CqC := fun As σ w τ => match As with
  | [.inr (.inr (some p0)), .inl p1, .inr (.inr (some p2))] => w = none ∧ HIC τ ∧ ExC [161, 162, 163, 165, 168, 169] σ τ
  | _ => False
set_option maxRecDepth 100000 in
set_option maxHeartbeats 4000000 in
theorem m_X4_control (l : Launch) : CMetC l 5 105 P_X4_control Q_X4_control := by
  refine CMetC.of KX4_control [(94, P_X4_step, Q_X4_step), (92, P_X4_pop, Q_X4_pop), (107, P_X4_choose, Q_X4_choose), (108, P_X4_leave, Q_X4_leave), (106, P_X4_way, Q_X4_way), (103, P_X4_leaveCall, Q_X4_leaveCall)] hX4_control (by decide) (by decide) okX4_control (cc1C (m_X4_step l) (by decide) (cc1C (m_X4_pop l) (by decide) (cc1C (m_X4_choose l) (by decide) (cc1C (m_X4_leave l) (by decide) (cc1C (m_X4_way l) (by decide) (cc1C (m_X4_leaveCall l) (by decide) cc0C)))))) ?_ ?_
  · rintro As σ ⟨p0, p1, p2, rfl, -⟩
    exact Nat.le_of_ble_eq_true rfl
  · rintro As σ0 ⟨p0, p1, p2, rfl, H0, h_0_0, h_2_0⟩ hgr G hB hW
    change G 0 [(0, .inr (.inr (some p0))), (1, .inl p1), (2, .inr (.inr (some p2)))] [] σ0
    refine hB _ _ _ _ (kgoC (is := KX4_control_0) rfl ?_)
    refine k_iload_n rfl ?_
    refine k_tsw ?_
    refine k_swc (fun h1 => ?_) (fun h1 => ?_)
    · refine hB _ _ _ _ (kgoC (is := KX4_control_48) rfl ?_)
      refine k_aload_n rfl ?_
      refine k_inv (P := P_X4_step) (Q := Q_X4_step) rfl rfl rfl rfl (Nat.le_of_ble_eq_true rfl) (h_0_0.rc (by decide)) ⟨_, rfl, H0, h_0_0⟩ (fun w2 σ3 q4 => ?_)
      obtain ⟨x5, rfl, H6, e7, h8, h9, q10⟩ := q4
      refine k_st (st' := [.inl x5]) rfl ?_
      rcases (by omega : x5.toInt = 0 ∨ x5.toInt = 1) with g11 | g11
      · refine k_if_eq (fun h12 => ?_) (fun h12 => by exfalso; omega)
        refine hB _ _ _ _ (kgoC (is := KX4_control_204) rfl ?_)
        refine k_return ?_
        have X13 : ExC [161, 162, 163, 165, 168, 169] σ0 σ3 := ExC.rf.tr (e7.mo (by decide))
        exact ⟨rfl, H6, X13⟩
      · have t19 := h_0_0.x e7
        obtain ⟨x14, e15, c16, h17, h18⟩ := cg165 H6.1 t19
        obtain ⟨x20, e21, c22, h23, h24⟩ := cg167 H6.1 t19
        have h25 : x20.toInt < x14.toInt := by rw [← c16, ← c22]; exact q10 (by omega)
        refine k_if_eq (fun h26 => by exfalso; omega) (fun h26 => ?_)
        refine k_nil ?_
        refine hB _ _ _ _ (kgoC (is := KX4_control_55) rfl ?_)
        refine k_aload_n rfl ?_
        refine k_aload_n rfl ?_
        have t27 := h_2_0.x e7
        obtain ⟨x30, e28, c29, h31, h32⟩ := cg271 H6.1 t27
        refine k_get kg271 t27 e28 ?_
        refine k_putI kp168 H6 t19 (Or.inl fk168) (tiC x30).1 (tiC x30).2 (fun σ33 H34 e35 c36 => ?_)
        refine k_goto ?_
        refine hB _ _ _ _ (kgoC (is := KX4_control_204) rfl ?_)
        refine k_return ?_
        have X37 : ExC [161, 162, 163, 165, 168, 169] σ0 σ3 := ExC.rf.tr (e7.mo (by decide))
        have X38 : ExC [161, 162, 163, 165, 168, 169] σ0 σ33 := X37.tr (e35.mo (by decide))
        exact ⟨rfl, H34, X38⟩
    refine k_swc (fun h39 => ?_) (fun h39 => ?_)
    · refine hB _ _ _ _ (kgoC (is := KX4_control_66) rfl ?_)
      refine k_aload_n rfl ?_
      refine k_inv (P := P_X4_step) (Q := Q_X4_step) rfl rfl rfl rfl (Nat.le_of_ble_eq_true rfl) (h_0_0.rc (by decide)) ⟨_, rfl, H0, h_0_0⟩ (fun w40 σ41 q42 => ?_)
      obtain ⟨x43, rfl, H44, e45, h46, h47, q48⟩ := q42
      refine k_st (st' := [.inl x43]) rfl ?_
      rcases (by omega : x43.toInt = 0 ∨ x43.toInt = 1) with g49 | g49
      · refine k_popI ?_
        refine k_goto ?_
        refine hB _ _ _ _ (kgoC (is := KX4_control_204) rfl ?_)
        refine k_return ?_
        have X50 : ExC [161, 162, 163, 165, 168, 169] σ0 σ41 := ExC.rf.tr (e45.mo (by decide))
        exact ⟨rfl, H44, X50⟩
      · have t56 := h_0_0.x e45
        obtain ⟨x51, e52, c53, h54, h55⟩ := cg165 H44.1 t56
        obtain ⟨x57, e58, c59, h60, h61⟩ := cg167 H44.1 t56
        have h62 : x57.toInt < x51.toInt := by rw [← c53, ← c59]; exact q48 (by omega)
        refine k_popI ?_
        refine k_goto ?_
        refine hB _ _ _ _ (kgoC (is := KX4_control_204) rfl ?_)
        refine k_return ?_
        have X63 : ExC [161, 162, 163, 165, 168, 169] σ0 σ41 := ExC.rf.tr (e45.mo (by decide))
        exact ⟨rfl, H44, X63⟩
    refine k_swc (fun h64 => ?_) (fun h64 => ?_)
    · refine hB _ _ _ _ (kgoC (is := KX4_control_74) rfl ?_)
      refine k_aload_n rfl ?_
      refine k_aload_n rfl ?_
      refine k_aload_n rfl ?_
      refine k_inv (P := P_X4_pop) (Q := Q_X4_pop) rfl rfl rfl rfl (Nat.le_of_ble_eq_true rfl) (h_0_0.rc (by decide)) ⟨_, rfl, H0, h_0_0⟩ (fun w65 σ66 q67 => ?_)
      obtain ⟨y68, rfl, H69, e70⟩ := q67
      refine k_st (st' := [.inr (.inl y68), .inr (.inr (some p2)), .inr (.inr (some p0))]) rfl ?_
      have t71 := h_0_0.x e70
      have t72 := h_2_0.x e70
      refine k_inv (P := P_X4_choose) (Q := Q_X4_choose) rfl rfl rfl rfl (Nat.le_of_ble_eq_true rfl) (t71.rc (by decide)) ⟨_, _, _, rfl, H69, t71, t72⟩ (fun w73 σ74 q75 => ?_)
      obtain ⟨rfl, H76, e77⟩ := q75
      refine k_st (st' := []) rfl ?_
      refine k_goto ?_
      refine hB _ _ _ _ (kgoC (is := KX4_control_204) rfl ?_)
      refine k_return ?_
      have X78 : ExC [161, 162, 163, 165, 168, 169] σ0 σ66 := ExC.rf.tr (e70.mo (by decide))
      have X79 : ExC [161, 162, 163, 165, 168, 169] σ0 σ74 := X78.tr (e77.mo (by decide))
      exact ⟨rfl, H76, X79⟩
    refine k_swc (fun h80 => ?_) (fun h80 => ?_)
    · refine hB _ _ _ _ (kgoC (is := KX4_control_86) rfl ?_)
      refine k_aload_n rfl ?_
      refine k_aload_n rfl ?_
      obtain ⟨x83, e81, c82, h84, h85⟩ := cg270 H0.1 h_2_0
      refine k_get kg270 h_2_0 e81 ?_
      refine k_lconst ?_
      refine k_aload_n rfl ?_
      refine k_aload_n rfl ?_
      obtain ⟨o88, e86, c87, t89⟩ := cg281 H0.1 h_2_0
      refine k_get kg281 h_2_0 e86 ?_
      refine k_inv (P := P_X4_leave) (Q := Q_X4_leave) rfl rfl rfl rfl (Nat.le_of_ble_eq_true rfl) (h_0_0.rc (by decide)) ⟨_, _, _, (some p2), o88, rfl, H0, h_0_0, h_2_0.ot, t89⟩ (fun w90 σ91 q92 => ?_)
      obtain ⟨rfl, H93, e94⟩ := q92
      refine k_st (st' := []) rfl ?_
      refine k_goto ?_
      refine hB _ _ _ _ (kgoC (is := KX4_control_204) rfl ?_)
      refine k_return ?_
      have X95 : ExC [161, 162, 163, 165, 168, 169] σ0 σ91 := ExC.rf.tr (e94.mo (by decide))
      exact ⟨rfl, H93, X95⟩
    refine k_swc (fun h96 => ?_) (fun h96 => ?_)
    · refine hB _ _ _ _ (kgoC (is := KX4_control_103) rfl ?_)
      refine k_aload_n rfl ?_
      refine k_bipush (m := 66) rfl (fun x97 h98 => ?_)
      refine k_aload_n rfl ?_
      obtain ⟨o101, e99, c100, t102⟩ := cg279 H0.1 h_2_0
      refine k_get kg279 h_2_0 e99 ?_
      refine k_ifnonnull (fun b103 h104 => ?_) (fun h104 => ?_)
      · subst h104
        have t105 := t102 b103 rfl
        refine hB _ _ _ _ (kgoC (is := KX4_control_117) rfl ?_)
        refine k_aload_n rfl ?_
        refine k_inv (P := P_X4_pop) (Q := Q_X4_pop) rfl rfl rfl rfl (Nat.le_of_ble_eq_true rfl) (h_0_0.rc (by decide)) ⟨_, rfl, H0, h_0_0⟩ (fun w106 σ107 q108 => ?_)
        obtain ⟨y109, rfl, H110, e111⟩ := q108
        refine k_st (st' := [.inr (.inl y109), .inl x97, .inr (.inr (some p0))]) rfl ?_
        refine k_nil ?_
        refine hB _ _ _ _ (kgoC (is := KX4_control_121) rfl ?_)
        refine k_aload_n rfl ?_
        refine k_aconst_null ?_
        have t112 := h_0_0.x e111
        have t113 := h_2_0.x e111
        refine k_inv (P := P_X4_leave) (Q := Q_X4_leave) rfl rfl rfl rfl (Nat.le_of_ble_eq_true rfl) (t112.rc (by decide)) ⟨_, _, _, (some p2), none, rfl, H110, t112, t113.ot, OtC.n⟩ (fun w114 σ115 q116 => ?_)
        obtain ⟨rfl, H117, e118⟩ := q116
        refine k_st (st' := []) rfl ?_
        refine k_goto ?_
        refine hB _ _ _ _ (kgoC (is := KX4_control_204) rfl ?_)
        refine k_return ?_
        have X119 : ExC [161, 162, 163, 165, 168, 169] σ0 σ107 := ExC.rf.tr (e111.mo (by decide))
        have X120 : ExC [161, 162, 163, 165, 168, 169] σ0 σ115 := X119.tr (e118.mo (by decide))
        exact ⟨rfl, H117, X120⟩
      · subst h104
        refine k_nil ?_
        refine hB _ _ _ _ (kgoC (is := KX4_control_113) rfl ?_)
        refine k_lconst ?_
        refine k_goto ?_
        refine hB _ _ _ _ (kgoC (is := KX4_control_121) rfl ?_)
        refine k_aload_n rfl ?_
        refine k_aconst_null ?_
        refine k_inv (P := P_X4_leave) (Q := Q_X4_leave) rfl rfl rfl rfl (Nat.le_of_ble_eq_true rfl) (h_0_0.rc (by decide)) ⟨_, _, _, (some p2), none, rfl, H0, h_0_0, h_2_0.ot, OtC.n⟩ (fun w121 σ122 q123 => ?_)
        obtain ⟨rfl, H124, e125⟩ := q123
        refine k_st (st' := []) rfl ?_
        refine k_goto ?_
        refine hB _ _ _ _ (kgoC (is := KX4_control_204) rfl ?_)
        refine k_return ?_
        have X126 : ExC [161, 162, 163, 165, 168, 169] σ0 σ122 := ExC.rf.tr (e125.mo (by decide))
        exact ⟨rfl, H124, X126⟩
    refine k_swc (fun h127 => ?_) (fun h127 => ?_)
    · refine hB _ _ _ _ (kgoC (is := KX4_control_129) rfl ?_)
      refine k_aload_n rfl ?_
      refine k_bipush (m := 67) rfl (fun x128 h129 => ?_)
      refine k_aload_n rfl ?_
      refine k_inv (P := P_X4_pop) (Q := Q_X4_pop) rfl rfl rfl rfl (Nat.le_of_ble_eq_true rfl) (h_0_0.rc (by decide)) ⟨_, rfl, H0, h_0_0⟩ (fun w130 σ131 q132 => ?_)
      obtain ⟨y133, rfl, H134, e135⟩ := q132
      refine k_st (st' := [.inr (.inl y133), .inl x128, .inr (.inr (some p0))]) rfl ?_
      refine k_aload_n rfl ?_
      refine k_aconst_null ?_
      have t136 := h_0_0.x e135
      have t137 := h_2_0.x e135
      refine k_inv (P := P_X4_leave) (Q := Q_X4_leave) rfl rfl rfl rfl (Nat.le_of_ble_eq_true rfl) (t136.rc (by decide)) ⟨_, _, _, (some p2), none, rfl, H134, t136, t137.ot, OtC.n⟩ (fun w138 σ139 q140 => ?_)
      obtain ⟨rfl, H141, e142⟩ := q140
      refine k_st (st' := []) rfl ?_
      refine k_goto ?_
      refine hB _ _ _ _ (kgoC (is := KX4_control_204) rfl ?_)
      refine k_return ?_
      have X143 : ExC [161, 162, 163, 165, 168, 169] σ0 σ131 := ExC.rf.tr (e135.mo (by decide))
      have X144 : ExC [161, 162, 163, 165, 168, 169] σ0 σ139 := X143.tr (e142.mo (by decide))
      exact ⟨rfl, H141, X144⟩
    refine k_swc (fun h145 => ?_) (fun h145 => ?_)
    · refine hB _ _ _ _ (kgoC (is := KX4_control_144) rfl ?_)
      refine k_aload_n rfl ?_
      obtain ⟨a148, e146, c147, t149, l150, l151⟩ := cg154 H0.1 h_0_0
      refine k_get kg154 h_0_0 e146 ?_
      refine k_aload_n rfl ?_
      refine k_aload_n rfl ?_
      refine k_inv (P := P_X4_way) (Q := Q_X4_way) rfl rfl rfl rfl (Nat.le_of_ble_eq_true rfl) (h_0_0.rc (by decide)) ⟨_, _, rfl, H0, h_0_0, h_2_0⟩ (fun w152 σ153 q154 => ?_)
      obtain ⟨x155, rfl, rfl, h156, h157⟩ := q154
      refine k_st (st' := [.inl x155, .inr (.inr (some a148))]) rfl ?_
      refine k_iconst (m := 0) rfl (fun x158 h159 => ?_)
      refine k_iastore H0 t149 l151 (by omega) (by omega) (fun σ160 H161 e162 => ?_)
      refine k_goto ?_
      refine hB _ _ _ _ (kgoC (is := KX4_control_204) rfl ?_)
      refine k_return ?_
      have X163 : ExC [161, 162, 163, 165, 168, 169] σ0 σ160 := ExC.rf.tr (e162.mo (by decide))
      exact ⟨rfl, H161, X163⟩
    refine k_swc (fun h164 => ?_) (fun h164 => ?_)
    · refine hB _ _ _ _ (kgoC (is := KX4_control_158) rfl ?_)
      refine k_aload_n rfl ?_
      refine k_aload_n rfl ?_
      refine k_inv (P := P_X4_way) (Q := Q_X4_way) rfl rfl rfl rfl (Nat.le_of_ble_eq_true rfl) (h_0_0.rc (by decide)) ⟨_, _, rfl, H0, h_0_0, h_2_0⟩ (fun w165 σ166 q167 => ?_)
      obtain ⟨x168, rfl, rfl, h169, h170⟩ := q167
      refine k_st (st' := [.inl x168]) rfl ?_
      refine k_istore_n (ls' := [(3, .inl x168), (0, .inr (.inr (some p0))), (1, .inl p1), (2, .inr (.inr (some p2)))]) rfl ?_
      refine k_aload_n rfl ?_
      obtain ⟨a173, e171, c172, t174, l175, l176⟩ := cg154 H0.1 h_0_0
      refine k_get kg154 h_0_0 e171 ?_
      refine k_iload_n rfl ?_
      refine k_iaload t174 (by omega) (by omega) (fun x177 => ?_)
      refine k_if_eq (fun h178 => ?_) (fun h178 => ?_)
      · refine hB _ _ _ _ (kgoC (is := KX4_control_204) rfl ?_)
        refine k_return ?_
        exact ⟨rfl, H0, (ExC.rf : ExC [161, 162, 163, 165, 168, 169] σ0 σ0)⟩
      · refine k_nil ?_
        refine hB _ _ _ _ (kgoC (is := KX4_control_173) rfl ?_)
        refine k_aload_n rfl ?_
        refine k_aload_n rfl ?_
        refine k_get kg154 h_0_0 (congrArg (fun z : Option Nat => (Sum.inr (Sum.inr z) : AvC)) c172) ?_
        refine k_iload_n rfl ?_
        refine k_iaload t174 (by omega) (by omega) (fun x179 => ?_)
        refine k_aload_n rfl ?_
        obtain ⟨a182, e180, c181, t183, l184⟩ := cg155 H0.1 h_0_0
        refine k_get kg155 h_0_0 e180 ?_
        refine k_iload_n rfl ?_
        refine k_laload t183 (by omega) (by omega) (fun y185 => ?_)
        refine k_aload_n rfl ?_
        refine k_aload_n rfl ?_
        obtain ⟨a188, e186, c187, t189, l190⟩ := cg156 H0.1 h_0_0
        refine k_get kg156 h_0_0 e186 ?_
        refine k_iload_n rfl ?_
        refine k_aaload (c := 9) H0 t189 (by decide) (by omega) (by omega) (fun o191 e193 t192 => ?_)
        refine k_inv (P := P_X4_leave) (Q := Q_X4_leave) rfl rfl rfl rfl (Nat.le_of_ble_eq_true rfl) (h_0_0.rc (by decide)) ⟨_, _, _, (some p2), o191, rfl, H0, h_0_0, h_2_0.ot, t192⟩ (fun w194 σ195 q196 => ?_)
        obtain ⟨rfl, H197, e198⟩ := q196
        refine k_st (st' := []) rfl ?_
        refine k_goto ?_
        refine hB _ _ _ _ (kgoC (is := KX4_control_204) rfl ?_)
        refine k_return ?_
        have X199 : ExC [161, 162, 163, 165, 168, 169] σ0 σ195 := ExC.rf.tr (e198.mo (by decide))
        exact ⟨rfl, H197, X199⟩
    refine k_swn ?_
    refine hB _ _ _ _ (kgoC (is := KX4_control_199) rfl ?_)
    refine k_aload_n rfl ?_
    refine k_lconst ?_
    refine k_inv (P := P_X4_leaveCall) (Q := Q_X4_leaveCall) rfl rfl rfl rfl (Nat.le_of_ble_eq_true rfl) (h_0_0.rc (by decide)) ⟨_, _, rfl, H0, h_0_0⟩ (fun w200 σ201 q202 => ?_)
    obtain ⟨rfl, H203, e204⟩ := q202
    refine k_st (st' := []) rfl ?_
    refine k_nil ?_
    refine hB _ _ _ _ (kgoC (is := KX4_control_204) rfl ?_)
    refine k_return ?_
    have X205 : ExC [161, 162, 163, 165, 168, 169] σ0 σ201 := ExC.rf.tr (e204.mo (by decide))
    exact ⟨rfl, H203, X205⟩

abbrev P_X4_obey : CpC := fun As σ => ∃ (p0 : Nat), As = [.inr (.inr (some p0))] ∧ HIC σ ∧ TyC σ p0 5
abbrev Q_X4_obey : CqC := fun As σ w τ => match As with
  | [.inr (.inr (some p0))] => w = none ∧ HIC τ ∧ ExC [161, 162, 163, 165, 166, 167, 168, 169] σ τ
  | _ => False
set_option maxRecDepth 100000 in
set_option maxHeartbeats 4000000 in
theorem m_X4_obey (l : Launch) : CMetC l 14 95 P_X4_obey Q_X4_obey := by
  refine CMetC.of KX4_obey [(105, P_X4_control, Q_X4_control), (104, P_X4_move, Q_X4_move), (96, P_X4_work, Q_X4_work), (108, P_X4_leave, Q_X4_leave)] hX4_obey (by decide) (by decide) okX4_obey (cc1C (m_X4_control l) (by decide) (cc1C (m_X4_move l) (by decide) (cc1C (m_X4_work l) (by decide) (cc1C (m_X4_leave l) (by decide) cc0C)))) ?_ ?_
  · rintro As σ ⟨p0, rfl, -⟩
    exact Nat.le_of_ble_eq_true rfl
  · rintro As σ0 ⟨p0, rfl, H0, h_0_0⟩ hgr G hB hW
    change G 0 [(0, .inr (.inr (some p0)))] [] σ0
    refine hB _ _ _ _ (kgoC (is := KX4_obey_0) rfl ?_)
    refine k_aload_n rfl ?_
    obtain ⟨x3, e1, c2, h4, h5⟩ := cg161 H0.1 h_0_0
    refine k_get kg161 h_0_0 e1 ?_
    refine k_if_lt (fun h6 => ?_) (fun h6 => ?_)
    · refine hB _ _ _ _ (kgoC (is := KX4_obey_21) rfl ?_)
      refine k_aload_n rfl ?_
      refine k_iconst (m := 0) rfl (fun x7 h8 => ?_)
      refine k_putI kp169 H0 h_0_0 (Or.inl fk169) (tiC x7).1 (tiC x7).2 (fun σ9 H10 e11 c12 => ?_)
      refine k_return ?_
      have X13 : ExC [161, 162, 163, 165, 166, 167, 168, 169] σ0 σ9 := ExC.rf.tr (e11.mo (by decide))
      exact ⟨rfl, H10, X13⟩
    · refine k_nil ?_
      refine hB _ _ _ _ (kgoC (is := KX4_obey_7) rfl ?_)
      refine k_aload_n rfl ?_
      refine k_get kg161 h_0_0 (congrArg (Sum.inl : Int32 → AvC) c2) ?_
      refine k_aload_n rfl ?_
      obtain ⟨a16, e14, c15, t17⟩ := cg158 H0.1 h_0_0
      refine k_get kg158 h_0_0 e14 ?_
      obtain ⟨x20, e18, c19, h21, h22⟩ := cg34 H0.1 t17
      refine k_get kg34 t17 e18 ?_
      refine k_ic_lt (fun h23 => ?_) (fun h23 => ?_)
      · refine hB _ _ _ _ (kgoC (is := KX4_obey_27) rfl ?_)
        refine k_aload_n rfl ?_
        refine k_get kg161 h_0_0 (congrArg (Sum.inl : Int32 → AvC) c2) ?_
        refine k_istore_n (ls' := [(1, .inl x3), (0, .inr (.inr (some p0)))]) rfl ?_
        refine k_aload_n rfl ?_
        refine k_dupR ?_
        refine k_get kg161 h_0_0 (congrArg (Sum.inl : Int32 → AvC) c2) ?_
        refine k_iconst (m := 1) rfl (fun x24 h25 => ?_)
        refine k_iadd (by omega) (by omega) (fun x26 h27 => ?_)
        refine k_putI kp161 H0 h_0_0 (Or.inl fk161) (tiC x26).1 (tiC x26).2 (fun σ28 H29 e30 c31 => ?_)
        refine k_aload_n rfl ?_
        have t32 := h_0_0.x e30
        have c33 := (h_0_0.mr e30 (by decide)).trans c15
        refine k_get kg158 t32 (congrArg (fun z : Option Nat => (Sum.inr (Sum.inr z) : AvC)) c33) ?_
        have t34 := t17.x e30
        obtain ⟨a37, e35, c36, t38, l39⟩ := cg32 H29.1 t34
        refine k_get kg32 t34 e35 ?_
        refine k_iload_n rfl ?_
        refine k_aaload (c := 2) H29 t38 (by decide) (by omega) (by omega) (fun o40 e42 t41 => ?_)
        refine k_astore_n (ls' := [(2, .inr (.inr o40)), (1, .inl x3), (0, .inr (.inr (some p0)))]) rfl ?_
        refine k_aload_n rfl ?_
        refine k_get kg158 t32 (congrArg (fun z : Option Nat => (Sum.inr (Sum.inr z) : AvC)) c33) ?_
        obtain ⟨a45, e43, c44, t46, l47, l48⟩ := cg30 H29.1 t34
        refine k_get kg30 t34 e43 ?_
        refine k_iload_n rfl ?_
        refine k_iaload t46 (by omega) (by omega) (fun x49 => ?_)
        refine k_bipush (m := 8) rfl (fun x50 h51 => ?_)
        refine k_ic_gt (fun h52 => ?_) (fun h52 => ?_)
        · refine hB _ _ _ _ (kgoC (is := KX4_obey_121) rfl ?_)
          refine k_aload_n rfl ?_
          refine k_get kg158 t32 (congrArg (fun z : Option Nat => (Sum.inr (Sum.inr z) : AvC)) c33) ?_
          refine k_get kg30 t34 (congrArg (fun z : Option Nat => (Sum.inr (Sum.inr z) : AvC)) c44) ?_
          refine k_iload_n rfl ?_
          refine k_iaload t46 (by omega) (by omega) (fun x53 => ?_)
          refine k_bipush (m := 14) rfl (fun x54 h55 => ?_)
          refine k_ic_gt (fun h56 => ?_) (fun h56 => ?_)
          · refine hB _ _ _ _ (kgoC (is := KX4_obey_160) rfl ?_)
            refine k_aload_n rfl ?_
            refine k_get kg158 t32 (congrArg (fun z : Option Nat => (Sum.inr (Sum.inr z) : AvC)) c33) ?_
            obtain ⟨a59, e57, c58, t60, l61⟩ := cg33 H29.1 t34
            refine k_get kg33 t34 e57 ?_
            refine k_iload_n rfl ?_
            refine k_aaload (c := 9) H29 t60 (by decide) (by omega) (by omega) (fun o62 e64 t63 => ?_)
            refine k_ifnull (fun h66 => ?_) (fun b65 h66 => ?_)
            · subst h66
              refine hB _ _ _ _ (kgoC (is := KX4_obey_194) rfl ?_)
              refine k_return ?_
              have X67 : ExC [161, 162, 163, 165, 166, 167, 168, 169] σ0 σ28 := ExC.rf.tr (e30.mo (by decide))
              exact ⟨rfl, H29, X67⟩
            · subst h66
              have t68 := t63 b65 rfl
              refine k_nil ?_
              refine hB _ _ _ _ (kgoC (is := KX4_obey_172) rfl ?_)
              refine k_aload_n rfl ?_
              refine k_aload_n rfl ?_
              refine k_get kg158 t32 (congrArg (fun z : Option Nat => (Sum.inr (Sum.inr z) : AvC)) c33) ?_
              refine k_get kg30 t34 (congrArg (fun z : Option Nat => (Sum.inr (Sum.inr z) : AvC)) c44) ?_
              refine k_iload_n rfl ?_
              refine k_iaload t46 (by omega) (by omega) (fun x69 => ?_)
              refine k_aload_n rfl ?_
              refine k_get kg158 t32 (congrArg (fun z : Option Nat => (Sum.inr (Sum.inr z) : AvC)) c33) ?_
              refine k_get kg33 t34 (congrArg (fun z : Option Nat => (Sum.inr (Sum.inr z) : AvC)) c58) ?_
              refine k_iload_n rfl ?_
              refine k_aaloadE t60 (by decide) (by omega) (by omega) e64 ?_
              refine k_inv (P := P_X4_control) (Q := Q_X4_control) rfl rfl rfl rfl (Nat.le_of_ble_eq_true rfl) (t32.rc (by decide)) ⟨_, _, _, rfl, H29, t32, t68⟩ (fun w73 σ74 q75 => ?_)
              obtain ⟨rfl, H76, e77⟩ := q75
              refine k_st (st' := []) rfl ?_
              refine k_nil ?_
              refine hB _ _ _ _ (kgoC (is := KX4_obey_194) rfl ?_)
              refine k_return ?_
              have X78 : ExC [161, 162, 163, 165, 166, 167, 168, 169] σ0 σ28 := ExC.rf.tr (e30.mo (by decide))
              have X79 : ExC [161, 162, 163, 165, 166, 167, 168, 169] σ0 σ74 := X78.tr (e77.mo (by decide))
              exact ⟨rfl, H76, X79⟩
          · refine k_nil ?_
            refine hB _ _ _ _ (kgoC (is := KX4_obey_135) rfl ?_)
            refine k_aload_n rfl ?_
            refine k_aload_n rfl ?_
            refine k_get kg158 t32 (congrArg (fun z : Option Nat => (Sum.inr (Sum.inr z) : AvC)) c33) ?_
            refine k_get kg30 t34 (congrArg (fun z : Option Nat => (Sum.inr (Sum.inr z) : AvC)) c44) ?_
            refine k_iload_n rfl ?_
            refine k_iaload t46 (by omega) (by omega) (fun x80 => ?_)
            refine k_aload_n rfl ?_
            refine k_get kg158 t32 (congrArg (fun z : Option Nat => (Sum.inr (Sum.inr z) : AvC)) c33) ?_
            obtain ⟨a83, e81, c82, t84, l85, l86⟩ := cg31 H29.1 t34
            refine k_get kg31 t34 e81 ?_
            refine k_iload_n rfl ?_
            refine k_iaload t84 (by omega) (by omega) (fun x87 => ?_)
            refine k_inv (P := P_X4_move) (Q := Q_X4_move) rfl rfl rfl rfl (Nat.le_of_ble_eq_true rfl) (t32.rc (by decide)) ⟨_, _, _, rfl, H29, t32⟩ (fun w88 σ89 q90 => ?_)
            obtain ⟨rfl, H91, e92⟩ := q90
            refine k_st (st' := []) rfl ?_
            refine k_goto ?_
            refine hB _ _ _ _ (kgoC (is := KX4_obey_194) rfl ?_)
            refine k_return ?_
            have X93 : ExC [161, 162, 163, 165, 166, 167, 168, 169] σ0 σ28 := ExC.rf.tr (e30.mo (by decide))
            have X94 : ExC [161, 162, 163, 165, 166, 167, 168, 169] σ0 σ89 := X93.tr (e92.mo (by decide))
            exact ⟨rfl, H91, X94⟩
        · refine k_nil ?_
          refine hB _ _ _ _ (kgoC (is := KX4_obey_66) rfl ?_)
          refine k_aload_n rfl ?_
          refine k_ifnull (fun h96 => ?_) (fun b95 h96 => ?_)
          · subst h96
            refine hB _ _ _ _ (kgoC (is := KX4_obey_121) rfl ?_)
            refine k_aload_n rfl ?_
            refine k_get kg158 t32 (congrArg (fun z : Option Nat => (Sum.inr (Sum.inr z) : AvC)) c33) ?_
            refine k_get kg30 t34 (congrArg (fun z : Option Nat => (Sum.inr (Sum.inr z) : AvC)) c44) ?_
            refine k_iload_n rfl ?_
            refine k_iaload t46 (by omega) (by omega) (fun x97 => ?_)
            refine k_bipush (m := 14) rfl (fun x98 h99 => ?_)
            refine k_ic_gt (fun h100 => ?_) (fun h100 => ?_)
            · refine hB _ _ _ _ (kgoC (is := KX4_obey_160) rfl ?_)
              refine k_aload_n rfl ?_
              refine k_get kg158 t32 (congrArg (fun z : Option Nat => (Sum.inr (Sum.inr z) : AvC)) c33) ?_
              obtain ⟨a103, e101, c102, t104, l105⟩ := cg33 H29.1 t34
              refine k_get kg33 t34 e101 ?_
              refine k_iload_n rfl ?_
              refine k_aaload (c := 9) H29 t104 (by decide) (by omega) (by omega) (fun o106 e108 t107 => ?_)
              refine k_ifnull (fun h110 => ?_) (fun b109 h110 => ?_)
              · subst h110
                refine hB _ _ _ _ (kgoC (is := KX4_obey_194) rfl ?_)
                refine k_return ?_
                have X111 : ExC [161, 162, 163, 165, 166, 167, 168, 169] σ0 σ28 := ExC.rf.tr (e30.mo (by decide))
                exact ⟨rfl, H29, X111⟩
              · subst h110
                have t112 := t107 b109 rfl
                refine k_nil ?_
                refine hB _ _ _ _ (kgoC (is := KX4_obey_172) rfl ?_)
                refine k_aload_n rfl ?_
                refine k_aload_n rfl ?_
                refine k_get kg158 t32 (congrArg (fun z : Option Nat => (Sum.inr (Sum.inr z) : AvC)) c33) ?_
                refine k_get kg30 t34 (congrArg (fun z : Option Nat => (Sum.inr (Sum.inr z) : AvC)) c44) ?_
                refine k_iload_n rfl ?_
                refine k_iaload t46 (by omega) (by omega) (fun x113 => ?_)
                refine k_aload_n rfl ?_
                refine k_get kg158 t32 (congrArg (fun z : Option Nat => (Sum.inr (Sum.inr z) : AvC)) c33) ?_
                refine k_get kg33 t34 (congrArg (fun z : Option Nat => (Sum.inr (Sum.inr z) : AvC)) c102) ?_
                refine k_iload_n rfl ?_
                refine k_aaloadE t104 (by decide) (by omega) (by omega) e108 ?_
                refine k_inv (P := P_X4_control) (Q := Q_X4_control) rfl rfl rfl rfl (Nat.le_of_ble_eq_true rfl) (t32.rc (by decide)) ⟨_, _, _, rfl, H29, t32, t112⟩ (fun w117 σ118 q119 => ?_)
                obtain ⟨rfl, H120, e121⟩ := q119
                refine k_st (st' := []) rfl ?_
                refine k_nil ?_
                refine hB _ _ _ _ (kgoC (is := KX4_obey_194) rfl ?_)
                refine k_return ?_
                have X122 : ExC [161, 162, 163, 165, 166, 167, 168, 169] σ0 σ28 := ExC.rf.tr (e30.mo (by decide))
                have X123 : ExC [161, 162, 163, 165, 166, 167, 168, 169] σ0 σ118 := X122.tr (e121.mo (by decide))
                exact ⟨rfl, H120, X123⟩
            · refine k_nil ?_
              refine hB _ _ _ _ (kgoC (is := KX4_obey_135) rfl ?_)
              refine k_aload_n rfl ?_
              refine k_aload_n rfl ?_
              refine k_get kg158 t32 (congrArg (fun z : Option Nat => (Sum.inr (Sum.inr z) : AvC)) c33) ?_
              refine k_get kg30 t34 (congrArg (fun z : Option Nat => (Sum.inr (Sum.inr z) : AvC)) c44) ?_
              refine k_iload_n rfl ?_
              refine k_iaload t46 (by omega) (by omega) (fun x124 => ?_)
              refine k_aload_n rfl ?_
              refine k_get kg158 t32 (congrArg (fun z : Option Nat => (Sum.inr (Sum.inr z) : AvC)) c33) ?_
              obtain ⟨a127, e125, c126, t128, l129, l130⟩ := cg31 H29.1 t34
              refine k_get kg31 t34 e125 ?_
              refine k_iload_n rfl ?_
              refine k_iaload t128 (by omega) (by omega) (fun x131 => ?_)
              refine k_inv (P := P_X4_move) (Q := Q_X4_move) rfl rfl rfl rfl (Nat.le_of_ble_eq_true rfl) (t32.rc (by decide)) ⟨_, _, _, rfl, H29, t32⟩ (fun w132 σ133 q134 => ?_)
              obtain ⟨rfl, H135, e136⟩ := q134
              refine k_st (st' := []) rfl ?_
              refine k_goto ?_
              refine hB _ _ _ _ (kgoC (is := KX4_obey_194) rfl ?_)
              refine k_return ?_
              have X137 : ExC [161, 162, 163, 165, 166, 167, 168, 169] σ0 σ28 := ExC.rf.tr (e30.mo (by decide))
              have X138 : ExC [161, 162, 163, 165, 166, 167, 168, 169] σ0 σ133 := X137.tr (e136.mo (by decide))
              exact ⟨rfl, H135, X138⟩
          · subst h96
            have t139 := t41 b95 rfl
            refine k_nil ?_
            refine hB _ _ _ _ (kgoC (is := KX4_obey_70) rfl ?_)
            refine k_aload_n rfl ?_
            refine k_aload_n rfl ?_
            refine k_get kg158 t32 (congrArg (fun z : Option Nat => (Sum.inr (Sum.inr z) : AvC)) c33) ?_
            refine k_get kg30 t34 (congrArg (fun z : Option Nat => (Sum.inr (Sum.inr z) : AvC)) c44) ?_
            refine k_iload_n rfl ?_
            refine k_iaload t46 (by omega) (by omega) (fun x140 => ?_)
            refine k_aload_n rfl ?_
            refine k_inv (P := P_X4_work) (Q := Q_X4_work) rfl rfl rfl rfl (Nat.le_of_ble_eq_true rfl) (t32.rc (by decide)) ⟨_, _, _, rfl, H29, t32, t139⟩ (fun w141 σ142 q143 => ?_)
            obtain ⟨rfl, H144, e145⟩ := q143
            refine k_st (st' := []) rfl ?_
            refine k_aload_n rfl ?_
            have t146 := t32.x e145
            obtain ⟨x149, e147, c148, h150, h151⟩ := cg169 H144.1 t146
            refine k_get kg169 t146 e147 ?_
            refine k_bipush (m := 7) rfl (fun x152 h153 => ?_)
            refine k_ic_ne (fun h154 => ?_) (fun h154 => ?_)
            · refine hB _ _ _ _ (kgoC (is := KX4_obey_194) rfl ?_)
              refine k_return ?_
              have X155 : ExC [161, 162, 163, 165, 166, 167, 168, 169] σ0 σ28 := ExC.rf.tr (e30.mo (by decide))
              have X156 : ExC [161, 162, 163, 165, 166, 167, 168, 169] σ0 σ142 := X155.tr (e145.mo (by decide))
              exact ⟨rfl, H144, X156⟩
            · refine k_nil ?_
              refine hB _ _ _ _ (kgoC (is := KX4_obey_93) rfl ?_)
              refine k_aload_n rfl ?_
              refine k_bipush (m := 6) rfl (fun x157 h158 => ?_)
              refine k_putI kp169 H144 t146 (Or.inl fk169) (tiC x157).1 (tiC x157).2 (fun σ159 H160 e161 c162 => ?_)
              refine k_aload_n rfl ?_
              refine k_bipush (m := 67) rfl (fun x163 h164 => ?_)
              refine k_ldc2_w ?_
              refine k_aload_n rfl ?_
              have t165 := t146.x e161
              have c166 := (t32.mr e145 (by decide)).trans c33
              have c167 := (t146.mr e161 (by decide)).trans c166
              refine k_get kg158 t165 (congrArg (fun z : Option Nat => (Sum.inr (Sum.inr z) : AvC)) c167) ?_
              have t168 := t34.x e145
              have t169 := t168.x e161
              obtain ⟨a172, e170, c171, t173, l174⟩ := cg33 H160.1 t169
              refine k_get kg33 t169 e170 ?_
              refine k_iload_n rfl ?_
              refine k_aaload (c := 9) H160 t173 (by decide) (by omega) (by omega) (fun o175 e177 t176 => ?_)
              refine k_aconst_null ?_
              refine k_inv (P := P_X4_leave) (Q := Q_X4_leave) rfl rfl rfl rfl (Nat.le_of_ble_eq_true rfl) (t165.rc (by decide)) ⟨_, _, _, o175, none, rfl, H160, t165, t176, OtC.n⟩ (fun w178 σ179 q180 => ?_)
              obtain ⟨rfl, H181, e182⟩ := q180
              refine k_st (st' := []) rfl ?_
              refine k_goto ?_
              refine hB _ _ _ _ (kgoC (is := KX4_obey_194) rfl ?_)
              refine k_return ?_
              have X183 : ExC [161, 162, 163, 165, 166, 167, 168, 169] σ0 σ28 := ExC.rf.tr (e30.mo (by decide))
              have X184 : ExC [161, 162, 163, 165, 166, 167, 168, 169] σ0 σ142 := X183.tr (e145.mo (by decide))
              have X185 : ExC [161, 162, 163, 165, 166, 167, 168, 169] σ0 σ159 := X184.tr (e161.mo (by decide))
              have X186 : ExC [161, 162, 163, 165, 166, 167, 168, 169] σ0 σ179 := X185.tr (e182.mo (by decide))
              exact ⟨rfl, H181, X186⟩
      · refine k_nil ?_
        refine hB _ _ _ _ (kgoC (is := KX4_obey_21) rfl ?_)
        refine k_aload_n rfl ?_
        refine k_iconst (m := 0) rfl (fun x187 h188 => ?_)
        refine k_putI kp169 H0 h_0_0 (Or.inl fk169) (tiC x187).1 (tiC x187).2 (fun σ189 H190 e191 c192 => ?_)
        refine k_return ?_
        have X193 : ExC [161, 162, 163, 165, 166, 167, 168, 169] σ0 σ189 := ExC.rf.tr (e191.mo (by decide))
        exact ⟨rfl, H190, X193⟩

abbrev P_X4_perform : CpC := fun As σ => ∃ (p0 : Nat) (p1 : Nat) (p2 : Nat) (p3 : Int32), As = [.inr (.inr (some p0)), .inr (.inr (some p1)), .inr (.inr (some p2)), .inl p3] ∧ HIC σ ∧ TyC σ p0 5 ∧ TyC σ p1 6 ∧ TyC σ p2 102 ∧ alC σ p2 = 6 ∧ 1 ≤ p3.toInt ∧ p3.toInt ≤ 20000
abbrev Q_X4_perform : CqC := fun As σ w τ => match As with
  | [.inr (.inr (some p0)), .inr (.inr (some p1)), .inr (.inr (some p2)), .inl p3] => ∃ r : Int32, w = some (.inl r) ∧ HIC τ ∧ ExC [161, 162, 163, 164, 165, 166, 167, 168, 169] σ τ
  | _ => False
set_option maxRecDepth 100000 in
set_option maxHeartbeats 4000000 in
theorem m_X4_perform (l : Launch) : CMetC l 15 89 P_X4_perform Q_X4_perform := by
  refine CMetC.of KX4_perform [(94, P_X4_step, Q_X4_step), (102, P_X4_enter, Q_X4_enter), (228, P_X11_narrowed, Q_X11_narrowed), (91, P_X4_push, Q_X4_push), (95, P_X4_obey, Q_X4_obey)] hX4_perform (by decide) (by decide) okX4_perform (cc1C (m_X4_step l) (by decide) (cc1C (m_X4_enter l) (by decide) (cc1C (m_X11_narrowed l) (by decide) (cc1C (m_X4_push l) (by decide) (cc1C (m_X4_obey l) (by decide) cc0C))))) ?_ ?_
  · rintro As σ ⟨p0, p1, p2, p3, rfl, -⟩
    exact Nat.le_of_ble_eq_true rfl
  · rintro As σ0 ⟨p0, p1, p2, p3, rfl, H0, h_0_0, h_1_0, h_2_0, h_2_1, h_3_0, h_3_1⟩ hgr G hB hW
    change G 0 [(0, .inr (.inr (some p0))), (1, .inr (.inr (some p1))), (2, .inr (.inr (some p2))), (3, .inl p3)] [] σ0
    have L89 : ∀ (n89 : Nat), ∀ (σ1 : CsC) (v89_4 : Int32), (2147483647 - v89_4.toInt).toNat = n89 → HIC σ1 → ExC [161, 162, 163, 164, 165, 166, 167, 168, 169] σ0 σ1 → 0 ≤ v89_4.toInt → G 89 [(0, .inr (.inr (some p0))), (1, .inr (.inr (some p1))), (4, .inl v89_4)] [] σ1 := by
      intro n89
      induction n89 using Nat.strongRecOn with
      | _ n89 ih89 =>
        intro σ1 v89_4 n89_ H2 e3 h4
        refine hB _ _ _ _ (kgoC (is := KX4_perform_89) rfl ?_)
        refine k_aload_n rfl ?_
        have t5 := h_0_0.x e3
        obtain ⟨x8, e6, c7, h9, h10⟩ := cg169 H2.1 t5
        refine k_get kg169 t5 e6 ?_
        refine k_bipush (m := 6) rfl (fun x11 h12 => ?_)
        refine k_ic_ne (fun h13 => ?_) (fun h13 => ?_)
        · refine hB _ _ _ _ (kgoC (is := KX4_perform_115) rfl ?_)
          refine k_aload_n rfl ?_
          refine k_get kg169 t5 (congrArg (Sum.inl : Int32 → AvC) c7) ?_
          refine k_if_ne (fun h14 => ?_) (fun h14 => ?_)
          · refine hB _ _ _ _ (kgoC (is := KX4_perform_135) rfl ?_)
            refine k_aload_n rfl ?_
            refine k_get kg169 t5 (congrArg (Sum.inl : Int32 → AvC) c7) ?_
            refine k_ireturn (fun hz => absurd hz (by decide)) ?_
            have X15 : ExC [161, 162, 163, 164, 165, 166, 167, 168, 169] σ0 σ1 := ExC.rf.tr (e3.mo (by decide))
            exact ⟨_, rfl, H2, X15⟩
          · refine k_nil ?_
            refine hB _ _ _ _ (kgoC (is := KX4_perform_122) rfl ?_)
            refine k_aload_n rfl ?_
            have t16 := h_1_0.x e3
            obtain ⟨x19, e17, c18, h20, h21⟩ := cg182 H2.1 t16
            refine k_get kg182 t16 e17 ?_
            refine k_iconst (m := 5) rfl (fun x22 h23 => ?_)
            refine k_ic_eq (fun h24 => ?_) (fun h24 => ?_)
            · refine hB _ _ _ _ (kgoC (is := KX4_perform_135) rfl ?_)
              refine k_aload_n rfl ?_
              refine k_get kg169 t5 (congrArg (Sum.inl : Int32 → AvC) c7) ?_
              refine k_ireturn (fun hz => absurd hz (by decide)) ?_
              have X25 : ExC [161, 162, 163, 164, 165, 166, 167, 168, 169] σ0 σ1 := ExC.rf.tr (e3.mo (by decide))
              exact ⟨_, rfl, H2, X25⟩
            · refine k_nil ?_
              refine hB _ _ _ _ (kgoC (is := KX4_perform_130) rfl ?_)
              refine k_aload_n rfl ?_
              refine k_iconst (m := 1) rfl (fun x26 h27 => ?_)
              refine k_putI kp169 H2 t5 (Or.inl fk169) (tiC x26).1 (tiC x26).2 (fun σ28 H29 e30 c31 => ?_)
              refine k_nil ?_
              refine hB _ _ _ _ (kgoC (is := KX4_perform_135) rfl ?_)
              refine k_aload_n rfl ?_
              have t32 := t5.x e30
              refine k_get kg169 t32 (congrArg (Sum.inl : Int32 → AvC) c31) ?_
              refine k_ireturn (fun hz => absurd hz (by decide)) ?_
              have X33 : ExC [161, 162, 163, 164, 165, 166, 167, 168, 169] σ0 σ1 := ExC.rf.tr (e3.mo (by decide))
              have X34 : ExC [161, 162, 163, 164, 165, 166, 167, 168, 169] σ0 σ28 := X33.tr (e30.mo (by decide))
              exact ⟨_, rfl, H29, X34⟩
        · refine k_nil ?_
          refine hB _ _ _ _ (kgoC (is := KX4_perform_98) rfl ?_)
          refine k_iload rfl ?_
          refine k_ldcI (m := 100000000) rfl (fun x35 h36 => ?_)
          refine k_ic_ge (fun h37 => ?_) (fun h37 => ?_)
          · refine hB _ _ _ _ (kgoC (is := KX4_perform_115) rfl ?_)
            refine k_aload_n rfl ?_
            refine k_get kg169 t5 (congrArg (Sum.inl : Int32 → AvC) c7) ?_
            refine k_if_ne (fun h38 => ?_) (fun h38 => by exfalso; omega)
            refine hB _ _ _ _ (kgoC (is := KX4_perform_135) rfl ?_)
            refine k_aload_n rfl ?_
            refine k_get kg169 t5 (congrArg (Sum.inl : Int32 → AvC) c7) ?_
            refine k_ireturn (fun hz => absurd hz (by decide)) ?_
            have X39 : ExC [161, 162, 163, 164, 165, 166, 167, 168, 169] σ0 σ1 := ExC.rf.tr (e3.mo (by decide))
            exact ⟨_, rfl, H2, X39⟩
          · refine k_nil ?_
            refine hB _ _ _ _ (kgoC (is := KX4_perform_105) rfl ?_)
            refine k_aload_n rfl ?_
            refine k_inv (P := P_X4_obey) (Q := Q_X4_obey) rfl rfl rfl rfl (Nat.le_of_ble_eq_true rfl) (t5.rc (by decide)) ⟨_, rfl, H2, t5⟩ (fun w40 σ41 q42 => ?_)
            obtain ⟨rfl, H43, e44⟩ := q42
            refine k_st (st' := []) rfl ?_
            obtain ⟨x45, e47, h46⟩ := iincC (n := 1) (m := 1) (v := v89_4) rfl (by omega) (by omega)
            refine k_iinc (ls' := [(4, .inl x45), (0, .inr (.inr (some p0))), (1, .inr (.inr (some p1)))]) rfl e47 rfl ?_
            refine k_goto ?_
            have X48 : ExC [161, 162, 163, 164, 165, 166, 167, 168, 169] σ0 σ1 := ExC.rf.tr (e3.mo (by decide))
            have X49 : ExC [161, 162, 163, 164, 165, 166, 167, 168, 169] σ0 σ41 := X48.tr (e44.mo (by decide))
            exact hW _ _ _ _ _ (List.forall_mem_cons.2 ⟨List.Mem.tail _ (List.Mem.head _), (List.forall_mem_cons.2 ⟨List.Mem.tail _ (List.Mem.tail _ (List.Mem.head _)), (List.forall_mem_cons.2 ⟨List.Mem.head _, fun _ h => absurd h List.not_mem_nil⟩)⟩)⟩) (ih89 ((2147483647 - x45.toInt).toNat) (by omega) σ41 x45 rfl H43 X49 (by omega))
    have L8 : ∀ (n8 : Nat), ∀ (σ50 : CsC) (v8_4 : Int32), (2147483647 - v8_4.toInt).toNat = n8 → HIC σ50 → ExC [161, 162, 163, 164, 165, 166, 167, 168, 169] σ0 σ50 → 0 ≤ v8_4.toInt → v8_4.toInt ≤ 10 → G 8 [(0, .inr (.inr (some p0))), (1, .inr (.inr (some p1))), (2, .inr (.inr (some p2))), (4, .inl v8_4)] [] σ50 := by
      intro n8
      induction n8 using Nat.strongRecOn with
      | _ n8 ih8 =>
        intro σ50 v8_4 n8_ H51 e52 h53 h54
        refine hB _ _ _ _ (kgoC (is := KX4_perform_8) rfl ?_)
        refine k_iload rfl ?_
        refine k_aload_n rfl ?_
        have t55 := h_1_0.x e52
        obtain ⟨x58, e56, c57, h59, h60⟩ := cg185 H51.1 t55
        refine k_get kg185 t55 e56 ?_
        refine k_ic_ge (fun h61 => ?_) (fun h61 => ?_)
        · refine hB _ _ _ _ (kgoC (is := KX4_perform_74) rfl ?_)
          refine k_aload_n rfl ?_
          have t62 := h_0_0.x e52
          refine k_inv (P := P_X4_step) (Q := Q_X4_step) rfl rfl rfl rfl (Nat.le_of_ble_eq_true rfl) (t62.rc (by decide)) ⟨_, rfl, H51, t62⟩ (fun w63 σ64 q65 => ?_)
          obtain ⟨x66, rfl, H67, e68, h69, h70, q71⟩ := q65
          refine k_st (st' := [.inl x66]) rfl ?_
          rcases (by omega : x66.toInt = 0 ∨ x66.toInt = 1) with g72 | g72
          · refine k_if_eq (fun h73 => ?_) (fun h73 => by exfalso; omega)
            refine hB _ _ _ _ (kgoC (is := KX4_perform_86) rfl ?_)
            refine k_iconst (m := 0) rfl (fun x74 h75 => ?_)
            refine k_istore (ls' := [(4, .inl x74), (0, .inr (.inr (some p0))), (1, .inr (.inr (some p1))), (2, .inr (.inr (some p2)))]) rfl ?_
            refine k_nil ?_
            have X76 : ExC [161, 162, 163, 164, 165, 166, 167, 168, 169] σ0 σ50 := ExC.rf.tr (e52.mo (by decide))
            have X77 : ExC [161, 162, 163, 164, 165, 166, 167, 168, 169] σ0 σ64 := X76.tr (e68.mo (by decide))
            exact hW _ _ _ _ _ (List.forall_mem_cons.2 ⟨List.Mem.tail _ (List.Mem.head _), (List.forall_mem_cons.2 ⟨List.Mem.tail _ (List.Mem.tail _ (List.Mem.head _)), (List.forall_mem_cons.2 ⟨List.Mem.head _, fun _ h => absurd h List.not_mem_nil⟩)⟩)⟩) (L89 _ σ64 x74 rfl H67 X77 (by omega))
          · have t83 := t62.x e68
            obtain ⟨x78, e79, c80, h81, h82⟩ := cg165 H67.1 t83
            obtain ⟨x84, e85, c86, h87, h88⟩ := cg167 H67.1 t83
            have h89 : x84.toInt < x78.toInt := by rw [← c80, ← c86]; exact q71 (by omega)
            refine k_if_eq (fun h90 => by exfalso; omega) (fun h90 => ?_)
            refine k_nil ?_
            refine hB _ _ _ _ (kgoC (is := KX4_perform_81) rfl ?_)
            refine k_aload_n rfl ?_
            refine k_aload_n rfl ?_
            have t91 := t55.x e68
            refine k_inv (P := P_X4_enter) (Q := Q_X4_enter) rfl rfl rfl rfl (Nat.le_of_ble_eq_true rfl) (t83.rc (by decide)) ⟨_, _, rfl, H67, t83, t91⟩ (fun w92 σ93 q94 => ?_)
            obtain ⟨rfl, H95, e96⟩ := q94
            refine k_st (st' := []) rfl ?_
            refine k_nil ?_
            refine hB _ _ _ _ (kgoC (is := KX4_perform_86) rfl ?_)
            refine k_iconst (m := 0) rfl (fun x97 h98 => ?_)
            refine k_istore (ls' := [(4, .inl x97), (0, .inr (.inr (some p0))), (1, .inr (.inr (some p1))), (2, .inr (.inr (some p2)))]) rfl ?_
            refine k_nil ?_
            have X99 : ExC [161, 162, 163, 164, 165, 166, 167, 168, 169] σ0 σ50 := ExC.rf.tr (e52.mo (by decide))
            have X100 : ExC [161, 162, 163, 164, 165, 166, 167, 168, 169] σ0 σ64 := X99.tr (e68.mo (by decide))
            have X101 : ExC [161, 162, 163, 164, 165, 166, 167, 168, 169] σ0 σ93 := X100.tr (e96.mo (by decide))
            exact hW _ _ _ _ _ (List.forall_mem_cons.2 ⟨List.Mem.tail _ (List.Mem.head _), (List.forall_mem_cons.2 ⟨List.Mem.tail _ (List.Mem.tail _ (List.Mem.head _)), (List.forall_mem_cons.2 ⟨List.Mem.head _, fun _ h => absurd h List.not_mem_nil⟩)⟩)⟩) (L89 _ σ93 x97 rfl H95 X101 (by omega))
        · refine k_nil ?_
          refine hB _ _ _ _ (kgoC (is := KX4_perform_17) rfl ?_)
          refine k_iload rfl ?_
          refine k_aload_n rfl ?_
          have t104 := h_2_0.x e52
          have l105 := (h_2_0.al e52).trans h_2_1
          refine k_alen t104 (by decide) (by decide) l105 (by decide) (fun x102 h103 => ?_)
          refine k_ic_ge (fun h106 => by exfalso; omega) (fun h106 => ?_)
          refine k_nil ?_
          refine hB _ _ _ _ (kgoC (is := KX4_perform_24) rfl ?_)
          refine k_aload_n rfl ?_
          obtain ⟨a109, e107, c108, t110, l111, l112⟩ := cg183 H51.1 t55
          refine k_get kg183 t55 e107 ?_
          refine k_iload rfl ?_
          refine k_iaload t110 (by omega) (by omega) (fun x113 => ?_)
          refine k_istore (ls' := [(5, .inl x113), (0, .inr (.inr (some p0))), (1, .inr (.inr (some p1))), (2, .inr (.inr (some p2))), (4, .inl v8_4)]) rfl ?_
          refine k_aload_n rfl ?_
          refine k_iload rfl ?_
          refine k_if_ne (fun h114 => ?_) (fun h114 => ?_)
          · refine hB _ _ _ _ (kgoC (is := KX4_perform_56) rfl ?_)
            refine k_iload rfl ?_
            refine k_aload_n rfl ?_
            refine k_iload rfl ?_
            refine k_laload t104 (by omega) (by omega) (fun y115 => ?_)
            refine k_stat (P := P_X11_narrowed) (Q := Q_X11_narrowed) rfl rfl (Nat.le_of_ble_eq_true rfl) rfl rfl (Nat.le_of_ble_eq_true rfl) ⟨_, _, rfl, H51⟩ (fun w116 σ117 q118 => ?_)
            obtain ⟨y119, rfl, rfl⟩ := q118
            refine k_st (st' := [.inr (.inl y119), .inr (.inr (some p0))]) rfl ?_
            refine k_nil ?_
            refine hB _ _ _ _ (kgoC (is := KX4_perform_65) rfl ?_)
            have t120 := h_0_0.x e52
            refine k_inv (P := P_X4_push) (Q := Q_X4_push) rfl rfl rfl rfl (Nat.le_of_ble_eq_true rfl) (t120.rc (by decide)) ⟨_, _, rfl, H51, t120⟩ (fun w121 σ122 q123 => ?_)
            obtain ⟨rfl, H124, e125⟩ := q123
            refine k_st (st' := []) rfl ?_
            obtain ⟨x126, e128, h127⟩ := iincC (n := 1) (m := 1) (v := v8_4) rfl (by omega) (by omega)
            refine k_iinc (ls' := [(4, .inl x126), (5, .inl x113), (0, .inr (.inr (some p0))), (1, .inr (.inr (some p1))), (2, .inr (.inr (some p2)))]) rfl e128 rfl ?_
            refine k_goto ?_
            have X129 : ExC [161, 162, 163, 164, 165, 166, 167, 168, 169] σ0 σ50 := ExC.rf.tr (e52.mo (by decide))
            have X130 : ExC [161, 162, 163, 164, 165, 166, 167, 168, 169] σ0 σ122 := X129.tr (e125.mo (by decide))
            exact hW _ _ _ _ _ (List.forall_mem_cons.2 ⟨List.Mem.tail _ (List.Mem.tail _ (List.Mem.head _)), (List.forall_mem_cons.2 ⟨List.Mem.tail _ (List.Mem.tail _ (List.Mem.tail _ (List.Mem.head _))), (List.forall_mem_cons.2 ⟨List.Mem.tail _ (List.Mem.tail _ (List.Mem.tail _ (List.Mem.tail _ (List.Mem.head _)))), (List.forall_mem_cons.2 ⟨List.Mem.head _, fun _ h => absurd h List.not_mem_nil⟩)⟩)⟩)⟩) (ih8 ((2147483647 - x126.toInt).toNat) (by omega) σ122 x126 rfl H124 X130 (by omega) (by omega))
          · refine k_nil ?_
            refine hB _ _ _ _ (kgoC (is := KX4_perform_39) rfl ?_)
            refine k_aload_n rfl ?_
            refine k_iload rfl ?_
            refine k_laload t104 (by omega) (by omega) (fun y131 => ?_)
            refine k_lconst ?_
            refine k_lcmp (fun x132 h133 g134 => ?_)
            refine k_if_eq (fun h135 => ?_) (fun h135 => ?_)
            · refine hB _ _ _ _ (kgoC (is := KX4_perform_52) rfl ?_)
              refine k_lconst ?_
              refine k_goto ?_
              refine hB _ _ _ _ (kgoC (is := KX4_perform_65) rfl ?_)
              have t136 := h_0_0.x e52
              refine k_inv (P := P_X4_push) (Q := Q_X4_push) rfl rfl rfl rfl (Nat.le_of_ble_eq_true rfl) (t136.rc (by decide)) ⟨_, _, rfl, H51, t136⟩ (fun w137 σ138 q139 => ?_)
              obtain ⟨rfl, H140, e141⟩ := q139
              refine k_st (st' := []) rfl ?_
              obtain ⟨x142, e144, h143⟩ := iincC (n := 1) (m := 1) (v := v8_4) rfl (by omega) (by omega)
              refine k_iinc (ls' := [(4, .inl x142), (5, .inl x113), (0, .inr (.inr (some p0))), (1, .inr (.inr (some p1))), (2, .inr (.inr (some p2)))]) rfl e144 rfl ?_
              refine k_goto ?_
              have X145 : ExC [161, 162, 163, 164, 165, 166, 167, 168, 169] σ0 σ50 := ExC.rf.tr (e52.mo (by decide))
              have X146 : ExC [161, 162, 163, 164, 165, 166, 167, 168, 169] σ0 σ138 := X145.tr (e141.mo (by decide))
              exact hW _ _ _ _ _ (List.forall_mem_cons.2 ⟨List.Mem.tail _ (List.Mem.tail _ (List.Mem.head _)), (List.forall_mem_cons.2 ⟨List.Mem.tail _ (List.Mem.tail _ (List.Mem.tail _ (List.Mem.head _))), (List.forall_mem_cons.2 ⟨List.Mem.tail _ (List.Mem.tail _ (List.Mem.tail _ (List.Mem.tail _ (List.Mem.head _)))), (List.forall_mem_cons.2 ⟨List.Mem.head _, fun _ h => absurd h List.not_mem_nil⟩)⟩)⟩)⟩) (ih8 ((2147483647 - x142.toInt).toNat) (by omega) σ138 x142 rfl H140 X146 (by omega) (by omega))
            · refine k_nil ?_
              refine hB _ _ _ _ (kgoC (is := KX4_perform_48) rfl ?_)
              refine k_lconst ?_
              refine k_goto ?_
              refine hB _ _ _ _ (kgoC (is := KX4_perform_65) rfl ?_)
              have t147 := h_0_0.x e52
              refine k_inv (P := P_X4_push) (Q := Q_X4_push) rfl rfl rfl rfl (Nat.le_of_ble_eq_true rfl) (t147.rc (by decide)) ⟨_, _, rfl, H51, t147⟩ (fun w148 σ149 q150 => ?_)
              obtain ⟨rfl, H151, e152⟩ := q150
              refine k_st (st' := []) rfl ?_
              obtain ⟨x153, e155, h154⟩ := iincC (n := 1) (m := 1) (v := v8_4) rfl (by omega) (by omega)
              refine k_iinc (ls' := [(4, .inl x153), (5, .inl x113), (0, .inr (.inr (some p0))), (1, .inr (.inr (some p1))), (2, .inr (.inr (some p2)))]) rfl e155 rfl ?_
              refine k_goto ?_
              have X156 : ExC [161, 162, 163, 164, 165, 166, 167, 168, 169] σ0 σ50 := ExC.rf.tr (e52.mo (by decide))
              have X157 : ExC [161, 162, 163, 164, 165, 166, 167, 168, 169] σ0 σ149 := X156.tr (e152.mo (by decide))
              exact hW _ _ _ _ _ (List.forall_mem_cons.2 ⟨List.Mem.tail _ (List.Mem.tail _ (List.Mem.head _)), (List.forall_mem_cons.2 ⟨List.Mem.tail _ (List.Mem.tail _ (List.Mem.tail _ (List.Mem.head _))), (List.forall_mem_cons.2 ⟨List.Mem.tail _ (List.Mem.tail _ (List.Mem.tail _ (List.Mem.tail _ (List.Mem.head _)))), (List.forall_mem_cons.2 ⟨List.Mem.head _, fun _ h => absurd h List.not_mem_nil⟩)⟩)⟩)⟩) (ih8 ((2147483647 - x153.toInt).toNat) (by omega) σ149 x153 rfl H151 X157 (by omega) (by omega))
    refine hB _ _ _ _ (kgoC (is := KX4_perform_0) rfl ?_)
    refine k_aload_n rfl ?_
    refine k_iload_n rfl ?_
    refine k_putI kp164 H0 h_0_0 (Or.inl fk164) (by show (-2147483648) ≤ _; omega) (by show _ ≤ 20000; omega) (fun σ158 H159 e160 c161 => ?_)
    refine k_iconst (m := 0) rfl (fun x162 h163 => ?_)
    refine k_istore (ls' := [(4, .inl x162), (0, .inr (.inr (some p0))), (1, .inr (.inr (some p1))), (2, .inr (.inr (some p2))), (3, .inl p3)]) rfl ?_
    refine k_nil ?_
    have X164 : ExC [161, 162, 163, 164, 165, 166, 167, 168, 169] σ0 σ158 := ExC.rf.tr (e160.mo (by decide))
    exact hW _ _ _ _ _ (List.forall_mem_cons.2 ⟨List.Mem.tail _ (List.Mem.head _), (List.forall_mem_cons.2 ⟨List.Mem.tail _ (List.Mem.tail _ (List.Mem.head _)), (List.forall_mem_cons.2 ⟨List.Mem.tail _ (List.Mem.tail _ (List.Mem.tail _ (List.Mem.head _))), (List.forall_mem_cons.2 ⟨List.Mem.head _, fun _ h => absurd h List.not_mem_nil⟩)⟩)⟩)⟩) (L8 _ σ158 x162 rfl H159 X164 (by omega) (by omega))

abbrev P_X4_report : CpC := fun As σ => ∃ (p0 : Nat) (p1 : Int32), As = [.inr (.inr (some p0)), .inl p1] ∧ HIC σ ∧ TyC σ p0 5
abbrev Q_X4_report : CqC := fun As σ w τ => match As with
  | [.inr (.inr (some p0)), .inl p1] => ∃ r : Int64, w = some (.inr (.inl r)) ∧ σ = τ
  | _ => False
set_option maxRecDepth 100000 in
set_option maxHeartbeats 4000000 in
theorem m_X4_report (l : Launch) : CMetC l 1 90 P_X4_report Q_X4_report := by
  refine CMetC.of KX4_report [] hX4_report (by decide) (by decide) okX4_report cc0C ?_ ?_
  · rintro As σ ⟨p0, p1, rfl, -⟩
    exact Nat.le_of_ble_eq_true rfl
  · rintro As σ0 ⟨p0, p1, rfl, H0, h_0_0⟩ hgr G hB hW
    change G 0 [(0, .inr (.inr (some p0))), (1, .inl p1)] [] σ0
    refine hB _ _ _ _ (kgoC (is := KX4_report_0) rfl ?_)
    refine k_iload_n rfl ?_
    refine k_tsw ?_
    refine k_swc (fun h1 => ?_) (fun h1 => ?_)
    · refine hB _ _ _ _ (kgoC (is := KX4_report_36) rfl ?_)
      refine k_aload_n rfl ?_
      obtain ⟨y4, e2, c3⟩ := cg170 (σ := σ0) (a := p0)
      refine k_get kg170 h_0_0 e2 ?_
      refine k_lreturn ?_
      exact ⟨_, rfl, rfl⟩
    refine k_swc (fun h5 => ?_) (fun h5 => ?_)
    · refine hB _ _ _ _ (kgoC (is := KX4_report_41) rfl ?_)
      refine k_aload_n rfl ?_
      obtain ⟨x8, e6, c7, h9, h10⟩ := cg165 H0.1 h_0_0
      refine k_get kg165 h_0_0 e6 ?_
      refine k_i2l (fun y11 => ?_)
      refine k_lreturn ?_
      exact ⟨_, rfl, rfl⟩
    refine k_swc (fun h12 => ?_) (fun h12 => ?_)
    · refine hB _ _ _ _ (kgoC (is := KX4_report_47) rfl ?_)
      refine k_aload_n rfl ?_
      obtain ⟨x15, e13, c14, h16, h17⟩ := cg166 H0.1 h_0_0
      refine k_get kg166 h_0_0 e13 ?_
      refine k_i2l (fun y18 => ?_)
      refine k_lreturn ?_
      exact ⟨_, rfl, rfl⟩
    refine k_swc (fun h19 => ?_) (fun h19 => ?_)
    · refine hB _ _ _ _ (kgoC (is := KX4_report_53) rfl ?_)
      refine k_aload_n rfl ?_
      obtain ⟨x22, e20, c21, h23, h24⟩ := cg167 H0.1 h_0_0
      refine k_get kg167 h_0_0 e20 ?_
      refine k_i2l (fun y25 => ?_)
      refine k_lreturn ?_
      exact ⟨_, rfl, rfl⟩
    refine k_swc (fun h26 => ?_) (fun h26 => ?_)
    · refine hB _ _ _ _ (kgoC (is := KX4_report_59) rfl ?_)
      refine k_aload_n rfl ?_
      obtain ⟨x29, e27, c28, h30, h31⟩ := cg168 H0.1 h_0_0
      refine k_get kg168 h_0_0 e27 ?_
      refine k_if_ge (fun h32 => ?_) (fun h32 => ?_)
      · refine hB _ _ _ _ (kgoC (is := KX4_report_72) rfl ?_)
        refine k_aload_n rfl ?_
        refine k_get kg168 h_0_0 (congrArg (Sum.inl : Int32 → AvC) c28) ?_
        refine k_i2l (fun y33 => ?_)
        refine k_nil ?_
        refine hB _ _ _ _ (kgoC (is := KX4_report_77) rfl ?_)
        refine k_lreturn ?_
        exact ⟨_, rfl, rfl⟩
      · refine k_nil ?_
        refine hB _ _ _ _ (kgoC (is := KX4_report_66) rfl ?_)
        refine k_ldc2_w ?_
        refine k_goto ?_
        refine hB _ _ _ _ (kgoC (is := KX4_report_77) rfl ?_)
        refine k_lreturn ?_
        exact ⟨_, rfl, rfl⟩
    refine k_swn ?_
    refine hB _ _ _ _ (kgoC (is := KX4_report_78) rfl ?_)
    refine k_iload_n rfl ?_
    refine k_bipush (m := 10) rfl (fun x34 h35 => ?_)
    refine k_ic_lt (fun h36 => ?_) (fun h36 => ?_)
    · refine hB _ _ _ _ (kgoC (is := KX4_report_107) rfl ?_)
      refine k_ldc2_w ?_
      refine k_nil ?_
      refine hB _ _ _ _ (kgoC (is := KX4_report_110) rfl ?_)
      refine k_lreturn ?_
      exact ⟨_, rfl, rfl⟩
    · refine k_nil ?_
      refine hB _ _ _ _ (kgoC (is := KX4_report_84) rfl ?_)
      refine k_iload_n rfl ?_
      refine k_bipush (m := 10) rfl (fun x37 h38 => ?_)
      have z41 := tiC p1
      refine k_isub (by omega) (by omega) (fun x39 h40 => ?_)
      refine k_aload_n rfl ?_
      obtain ⟨x44, e42, c43, h45, h46⟩ := cg166 H0.1 h_0_0
      refine k_get kg166 h_0_0 e42 ?_
      refine k_ic_ge (fun h47 => ?_) (fun h47 => ?_)
      · refine hB _ _ _ _ (kgoC (is := KX4_report_107) rfl ?_)
        refine k_ldc2_w ?_
        refine k_nil ?_
        refine hB _ _ _ _ (kgoC (is := KX4_report_110) rfl ?_)
        refine k_lreturn ?_
        exact ⟨_, rfl, rfl⟩
      · refine k_nil ?_
        refine hB _ _ _ _ (kgoC (is := KX4_report_95) rfl ?_)
        refine k_aload_n rfl ?_
        obtain ⟨a50, e48, c49, t51, l52⟩ := cg157 H0.1 h_0_0
        refine k_get kg157 h_0_0 e48 ?_
        refine k_iload_n rfl ?_
        refine k_bipush (m := 10) rfl (fun x53 h54 => ?_)
        have z57 := tiC p1
        refine k_isub (by omega) (by omega) (fun x55 h56 => ?_)
        refine k_laload t51 (by omega) (by omega) (fun y58 => ?_)
        refine k_goto ?_
        refine hB _ _ _ _ (kgoC (is := KX4_report_110) rfl ?_)
        refine k_lreturn ?_
        exact ⟨_, rfl, rfl⟩
