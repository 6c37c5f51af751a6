abbrev P_X0_put : CpC := fun As σ => ∃ (p0 : Nat) (p1 : Int32) (p2 : Option Nat), As = [.inr (.inr (some p0)), .inl p1, .inr (.inr p2)] ∧ HIC σ ∧ TyC σ p0 1 ∧ OtC σ p2 2
abbrev Q_X0_put : CqC := fun As σ w τ => match As with
  | [.inr (.inr (some p0)), .inl p1, .inr (.inr p2)] => ∃ r : Int32, w = some (.inl r) ∧ HIC τ ∧ ExC [34] σ τ ∧ 0 ≤ r.toInt ∧ r.toInt ≤ 999
  | _ => False
set_option maxRecDepth 100000 in
set_option maxHeartbeats 4000000 in
theorem b_X0_put : TbC KX0_put [] P_X0_put Q_X0_put := by
  · rintro As σ0 ⟨p0, p1, p2, rfl, H0, h_0_0, h_2_0⟩ hgr G hB hW
    change G 0 [(0, .inr (.inr (some p0))), (1, .inl p1), (2, .inr (.inr p2))] [] σ0
    refine hB _ _ _ _ (kgoC (is := KX0_put_0) rfl ?_)
    refine k_aload_n rfl ?_
    obtain ⟨x3, e1, c2, h4, h5⟩ := cg34 H0.1 h_0_0
    refine k_get kg34 h_0_0 e1 ?_
    refine k_sipush (m := 1000) rfl (fun x6 h7 => ?_)
    refine k_ic_lt (fun h8 => ?_) (fun h8 => ?_)
    · refine hB _ _ _ _ (kgoC (is := KX0_put_14) rfl ?_)
      refine k_aload_n rfl ?_
      obtain ⟨a11, e9, c10, t12, l13, l14⟩ := cg30 H0.1 h_0_0
      refine k_get kg30 h_0_0 e9 ?_
      refine k_aload_n rfl ?_
      refine k_get kg34 h_0_0 (congrArg (Sum.inl : Int32 → AvC) c2) ?_
      refine k_iload_n rfl ?_
      refine k_iastore H0 t12 l14 (by omega) (by omega) (fun σ15 H16 e17 => ?_)
      refine k_aload_n rfl ?_
      have t18 := h_0_0.x e17
      obtain ⟨a21, e19, c20, t22, l23⟩ := cg32 H16.1 t18
      refine k_get kg32 t18 e19 ?_
      refine k_aload_n rfl ?_
      have c24 := (h_0_0.mi e17 (by decide)).trans c2
      refine k_get kg34 t18 (congrArg (Sum.inl : Int32 → AvC) c24) ?_
      refine k_aload_n rfl ?_
      have t28 := h_2_0.x e17
      refine k_aastore (c := 2) H16 t22 (by decide) (by omega) (by omega) (t28) (fun σ25 H26 e27 => ?_)
      refine k_aload_n rfl ?_
      have t29 := t18.x e27
      obtain ⟨a32, e30, c31, t33, l34⟩ := cg33 H26.1 t29
      refine k_get kg33 t29 e30 ?_
      refine k_aload_n rfl ?_
      have c35 := (t18.mi e27 (by decide)).trans c24
      refine k_get kg34 t29 (congrArg (Sum.inl : Int32 → AvC) c35) ?_
      refine k_aload_n rfl ?_
      obtain ⟨a38, e36, c37, t39⟩ := cg36 H26.1 t29
      refine k_get kg36 t29 e36 ?_
      refine k_aastore (c := 9) H26 t33 (by decide) (by omega) (by omega) (t39.ot) (fun σ40 H41 e42 => ?_)
      refine k_aload_n rfl ?_
      have t43 := t29.x e42
      obtain ⟨a46, e44, c45, t47, l48, l49⟩ := cg31 H41.1 t43
      refine k_get kg31 t43 e44 ?_
      refine k_aload_n rfl ?_
      have c50 := (t29.mi e42 (by decide)).trans c35
      refine k_get kg34 t43 (congrArg (Sum.inl : Int32 → AvC) c50) ?_
      refine k_iconst (m := 0) rfl (fun x51 h52 => ?_)
      refine k_iastore H41 t47 l49 (by omega) (by omega) (fun σ53 H54 e55 => ?_)
      refine k_aload_n rfl ?_
      refine k_dupR ?_
      have t56 := t43.x e55
      have c57 := (t43.mi e55 (by decide)).trans c50
      refine k_get kg34 t56 (congrArg (Sum.inl : Int32 → AvC) c57) ?_
      refine k_iconst (m := 1) rfl (fun x58 h59 => ?_)
      refine k_iadd (by omega) (by omega) (fun x60 h61 => ?_)
      refine k_putI kp34 H54 t56 (Or.inl fk34) (by show 0 ≤ _; omega) (by show _ ≤ 1000; omega) (fun σ62 H63 e64 c65 => ?_)
      refine k_aload_n rfl ?_
      have t66 := t56.x e64
      refine k_get kg34 t66 (congrArg (Sum.inl : Int32 → AvC) c65) ?_
      refine k_iconst (m := 1) rfl (fun x67 h68 => ?_)
      refine k_isub (by omega) (by omega) (fun x69 h70 => ?_)
      refine k_ireturn (fun hz => absurd hz (by decide)) ?_
      have X71 : ExC [34] σ0 σ15 := ExC.rf.tr (e17.mo (by decide))
      have X72 : ExC [34] σ0 σ25 := X71.tr (e27.mo (by decide))
      have X73 : ExC [34] σ0 σ40 := X72.tr (e42.mo (by decide))
      have X74 : ExC [34] σ0 σ53 := X73.tr (e55.mo (by decide))
      have X75 : ExC [34] σ0 σ62 := X74.tr (e64.mo (by decide))
      exact ⟨_, rfl, H63, X75, (by omega), (by omega)⟩
    · refine k_nil ?_
      refine hB _ _ _ _ (kgoC (is := KX0_put_10) rfl ?_)
      refine k_sipush (m := 999) rfl (fun x76 h77 => ?_)
      refine k_ireturn (fun hz => absurd hz (by decide)) ?_
      exact ⟨_, rfl, H0, (ExC.rf : ExC [34] σ0 σ0), (by omega), (by omega)⟩
theorem lg_X0_put : ∀ (As : List AvC) (σ : CsC), P_X0_put As σ → lgC As ≤ rX0_put.2.2.1 := by
  rintro As σ ⟨p0, p1, p2, rfl, -⟩
  exact Nat.le_of_ble_eq_true rfl
theorem m_X0_put (l : Launch) : CMetC l 1 2 P_X0_put Q_X0_put :=
  CMetC.of KX0_put [] hX0_put (by decide) (by decide) okX0_put cc0C (lg_X0_put) (b_X0_put)

abbrev P_X0_jumpTo : CpC := fun As σ => ∃ (p0 : Nat) (p1 : Int32) (p2 : Int32), As = [.inr (.inr (some p0)), .inl p1, .inl p2] ∧ HIC σ ∧ TyC σ p0 1
abbrev Q_X0_jumpTo : CqC := fun As σ w τ => match As with
  | [.inr (.inr (some p0)), .inl p1, .inl p2] => w = none ∧ HIC τ ∧ ExC [34] σ τ
  | _ => False
set_option maxRecDepth 100000 in
set_option maxHeartbeats 4000000 in
theorem b_X0_jumpTo : TbC KX0_jumpTo [(2, P_X0_put, Q_X0_put)] P_X0_jumpTo Q_X0_jumpTo := by
  · rintro As σ0 ⟨p0, p1, p2, rfl, H0, h_0_0⟩ hgr G hB hW
    change G 0 [(0, .inr (.inr (some p0))), (1, .inl p1), (2, .inl p2)] [] σ0
    refine hB _ _ _ _ (kgoC (is := KX0_jumpTo_0) rfl ?_)
    refine k_aload_n rfl ?_
    obtain ⟨a3, e1, c2, t4, l5, l6⟩ := cg31 H0.1 h_0_0
    refine k_get kg31 h_0_0 e1 ?_
    refine k_aload_n rfl ?_
    refine k_iload_n rfl ?_
    refine k_aconst_null ?_
    refine k_inv (P := P_X0_put) (Q := Q_X0_put) rfl rfl rfl rfl (Nat.le_of_ble_eq_true rfl) (h_0_0.rc (by decide)) ⟨_, _, none, rfl, H0, h_0_0, OtC.n⟩ (fun w7 σ8 q9 => ?_)
    obtain ⟨x10, rfl, H11, e12, h13, h14⟩ := q9
    refine k_st (st' := [.inl x10, .inr (.inr (some a3))]) rfl ?_
    refine k_iload_n rfl ?_
    have t15 := t4.x e12
    have l16 := (t4.al e12).trans l5
    have l20 := (t4.gh e12).trans l6
    refine k_iastore H11 t15 l20 (by omega) (by omega) (fun σ17 H18 e19 => ?_)
    refine k_return ?_
    have X21 : ExC [34] σ0 σ8 := ExC.rf.tr (e12.mo (by decide))
    have X22 : ExC [34] σ0 σ17 := X21.tr (e19.mo (by decide))
    exact ⟨rfl, H18, X22⟩
theorem lg_X0_jumpTo : ∀ (As : List AvC) (σ : CsC), P_X0_jumpTo As σ → lgC As ≤ rX0_jumpTo.2.2.1 := by
  rintro As σ ⟨p0, p1, p2, rfl, -⟩
  exact Nat.le_of_ble_eq_true rfl
theorem m_X0_jumpTo (l : Launch) : CMetC l 2 3 P_X0_jumpTo Q_X0_jumpTo :=
  CMetC.of KX0_jumpTo [(2, P_X0_put, Q_X0_put)] hX0_jumpTo (by decide) (by decide) okX0_jumpTo (cc1C (m_X0_put l) (by decide) cc0C) (lg_X0_jumpTo) (b_X0_jumpTo)

abbrev P_X0_layOne : CpC := fun As σ => ∃ (p0 : Nat) (p1 : Nat), As = [.inr (.inr (some p0)), .inr (.inr (some p1))] ∧ HIC σ ∧ TyC σ p0 1 ∧ TyC σ p1 2
abbrev Q_X0_layOne : CqC := fun As σ w τ => match As with
  | [.inr (.inr (some p0)), .inr (.inr (some p1))] => w = none ∧ HIC τ ∧ ExC [34, 77] σ τ
  | _ => False
set_option maxRecDepth 100000 in
set_option maxHeartbeats 4000000 in
theorem b_X0_layOne : TbC KX0_layOne [(2, P_X0_put, Q_X0_put)] P_X0_layOne Q_X0_layOne := by
  · rintro As σ0 ⟨p0, p1, rfl, H0, h_0_0, h_1_0⟩ hgr G hB hW
    change G 0 [(0, .inr (.inr (some p0))), (1, .inr (.inr (some p1)))] [] σ0
    refine hB _ _ _ _ (kgoC (is := KX0_layOne_0) rfl ?_)
    refine k_aload_n rfl ?_
    obtain ⟨x3, e1, c2, h4, h5⟩ := cg60 H0.1 h_1_0
    refine k_get kg60 h_1_0 e1 ?_
    refine k_tsw ?_
    refine k_swc (fun h6 => ?_) (fun h6 => ?_)
    · refine hB _ _ _ _ (kgoC (is := KX0_layOne_80) rfl ?_)
      refine k_aload_n rfl ?_
      refine k_iconst (m := 0) rfl (fun x7 h8 => ?_)
      refine k_aload_n rfl ?_
      refine k_inv (P := P_X0_put) (Q := Q_X0_put) rfl rfl rfl rfl (Nat.le_of_ble_eq_true rfl) (h_0_0.rc (by decide)) ⟨_, _, (some p1), rfl, H0, h_0_0, h_1_0.ot⟩ (fun w9 σ10 q11 => ?_)
      obtain ⟨x12, rfl, H13, e14, h15, h16⟩ := q11
      refine k_st (st' := [.inl x12]) rfl ?_
      refine k_popI ?_
      refine k_goto ?_
      refine hB _ _ _ _ (kgoC (is := KX0_layOne_315) rfl ?_)
      refine k_return ?_
      have X17 : ExC [34, 77] σ0 σ10 := ExC.rf.tr (e14.mo (by decide))
      exact ⟨rfl, H13, X17⟩
    refine k_swc (fun h18 => ?_) (fun h18 => ?_)
    · refine hB _ _ _ _ (kgoC (is := KX0_layOne_80) rfl ?_)
      refine k_aload_n rfl ?_
      refine k_iconst (m := 0) rfl (fun x19 h20 => ?_)
      refine k_aload_n rfl ?_
      refine k_inv (P := P_X0_put) (Q := Q_X0_put) rfl rfl rfl rfl (Nat.le_of_ble_eq_true rfl) (h_0_0.rc (by decide)) ⟨_, _, (some p1), rfl, H0, h_0_0, h_1_0.ot⟩ (fun w21 σ22 q23 => ?_)
      obtain ⟨x24, rfl, H25, e26, h27, h28⟩ := q23
      refine k_st (st' := [.inl x24]) rfl ?_
      refine k_popI ?_
      refine k_goto ?_
      refine hB _ _ _ _ (kgoC (is := KX0_layOne_315) rfl ?_)
      refine k_return ?_
      have X29 : ExC [34, 77] σ0 σ22 := ExC.rf.tr (e26.mo (by decide))
      exact ⟨rfl, H25, X29⟩
    refine k_swc (fun h30 => ?_) (fun h30 => ?_)
    · refine hB _ _ _ _ (kgoC (is := KX0_layOne_90) rfl ?_)
      refine k_aload_n rfl ?_
      refine k_aload_n rfl ?_
      obtain ⟨x33, e31, c32, h34, h35⟩ := cg70 H0.1 h_1_0
      refine k_get kg70 h_1_0 e31 ?_
      refine k_if_eq (fun h36 => ?_) (fun h36 => ?_)
      · refine hB _ _ _ _ (kgoC (is := KX0_layOne_102) rfl ?_)
        refine k_iconst (m := 1) rfl (fun x37 h38 => ?_)
        refine k_nil ?_
        refine hB _ _ _ _ (kgoC (is := KX0_layOne_103) rfl ?_)
        refine k_aload_n rfl ?_
        refine k_inv (P := P_X0_put) (Q := Q_X0_put) rfl rfl rfl rfl (Nat.le_of_ble_eq_true rfl) (h_0_0.rc (by decide)) ⟨_, _, (some p1), rfl, H0, h_0_0, h_1_0.ot⟩ (fun w39 σ40 q41 => ?_)
        obtain ⟨x42, rfl, H43, e44, h45, h46⟩ := q41
        refine k_st (st' := [.inl x42]) rfl ?_
        refine k_popI ?_
        refine k_goto ?_
        refine hB _ _ _ _ (kgoC (is := KX0_layOne_315) rfl ?_)
        refine k_return ?_
        have X47 : ExC [34, 77] σ0 σ40 := ExC.rf.tr (e44.mo (by decide))
        exact ⟨rfl, H43, X47⟩
      · refine k_nil ?_
        refine hB _ _ _ _ (kgoC (is := KX0_layOne_98) rfl ?_)
        refine k_iconst (m := 0) rfl (fun x48 h49 => ?_)
        refine k_goto ?_
        refine hB _ _ _ _ (kgoC (is := KX0_layOne_103) rfl ?_)
        refine k_aload_n rfl ?_
        refine k_inv (P := P_X0_put) (Q := Q_X0_put) rfl rfl rfl rfl (Nat.le_of_ble_eq_true rfl) (h_0_0.rc (by decide)) ⟨_, _, (some p1), rfl, H0, h_0_0, h_1_0.ot⟩ (fun w50 σ51 q52 => ?_)
        obtain ⟨x53, rfl, H54, e55, h56, h57⟩ := q52
        refine k_st (st' := [.inl x53]) rfl ?_
        refine k_popI ?_
        refine k_goto ?_
        refine hB _ _ _ _ (kgoC (is := KX0_layOne_315) rfl ?_)
        refine k_return ?_
        have X58 : ExC [34, 77] σ0 σ51 := ExC.rf.tr (e55.mo (by decide))
        exact ⟨rfl, H54, X58⟩
    refine k_swc (fun h59 => ?_) (fun h59 => ?_)
    · refine hB _ _ _ _ (kgoC (is := KX0_layOne_315) rfl ?_)
      refine k_return ?_
      exact ⟨rfl, H0, (ExC.rf : ExC [34, 77] σ0 σ0)⟩
    refine k_swc (fun h60 => ?_) (fun h60 => ?_)
    · refine hB _ _ _ _ (kgoC (is := KX0_layOne_121) rfl ?_)
      refine k_aload_n rfl ?_
      refine k_iconst (m := 3) rfl (fun x61 h62 => ?_)
      refine k_aload_n rfl ?_
      refine k_inv (P := P_X0_put) (Q := Q_X0_put) rfl rfl rfl rfl (Nat.le_of_ble_eq_true rfl) (h_0_0.rc (by decide)) ⟨_, _, (some p1), rfl, H0, h_0_0, h_1_0.ot⟩ (fun w63 σ64 q65 => ?_)
      obtain ⟨x66, rfl, H67, e68, h69, h70⟩ := q65
      refine k_st (st' := [.inl x66]) rfl ?_
      refine k_popI ?_
      refine k_goto ?_
      refine hB _ _ _ _ (kgoC (is := KX0_layOne_315) rfl ?_)
      refine k_return ?_
      have X71 : ExC [34, 77] σ0 σ64 := ExC.rf.tr (e68.mo (by decide))
      exact ⟨rfl, H67, X71⟩
    refine k_swc (fun h72 => ?_) (fun h72 => ?_)
    · refine hB _ _ _ _ (kgoC (is := KX0_layOne_131) rfl ?_)
      refine k_aload_n rfl ?_
      refine k_iconst (m := 4) rfl (fun x73 h74 => ?_)
      refine k_aload_n rfl ?_
      refine k_inv (P := P_X0_put) (Q := Q_X0_put) rfl rfl rfl rfl (Nat.le_of_ble_eq_true rfl) (h_0_0.rc (by decide)) ⟨_, _, (some p1), rfl, H0, h_0_0, h_1_0.ot⟩ (fun w75 σ76 q77 => ?_)
      obtain ⟨x78, rfl, H79, e80, h81, h82⟩ := q77
      refine k_st (st' := [.inl x78]) rfl ?_
      refine k_popI ?_
      refine k_goto ?_
      refine hB _ _ _ _ (kgoC (is := KX0_layOne_315) rfl ?_)
      refine k_return ?_
      have X83 : ExC [34, 77] σ0 σ76 := ExC.rf.tr (e80.mo (by decide))
      exact ⟨rfl, H79, X83⟩
    refine k_swc (fun h84 => ?_) (fun h84 => ?_)
    · refine hB _ _ _ _ (kgoC (is := KX0_layOne_141) rfl ?_)
      refine k_aload_n rfl ?_
      refine k_bipush (m := 6) rfl (fun x85 h86 => ?_)
      refine k_aload_n rfl ?_
      refine k_inv (P := P_X0_put) (Q := Q_X0_put) rfl rfl rfl rfl (Nat.le_of_ble_eq_true rfl) (h_0_0.rc (by decide)) ⟨_, _, (some p1), rfl, H0, h_0_0, h_1_0.ot⟩ (fun w87 σ88 q89 => ?_)
      obtain ⟨x90, rfl, H91, e92, h93, h94⟩ := q89
      refine k_st (st' := [.inl x90]) rfl ?_
      refine k_popI ?_
      refine k_goto ?_
      refine hB _ _ _ _ (kgoC (is := KX0_layOne_315) rfl ?_)
      refine k_return ?_
      have X95 : ExC [34, 77] σ0 σ88 := ExC.rf.tr (e92.mo (by decide))
      exact ⟨rfl, H91, X95⟩
    refine k_swc (fun h96 => ?_) (fun h96 => ?_)
    · refine hB _ _ _ _ (kgoC (is := KX0_layOne_174) rfl ?_)
      refine k_aload_n rfl ?_
      obtain ⟨o99, e97, c98, t100⟩ := cg76 H0.1 h_1_0
      refine k_get kg76 h_1_0 e97 ?_
      refine k_ifnonnull (fun b101 h102 => ?_) (fun h102 => ?_)
      · subst h102
        have t103 := t100 b101 rfl
        refine hB _ _ _ _ (kgoC (is := KX0_layOne_191) rfl ?_)
        refine k_aload_n rfl ?_
        obtain ⟨a106, e104, c105, t107, l108, l109⟩ := cg31 H0.1 h_0_0
        refine k_get kg31 h_0_0 e104 ?_
        refine k_aload_n rfl ?_
        refine k_get kg76 h_1_0 (congrArg (fun z : Option Nat => (Sum.inr (Sum.inr z) : AvC)) c98) ?_
        obtain ⟨x112, e110, c111, h113, h114⟩ := cg77 H0.1 t103
        refine k_get kg77 t103 e110 ?_
        refine k_aload_n rfl ?_
        obtain ⟨x117, e115, c116, h118, h119⟩ := cg34 H0.1 h_0_0
        refine k_get kg34 h_0_0 e115 ?_
        refine k_iastore H0 t107 l109 (by omega) (by omega) (fun σ120 H121 e122 => ?_)
        refine k_goto ?_
        refine hB _ _ _ _ (kgoC (is := KX0_layOne_315) rfl ?_)
        refine k_return ?_
        have X123 : ExC [34, 77] σ0 σ120 := ExC.rf.tr (e122.mo (by decide))
        exact ⟨rfl, H121, X123⟩
      · subst h102
        refine k_nil ?_
        refine hB _ _ _ _ (kgoC (is := KX0_layOne_181) rfl ?_)
        refine k_aload_n rfl ?_
        refine k_iconst (m := 5) rfl (fun x124 h125 => ?_)
        refine k_aload_n rfl ?_
        refine k_inv (P := P_X0_put) (Q := Q_X0_put) rfl rfl rfl rfl (Nat.le_of_ble_eq_true rfl) (h_0_0.rc (by decide)) ⟨_, _, (some p1), rfl, H0, h_0_0, h_1_0.ot⟩ (fun w126 σ127 q128 => ?_)
        obtain ⟨x129, rfl, H130, e131, h132, h133⟩ := q128
        refine k_st (st' := [.inl x129]) rfl ?_
        refine k_popI ?_
        refine k_goto ?_
        refine hB _ _ _ _ (kgoC (is := KX0_layOne_315) rfl ?_)
        refine k_return ?_
        have X134 : ExC [34, 77] σ0 σ127 := ExC.rf.tr (e131.mo (by decide))
        exact ⟨rfl, H130, X134⟩
    refine k_swc (fun h135 => ?_) (fun h135 => ?_)
    · refine hB _ _ _ _ (kgoC (is := KX0_layOne_289) rfl ?_)
      refine k_aload_n rfl ?_
      obtain ⟨o138, e136, c137, t139⟩ := cg76 H0.1 h_1_0
      refine k_get kg76 h_1_0 e136 ?_
      refine k_ifnull (fun h141 => ?_) (fun b140 h141 => ?_)
      · subst h141
        refine hB _ _ _ _ (kgoC (is := KX0_layOne_315) rfl ?_)
        refine k_return ?_
        exact ⟨rfl, H0, (ExC.rf : ExC [34, 77] σ0 σ0)⟩
      · subst h141
        have t142 := t139 b140 rfl
        refine k_nil ?_
        refine hB _ _ _ _ (kgoC (is := KX0_layOne_296) rfl ?_)
        refine k_aload_n rfl ?_
        obtain ⟨a145, e143, c144, t146, l147, l148⟩ := cg31 H0.1 h_0_0
        refine k_get kg31 h_0_0 e143 ?_
        refine k_aload_n rfl ?_
        refine k_get kg76 h_1_0 (congrArg (fun z : Option Nat => (Sum.inr (Sum.inr z) : AvC)) c137) ?_
        obtain ⟨x151, e149, c150, h152, h153⟩ := cg77 H0.1 t142
        refine k_get kg77 t142 e149 ?_
        refine k_aload_n rfl ?_
        obtain ⟨x156, e154, c155, h157, h158⟩ := cg34 H0.1 h_0_0
        refine k_get kg34 h_0_0 e154 ?_
        refine k_iastore H0 t146 l148 (by omega) (by omega) (fun σ159 H160 e161 => ?_)
        refine k_goto ?_
        refine hB _ _ _ _ (kgoC (is := KX0_layOne_315) rfl ?_)
        refine k_return ?_
        have X162 : ExC [34, 77] σ0 σ159 := ExC.rf.tr (e161.mo (by decide))
        exact ⟨rfl, H160, X162⟩
    refine k_swc (fun h163 => ?_) (fun h163 => ?_)
    · refine hB _ _ _ _ (kgoC (is := KX0_layOne_152) rfl ?_)
      refine k_aload_n rfl ?_
      refine k_bipush (m := 7) rfl (fun x164 h165 => ?_)
      refine k_aload_n rfl ?_
      refine k_inv (P := P_X0_put) (Q := Q_X0_put) rfl rfl rfl rfl (Nat.le_of_ble_eq_true rfl) (h_0_0.rc (by decide)) ⟨_, _, (some p1), rfl, H0, h_0_0, h_1_0.ot⟩ (fun w166 σ167 q168 => ?_)
      obtain ⟨x169, rfl, H170, e171, h172, h173⟩ := q168
      refine k_st (st' := [.inl x169]) rfl ?_
      refine k_popI ?_
      refine k_goto ?_
      refine hB _ _ _ _ (kgoC (is := KX0_layOne_315) rfl ?_)
      refine k_return ?_
      have X174 : ExC [34, 77] σ0 σ167 := ExC.rf.tr (e171.mo (by decide))
      exact ⟨rfl, H170, X174⟩
    refine k_swc (fun h175 => ?_) (fun h175 => ?_)
    · refine hB _ _ _ _ (kgoC (is := KX0_layOne_163) rfl ?_)
      refine k_aload_n rfl ?_
      refine k_bipush (m := 8) rfl (fun x176 h177 => ?_)
      refine k_aload_n rfl ?_
      refine k_inv (P := P_X0_put) (Q := Q_X0_put) rfl rfl rfl rfl (Nat.le_of_ble_eq_true rfl) (h_0_0.rc (by decide)) ⟨_, _, (some p1), rfl, H0, h_0_0, h_1_0.ot⟩ (fun w178 σ179 q180 => ?_)
      obtain ⟨x181, rfl, H182, e183, h184, h185⟩ := q180
      refine k_st (st' := [.inl x181]) rfl ?_
      refine k_popI ?_
      refine k_goto ?_
      refine hB _ _ _ _ (kgoC (is := KX0_layOne_315) rfl ?_)
      refine k_return ?_
      have X186 : ExC [34, 77] σ0 σ179 := ExC.rf.tr (e183.mo (by decide))
      exact ⟨rfl, H182, X186⟩
    refine k_swc (fun h187 => ?_) (fun h187 => ?_)
    · refine hB _ _ _ _ (kgoC (is := KX0_layOne_210) rfl ?_)
      refine k_aload_n rfl ?_
      refine k_aload_n rfl ?_
      refine k_aload_n rfl ?_
      obtain ⟨x190, e188, c189, h191, h192⟩ := cg61 H0.1 h_1_0
      refine k_get kg61 h_1_0 e188 ?_
      refine k_bipush (m := 21) rfl (fun x193 h194 => ?_)
      refine k_ic_ne (fun h195 => ?_) (fun h195 => ?_)
      · refine hB _ _ _ _ (kgoC (is := KX0_layOne_226) rfl ?_)
        refine k_bipush (m := 14) rfl (fun x196 h197 => ?_)
        refine k_nil ?_
        refine hB _ _ _ _ (kgoC (is := KX0_layOne_228) rfl ?_)
        refine k_aload_n rfl ?_
        refine k_inv (P := P_X0_put) (Q := Q_X0_put) rfl rfl rfl rfl (Nat.le_of_ble_eq_true rfl) (h_0_0.rc (by decide)) ⟨_, _, (some p1), rfl, H0, h_0_0, h_1_0.ot⟩ (fun w198 σ199 q200 => ?_)
        obtain ⟨x201, rfl, H202, e203, h204, h205⟩ := q200
        refine k_st (st' := [.inl x201, .inr (.inr (some p1))]) rfl ?_
        have t206 := h_1_0.x e203
        refine k_putI kp77 H202 t206 (Or.inl fk77) (by show 0 ≤ _; omega) (by show _ ≤ 999; omega) (fun σ207 H208 e209 c210 => ?_)
        refine k_goto ?_
        refine hB _ _ _ _ (kgoC (is := KX0_layOne_315) rfl ?_)
        refine k_return ?_
        have X211 : ExC [34, 77] σ0 σ199 := ExC.rf.tr (e203.mo (by decide))
        have X212 : ExC [34, 77] σ0 σ207 := X211.tr (e209.mo (by decide))
        exact ⟨rfl, H208, X212⟩
      · refine k_nil ?_
        refine hB _ _ _ _ (kgoC (is := KX0_layOne_221) rfl ?_)
        refine k_bipush (m := 13) rfl (fun x213 h214 => ?_)
        refine k_goto ?_
        refine hB _ _ _ _ (kgoC (is := KX0_layOne_228) rfl ?_)
        refine k_aload_n rfl ?_
        refine k_inv (P := P_X0_put) (Q := Q_X0_put) rfl rfl rfl rfl (Nat.le_of_ble_eq_true rfl) (h_0_0.rc (by decide)) ⟨_, _, (some p1), rfl, H0, h_0_0, h_1_0.ot⟩ (fun w215 σ216 q217 => ?_)
        obtain ⟨x218, rfl, H219, e220, h221, h222⟩ := q217
        refine k_st (st' := [.inl x218, .inr (.inr (some p1))]) rfl ?_
        have t223 := h_1_0.x e220
        refine k_putI kp77 H219 t223 (Or.inl fk77) (by show 0 ≤ _; omega) (by show _ ≤ 999; omega) (fun σ224 H225 e226 c227 => ?_)
        refine k_goto ?_
        refine hB _ _ _ _ (kgoC (is := KX0_layOne_315) rfl ?_)
        refine k_return ?_
        have X228 : ExC [34, 77] σ0 σ216 := ExC.rf.tr (e220.mo (by decide))
        have X229 : ExC [34, 77] σ0 σ224 := X228.tr (e226.mo (by decide))
        exact ⟨rfl, H225, X229⟩
    refine k_swc (fun h230 => ?_) (fun h230 => ?_)
    · refine hB _ _ _ _ (kgoC (is := KX0_layOne_238) rfl ?_)
      refine k_aload_n rfl ?_
      refine k_aload_n rfl ?_
      refine k_bipush (m := 11) rfl (fun x231 h232 => ?_)
      refine k_aload_n rfl ?_
      refine k_inv (P := P_X0_put) (Q := Q_X0_put) rfl rfl rfl rfl (Nat.le_of_ble_eq_true rfl) (h_0_0.rc (by decide)) ⟨_, _, (some p1), rfl, H0, h_0_0, h_1_0.ot⟩ (fun w233 σ234 q235 => ?_)
      obtain ⟨x236, rfl, H237, e238, h239, h240⟩ := q235
      refine k_st (st' := [.inl x236, .inr (.inr (some p1))]) rfl ?_
      have t241 := h_1_0.x e238
      refine k_putI kp77 H237 t241 (Or.inl fk77) (by show 0 ≤ _; omega) (by show _ ≤ 999; omega) (fun σ242 H243 e244 c245 => ?_)
      refine k_goto ?_
      refine hB _ _ _ _ (kgoC (is := KX0_layOne_315) rfl ?_)
      refine k_return ?_
      have X246 : ExC [34, 77] σ0 σ234 := ExC.rf.tr (e238.mo (by decide))
      have X247 : ExC [34, 77] σ0 σ242 := X246.tr (e244.mo (by decide))
      exact ⟨rfl, H243, X247⟩
    refine k_swc (fun h248 => ?_) (fun h248 => ?_)
    · refine hB _ _ _ _ (kgoC (is := KX0_layOne_252) rfl ?_)
      refine k_aload_n rfl ?_
      refine k_aload_n rfl ?_
      refine k_bipush (m := 10) rfl (fun x249 h250 => ?_)
      refine k_aload_n rfl ?_
      refine k_inv (P := P_X0_put) (Q := Q_X0_put) rfl rfl rfl rfl (Nat.le_of_ble_eq_true rfl) (h_0_0.rc (by decide)) ⟨_, _, (some p1), rfl, H0, h_0_0, h_1_0.ot⟩ (fun w251 σ252 q253 => ?_)
      obtain ⟨x254, rfl, H255, e256, h257, h258⟩ := q253
      refine k_st (st' := [.inl x254, .inr (.inr (some p1))]) rfl ?_
      have t259 := h_1_0.x e256
      refine k_putI kp77 H255 t259 (Or.inl fk77) (by show 0 ≤ _; omega) (by show _ ≤ 999; omega) (fun σ260 H261 e262 c263 => ?_)
      refine k_aload_n rfl ?_
      have t264 := t259.x e262
      obtain ⟨o267, e265, c266, t268⟩ := cg76 H261.1 t264
      refine k_get kg76 t264 e265 ?_
      refine k_ifnull (fun h270 => ?_) (fun b269 h270 => ?_)
      · subst h270
        refine hB _ _ _ _ (kgoC (is := KX0_layOne_315) rfl ?_)
        refine k_return ?_
        have X271 : ExC [34, 77] σ0 σ252 := ExC.rf.tr (e256.mo (by decide))
        have X272 : ExC [34, 77] σ0 σ260 := X271.tr (e262.mo (by decide))
        exact ⟨rfl, H261, X272⟩
      · subst h270
        have t273 := t268 b269 rfl
        refine k_nil ?_
        refine hB _ _ _ _ (kgoC (is := KX0_layOne_270) rfl ?_)
        refine k_aload_n rfl ?_
        have t274 := h_0_0.x e256
        have t275 := t274.x e262
        obtain ⟨a278, e276, c277, t279, l280, l281⟩ := cg31 H261.1 t275
        refine k_get kg31 t275 e276 ?_
        refine k_aload_n rfl ?_
        refine k_get kg76 t264 (congrArg (fun z : Option Nat => (Sum.inr (Sum.inr z) : AvC)) c266) ?_
        obtain ⟨x284, e282, c283, h285, h286⟩ := cg77 H261.1 t273
        refine k_get kg77 t273 e282 ?_
        refine k_aload_n rfl ?_
        obtain ⟨x289, e287, c288, h290, h291⟩ := cg34 H261.1 t275
        refine k_get kg34 t275 e287 ?_
        refine k_iastore H261 t279 l281 (by omega) (by omega) (fun σ292 H293 e294 => ?_)
        refine k_goto ?_
        refine hB _ _ _ _ (kgoC (is := KX0_layOne_315) rfl ?_)
        refine k_return ?_
        have X295 : ExC [34, 77] σ0 σ252 := ExC.rf.tr (e256.mo (by decide))
        have X296 : ExC [34, 77] σ0 σ260 := X295.tr (e262.mo (by decide))
        have X297 : ExC [34, 77] σ0 σ292 := X296.tr (e294.mo (by decide))
        exact ⟨rfl, H293, X297⟩
    refine k_swc (fun h298 => ?_) (fun h298 => ?_)
    · refine hB _ _ _ _ (kgoC (is := KX0_layOne_111) rfl ?_)
      refine k_aload_n rfl ?_
      refine k_iconst (m := 1) rfl (fun x299 h300 => ?_)
      refine k_aload_n rfl ?_
      refine k_inv (P := P_X0_put) (Q := Q_X0_put) rfl rfl rfl rfl (Nat.le_of_ble_eq_true rfl) (h_0_0.rc (by decide)) ⟨_, _, (some p1), rfl, H0, h_0_0, h_1_0.ot⟩ (fun w301 σ302 q303 => ?_)
      obtain ⟨x304, rfl, H305, e306, h307, h308⟩ := q303
      refine k_st (st' := [.inl x304]) rfl ?_
      refine k_popI ?_
      refine k_goto ?_
      refine hB _ _ _ _ (kgoC (is := KX0_layOne_315) rfl ?_)
      refine k_return ?_
      have X309 : ExC [34, 77] σ0 σ302 := ExC.rf.tr (e306.mo (by decide))
      exact ⟨rfl, H305, X309⟩
    refine k_swn ?_
    refine hB _ _ _ _ (kgoC (is := KX0_layOne_315) rfl ?_)
    refine k_return ?_
    exact ⟨rfl, H0, (ExC.rf : ExC [34, 77] σ0 σ0)⟩
theorem lg_X0_layOne : ∀ (As : List AvC) (σ : CsC), P_X0_layOne As σ → lgC As ≤ rX0_layOne.2.2.1 := by
  rintro As σ ⟨p0, p1, rfl, -⟩
  exact Nat.le_of_ble_eq_true rfl
theorem m_X0_layOne (l : Launch) : CMetC l 2 16 P_X0_layOne Q_X0_layOne :=
  CMetC.of KX0_layOne [(2, P_X0_put, Q_X0_put)] hX0_layOne (by decide) (by decide) okX0_layOne (cc1C (m_X0_put l) (by decide) cc0C) (lg_X0_layOne) (b_X0_layOne)

abbrev P_X0_layExp : CpC := fun As σ => ∃ (p0 : Nat) (p1 : Option Nat), As = [.inr (.inr (some p0)), .inr (.inr p1)] ∧ HIC σ ∧ TyC σ p0 1 ∧ OtC σ p1 2
abbrev Q_X0_layExp : CqC := fun As σ w τ => match As with
  | [.inr (.inr (some p0)), .inr (.inr p1)] => w = none ∧ HIC τ ∧ ExC [34, 77] σ τ
  | _ => False
set_option maxRecDepth 100000 in
set_option maxHeartbeats 4000000 in
theorem b_X0_layExp : TbC KX0_layExp [(234, P_Jx4a65c_size_8abf5, Q_Jx4a65c_size_8abf5), (235, P_Jx4a65c_get_915e3, Q_Jx4a65c_get_915e3), (16, P_X0_layOne, Q_X0_layOne)] P_X0_layExp Q_X0_layExp := by
  · rintro As σ0 ⟨p0, p1, rfl, H0, h_0_0, h_1_0⟩ hgr G hB hW
    change G 0 [(0, .inr (.inr (some p0))), (1, .inr (.inr p1))] [] σ0
    have L10 : ∀ (n10 : Nat), ∀ (σ1 : CsC) (v10_1 : Nat) (v10_2 : Int32), (2147483647 - v10_2.toInt).toNat = n10 → HIC σ1 → ExC [34, 77] σ0 σ1 → TyC σ1 v10_1 2 → 0 ≤ v10_2.toInt → G 10 [(0, .inr (.inr (some p0))), (1, .inr (.inr (some v10_1))), (2, .inl v10_2)] [] σ1 := by
      intro n10
      induction n10 using Nat.strongRecOn with
      | _ n10 ih10 =>
        intro σ1 v10_1 v10_2 n10_ H2 e3 h4 h5
        refine hB _ _ _ _ (kgoC (is := KX0_layExp_10) rfl ?_)
        refine k_iload_n rfl ?_
        refine k_aload_n rfl ?_
        obtain ⟨x8, e6, c7, h9, h10⟩ := cg65 H2.1 h4
        refine k_get kg65 h4 e6 ?_
        refine k_ic_gt (fun h11 => ?_) (fun h11 => ?_)
        · refine hB _ _ _ _ (kgoC (is := KX0_layExp_56) rfl ?_)
          refine k_return ?_
          have X12 : ExC [34, 77] σ0 σ1 := ExC.rf.tr (e3.mo (by decide))
          exact ⟨rfl, H2, X12⟩
        · refine k_nil ?_
          refine hB _ _ _ _ (kgoC (is := KX0_layExp_18) rfl ?_)
          refine k_iload_n rfl ?_
          refine k_aload_n rfl ?_
          have t13 := h_0_0.x e3
          obtain ⟨a16, e14, c15, t17⟩ := cg35 H2.1 t13
          refine k_get kg35 t13 e14 ?_
          obtain ⟨a20, e18, c19, t21, l22⟩ := cg213 H2.1 t17
          refine k_get kg213 t17 e18 ?_
          refine k_inv (P := P_Jx4a65c_size_8abf5) (Q := Q_Jx4a65c_size_8abf5) rfl rfl rfl rfl (Nat.le_of_ble_eq_true rfl) (t21.rc (by decide)) ⟨_, rfl, H2, t21⟩ (fun w23 σ24 q25 => ?_)
          obtain ⟨x26, rfl, rfl, h27, h28, q29, q30⟩ := q25
          refine k_st (st' := [.inl x26, .inl v10_2]) rfl ?_
          refine k_ic_ge (fun h31 => ?_) (fun h31 => ?_)
          · refine hB _ _ _ _ (kgoC (is := KX0_layExp_56) rfl ?_)
            refine k_return ?_
            have X32 : ExC [34, 77] σ0 σ1 := ExC.rf.tr (e3.mo (by decide))
            exact ⟨rfl, H2, X32⟩
          · refine k_nil ?_
            refine hB _ _ _ _ (kgoC (is := KX0_layExp_32) rfl ?_)
            refine k_aload_n rfl ?_
            refine k_aload_n rfl ?_
            refine k_get kg35 t13 (congrArg (fun z : Option Nat => (Sum.inr (Sum.inr z) : AvC)) c15) ?_
            refine k_get kg213 t17 (congrArg (fun z : Option Nat => (Sum.inr (Sum.inr z) : AvC)) c19) ?_
            refine k_iload_n rfl ?_
            have z33 := congrArg Int32.toInt q29
            refine k_inv (P := P_Jx4a65c_get_915e3) (Q := Q_Jx4a65c_get_915e3) rfl rfl rfl rfl (Nat.le_of_ble_eq_true rfl) (t21.rc (by decide)) ⟨_, _, rfl, H2, t21, (by omega), (by omega)⟩ (fun w34 σ35 q36 => ?_)
            obtain ⟨a37, rfl, rfl, h38⟩ := q36
            rw [l22] at h38
            have t39 := h38.1
            refine k_st (st' := [.inr (.inr (some a37)), .inr (.inr (some p0))]) rfl ?_
            refine k_castS (t39.ob (by decide)) ?_
            refine k_inv (P := P_X0_layOne) (Q := Q_X0_layOne) rfl rfl rfl rfl (Nat.le_of_ble_eq_true rfl) (t13.rc (by decide)) ⟨_, _, rfl, H2, t13, t39⟩ (fun w40 σ41 q42 => ?_)
            obtain ⟨rfl, H43, e44⟩ := q42
            refine k_st (st' := []) rfl ?_
            obtain ⟨x45, e47, h46⟩ := iincC (n := 1) (m := 1) (v := v10_2) rfl (by omega) (by omega)
            refine k_iinc (ls' := [(2, .inl x45), (0, .inr (.inr (some p0))), (1, .inr (.inr (some v10_1)))]) rfl e47 rfl ?_
            refine k_goto ?_
            have t48 := h4.x e44
            have X49 : ExC [34, 77] σ0 σ1 := ExC.rf.tr (e3.mo (by decide))
            have X50 : ExC [34, 77] σ0 σ41 := X49.tr (e44.mo (by decide))
            exact hW _ _ _ _ _ (List.forall_mem_cons.2 ⟨List.Mem.tail _ (List.Mem.head _), (List.forall_mem_cons.2 ⟨List.Mem.tail _ (List.Mem.tail _ (List.Mem.head _)), (List.forall_mem_cons.2 ⟨List.Mem.head _, fun _ h => absurd h List.not_mem_nil⟩)⟩)⟩) (ih10 ((2147483647 - x45.toInt).toNat) (by omega) σ41 v10_1 x45 rfl H43 X50 t48 (by omega))
    refine hB _ _ _ _ (kgoC (is := KX0_layExp_0) rfl ?_)
    refine k_aload_n rfl ?_
    refine k_ifnonnull (fun b51 h52 => ?_) (fun h52 => ?_)
    · subst h52
      have t53 := h_1_0 b51 rfl
      refine hB _ _ _ _ (kgoC (is := KX0_layExp_5) rfl ?_)
      refine k_aload_n rfl ?_
      obtain ⟨x56, e54, c55, h57, h58⟩ := cg63 H0.1 t53
      refine k_get kg63 t53 e54 ?_
      refine k_istore_n (ls' := [(2, .inl x56), (0, .inr (.inr (some p0))), (1, .inr (.inr (some b51)))]) rfl ?_
      refine k_nil ?_
      exact hW _ _ _ _ _ (List.forall_mem_cons.2 ⟨List.Mem.tail _ (List.Mem.head _), (List.forall_mem_cons.2 ⟨List.Mem.tail _ (List.Mem.tail _ (List.Mem.head _)), (List.forall_mem_cons.2 ⟨List.Mem.head _, fun _ h => absurd h List.not_mem_nil⟩)⟩)⟩) (L10 _ σ0 b51 x56 rfl H0 ExC.rf t53 (by omega))
    · subst h52
      refine k_nil ?_
      refine hB _ _ _ _ (kgoC (is := KX0_layExp_4) rfl ?_)
      refine k_return ?_
      exact ⟨rfl, H0, (ExC.rf : ExC [34, 77] σ0 σ0)⟩
theorem lg_X0_layExp : ∀ (As : List AvC) (σ : CsC), P_X0_layExp As σ → lgC As ≤ rX0_layExp.2.2.1 := by
  rintro As σ ⟨p0, p1, rfl, -⟩
  exact Nat.le_of_ble_eq_true rfl
theorem m_X0_layExp (l : Launch) : CMetC l 11 15 P_X0_layExp Q_X0_layExp :=
  CMetC.of KX0_layExp [(234, P_Jx4a65c_size_8abf5, Q_Jx4a65c_size_8abf5), (235, P_Jx4a65c_get_915e3, Q_Jx4a65c_get_915e3), (16, P_X0_layOne, Q_X0_layOne)] hX0_layExp (by decide) (by decide) okX0_layExp (cc1C (m_Jx4a65c_size_8abf5 l) (by decide) (cc1C (m_Jx4a65c_get_915e3 l) (by decide) (cc1C (m_X0_layOne l) (by decide) cc0C))) (lg_X0_layExp) (b_X0_layExp)

abbrev P_X0_layTold : CpC := fun As σ => ∃ (p0 : Nat) (p1 : Nat), As = [.inr (.inr (some p0)), .inr (.inr (some p1))] ∧ HIC σ ∧ TyC σ p0 1 ∧ TyC σ p1 9
abbrev Q_X0_layTold : CqC := fun As σ w τ => match As with
  | [.inr (.inr (some p0)), .inr (.inr (some p1))] => w = none ∧ HIC τ ∧ ExC [34, 77] σ τ
  | _ => False
set_option maxRecDepth 100000 in
set_option maxHeartbeats 4000000 in
theorem b_X0_layTold : TbC KX0_layTold [(15, P_X0_layExp, Q_X0_layExp), (2, P_X0_put, Q_X0_put)] P_X0_layTold Q_X0_layTold := by
  · rintro As σ0 ⟨p0, p1, rfl, H0, h_0_0, h_1_0⟩ hgr G hB hW
    change G 0 [(0, .inr (.inr (some p0))), (1, .inr (.inr (some p1)))] [] σ0
    refine hB _ _ _ _ (kgoC (is := KX0_layTold_0) rfl ?_)
    refine k_aload_n rfl ?_
    obtain ⟨o3, e1, c2, t4⟩ := cg279 H0.1 h_1_0
    refine k_get kg279 h_1_0 e1 ?_
    refine k_ifnull (fun h6 => ?_) (fun b5 h6 => ?_)
    · subst h6
      refine hB _ _ _ _ (kgoC (is := KX0_layTold_30) rfl ?_)
      refine k_return ?_
      exact ⟨rfl, H0, (ExC.rf : ExC [34, 77] σ0 σ0)⟩
    · subst h6
      have t7 := t4 b5 rfl
      refine k_nil ?_
      refine hB _ _ _ _ (kgoC (is := KX0_layTold_7) rfl ?_)
      refine k_aload_n rfl ?_
      refine k_aload_n rfl ?_
      refine k_get kg279 h_1_0 (congrArg (fun z : Option Nat => (Sum.inr (Sum.inr z) : AvC)) c2) ?_
      refine k_inv (P := P_X0_layExp) (Q := Q_X0_layExp) rfl rfl rfl rfl (Nat.le_of_ble_eq_true rfl) (h_0_0.rc (by decide)) ⟨_, (some b5), rfl, H0, h_0_0, t7.ot⟩ (fun w8 σ9 q10 => ?_)
      obtain ⟨rfl, H11, e12⟩ := q10
      refine k_st (st' := []) rfl ?_
      refine k_aload_n rfl ?_
      have t13 := h_0_0.x e12
      obtain ⟨a16, e14, c15, t17, l18, l19⟩ := cg31 H11.1 t13
      refine k_get kg31 t13 e14 ?_
      refine k_aload_n rfl ?_
      refine k_iconst (m := 2) rfl (fun x20 h21 => ?_)
      refine k_aconst_null ?_
      refine k_inv (P := P_X0_put) (Q := Q_X0_put) rfl rfl rfl rfl (Nat.le_of_ble_eq_true rfl) (t13.rc (by decide)) ⟨_, _, none, rfl, H11, t13, OtC.n⟩ (fun w22 σ23 q24 => ?_)
      obtain ⟨x25, rfl, H26, e27, h28, h29⟩ := q24
      refine k_st (st' := [.inl x25, .inr (.inr (some a16))]) rfl ?_
      refine k_aload_n rfl ?_
      have t30 := h_1_0.x e12
      have t31 := t30.x e27
      obtain ⟨x34, e32, c33, h35, h36⟩ := cg280 H26.1 t31
      refine k_get kg280 t31 e32 ?_
      have t37 := t17.x e27
      have l38 := (t17.al e27).trans l18
      have l42 := (t17.gh e27).trans l19
      refine k_iastore H26 t37 l42 (by omega) (by omega) (fun σ39 H40 e41 => ?_)
      refine k_nil ?_
      refine hB _ _ _ _ (kgoC (is := KX0_layTold_30) rfl ?_)
      refine k_return ?_
      have X43 : ExC [34, 77] σ0 σ9 := ExC.rf.tr (e12.mo (by decide))
      have X44 : ExC [34, 77] σ0 σ23 := X43.tr (e27.mo (by decide))
      have X45 : ExC [34, 77] σ0 σ39 := X44.tr (e41.mo (by decide))
      exact ⟨rfl, H40, X45⟩
theorem lg_X0_layTold : ∀ (As : List AvC) (σ : CsC), P_X0_layTold As σ → lgC As ≤ rX0_layTold.2.2.1 := by
  rintro As σ ⟨p0, p1, rfl, -⟩
  exact Nat.le_of_ble_eq_true rfl
theorem m_X0_layTold (l : Launch) : CMetC l 12 9 P_X0_layTold Q_X0_layTold :=
  CMetC.of KX0_layTold [(15, P_X0_layExp, Q_X0_layExp), (2, P_X0_put, Q_X0_put)] hX0_layTold (by decide) (by decide) okX0_layTold (cc1C (m_X0_layExp l) (by decide) (cc1C (m_X0_put l) (by decide) cc0C)) (lg_X0_layTold) (b_X0_layTold)
