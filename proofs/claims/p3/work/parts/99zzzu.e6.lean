set_option maxRecDepth 100000 in
set_option maxHeartbeats 4000000 in
theorem s_X7_readCondition (l : Launch) (d : Nat) (h_X7_readExp : CMetC l (13 * d + 36) 164 (P_X7_readExp d) (Q_X7_readExp d)) : CMetC l (13 * d + 37) 153 (P_X7_readCondition d) (Q_X7_readCondition d) := by
  refine CMetC.of KX7_readCondition [(129, P_X7_expect, Q_X7_expect), (164, (P_X7_readExp d), (Q_X7_readExp d))] hX7_readCondition (by decide) (by omega) okX7_readCondition (cc1C (m_X7_expect l) (by omega) (cc1C h_X7_readExp (by omega) cc0C)) ?_ ?_
  · rintro As σ ⟨p0, p1, p2, rfl, -⟩
    exact Nat.le_of_ble_eq_true rfl
  · rintro As σ0 ⟨p0, p1, p2, rfl, H0, h_0_0, h_1_0, h_2_0, h_2_1, rd_cd, rd_at, rd_bg, rd_dp⟩ hgr G hB hW
    change G 0 [(0, .inr (.inr (some p0))), (1, .inr (.inr (some p1))), (2, .inl p2)] [] σ0
    obtain ⟨x1, e2, c3, h4, h5⟩ := cg242 H0.1 h_0_0
    obtain ⟨x6, e7, c8, h9, h10⟩ := cg243 H0.1 h_0_0
    have z11 := congrArg Int32.toInt c3
    have z12 := congrArg Int32.toInt c8
    refine hB _ _ _ _ (kgoC (is := KX7_readCondition_0) rfl ?_)
    refine k_aload_n rfl ?_
    refine k_iconst (m := 0) rfl (fun x13 h14 => ?_)
    refine k_inv (P := P_X7_expect) (Q := Q_X7_expect) rfl rfl rfl rfl (Nat.le_of_ble_eq_true rfl) (h_0_0.rc (by decide)) ⟨_, _, rfl, H0, h_0_0, (by omega), (by omega), (rd_cd.st H0 h_0_0 (ExC.rf : ExC [0, 1, 2, 60, 61, 62, 63, 64, 65, 66, 67, 68, 69, 70, 72, 73, 74, 75, 76, 242, 243, 244, 279, 999] σ0 σ0) (RdC.rf : RdC p0 none 0 0 0 σ0 σ0).1 (by decide)), ((RdC.rf : RdC p0 none 0 0 0 σ0 σ0).2.2.2.1 rd_at), (rd_bg.st H0 h_0_0 (ExC.rf : ExC [0, 1, 2, 60, 61, 62, 63, 64, 65, 66, 67, 68, 69, 70, 72, 73, 74, 75, 76, 242, 243, 244, 279, 999] σ0 σ0) (RdC.rf : RdC p0 none 0 0 0 σ0 σ0) (by decide) (by omega) (by omega) (by omega))⟩ (fun w15 σ16 q17 => ?_)
    obtain ⟨rfl, H18, e19, R20, q21⟩ := q17
    have t27 := h_0_0.x e19
    obtain ⟨x22, e23, c24, h25, h26⟩ := cg242 H18.1 t27
    obtain ⟨x28, e29, c30, h31, h32⟩ := cg243 H18.1 t27
    have z33 := congrArg Int32.toInt c24
    have z34 := congrArg Int32.toInt c30
    refine k_st (st' := []) rfl ?_
    have R35 : RdC p0 none (-8) (0) (0) σ0 σ16 := (RdC.rf : RdC p0 none 0 0 0 σ0 σ0).tr ⟨R20.1, R20.2⟩ (by omega) (by omega) (by omega) (by omega)
    have z36 := R35.2.2.1
    have z37 := R35.2.2.2.1 rd_at
    refine k_aload_n rfl ?_
    refine k_aload_n rfl ?_
    refine k_iload_n rfl ?_
    have X38 : ExC [0, 1, 2, 60, 61, 62, 63, 64, 65, 66, 67, 68, 69, 70, 72, 73, 74, 75, 76, 242, 243, 244, 279, 999] σ0 σ16 := ExC.rf.tr (e19.mo (by decide))
    refine k_inv (P := (P_X7_readExp d)) (Q := (Q_X7_readExp d)) rfl rfl rfl rfl (Nat.le_of_ble_eq_true rfl) (t27.rc (by decide)) ⟨_, _, rfl, H18, t27, (by omega), (by omega), (rd_cd.st H0 h_0_0 X38 R35.1 (by decide)), (R35.2.2.2.1 rd_at), (rd_bg.st H0 h_0_0 X38 R35 (by decide) (by omega) (by omega) (by omega)), (by omega)⟩ (fun w39 σ40 q41 => ?_)
    obtain ⟨a42, rfl, H43, e44, h46, R45, q47⟩ := q41
    have t53 := t27.x e44
    obtain ⟨x48, e49, c50, h51, h52⟩ := cg242 H43.1 t53
    obtain ⟨x54, e55, c56, h57, h58⟩ := cg243 H43.1 t53
    have z59 := congrArg Int32.toInt c50
    have z60 := congrArg Int32.toInt c56
    refine k_st (st' := [.inr (.inr (some a42)), .inr (.inr (some p1))]) rfl ?_
    have z61 := R35.1.1
    have R62 : RdC p0 none (-8) (12 + 8 * (d : Int)) (1) σ0 σ40 := R35.tr ⟨R45.1, R45.2⟩ (by omega) (by omega) (by omega) (by omega)
    have z63 := R62.2.2.1
    have z64 := R62.2.2.2.1 rd_at
    have t65 := h_1_0.x e19
    have t66 := t65.x e44
    refine k_putR kp279 H43 t66 fk279 (rf279 h46) (fun σ67 H68 e69 c70 => ?_)
    refine k_aload_n rfl ?_
    refine k_iconst (m := 1) rfl (fun x71 h72 => ?_)
    have t73 := t53.x e69
    have R74 : RdC p0 none (-8) (12 + 8 * (d : Int)) (1) σ0 σ67 := R62.tr ⟨(e69.gw H43.1 (by decide)), (e69.cou (u := 0) H43.1 t53 (by decide) (by rw [e69.cn (by decide)]; omega))⟩ (by omega) (by omega) (by omega) (by omega)
    have c75 := (t53.mi e69 (by decide)).trans c56
    have X76 : ExC [0, 1, 2, 60, 61, 62, 63, 64, 65, 66, 67, 68, 69, 70, 72, 73, 74, 75, 76, 242, 243, 244, 279, 999] σ0 σ40 := X38.tr (e44.mo (by decide))
    have X77 : ExC [0, 1, 2, 60, 61, 62, 63, 64, 65, 66, 67, 68, 69, 70, 72, 73, 74, 75, 76, 242, 243, 244, 279, 999] σ0 σ67 := X76.tr (e69.mo (by decide))
    have c78 := (t53.mi e69 (by decide)).trans c50
    have z79 := congrArg Int32.toInt c78
    have z80 := congrArg Int32.toInt c75
    refine k_inv (P := P_X7_expect) (Q := Q_X7_expect) rfl rfl rfl rfl (Nat.le_of_ble_eq_true rfl) (t73.rc (by decide)) ⟨_, _, rfl, H68, t73, (by omega), (by omega), (rd_cd.st H0 h_0_0 X77 R74.1 (by decide)), (R74.2.2.2.1 rd_at), (rd_bg.st H0 h_0_0 X77 R74 (by decide) (by omega) (by omega) (by omega))⟩ (fun w81 σ82 q83 => ?_)
    obtain ⟨rfl, H84, e85, R86, q87⟩ := q83
    have t93 := t73.x e85
    obtain ⟨x88, e89, c90, h91, h92⟩ := cg242 H84.1 t93
    obtain ⟨x94, e95, c96, h97, h98⟩ := cg243 H84.1 t93
    have z99 := congrArg Int32.toInt c90
    have z100 := congrArg Int32.toInt c96
    refine k_st (st' := []) rfl ?_
    have R101 : RdC p0 none (-16) (12 + 8 * (d : Int)) (1) σ0 σ82 := R74.tr ⟨R86.1, R86.2⟩ (by omega) (by omega) (by omega) (by omega)
    have z102 := R101.2.2.1
    have z103 := R101.2.2.2.1 rd_at
    refine k_return ?_
    have X104 : ExC [0, 1, 2, 60, 61, 62, 63, 64, 65, 66, 67, 68, 69, 70, 72, 73, 74, 75, 76, 242, 243, 244, 279, 999] σ0 σ82 := X77.tr (e85.mo (by decide))
    exact ⟨rfl, H84, X104, (R101.mo (by omega) (by omega) (by omega))⟩

set_option maxRecDepth 100000 in
set_option maxHeartbeats 4000000 in
theorem s_X7_readExpStatement (l : Launch) (d : Nat) (h_X7_readExp : CMetC l (13 * d + 36) 164 (P_X7_readExp d) (Q_X7_readExp d)) : CMetC l (13 * d + 37) 152 (P_X7_readExpStatement d) (Q_X7_readExpStatement d) := by
  refine CMetC.of KX7_readExpStatement [(142, P_X7_begin, Q_X7_begin), (164, (P_X7_readExp d), (Q_X7_readExp d)), (129, P_X7_expect, Q_X7_expect)] hX7_readExpStatement (by decide) (by omega) okX7_readExpStatement (cc1C (m_X7_begin l) (by omega) (cc1C h_X7_readExp (by omega) (cc1C (m_X7_expect l) (by omega) cc0C))) ?_ ?_
  · rintro As σ ⟨p0, p1, rfl, -⟩
    exact Nat.le_of_ble_eq_true rfl
  · rintro As σ0 ⟨p0, p1, rfl, H0, h_0_0, h_1_0, h_1_1, rd_cd, rd_at, rd_bg, rd_dp⟩ hgr G hB hW
    change G 0 [(0, .inr (.inr (some p0))), (1, .inl p1)] [] σ0
    obtain ⟨x1, e2, c3, h4, h5⟩ := cg242 H0.1 h_0_0
    obtain ⟨x6, e7, c8, h9, h10⟩ := cg243 H0.1 h_0_0
    have z11 := congrArg Int32.toInt c3
    have z12 := congrArg Int32.toInt c8
    refine hB _ _ _ _ (kgoC (is := KX7_readExpStatement_0) rfl ?_)
    refine k_aload_n rfl ?_
    refine k_bipush (m := 90) rfl (fun x13 h14 => ?_)
    refine k_iload_n rfl ?_
    refine k_inv (P := P_X7_begin) (Q := Q_X7_begin) rfl rfl rfl rfl (Nat.le_of_ble_eq_true rfl) (h_0_0.rc (by decide)) ⟨_, _, _, rfl, H0, h_0_0, (by omega), (by omega), (rd_cd.st H0 h_0_0 (ExC.rf : ExC [0, 1, 2, 60, 61, 62, 63, 64, 65, 66, 67, 68, 69, 70, 72, 73, 74, 75, 76, 242, 243, 244, 270, 271, 272, 273, 279, 280, 999] σ0 σ0) (RdC.rf : RdC p0 none 0 0 0 σ0 σ0).1 (by decide)), ((RdC.rf : RdC p0 none 0 0 0 σ0 σ0).2.2.2.1 rd_at), (rd_bg.st H0 h_0_0 (ExC.rf : ExC [0, 1, 2, 60, 61, 62, 63, 64, 65, 66, 67, 68, 69, 70, 72, 73, 74, 75, 76, 242, 243, 244, 270, 271, 272, 273, 279, 280, 999] σ0 σ0) (RdC.rf : RdC p0 none 0 0 0 σ0 σ0) (by decide) (by omega) (by omega) (by omega)), (by omega)⟩ (fun w15 σ16 q17 => ?_)
    obtain ⟨a18, rfl, H19, e20, h22, R21, q23, q24, q25⟩ := q17
    have c26 := (h_0_0.mi e20 (by decide)).trans c3
    have c27 := (h_0_0.mi e20 (by decide)).trans c8
    have z28 := congrArg Int32.toInt c26
    have z29 := congrArg Int32.toInt c27
    refine k_st (st' := [.inr (.inr (some a18))]) rfl ?_
    have z30 := (RdC.rf : RdC p0 none 0 0 0 σ0 σ0).1.1
    refine k_astore_n (ls' := [(2, .inr (.inr (some a18))), (0, .inr (.inr (some p0))), (1, .inl p1)]) rfl ?_
    refine k_aload_n rfl ?_
    refine k_aload_n rfl ?_
    refine k_iload_n rfl ?_
    have t31 := h_0_0.x e20
    have R32 : RdC p0 none (2) (2) (2) σ0 σ16 := (RdC.rf : RdC p0 none 0 0 0 σ0 σ0).tr ⟨R21.1, R21.2⟩ (by omega) (by omega) (by omega) (by omega)
    have X33 : ExC [0, 1, 2, 60, 61, 62, 63, 64, 65, 66, 67, 68, 69, 70, 72, 73, 74, 75, 76, 242, 243, 244, 270, 271, 272, 273, 279, 280, 999] σ0 σ16 := ExC.rf.tr (e20.mo (by decide))
    refine k_inv (P := (P_X7_readExp d)) (Q := (Q_X7_readExp d)) rfl rfl rfl rfl (Nat.le_of_ble_eq_true rfl) (t31.rc (by decide)) ⟨_, _, rfl, H19, t31, (by omega), (by omega), (rd_cd.st H0 h_0_0 X33 R32.1 (by decide)), (R32.2.2.2.1 rd_at), (rd_bg.st H0 h_0_0 X33 R32 (by decide) (by omega) (by omega) (by omega)), (by omega)⟩ (fun w34 σ35 q36 => ?_)
    obtain ⟨a37, rfl, H38, e39, h41, R40, q42⟩ := q36
    have t48 := t31.x e39
    obtain ⟨x43, e44, c45, h46, h47⟩ := cg242 H38.1 t48
    obtain ⟨x49, e50, c51, h52, h53⟩ := cg243 H38.1 t48
    have z54 := congrArg Int32.toInt c45
    have z55 := congrArg Int32.toInt c51
    refine k_st (st' := [.inr (.inr (some a37)), .inr (.inr (some a18))]) rfl ?_
    have z56 := R32.1.1
    have R57 : RdC p0 none (2) (22 + 8 * (d : Int)) (3) σ0 σ35 := R32.tr ⟨R40.1, R40.2⟩ (by omega) (by omega) (by omega) (by omega)
    have z58 := R57.2.2.1
    have z59 := R57.2.2.2.1 rd_at
    have t60 := h22.x e39
    refine k_putR kp279 H38 t60 fk279 (rf279 h41) (fun σ61 H62 e63 c64 => ?_)
    refine k_aload_n rfl ?_
    refine k_iconst (m := 4) rfl (fun x65 h66 => ?_)
    have t67 := t48.x e63
    have R68 : RdC p0 none (2) (22 + 8 * (d : Int)) (3) σ0 σ61 := R57.tr ⟨(e63.gw H38.1 (by decide)), (e63.cou (u := 0) H38.1 t48 (by decide) (by rw [e63.cn (by decide)]; omega))⟩ (by omega) (by omega) (by omega) (by omega)
    have c69 := (t48.mi e63 (by decide)).trans c51
    have X70 : ExC [0, 1, 2, 60, 61, 62, 63, 64, 65, 66, 67, 68, 69, 70, 72, 73, 74, 75, 76, 242, 243, 244, 270, 271, 272, 273, 279, 280, 999] σ0 σ35 := X33.tr (e39.mo (by decide))
    have X71 : ExC [0, 1, 2, 60, 61, 62, 63, 64, 65, 66, 67, 68, 69, 70, 72, 73, 74, 75, 76, 242, 243, 244, 270, 271, 272, 273, 279, 280, 999] σ0 σ61 := X70.tr (e63.mo (by decide))
    have c72 := (t48.mi e63 (by decide)).trans c45
    have z73 := congrArg Int32.toInt c72
    have z74 := congrArg Int32.toInt c69
    refine k_inv (P := P_X7_expect) (Q := Q_X7_expect) rfl rfl rfl rfl (Nat.le_of_ble_eq_true rfl) (t67.rc (by decide)) ⟨_, _, rfl, H62, t67, (by omega), (by omega), (rd_cd.st H0 h_0_0 X71 R68.1 (by decide)), (R68.2.2.2.1 rd_at), (rd_bg.st H0 h_0_0 X71 R68 (by decide) (by omega) (by omega) (by omega))⟩ (fun w75 σ76 q77 => ?_)
    obtain ⟨rfl, H78, e79, R80, q81⟩ := q77
    have t87 := t67.x e79
    obtain ⟨x82, e83, c84, h85, h86⟩ := cg242 H78.1 t87
    obtain ⟨x88, e89, c90, h91, h92⟩ := cg243 H78.1 t87
    have z93 := congrArg Int32.toInt c84
    have z94 := congrArg Int32.toInt c90
    refine k_st (st' := []) rfl ?_
    have R95 : RdC p0 none (-6) (22 + 8 * (d : Int)) (3) σ0 σ76 := R68.tr ⟨R80.1, R80.2⟩ (by omega) (by omega) (by omega) (by omega)
    have z96 := R95.2.2.1
    have z97 := R95.2.2.2.1 rd_at
    refine k_aload_n rfl ?_
    refine k_areturn ?_
    have X98 : ExC [0, 1, 2, 60, 61, 62, 63, 64, 65, 66, 67, 68, 69, 70, 72, 73, 74, 75, 76, 242, 243, 244, 270, 271, 272, 273, 279, 280, 999] σ0 σ76 := X71.tr (e79.mo (by decide))
    have t99 := t60.x e63
    have t100 := t99.x e79
    have c101 := (h22.mi e39 (by decide)).trans q25
    have c102 := (t60.mi e63 (by decide)).trans c101
    have c103 := (t99.mi e79 (by decide)).trans c102
    have c104 := (h22.mi e39 (by decide)).trans q24
    have c105 := (t60.mi e63 (by decide)).trans c104
    have c106 := (t99.mi e79 (by decide)).trans c105
    exact ⟨_, rfl, H78, X98, t100, (R95.mo (by omega) (by omega) (by omega)), (by omega), (by rw [c103] <;> omega), (by rw [c106] <;> omega)⟩

set_option maxRecDepth 100000 in
set_option maxHeartbeats 4000000 in
theorem s_X7_readVariable (l : Launch) (d : Nat) (h_X7_readExp : CMetC l (13 * d + 36) 164 (P_X7_readExp d) (Q_X7_readExp d)) : CMetC l (13 * d + 37) 141 (P_X7_readVariable d) (Q_X7_readVariable d) := by
  refine CMetC.of KX7_readVariable [(142, P_X7_begin, Q_X7_begin), (130, P_X7_takes, Q_X7_takes), (136, P_X7_readType, Q_X7_readType), (137, P_X7_declare, Q_X7_declare), (138, P_X7_know, Q_X7_know), (125, P_X7_code, Q_X7_code), (129, P_X7_expect, Q_X7_expect), (164, (P_X7_readExp d), (Q_X7_readExp d)), (17, P_X1_init, Q_X1_init), (161, P_X7_put, Q_X7_put)] hX7_readVariable (by decide) (by omega) okX7_readVariable (cc1C (m_X7_begin l) (by omega) (cc1C (m_X7_takes l) (by omega) (cc1C (m_X7_readType l) (by omega) (cc1C (m_X7_declare l) (by omega) (cc1C (m_X7_know l) (by omega) (cc1C (m_X7_code l) (by omega) (cc1C (m_X7_expect l) (by omega) (cc1C h_X7_readExp (by omega) (cc1C (m_X1_init l) (by omega) (cc1C (m_X7_put l) (by omega) cc0C)))))))))) ?_ ?_
  · rintro As σ ⟨p0, p1, p2, rfl, -⟩
    exact Nat.le_of_ble_eq_true rfl
  · rintro As σ0 ⟨p0, p1, p2, rfl, H0, h_0_0, h_1_0, h_1_1, h_2_0, h_2_1, rd_cd, rd_at, rd_bl, rd_lv, rd_dp⟩ hgr G hB hW
    change G 0 [(0, .inr (.inr (some p0))), (1, .inl p1), (2, .inl p2)] [] σ0
    obtain ⟨x1, e2, c3, h4, h5⟩ := cg242 H0.1 h_0_0
    obtain ⟨x6, e7, c8, h9, h10⟩ := cg243 H0.1 h_0_0
    have z11 := congrArg Int32.toInt c3
    have z12 := congrArg Int32.toInt c8
    have h13 : x6.toInt = 0 := by rw [← c8]; exact rd_lv
    have rd_bg : BgC σ0 p0 (23 + 8 * (d : Int)) 1000000 := ⟨fun _ => rd_bl, fun z => absurd rd_lv z⟩
    refine hB _ _ _ _ (kgoC (is := KX7_readVariable_0) rfl ?_)
    refine k_aload_n rfl ?_
    refine k_iload_n rfl ?_
    refine k_iload_n rfl ?_
    have R14 := (RdC.rf : RdC p0 none 0 0 0 σ0 σ0).nf (-1000) (-1000) (by rw [c8]; omega)
    refine k_inv (P := P_X7_begin) (Q := Q_X7_begin) rfl rfl rfl rfl (Nat.le_of_ble_eq_true rfl) (h_0_0.rc (by decide)) ⟨_, _, _, rfl, H0, h_0_0, (by omega), (by omega), (rd_cd.st H0 h_0_0 (ExC.rf : ExC [0, 1, 2, 60, 61, 62, 63, 64, 65, 66, 67, 68, 69, 70, 72, 73, 74, 75, 76, 242, 243, 244, 270, 271, 272, 273, 279, 280, 330, 331, 332, 333, 334, 999] σ0 σ0) R14.1 (by decide)), (R14.2.2.2.1 rd_at), (rd_bg.stn H0 h_0_0 (ExC.rf : ExC [0, 1, 2, 60, 61, 62, 63, 64, 65, 66, 67, 68, 69, 70, 72, 73, 74, 75, 76, 242, 243, 244, 270, 271, 272, 273, 279, 280, 330, 331, 332, 333, 334, 999] σ0 σ0) R14 (by decide) (by rw [c8]; omega) (by omega)), (by omega)⟩ (fun w15 σ16 q17 => ?_)
    obtain ⟨a18, rfl, H19, e20, h22, R21, q23, q24, q25⟩ := q17
    have c26 := (h_0_0.mi e20 (by decide)).trans c3
    have c27 := (h_0_0.mi e20 (by decide)).trans c8
    have z28 := congrArg Int32.toInt c26
    have z29 := congrArg Int32.toInt c27
    refine k_st (st' := [.inr (.inr (some a18))]) rfl ?_
    have z30 := R14.1.1
    refine k_astore_n (ls' := [(3, .inr (.inr (some a18))), (0, .inr (.inr (some p0))), (1, .inl p1), (2, .inl p2)]) rfl ?_
    refine k_aload_n rfl ?_
    refine k_bipush (m := 71) rfl (fun x31 h32 => ?_)
    have t33 := h_0_0.x e20
    have R34 : RdC p0 none (2) (2) (-998) σ0 σ16 := R14.tr ⟨R21.1, R21.2⟩ (by omega) (by omega) (by omega) (by omega)
    have R35 := R34.nf (-1000) (-1000) (by rw [c27]; omega)
    have X36 : ExC [0, 1, 2, 60, 61, 62, 63, 64, 65, 66, 67, 68, 69, 70, 72, 73, 74, 75, 76, 242, 243, 244, 270, 271, 272, 273, 279, 280, 330, 331, 332, 333, 334, 999] σ0 σ16 := ExC.rf.tr (e20.mo (by decide))
    refine k_inv (P := P_X7_takes) (Q := Q_X7_takes) rfl rfl rfl rfl (Nat.le_of_ble_eq_true rfl) (t33.rc (by decide)) ⟨_, _, rfl, H19, t33, (by omega), (by omega), (rd_cd.st H0 h_0_0 X36 R35.1 (by decide)), (R35.2.2.2.1 rd_at), (rd_bg.stn H0 h_0_0 X36 R35 (by decide) (by rw [c27]; omega) (by omega))⟩ (fun w37 σ38 q39 => ?_)
    obtain ⟨x40, rfl, H41, e42, h44, h45, R43, q46⟩ := q39
    have t52 := t33.x e42
    obtain ⟨x47, e48, c49, h50, h51⟩ := cg242 H41.1 t52
    obtain ⟨x53, e54, c55, h56, h57⟩ := cg243 H41.1 t52
    have z58 := congrArg Int32.toInt c49
    have z59 := congrArg Int32.toInt c55
    refine k_st (st' := [.inl x40]) rfl ?_
    rcases (by omega : x40.toInt = 0 ∨ x40.toInt = 1) with g60 | g60
    · have R61 : RdC p0 none (2) (2) (-1000) σ0 σ38 := R35.tr ⟨R43.1, R43.2⟩ (by omega) (by omega) (by omega) (by omega)
      have z62 := R61.2.2.1
      have z63 := R61.2.2.2.1 rd_at
      refine k_istore (ls' := [(4, .inl x40), (3, .inr (.inr (some a18))), (0, .inr (.inr (some p0))), (1, .inl p1), (2, .inl p2)]) rfl ?_
      refine k_aload_n rfl ?_
      have X64 : ExC [0, 1, 2, 60, 61, 62, 63, 64, 65, 66, 67, 68, 69, 70, 72, 73, 74, 75, 76, 242, 243, 244, 270, 271, 272, 273, 279, 280, 330, 331, 332, 333, 334, 999] σ0 σ38 := X36.tr (e42.mo (by decide))
      refine k_inv (P := P_X7_readType) (Q := Q_X7_readType) rfl rfl rfl rfl (Nat.le_of_ble_eq_true rfl) (t52.rc (by decide)) ⟨_, rfl, H41, t52, (rd_cd.st H0 h_0_0 X64 R61.1 (by decide)), (R61.2.2.2.1 rd_at), (rd_bg.st H0 h_0_0 X64 R61 (by decide) (by omega) (by omega) (by omega))⟩ (fun w65 σ66 q67 => ?_)
      obtain ⟨x68, rfl, H69, e70, R71⟩ := q67
      have t77 := t52.x e70
      obtain ⟨x72, e73, c74, h75, h76⟩ := cg242 H69.1 t77
      obtain ⟨x78, e79, c80, h81, h82⟩ := cg243 H69.1 t77
      have z83 := congrArg Int32.toInt c74
      have z84 := congrArg Int32.toInt c80
      refine k_st (st' := [.inl x68]) rfl ?_
      refine k_istore (ls' := [(5, .inl x68), (4, .inl x40), (3, .inr (.inr (some a18))), (0, .inr (.inr (some p0))), (1, .inl p1), (2, .inl p2)]) rfl ?_
      refine k_aload_n rfl ?_
      refine k_aload_n rfl ?_
      refine k_iload rfl ?_
      refine k_iload rfl ?_
      refine k_iconst (m := 1) rfl (fun x85 h86 => ?_)
      have R87 : RdC p0 none (-6) (2) (-1000) σ0 σ66 := R61.tr ⟨R71.1, R71.2⟩ (by omega) (by omega) (by omega) (by omega)
      have X88 : ExC [0, 1, 2, 60, 61, 62, 63, 64, 65, 66, 67, 68, 69, 70, 72, 73, 74, 75, 76, 242, 243, 244, 270, 271, 272, 273, 279, 280, 330, 331, 332, 333, 334, 999] σ0 σ66 := X64.tr (e70.mo (by decide))
      refine k_inv (P := P_X7_declare) (Q := Q_X7_declare) rfl rfl rfl rfl (Nat.le_of_ble_eq_true rfl) (t77.rc (by decide)) ⟨_, _, _, _, rfl, H69, t77, (by omega), (by omega), (by omega), (by omega), (rd_cd.st H0 h_0_0 X88 R87.1 (by decide)), (R87.2.2.2.1 rd_at), (rd_bg.st H0 h_0_0 X88 R87 (by decide) (by omega) (by omega) (by omega))⟩ (fun w89 σ90 q91 => ?_)
      obtain ⟨x92, rfl, H93, e94, h96, h97, R95⟩ := q91
      have t103 := t77.x e94
      obtain ⟨x98, e99, c100, h101, h102⟩ := cg242 H93.1 t103
      obtain ⟨x104, e105, c106, h107, h108⟩ := cg243 H93.1 t103
      have z109 := congrArg Int32.toInt c100
      have z110 := congrArg Int32.toInt c106
      refine k_st (st' := [.inl x92, .inr (.inr (some a18))]) rfl ?_
      have t111 := h22.x e42
      have t112 := t111.x e70
      have t113 := t112.x e94
      have c118 := (h22.mi e42 (by decide)).trans q24
      have c119 := (t111.mi e70 (by decide)).trans c118
      have c120 := (t112.mi e94 (by decide)).trans c119
      refine k_p280 H93 t113 (by omega) (by omega) (by rw [c120]; omega) (fun σ114 H115 e116 c117 => ?_)
      refine k_aload_n rfl ?_
      refine k_aload_n rfl ?_
      have t121 := t113.x e116
      refine k_get kg280 t121 (congrArg (Sum.inl : Int32 → AvC) c117) ?_
      have t122 := t103.x e116
      refine k_inv (P := P_X7_know) (Q := Q_X7_know) rfl rfl rfl rfl (Nat.le_of_ble_eq_true rfl) (t122.rc (by decide)) ⟨_, _, rfl, H115, t122⟩ (fun w123 σ124 q125 => ?_)
      obtain ⟨rfl, H126, e127⟩ := q125
      have c128 := (t103.mi e116 (by decide)).trans c100
      have c129 := (t122.mi e127 (by decide)).trans c128
      have c130 := (t103.mi e116 (by decide)).trans c106
      have c131 := (t122.mi e127 (by decide)).trans c130
      have z132 := congrArg Int32.toInt c129
      have z133 := congrArg Int32.toInt c131
      refine k_st (st' := []) rfl ?_
      refine k_iload rfl ?_
      refine k_if_ne (fun h134 => by exfalso; omega) (fun h134 => ?_)
      refine k_nil ?_
      refine hB _ _ _ _ (kgoC (is := KX7_readVariable_47) rfl ?_)
      refine k_aload_n rfl ?_
      have t135 := t122.x e127
      have R136 : RdC p0 none (-12) (2) (-1000) σ0 σ90 := R87.tr ⟨R95.1, R95.2⟩ (by omega) (by omega) (by omega) (by omega)
      have R137 : RdC p0 none (-12) (2) (-1000) σ0 σ114 := R136.tr ⟨(e116.gw H93.1 (by decide)), (e116.cou (u := 0) H93.1 t103 (by decide) (by rw [e116.cn (by decide)]; omega))⟩ (by omega) (by omega) (by omega) (by omega)
      have R138 : RdC p0 none (-12) (2) (-1000) σ0 σ124 := R137.tr ⟨(e127.gw H115.1 (by decide)), (e127.cou (u := 0) H115.1 t122 (by decide) (by rw [e127.cn (by decide)]; omega))⟩ (by omega) (by omega) (by omega) (by omega)
      have X139 : ExC [0, 1, 2, 60, 61, 62, 63, 64, 65, 66, 67, 68, 69, 70, 72, 73, 74, 75, 76, 242, 243, 244, 270, 271, 272, 273, 279, 280, 330, 331, 332, 333, 334, 999] σ0 σ90 := X88.tr (e94.mo (by decide))
      have X140 : ExC [0, 1, 2, 60, 61, 62, 63, 64, 65, 66, 67, 68, 69, 70, 72, 73, 74, 75, 76, 242, 243, 244, 270, 271, 272, 273, 279, 280, 330, 331, 332, 333, 334, 999] σ0 σ114 := X139.tr (e116.mo (by decide))
      have X141 : ExC [0, 1, 2, 60, 61, 62, 63, 64, 65, 66, 67, 68, 69, 70, 72, 73, 74, 75, 76, 242, 243, 244, 270, 271, 272, 273, 279, 280, 330, 331, 332, 333, 334, 999] σ0 σ124 := X140.tr (e127.mo (by decide))
      refine k_inv (P := P_X7_code) (Q := Q_X7_code) rfl rfl rfl rfl (Nat.le_of_ble_eq_true rfl) (t135.rc (by decide)) ⟨_, rfl, H126, t135, (rd_cd.st H0 h_0_0 X141 R138.1 (by decide))⟩ (fun w142 σ143 q144 => ?_)
      obtain ⟨x145, rfl, rfl, q146, q147, q148⟩ := q144
      refine k_st (st' := [.inl x145]) rfl ?_
      have z149 := R138.2.2.1
      have z150 := R138.2.2.2.1 rd_at
      refine k_bipush (m := 8) rfl (fun x151 h152 => ?_)
      refine k_ic_ne (fun h153 => ?_) (fun h153 => ?_)
      · refine hB _ _ _ _ (kgoC (is := KX7_readVariable_120) rfl ?_)
        refine k_aload_n rfl ?_
        refine k_areturn ?_
        have t154 := t121.x e127
        have c155 := (h22.mi e42 (by decide)).trans q25
        have c156 := (t111.mi e70 (by decide)).trans c155
        have c157 := (t112.mi e94 (by decide)).trans c156
        have c158 := (t113.mi e116 (by decide)).trans c157
        have c159 := (t121.mi e127 (by decide)).trans c158
        have c160 := (t113.mi e116 (by decide)).trans c120
        have c161 := (t121.mi e127 (by decide)).trans c160
        exact ⟨_, rfl, H126, X141, t154, (R138.mo (by omega) (by omega) (by omega)), (by omega), (by rw [c159] <;> omega), (by rw [c161] <;> omega)⟩
      · have h162 : x104.toInt = 0 := by omega
        refine k_nil ?_
        refine hB _ _ _ _ (kgoC (is := KX7_readVariable_56) rfl ?_)
        refine k_aload_n rfl ?_
        refine k_bipush (m := 8) rfl (fun x163 h164 => ?_)
        have R165 := R138.nf (-1000) (-1000) (by rw [c131]; omega)
        refine k_inv (P := P_X7_expect) (Q := Q_X7_expect) rfl rfl rfl rfl (Nat.le_of_ble_eq_true rfl) (t135.rc (by decide)) ⟨_, _, rfl, H126, t135, (by omega), (by omega), (rd_cd.st H0 h_0_0 X141 R165.1 (by decide)), (R165.2.2.2.1 rd_at), (rd_bg.stn H0 h_0_0 X141 R165 (by decide) (by rw [c131]; omega) (by omega))⟩ (fun w166 σ167 q168 => ?_)
        obtain ⟨rfl, H169, e170, R171, q172⟩ := q168
        have t178 := t135.x e170
        obtain ⟨x173, e174, c175, h176, h177⟩ := cg242 H169.1 t178
        obtain ⟨x179, e180, c181, h182, h183⟩ := cg243 H169.1 t178
        have z184 := congrArg Int32.toInt c175
        have z185 := congrArg Int32.toInt c181
        refine k_st (st' := []) rfl ?_
        have R186 : RdC p0 none (-20) (-12) (-1000) σ0 σ167 := R165.tr ⟨R171.1, R171.2⟩ (by omega) (by omega) (by omega) (by omega)
        have z187 := R186.2.2.1
        have z188 := R186.2.2.2.1 rd_at
        refine k_aload_n rfl ?_
        refine k_aload_n rfl ?_
        refine k_iload_n rfl ?_
        have X189 : ExC [0, 1, 2, 60, 61, 62, 63, 64, 65, 66, 67, 68, 69, 70, 72, 73, 74, 75, 76, 242, 243, 244, 270, 271, 272, 273, 279, 280, 330, 331, 332, 333, 334, 999] σ0 σ167 := X141.tr (e170.mo (by decide))
        refine k_inv (P := (P_X7_readExp d)) (Q := (Q_X7_readExp d)) rfl rfl rfl rfl (Nat.le_of_ble_eq_true rfl) (t178.rc (by decide)) ⟨_, _, rfl, H169, t178, (by omega), (by omega), (rd_cd.st H0 h_0_0 X189 R186.1 (by decide)), (R186.2.2.2.1 rd_at), (rd_bg.st H0 h_0_0 X189 R186 (by decide) (by omega) (by omega) (by omega)), (by omega)⟩ (fun w190 σ191 q192 => ?_)
        obtain ⟨a193, rfl, H194, e195, h197, R196, q198⟩ := q192
        have t204 := t178.x e195
        obtain ⟨x199, e200, c201, h202, h203⟩ := cg242 H194.1 t204
        obtain ⟨x205, e206, c207, h208, h209⟩ := cg243 H194.1 t204
        have z210 := congrArg Int32.toInt c201
        have z211 := congrArg Int32.toInt c207
        refine k_st (st' := [.inr (.inr (some a193)), .inr (.inr (some a18))]) rfl ?_
        have z212 := R186.1.1
        have R213 : RdC p0 none (-20) (0 + 8 * (d : Int)) (-999) σ0 σ191 := R186.tr ⟨R196.1, R196.2⟩ (by omega) (by omega) (by omega) (by omega)
        have z214 := R213.2.2.1
        have z215 := R213.2.2.2.1 rd_at
        have t216 := t121.x e127
        have t217 := t216.x e170
        have t218 := t217.x e195
        refine k_putR kp279 H194 t218 fk279 (rf279 h197) (fun σ219 H220 e221 c222 => ?_)
        have R223 : RdC p0 none (-20) (0 + 8 * (d : Int)) (-999) σ0 σ219 := R213.tr ⟨(e221.gw H194.1 (by decide)), (e221.cou (u := 0) H194.1 t204 (by decide) (by rw [e221.cn (by decide)]; omega))⟩ (by omega) (by omega) (by omega) (by omega)
        have c224 := (t204.mi e221 (by decide)).trans c207
        have X225 : ExC [0, 1, 2, 60, 61, 62, 63, 64, 65, 66, 67, 68, 69, 70, 72, 73, 74, 75, 76, 242, 243, 244, 270, 271, 272, 273, 279, 280, 330, 331, 332, 333, 334, 999] σ0 σ191 := X189.tr (e195.mo (by decide))
        have X226 : ExC [0, 1, 2, 60, 61, 62, 63, 64, 65, 66, 67, 68, 69, 70, 72, 73, 74, 75, 76, 242, 243, 244, 270, 271, 272, 273, 279, 280, 330, 331, 332, 333, 334, 999] σ0 σ219 := X225.tr (e221.mo (by decide))
        have B227 : BgC σ219 p0 1 1 := rd_bg.st H0 h_0_0 X226 R223 (by decide) (by omega) (by omega) (by omega)
        have t230 := t204.x e221
        obtain ⟨h228, h229⟩ := B227.new H220.1 t230 (u := 1) (by omega) (by omega)
        have z231 := R223.1.1
        refine k_new (c := 2) (g := 0) H220 (by decide) rfl (by omega) (by have hn : nfC 2 = 18 := rfl; omega) (fun a232 σ233 q234 H235 e236 r237 z238 l239 u240 u241 => ?_)
        rw [show nfC 2 = 18 from rfl] at u241
        have u242 : cpC σ233 = cpC σ219 := congrArg Prod.fst e236.2.1.1
        have u243 : spC σ233 = spC σ219 := congrArg Prod.snd e236.2.1.1
        refine k_dupR ?_
        refine k_bipush (m := 15) rfl (fun x244 h245 => ?_)
        refine k_bipush (m := 8) rfl (fun x246 h247 => ?_)
        refine k_aload_n rfl ?_
        have t248 := t218.x e221
        have t249 := t248.x e236
        obtain ⟨x252, e250, c251, h253, h254⟩ := cg271 H235.1 t249
        refine k_get kg271 t249 e250 ?_
        refine k_aload_n rfl ?_
        have c255 := (t248.mr e236 (by decide)).trans c222
        refine k_get kg279 t249 (congrArg (fun z : Option Nat => (Sum.inr (Sum.inr z) : AvC)) c255) ?_
        have t256 := h197.x e221
        have t257 := t256.x e236
        obtain ⟨x260, e258, c259, h261, h262⟩ := cg63 H235.1 t257
        refine k_get kg63 t257 e258 ?_
        refine k_spec (P := P_X1_init) (Q := Q_X1_init) rfl rfl rfl rfl (Nat.le_of_ble_eq_true rfl) ⟨_, _, _, _, _, rfl, H235, r237, z238, (by omega), (by omega), (by omega), (by omega), (by omega)⟩ (fun w263 σ264 q265 => ?_)
        have t273 := t230.x e236
        obtain ⟨rfl, H266, e267, t268, t268', l269, u270, u271, g272, q275, q276, q277, q278⟩ := q265
        have l274 := l269.trans l239
        have c279 := (t204.mi e221 (by decide)).trans c201
        have c280 := (t230.mi e236 (by decide)).trans c279
        have c281 := (t273.mit r237 (by decide) e267 (by decide)).trans c280
        have c282 := (t230.mi e236 (by decide)).trans c224
        have c283 := (t273.mit r237 (by decide) e267 (by decide)).trans c282
        have z284 := congrArg Int32.toInt c281
        have z285 := congrArg Int32.toInt c283
        refine k_st (st' := [.inr (.inr (some a232))]) rfl ?_
        have t286 : TyC σ264 a232 2 := ⟨t268, t268', fun _ hz => by have z1 := congrArg Int32.toInt (q275.symm.trans hz.1); have z2 : (7 : Int32).toInt = 7 := rfl; omega⟩
        refine k_astore (ls' := [(6, .inr (.inr (some a232))), (5, .inl x68), (4, .inl x40), (3, .inr (.inr (some a18))), (0, .inr (.inr (some p0))), (1, .inl p1), (2, .inl p2)]) rfl ?_
        refine k_aload rfl ?_
        refine k_aload_n rfl ?_
        have t287 := t249.xt r237 (by decide) e267
        have c288 := (t121.mi e127 (by decide)).trans c117
        have c289 := (t216.mi e170 (by decide)).trans c288
        have c290 := (t217.mi e195 (by decide)).trans c289
        have c291 := (t218.mi e221 (by decide)).trans c290
        have c292 := (t248.mi e236 (by decide)).trans c291
        have c293 := (t249.mit r237 (by decide) e267 (by decide)).trans c292
        refine k_get kg280 t287 (congrArg (Sum.inl : Int32 → AvC) c293) ?_
        refine k_putI kp67 H266 t286 (Or.inl fk67) (tiC x92).1 (tiC x92).2 (fun σ294 H295 e296 c297 => ?_)
        refine k_aload rfl ?_
        refine k_aload_n rfl ?_
        have t298 := t287.x e296
        have c299 := (t249.mrt r237 (by decide) e267 (by decide)).trans c255
        have c300 := (t287.mr e296 (by decide)).trans c299
        refine k_get kg279 t298 (congrArg (fun z : Option Nat => (Sum.inr (Sum.inr z) : AvC)) c300) ?_
        have t301 := t286.x e296
        have t306 := t257.xt r237 (by decide) e267
        have t307 := t306.x e296
        refine k_putR kp72 H295 t301 fk72 (rf72 t307) (fun σ302 H303 e304 c305 => ?_)
        refine k_aload_n rfl ?_
        refine k_aload rfl ?_
        have t308 := t273.xt r237 (by decide) e267
        have t309 := t308.x e296
        have t310 := t309.x e304
        have t311 := t301.x e304
        have R312 : RdC p0 none (-19) (1 + 8 * (d : Int)) (-998) σ0 σ233 := R223.tr ⟨(e236.gwn H220.1 u240 u241 (by decide) (by rw [← q234]; exact r237.n0)), (e236.cou (u := 1) H220.1 t230 (by decide) (by omega))⟩ (by omega) (by omega) (by omega) (by omega)
        have R313 : RdC p0 none (-19) (1 + 8 * (d : Int)) (-998) σ0 σ264 := R312.tr ⟨g272, (e267.co (u := 0) H235.1 t273 r237 (by decide) (by omega))⟩ (by omega) (by omega) (by omega) (by omega)
        have R314 : RdC p0 none (-19) (1 + 8 * (d : Int)) (-998) σ0 σ294 := R313.tr ⟨(e296.gw H266.1 (by decide)), (e296.cou (u := 0) H266.1 t308 (by decide) (by rw [e296.cn (by decide)]; omega))⟩ (by omega) (by omega) (by omega) (by omega)
        have R315 : RdC p0 none (-19) (1 + 8 * (d : Int)) (-998) σ0 σ302 := R314.tr ⟨(e304.gw H295.1 (by decide)), (e304.cou (u := 0) H295.1 t309 (by decide) (by rw [e304.cn (by decide)]; omega))⟩ (by omega) (by omega) (by omega) (by omega)
        have c316 := (t308.mi e296 (by decide)).trans c283
        have c317 := (t309.mi e304 (by decide)).trans c316
        have X318 : ExC [0, 1, 2, 60, 61, 62, 63, 64, 65, 66, 67, 68, 69, 70, 72, 73, 74, 75, 76, 242, 243, 244, 270, 271, 272, 273, 279, 280, 330, 331, 332, 333, 334, 999] σ219 σ233 := ExC.rf.tr (e236.mo (by decide))
        have X319 : ExC [0, 1, 2, 60, 61, 62, 63, 64, 65, 66, 67, 68, 69, 70, 72, 73, 74, 75, 76, 242, 243, 244, 270, 271, 272, 273, 279, 280, 330, 331, 332, 333, 334, 999] σ219 σ264 := (X318 : ExC [0, 1, 2, 60, 61, 62, 63, 64, 65, 66, 67, 68, 69, 70, 72, 73, 74, 75, 76, 242, 243, 244, 270, 271, 272, 273, 279, 280, 330, 331, 332, 333, 334, 999] σ219 σ233).nt (Nat.le_of_eq q234.symm) (e267.mo (by decide))
        have X320 : ExC [0, 1, 2, 60, 61, 62, 63, 64, 65, 66, 67, 68, 69, 70, 72, 73, 74, 75, 76, 242, 243, 244, 270, 271, 272, 273, 279, 280, 330, 331, 332, 333, 334, 999] σ0 σ264 := X226.tr X319
        have X321 : ExC [0, 1, 2, 60, 61, 62, 63, 64, 65, 66, 67, 68, 69, 70, 72, 73, 74, 75, 76, 242, 243, 244, 270, 271, 272, 273, 279, 280, 330, 331, 332, 333, 334, 999] σ0 σ294 := X320.tr (e296.mo (by decide))
        have X322 : ExC [0, 1, 2, 60, 61, 62, 63, 64, 65, 66, 67, 68, 69, 70, 72, 73, 74, 75, 76, 242, 243, 244, 270, 271, 272, 273, 279, 280, 330, 331, 332, 333, 334, 999] σ0 σ302 := X321.tr (e304.mo (by decide))
        have c323 := (t308.mi e296 (by decide)).trans c281
        have c324 := (t309.mi e304 (by decide)).trans c323
        have z325 := congrArg Int32.toInt c324
        have z326 := congrArg Int32.toInt c317
        refine k_inv (P := P_X7_put) (Q := Q_X7_put) rfl rfl rfl rfl (Nat.le_of_ble_eq_true rfl) (t310.rc (by decide)) ⟨_, _, rfl, H303, t310, t311, (rd_cd.st H0 h_0_0 X322 R315.1 (by decide)), (R315.2.2.2.1 rd_at), (rd_bg.st H0 h_0_0 X322 R315 (by decide) (by omega) (by omega) (by omega))⟩ (fun w327 σ328 q329 => ?_)
        obtain ⟨a330, rfl, H331, e332, h334, R333, q335⟩ := q329
        have c336 := (t310.mi e332 (by decide)).trans c324
        have c337 := (t310.mi e332 (by decide)).trans c317
        have z338 := congrArg Int32.toInt c336
        have z339 := congrArg Int32.toInt c337
        refine k_st (st' := [.inr (.inr (some a330))]) rfl ?_
        refine k_popR ?_
        refine k_nil ?_
        refine hB _ _ _ _ (kgoC (is := KX7_readVariable_120) rfl ?_)
        refine k_aload_n rfl ?_
        refine k_areturn ?_
        have X340 : ExC [0, 1, 2, 60, 61, 62, 63, 64, 65, 66, 67, 68, 69, 70, 72, 73, 74, 75, 76, 242, 243, 244, 270, 271, 272, 273, 279, 280, 330, 331, 332, 333, 334, 999] σ0 σ328 := X322.tr (e332.mo (by decide))
        have t341 := t298.x e304
        have t342 := t341.x e332
        have R343 : RdC p0 none (-18) (2 + 8 * (d : Int)) (-997) σ0 σ328 := R315.tr ⟨R333.1, R333.2⟩ (by omega) (by omega) (by omega) (by omega)
        have c344 := (h22.mi e42 (by decide)).trans q25
        have c345 := (t111.mi e70 (by decide)).trans c344
        have c346 := (t112.mi e94 (by decide)).trans c345
        have c347 := (t113.mi e116 (by decide)).trans c346
        have c348 := (t121.mi e127 (by decide)).trans c347
        have c349 := (t216.mi e170 (by decide)).trans c348
        have c350 := (t217.mi e195 (by decide)).trans c349
        have c351 := (t218.mi e221 (by decide)).trans c350
        have c352 := (t248.mi e236 (by decide)).trans c351
        have c353 := (t249.mit r237 (by decide) e267 (by decide)).trans c352
        have c354 := (t287.mi e296 (by decide)).trans c353
        have c355 := (t298.mi e304 (by decide)).trans c354
        have c356 := (t341.mi e332 (by decide)).trans c355
        have c357 := (t113.mi e116 (by decide)).trans c120
        have c358 := (t121.mi e127 (by decide)).trans c357
        have c359 := (t216.mi e170 (by decide)).trans c358
        have c360 := (t217.mi e195 (by decide)).trans c359
        have c361 := (t218.mi e221 (by decide)).trans c360
        have c362 := (t248.mi e236 (by decide)).trans c361
        have c363 := (t249.mit r237 (by decide) e267 (by decide)).trans c362
        have c364 := (t287.mi e296 (by decide)).trans c363
        have c365 := (t298.mi e304 (by decide)).trans c364
        have c366 := (t341.mi e332 (by decide)).trans c365
        exact ⟨_, rfl, H331, X340, t342, (R343.mo (by omega) (by omega) (by omega)), (by omega), (by rw [c356] <;> omega), (by rw [c366] <;> omega)⟩
    · have R367 := R35.nf (-1000) (-1000) (q46 (by omega)).1
      have R368 : RdC p0 none (-6) (2) (-1000) σ0 σ38 := R367.tr ⟨(q46 (by omega)).2.1, (q46 (by omega)).2.2⟩ (by omega) (by omega) (by omega) (by omega)
      have z369 := R368.2.2.1
      have z370 := R368.2.2.2.1 rd_at
      refine k_istore (ls' := [(4, .inl x40), (3, .inr (.inr (some a18))), (0, .inr (.inr (some p0))), (1, .inl p1), (2, .inl p2)]) rfl ?_
      refine k_aload_n rfl ?_
      have X371 : ExC [0, 1, 2, 60, 61, 62, 63, 64, 65, 66, 67, 68, 69, 70, 72, 73, 74, 75, 76, 242, 243, 244, 270, 271, 272, 273, 279, 280, 330, 331, 332, 333, 334, 999] σ0 σ38 := X36.tr (e42.mo (by decide))
      refine k_inv (P := P_X7_readType) (Q := Q_X7_readType) rfl rfl rfl rfl (Nat.le_of_ble_eq_true rfl) (t52.rc (by decide)) ⟨_, rfl, H41, t52, (rd_cd.st H0 h_0_0 X371 R368.1 (by decide)), (R368.2.2.2.1 rd_at), (rd_bg.st H0 h_0_0 X371 R368 (by decide) (by omega) (by omega) (by omega))⟩ (fun w372 σ373 q374 => ?_)
      obtain ⟨x375, rfl, H376, e377, R378⟩ := q374
      have t384 := t52.x e377
      obtain ⟨x379, e380, c381, h382, h383⟩ := cg242 H376.1 t384
      obtain ⟨x385, e386, c387, h388, h389⟩ := cg243 H376.1 t384
      have z390 := congrArg Int32.toInt c381
      have z391 := congrArg Int32.toInt c387
      refine k_st (st' := [.inl x375]) rfl ?_
      refine k_istore (ls' := [(5, .inl x375), (4, .inl x40), (3, .inr (.inr (some a18))), (0, .inr (.inr (some p0))), (1, .inl p1), (2, .inl p2)]) rfl ?_
      refine k_aload_n rfl ?_
      refine k_aload_n rfl ?_
      refine k_iload rfl ?_
      refine k_iload rfl ?_
      refine k_iconst (m := 1) rfl (fun x392 h393 => ?_)
      have R394 : RdC p0 none (-14) (2) (-1000) σ0 σ373 := R368.tr ⟨R378.1, R378.2⟩ (by omega) (by omega) (by omega) (by omega)
      have X395 : ExC [0, 1, 2, 60, 61, 62, 63, 64, 65, 66, 67, 68, 69, 70, 72, 73, 74, 75, 76, 242, 243, 244, 270, 271, 272, 273, 279, 280, 330, 331, 332, 333, 334, 999] σ0 σ373 := X371.tr (e377.mo (by decide))
      refine k_inv (P := P_X7_declare) (Q := Q_X7_declare) rfl rfl rfl rfl (Nat.le_of_ble_eq_true rfl) (t384.rc (by decide)) ⟨_, _, _, _, rfl, H376, t384, (by omega), (by omega), (by omega), (by omega), (rd_cd.st H0 h_0_0 X395 R394.1 (by decide)), (R394.2.2.2.1 rd_at), (rd_bg.st H0 h_0_0 X395 R394 (by decide) (by omega) (by omega) (by omega))⟩ (fun w396 σ397 q398 => ?_)
      obtain ⟨x399, rfl, H400, e401, h403, h404, R402⟩ := q398
      have t410 := t384.x e401
      obtain ⟨x405, e406, c407, h408, h409⟩ := cg242 H400.1 t410
      obtain ⟨x411, e412, c413, h414, h415⟩ := cg243 H400.1 t410
      have z416 := congrArg Int32.toInt c407
      have z417 := congrArg Int32.toInt c413
      refine k_st (st' := [.inl x399, .inr (.inr (some a18))]) rfl ?_
      have t418 := h22.x e42
      have t419 := t418.x e377
      have t420 := t419.x e401
      have c425 := (h22.mi e42 (by decide)).trans q24
      have c426 := (t418.mi e377 (by decide)).trans c425
      have c427 := (t419.mi e401 (by decide)).trans c426
      refine k_p280 H400 t420 (by omega) (by omega) (by rw [c427]; omega) (fun σ421 H422 e423 c424 => ?_)
      refine k_aload_n rfl ?_
      refine k_aload_n rfl ?_
      have t428 := t420.x e423
      refine k_get kg280 t428 (congrArg (Sum.inl : Int32 → AvC) c424) ?_
      have t429 := t410.x e423
      refine k_inv (P := P_X7_know) (Q := Q_X7_know) rfl rfl rfl rfl (Nat.le_of_ble_eq_true rfl) (t429.rc (by decide)) ⟨_, _, rfl, H422, t429⟩ (fun w430 σ431 q432 => ?_)
      obtain ⟨rfl, H433, e434⟩ := q432
      have c435 := (t410.mi e423 (by decide)).trans c407
      have c436 := (t429.mi e434 (by decide)).trans c435
      have c437 := (t410.mi e423 (by decide)).trans c413
      have c438 := (t429.mi e434 (by decide)).trans c437
      have z439 := congrArg Int32.toInt c436
      have z440 := congrArg Int32.toInt c438
      refine k_st (st' := []) rfl ?_
      refine k_iload rfl ?_
      refine k_if_ne (fun h441 => ?_) (fun h441 => by exfalso; omega)
      refine hB _ _ _ _ (kgoC (is := KX7_readVariable_56) rfl ?_)
      refine k_aload_n rfl ?_
      refine k_bipush (m := 8) rfl (fun x442 h443 => ?_)
      have t444 := t429.x e434
      have R445 : RdC p0 none (-20) (2) (-1000) σ0 σ397 := R394.tr ⟨R402.1, R402.2⟩ (by omega) (by omega) (by omega) (by omega)
      have R446 : RdC p0 none (-20) (2) (-1000) σ0 σ421 := R445.tr ⟨(e423.gw H400.1 (by decide)), (e423.cou (u := 0) H400.1 t410 (by decide) (by rw [e423.cn (by decide)]; omega))⟩ (by omega) (by omega) (by omega) (by omega)
      have R447 : RdC p0 none (-20) (2) (-1000) σ0 σ431 := R446.tr ⟨(e434.gw H422.1 (by decide)), (e434.cou (u := 0) H422.1 t429 (by decide) (by rw [e434.cn (by decide)]; omega))⟩ (by omega) (by omega) (by omega) (by omega)
      have X448 : ExC [0, 1, 2, 60, 61, 62, 63, 64, 65, 66, 67, 68, 69, 70, 72, 73, 74, 75, 76, 242, 243, 244, 270, 271, 272, 273, 279, 280, 330, 331, 332, 333, 334, 999] σ0 σ397 := X395.tr (e401.mo (by decide))
      have X449 : ExC [0, 1, 2, 60, 61, 62, 63, 64, 65, 66, 67, 68, 69, 70, 72, 73, 74, 75, 76, 242, 243, 244, 270, 271, 272, 273, 279, 280, 330, 331, 332, 333, 334, 999] σ0 σ421 := X448.tr (e423.mo (by decide))
      have X450 : ExC [0, 1, 2, 60, 61, 62, 63, 64, 65, 66, 67, 68, 69, 70, 72, 73, 74, 75, 76, 242, 243, 244, 270, 271, 272, 273, 279, 280, 330, 331, 332, 333, 334, 999] σ0 σ431 := X449.tr (e434.mo (by decide))
      refine k_inv (P := P_X7_expect) (Q := Q_X7_expect) rfl rfl rfl rfl (Nat.le_of_ble_eq_true rfl) (t444.rc (by decide)) ⟨_, _, rfl, H433, t444, (by omega), (by omega), (rd_cd.st H0 h_0_0 X450 R447.1 (by decide)), (R447.2.2.2.1 rd_at), (rd_bg.st H0 h_0_0 X450 R447 (by decide) (by omega) (by omega) (by omega))⟩ (fun w451 σ452 q453 => ?_)
      obtain ⟨rfl, H454, e455, R456, q457⟩ := q453
      have t463 := t444.x e455
      obtain ⟨x458, e459, c460, h461, h462⟩ := cg242 H454.1 t463
      obtain ⟨x464, e465, c466, h467, h468⟩ := cg243 H454.1 t463
      have z469 := congrArg Int32.toInt c460
      have z470 := congrArg Int32.toInt c466
      refine k_st (st' := []) rfl ?_
      have R471 : RdC p0 none (-28) (2) (-1000) σ0 σ452 := R447.tr ⟨R456.1, R456.2⟩ (by omega) (by omega) (by omega) (by omega)
      have z472 := R471.2.2.1
      have z473 := R471.2.2.2.1 rd_at
      refine k_aload_n rfl ?_
      refine k_aload_n rfl ?_
      refine k_iload_n rfl ?_
      have X474 : ExC [0, 1, 2, 60, 61, 62, 63, 64, 65, 66, 67, 68, 69, 70, 72, 73, 74, 75, 76, 242, 243, 244, 270, 271, 272, 273, 279, 280, 330, 331, 332, 333, 334, 999] σ0 σ452 := X450.tr (e455.mo (by decide))
      refine k_inv (P := (P_X7_readExp d)) (Q := (Q_X7_readExp d)) rfl rfl rfl rfl (Nat.le_of_ble_eq_true rfl) (t463.rc (by decide)) ⟨_, _, rfl, H454, t463, (by omega), (by omega), (rd_cd.st H0 h_0_0 X474 R471.1 (by decide)), (R471.2.2.2.1 rd_at), (rd_bg.st H0 h_0_0 X474 R471 (by decide) (by omega) (by omega) (by omega)), (by omega)⟩ (fun w475 σ476 q477 => ?_)
      obtain ⟨a478, rfl, H479, e480, h482, R481, q483⟩ := q477
      have t489 := t463.x e480
      obtain ⟨x484, e485, c486, h487, h488⟩ := cg242 H479.1 t489
      obtain ⟨x490, e491, c492, h493, h494⟩ := cg243 H479.1 t489
      have z495 := congrArg Int32.toInt c486
      have z496 := congrArg Int32.toInt c492
      refine k_st (st' := [.inr (.inr (some a478)), .inr (.inr (some a18))]) rfl ?_
      have z497 := R471.1.1
      have R498 : RdC p0 none (-28) (3 + 8 * (d : Int)) (-999) σ0 σ476 := R471.tr ⟨R481.1, R481.2⟩ (by omega) (by omega) (by omega) (by omega)
      have z499 := R498.2.2.1
      have z500 := R498.2.2.2.1 rd_at
      have t501 := t428.x e434
      have t502 := t501.x e455
      have t503 := t502.x e480
      refine k_putR kp279 H479 t503 fk279 (rf279 h482) (fun σ504 H505 e506 c507 => ?_)
      have R508 : RdC p0 none (-28) (3 + 8 * (d : Int)) (-999) σ0 σ504 := R498.tr ⟨(e506.gw H479.1 (by decide)), (e506.cou (u := 0) H479.1 t489 (by decide) (by rw [e506.cn (by decide)]; omega))⟩ (by omega) (by omega) (by omega) (by omega)
      have c509 := (t489.mi e506 (by decide)).trans c492
      have X510 : ExC [0, 1, 2, 60, 61, 62, 63, 64, 65, 66, 67, 68, 69, 70, 72, 73, 74, 75, 76, 242, 243, 244, 270, 271, 272, 273, 279, 280, 330, 331, 332, 333, 334, 999] σ0 σ476 := X474.tr (e480.mo (by decide))
      have X511 : ExC [0, 1, 2, 60, 61, 62, 63, 64, 65, 66, 67, 68, 69, 70, 72, 73, 74, 75, 76, 242, 243, 244, 270, 271, 272, 273, 279, 280, 330, 331, 332, 333, 334, 999] σ0 σ504 := X510.tr (e506.mo (by decide))
      have B512 : BgC σ504 p0 1 1 := rd_bg.st H0 h_0_0 X511 R508 (by decide) (by omega) (by omega) (by omega)
      have t515 := t489.x e506
      obtain ⟨h513, h514⟩ := B512.new H505.1 t515 (u := 1) (by omega) (by omega)
      have z516 := R508.1.1
      refine k_new (c := 2) (g := 0) H505 (by decide) rfl (by omega) (by have hn : nfC 2 = 18 := rfl; omega) (fun a517 σ518 q519 H520 e521 r522 z523 l524 u525 u526 => ?_)
      rw [show nfC 2 = 18 from rfl] at u526
      have u527 : cpC σ518 = cpC σ504 := congrArg Prod.fst e521.2.1.1
      have u528 : spC σ518 = spC σ504 := congrArg Prod.snd e521.2.1.1
      refine k_dupR ?_
      refine k_bipush (m := 15) rfl (fun x529 h530 => ?_)
      refine k_bipush (m := 8) rfl (fun x531 h532 => ?_)
      refine k_aload_n rfl ?_
      have t533 := t503.x e506
      have t534 := t533.x e521
      obtain ⟨x537, e535, c536, h538, h539⟩ := cg271 H520.1 t534
      refine k_get kg271 t534 e535 ?_
      refine k_aload_n rfl ?_
      have c540 := (t533.mr e521 (by decide)).trans c507
      refine k_get kg279 t534 (congrArg (fun z : Option Nat => (Sum.inr (Sum.inr z) : AvC)) c540) ?_
      have t541 := h482.x e506
      have t542 := t541.x e521
      obtain ⟨x545, e543, c544, h546, h547⟩ := cg63 H520.1 t542
      refine k_get kg63 t542 e543 ?_
      refine k_spec (P := P_X1_init) (Q := Q_X1_init) rfl rfl rfl rfl (Nat.le_of_ble_eq_true rfl) ⟨_, _, _, _, _, rfl, H520, r522, z523, (by omega), (by omega), (by omega), (by omega), (by omega)⟩ (fun w548 σ549 q550 => ?_)
      have t558 := t515.x e521
      obtain ⟨rfl, H551, e552, t553, t553', l554, u555, u556, g557, q560, q561, q562, q563⟩ := q550
      have l559 := l554.trans l524
      have c564 := (t489.mi e506 (by decide)).trans c486
      have c565 := (t515.mi e521 (by decide)).trans c564
      have c566 := (t558.mit r522 (by decide) e552 (by decide)).trans c565
      have c567 := (t515.mi e521 (by decide)).trans c509
      have c568 := (t558.mit r522 (by decide) e552 (by decide)).trans c567
      have z569 := congrArg Int32.toInt c566
      have z570 := congrArg Int32.toInt c568
      refine k_st (st' := [.inr (.inr (some a517))]) rfl ?_
      have t571 : TyC σ549 a517 2 := ⟨t553, t553', fun _ hz => by have z1 := congrArg Int32.toInt (q560.symm.trans hz.1); have z2 : (7 : Int32).toInt = 7 := rfl; omega⟩
      refine k_astore (ls' := [(6, .inr (.inr (some a517))), (5, .inl x375), (4, .inl x40), (3, .inr (.inr (some a18))), (0, .inr (.inr (some p0))), (1, .inl p1), (2, .inl p2)]) rfl ?_
      refine k_aload rfl ?_
      refine k_aload_n rfl ?_
      have t572 := t534.xt r522 (by decide) e552
      have c573 := (t428.mi e434 (by decide)).trans c424
      have c574 := (t501.mi e455 (by decide)).trans c573
      have c575 := (t502.mi e480 (by decide)).trans c574
      have c576 := (t503.mi e506 (by decide)).trans c575
      have c577 := (t533.mi e521 (by decide)).trans c576
      have c578 := (t534.mit r522 (by decide) e552 (by decide)).trans c577
      refine k_get kg280 t572 (congrArg (Sum.inl : Int32 → AvC) c578) ?_
      refine k_putI kp67 H551 t571 (Or.inl fk67) (tiC x399).1 (tiC x399).2 (fun σ579 H580 e581 c582 => ?_)
      refine k_aload rfl ?_
      refine k_aload_n rfl ?_
      have t583 := t572.x e581
      have c584 := (t534.mrt r522 (by decide) e552 (by decide)).trans c540
      have c585 := (t572.mr e581 (by decide)).trans c584
      refine k_get kg279 t583 (congrArg (fun z : Option Nat => (Sum.inr (Sum.inr z) : AvC)) c585) ?_
      have t586 := t571.x e581
      have t591 := t542.xt r522 (by decide) e552
      have t592 := t591.x e581
      refine k_putR kp72 H580 t586 fk72 (rf72 t592) (fun σ587 H588 e589 c590 => ?_)
      refine k_aload_n rfl ?_
      refine k_aload rfl ?_
      have t593 := t558.xt r522 (by decide) e552
      have t594 := t593.x e581
      have t595 := t594.x e589
      have t596 := t586.x e589
      have R597 : RdC p0 none (-27) (4 + 8 * (d : Int)) (-998) σ0 σ518 := R508.tr ⟨(e521.gwn H505.1 u525 u526 (by decide) (by rw [← q519]; exact r522.n0)), (e521.cou (u := 1) H505.1 t515 (by decide) (by omega))⟩ (by omega) (by omega) (by omega) (by omega)
      have R598 : RdC p0 none (-27) (4 + 8 * (d : Int)) (-998) σ0 σ549 := R597.tr ⟨g557, (e552.co (u := 0) H520.1 t558 r522 (by decide) (by omega))⟩ (by omega) (by omega) (by omega) (by omega)
      have R599 : RdC p0 none (-27) (4 + 8 * (d : Int)) (-998) σ0 σ579 := R598.tr ⟨(e581.gw H551.1 (by decide)), (e581.cou (u := 0) H551.1 t593 (by decide) (by rw [e581.cn (by decide)]; omega))⟩ (by omega) (by omega) (by omega) (by omega)
      have R600 : RdC p0 none (-27) (4 + 8 * (d : Int)) (-998) σ0 σ587 := R599.tr ⟨(e589.gw H580.1 (by decide)), (e589.cou (u := 0) H580.1 t594 (by decide) (by rw [e589.cn (by decide)]; omega))⟩ (by omega) (by omega) (by omega) (by omega)
      have c601 := (t593.mi e581 (by decide)).trans c568
      have c602 := (t594.mi e589 (by decide)).trans c601
      have X603 : ExC [0, 1, 2, 60, 61, 62, 63, 64, 65, 66, 67, 68, 69, 70, 72, 73, 74, 75, 76, 242, 243, 244, 270, 271, 272, 273, 279, 280, 330, 331, 332, 333, 334, 999] σ504 σ518 := ExC.rf.tr (e521.mo (by decide))
      have X604 : ExC [0, 1, 2, 60, 61, 62, 63, 64, 65, 66, 67, 68, 69, 70, 72, 73, 74, 75, 76, 242, 243, 244, 270, 271, 272, 273, 279, 280, 330, 331, 332, 333, 334, 999] σ504 σ549 := (X603 : ExC [0, 1, 2, 60, 61, 62, 63, 64, 65, 66, 67, 68, 69, 70, 72, 73, 74, 75, 76, 242, 243, 244, 270, 271, 272, 273, 279, 280, 330, 331, 332, 333, 334, 999] σ504 σ518).nt (Nat.le_of_eq q519.symm) (e552.mo (by decide))
      have X605 : ExC [0, 1, 2, 60, 61, 62, 63, 64, 65, 66, 67, 68, 69, 70, 72, 73, 74, 75, 76, 242, 243, 244, 270, 271, 272, 273, 279, 280, 330, 331, 332, 333, 334, 999] σ0 σ549 := X511.tr X604
      have X606 : ExC [0, 1, 2, 60, 61, 62, 63, 64, 65, 66, 67, 68, 69, 70, 72, 73, 74, 75, 76, 242, 243, 244, 270, 271, 272, 273, 279, 280, 330, 331, 332, 333, 334, 999] σ0 σ579 := X605.tr (e581.mo (by decide))
      have X607 : ExC [0, 1, 2, 60, 61, 62, 63, 64, 65, 66, 67, 68, 69, 70, 72, 73, 74, 75, 76, 242, 243, 244, 270, 271, 272, 273, 279, 280, 330, 331, 332, 333, 334, 999] σ0 σ587 := X606.tr (e589.mo (by decide))
      have c608 := (t593.mi e581 (by decide)).trans c566
      have c609 := (t594.mi e589 (by decide)).trans c608
      have z610 := congrArg Int32.toInt c609
      have z611 := congrArg Int32.toInt c602
      refine k_inv (P := P_X7_put) (Q := Q_X7_put) rfl rfl rfl rfl (Nat.le_of_ble_eq_true rfl) (t595.rc (by decide)) ⟨_, _, rfl, H588, t595, t596, (rd_cd.st H0 h_0_0 X607 R600.1 (by decide)), (R600.2.2.2.1 rd_at), (rd_bg.st H0 h_0_0 X607 R600 (by decide) (by omega) (by omega) (by omega))⟩ (fun w612 σ613 q614 => ?_)
      obtain ⟨a615, rfl, H616, e617, h619, R618, q620⟩ := q614
      have c621 := (t595.mi e617 (by decide)).trans c609
      have c622 := (t595.mi e617 (by decide)).trans c602
      have z623 := congrArg Int32.toInt c621
      have z624 := congrArg Int32.toInt c622
      refine k_st (st' := [.inr (.inr (some a615))]) rfl ?_
      refine k_popR ?_
      refine k_nil ?_
      refine hB _ _ _ _ (kgoC (is := KX7_readVariable_120) rfl ?_)
      refine k_aload_n rfl ?_
      refine k_areturn ?_
      have X625 : ExC [0, 1, 2, 60, 61, 62, 63, 64, 65, 66, 67, 68, 69, 70, 72, 73, 74, 75, 76, 242, 243, 244, 270, 271, 272, 273, 279, 280, 330, 331, 332, 333, 334, 999] σ0 σ613 := X607.tr (e617.mo (by decide))
      have t626 := t583.x e589
      have t627 := t626.x e617
      have R628 : RdC p0 none (-26) (5 + 8 * (d : Int)) (-997) σ0 σ613 := R600.tr ⟨R618.1, R618.2⟩ (by omega) (by omega) (by omega) (by omega)
      have c629 := (h22.mi e42 (by decide)).trans q25
      have c630 := (t418.mi e377 (by decide)).trans c629
      have c631 := (t419.mi e401 (by decide)).trans c630
      have c632 := (t420.mi e423 (by decide)).trans c631
      have c633 := (t428.mi e434 (by decide)).trans c632
      have c634 := (t501.mi e455 (by decide)).trans c633
      have c635 := (t502.mi e480 (by decide)).trans c634
      have c636 := (t503.mi e506 (by decide)).trans c635
      have c637 := (t533.mi e521 (by decide)).trans c636
      have c638 := (t534.mit r522 (by decide) e552 (by decide)).trans c637
      have c639 := (t572.mi e581 (by decide)).trans c638
      have c640 := (t583.mi e589 (by decide)).trans c639
      have c641 := (t626.mi e617 (by decide)).trans c640
      have c642 := (t420.mi e423 (by decide)).trans c427
      have c643 := (t428.mi e434 (by decide)).trans c642
      have c644 := (t501.mi e455 (by decide)).trans c643
      have c645 := (t502.mi e480 (by decide)).trans c644
      have c646 := (t503.mi e506 (by decide)).trans c645
      have c647 := (t533.mi e521 (by decide)).trans c646
      have c648 := (t534.mit r522 (by decide) e552 (by decide)).trans c647
      have c649 := (t572.mi e581 (by decide)).trans c648
      have c650 := (t583.mi e589 (by decide)).trans c649
      have c651 := (t626.mi e617 (by decide)).trans c650
      exact ⟨_, rfl, H616, X625, t627, (R628.mo (by omega) (by omega) (by omega)), (by omega), (by rw [c641] <;> omega), (by rw [c651] <;> omega)⟩

set_option maxRecDepth 100000 in
set_option maxHeartbeats 4000000 in
theorem s_X7_readForExps (l : Launch) (d : Nat) (h_X7_readExp : CMetC l (13 * d + 36) 164 (P_X7_readExp d) (Q_X7_readExp d)) : CMetC l (13 * d + 37) 158 (P_X7_readForExps d) (Q_X7_readForExps d) := by
  refine CMetC.of KX7_readForExps [(142, P_X7_begin, Q_X7_begin), (164, (P_X7_readExp d), (Q_X7_readExp d)), (130, P_X7_takes, Q_X7_takes)] hX7_readForExps (by decide) (by omega) okX7_readForExps (cc1C (m_X7_begin l) (by omega) (cc1C h_X7_readExp (by omega) (cc1C (m_X7_takes l) (by omega) cc0C))) ?_ ?_
  · rintro As σ ⟨p0, p1, rfl, -⟩
    exact Nat.le_of_ble_eq_true rfl
  · rintro As σ0 ⟨p0, p1, rfl, H0, h_0_0, h_1_0, h_1_1, rd_cd, rd_at, rd_bg, rd_dp⟩ hgr G hB hW
    change G 0 [(0, .inr (.inr (some p0))), (1, .inl p1)] [] σ0
    obtain ⟨x1, e2, c3, h4, h5⟩ := cg242 H0.1 h_0_0
    obtain ⟨x6, e7, c8, h9, h10⟩ := cg243 H0.1 h_0_0
    have z11 := congrArg Int32.toInt c3
    have z12 := congrArg Int32.toInt c8
    have L22 : ∀ (n22 : Nat), ∀ (σ13 : CsC) (v22_2 : Nat) (v22_3 : Nat) (v22_4 : Int32), (2147483647 - v22_4.toInt).toNat = n22 → HIC σ13 → ExC [0, 1, 2, 60, 61, 62, 63, 64, 65, 66, 67, 68, 69, 70, 72, 73, 74, 75, 76, 242, 243, 244, 270, 271, 272, 273, 275, 279, 280, 999] σ0 σ13 → RdC p0 none (2) (22 + 8 * (d : Int)) (3) σ0 σ13 → TyC σ13 v22_2 9 → TyC σ13 v22_3 9 → 0 ≤ v22_4.toInt → v22_4.toInt ≤ 502 → (cnC σ0 ≤ v22_2 ∧ (fIC σ13 v22_2 272).toInt = p1.toInt ∧ (fIC σ13 v22_2 270).toInt = 94 ∧ (fIC σ13 v22_3 272).toInt = p1.toInt ∧ (fIC σ13 v22_3 270).toInt = 94) → G 22 [(0, .inr (.inr (some p0))), (1, .inl p1), (2, .inr (.inr (some v22_2))), (3, .inr (.inr (some v22_3))), (4, .inl v22_4)] [] σ13 := by
      intro n22
      induction n22 using Nat.strongRecOn with
      | _ n22 ih22 =>
        intro σ13 v22_2 v22_3 v22_4 n22_ H14 e15 R16 h17 h18 h19 h20 h21
        have t27 := h_0_0.x e15
        obtain ⟨x22, e23, c24, h25, h26⟩ := cg242 H14.1 t27
        obtain ⟨x28, e29, c30, h31, h32⟩ := cg243 H14.1 t27
        have z33 := congrArg Int32.toInt c24
        have z34 := congrArg Int32.toInt c30
        obtain ⟨h35, h36, h37, h38, h39⟩ := h21
        obtain ⟨x40, e41, c42, h43, h44⟩ := cg272 H14.1 h17
        rw [c42] at h36
        obtain ⟨x45, e46, c47, h48, h49⟩ := cg270 H14.1 h17
        rw [c47] at h37
        obtain ⟨x50, e51, c52, h53, h54⟩ := cg272 H14.1 h18
        rw [c52] at h38
        obtain ⟨x55, e56, c57, h58, h59⟩ := cg270 H14.1 h18
        rw [c57] at h39
        refine hB _ _ _ _ (kgoC (is := KX7_readForExps_22) rfl ?_)
        refine k_iload rfl ?_
        refine k_sipush (m := 500) rfl (fun x60 h61 => ?_)
        refine k_ic_gt (fun h62 => ?_) (fun h62 => ?_)
        · refine hB _ _ _ _ (kgoC (is := KX7_readForExps_69) rfl ?_)
          refine k_aload_n rfl ?_
          refine k_areturn ?_
          have X63 : ExC [0, 1, 2, 60, 61, 62, 63, 64, 65, 66, 67, 68, 69, 70, 72, 73, 74, 75, 76, 242, 243, 244, 270, 271, 272, 273, 275, 279, 280, 999] σ0 σ13 := ExC.rf.tr (e15.mo (by decide))
          exact ⟨_, rfl, H14, X63, h17, (R16.mo (by omega) (by omega) (by omega)), (by omega), (by rw [c42] <;> omega), (by rw [c47] <;> omega)⟩
        · refine k_nil ?_
          refine hB _ _ _ _ (kgoC (is := KX7_readForExps_30) rfl ?_)
          refine k_aload_n rfl ?_
          refine k_iconst (m := 5) rfl (fun x64 h65 => ?_)
          have X66 : ExC [0, 1, 2, 60, 61, 62, 63, 64, 65, 66, 67, 68, 69, 70, 72, 73, 74, 75, 76, 242, 243, 244, 270, 271, 272, 273, 275, 279, 280, 999] σ0 σ13 := ExC.rf.tr (e15.mo (by decide))
          refine k_inv (P := P_X7_takes) (Q := Q_X7_takes) rfl rfl rfl rfl (Nat.le_of_ble_eq_true rfl) (t27.rc (by decide)) ⟨_, _, rfl, H14, t27, (by omega), (by omega), (rd_cd.st H0 h_0_0 X66 R16.1 (by decide)), (R16.2.2.2.1 rd_at), (rd_bg.st H0 h_0_0 X66 R16 (by decide) (by omega) (by omega) (by omega))⟩ (fun w67 σ68 q69 => ?_)
          obtain ⟨x70, rfl, H71, e72, h74, h75, R73, q76⟩ := q69
          have t82 := t27.x e72
          obtain ⟨x77, e78, c79, h80, h81⟩ := cg242 H71.1 t82
          obtain ⟨x83, e84, c85, h86, h87⟩ := cg243 H71.1 t82
          have z88 := congrArg Int32.toInt c79
          have z89 := congrArg Int32.toInt c85
          refine k_st (st' := [.inl x70]) rfl ?_
          rcases (by omega : x70.toInt = 0 ∨ x70.toInt = 1) with g90 | g90
          · have R91 : RdC p0 none (2) (22 + 8 * (d : Int)) (3) σ0 σ68 := R16.tr ⟨R73.1, R73.2⟩ (by omega) (by omega) (by omega) (by omega)
            have z92 := R91.2.2.1
            have z93 := R91.2.2.2.1 rd_at
            refine k_if_eq (fun h94 => ?_) (fun h94 => by exfalso; omega)
            refine hB _ _ _ _ (kgoC (is := KX7_readForExps_69) rfl ?_)
            refine k_aload_n rfl ?_
            refine k_areturn ?_
            have X95 : ExC [0, 1, 2, 60, 61, 62, 63, 64, 65, 66, 67, 68, 69, 70, 72, 73, 74, 75, 76, 242, 243, 244, 270, 271, 272, 273, 275, 279, 280, 999] σ0 σ68 := X66.tr (e72.mo (by decide))
            have t96 := h17.x e72
            have c97 := (h17.mi e72 (by decide)).trans c42
            have c98 := (h17.mi e72 (by decide)).trans c47
            exact ⟨_, rfl, H71, X95, t96, (R91.mo (by omega) (by omega) (by omega)), (by omega), (by rw [c97] <;> omega), (by rw [c98] <;> omega)⟩
          · have R99 := R16.nf (-1000) (-1000) (q76 (by omega)).1
            have R100 : RdC p0 none (-6) (2) (-1000) σ0 σ68 := R99.tr ⟨(q76 (by omega)).2.1, (q76 (by omega)).2.2⟩ (by omega) (by omega) (by omega) (by omega)
            have z101 := R100.2.2.1
            have z102 := R100.2.2.2.1 rd_at
            refine k_if_eq (fun h103 => by exfalso; omega) (fun h103 => ?_)
            refine k_nil ?_
            refine hB _ _ _ _ (kgoC (is := KX7_readForExps_38) rfl ?_)
            refine k_aload_n rfl ?_
            refine k_aload_n rfl ?_
            refine k_bipush (m := 94) rfl (fun x104 h105 => ?_)
            refine k_iload_n rfl ?_
            have X106 : ExC [0, 1, 2, 60, 61, 62, 63, 64, 65, 66, 67, 68, 69, 70, 72, 73, 74, 75, 76, 242, 243, 244, 270, 271, 272, 273, 275, 279, 280, 999] σ0 σ68 := X66.tr (e72.mo (by decide))
            refine k_inv (P := P_X7_begin) (Q := Q_X7_begin) rfl rfl rfl rfl (Nat.le_of_ble_eq_true rfl) (t82.rc (by decide)) ⟨_, _, _, rfl, H71, t82, (by omega), (by omega), (rd_cd.st H0 h_0_0 X106 R100.1 (by decide)), (R100.2.2.2.1 rd_at), (rd_bg.st H0 h_0_0 X106 R100 (by decide) (by omega) (by omega) (by omega)), (by omega)⟩ (fun w107 σ108 q109 => ?_)
            obtain ⟨a110, rfl, H111, e112, h114, R113, q115, q116, q117⟩ := q109
            have c118 := (t82.mi e112 (by decide)).trans c79
            have c119 := (t82.mi e112 (by decide)).trans c85
            have z120 := congrArg Int32.toInt c118
            have z121 := congrArg Int32.toInt c119
            refine k_st (st' := [.inr (.inr (some a110)), .inr (.inr (some v22_3))]) rfl ?_
            have z122 := R100.1.1
            have c123 := (h18.mi e72 (by decide)).trans c57
            have t124 := h18.x e72
            have c125 := (t124.fi e112 (by decide) (by decide)).trans c123
            have c126 := (h18.mi e72 (by decide)).trans c52
            have c127 := (t124.fi e112 (by decide) (by decide)).trans c126
            have z132 := t124.1
            have t133 := t124.x e112
            refine k_p275 H111 t133 (h114.ot) (fun z hz => by cases hz; exact ⟨by omega, by unfold NxC; rw [c125, c127, q116, q117]; omega⟩) (fun σ128 H129 e130 c131 => ?_)
            refine k_aload_n rfl ?_
            have t134 := t133.x e130
            refine k_get kg275 t134 (congrArg (fun z : Option Nat => (Sum.inr (Sum.inr z) : AvC)) c131) ?_
            refine k_astore_n (ls' := [(3, .inr (.inr (some a110))), (0, .inr (.inr (some p0))), (1, .inl p1), (2, .inr (.inr (some v22_2))), (4, .inl v22_4)]) rfl ?_
            refine k_aload_n rfl ?_
            refine k_aload_n rfl ?_
            refine k_iload_n rfl ?_
            have t135 := t82.x e112
            have t136 := t135.x e130
            have R137 : RdC p0 none (-4) (4) (-998) σ0 σ108 := R100.tr ⟨R113.1, R113.2⟩ (by omega) (by omega) (by omega) (by omega)
            have R138 : RdC p0 none (-4) (4) (-998) σ0 σ128 := R137.tr ⟨(e130.gw H111.1 (by decide)), (e130.cou (u := 0) H111.1 t135 (by decide) (by rw [e130.cn (by decide)]; omega))⟩ (by omega) (by omega) (by omega) (by omega)
            have c139 := (t135.mi e130 (by decide)).trans c119
            have X140 : ExC [0, 1, 2, 60, 61, 62, 63, 64, 65, 66, 67, 68, 69, 70, 72, 73, 74, 75, 76, 242, 243, 244, 270, 271, 272, 273, 275, 279, 280, 999] σ0 σ108 := X106.tr (e112.mo (by decide))
            have X141 : ExC [0, 1, 2, 60, 61, 62, 63, 64, 65, 66, 67, 68, 69, 70, 72, 73, 74, 75, 76, 242, 243, 244, 270, 271, 272, 273, 275, 279, 280, 999] σ0 σ128 := X140.tr (e130.mo (by decide))
            have c142 := (t135.mi e130 (by decide)).trans c118
            have z143 := congrArg Int32.toInt c142
            have z144 := congrArg Int32.toInt c139
            refine k_inv (P := (P_X7_readExp d)) (Q := (Q_X7_readExp d)) rfl rfl rfl rfl (Nat.le_of_ble_eq_true rfl) (t136.rc (by decide)) ⟨_, _, rfl, H129, t136, (by omega), (by omega), (rd_cd.st H0 h_0_0 X141 R138.1 (by decide)), (R138.2.2.2.1 rd_at), (rd_bg.st H0 h_0_0 X141 R138 (by decide) (by omega) (by omega) (by omega)), (by omega)⟩ (fun w145 σ146 q147 => ?_)
            obtain ⟨a148, rfl, H149, e150, h152, R151, q153⟩ := q147
            have t159 := t136.x e150
            obtain ⟨x154, e155, c156, h157, h158⟩ := cg242 H149.1 t159
            obtain ⟨x160, e161, c162, h163, h164⟩ := cg243 H149.1 t159
            have z165 := congrArg Int32.toInt c156
            have z166 := congrArg Int32.toInt c162
            refine k_st (st' := [.inr (.inr (some a148)), .inr (.inr (some a110))]) rfl ?_
            have z167 := R138.1.1
            have R168 : RdC p0 none (-4) (16 + 8 * (d : Int)) (-997) σ0 σ146 := R138.tr ⟨R151.1, R151.2⟩ (by omega) (by omega) (by omega) (by omega)
            have z169 := R168.2.2.1
            have z170 := R168.2.2.2.1 rd_at
            have t171 := h114.x e130
            have t172 := t171.x e150
            refine k_putR kp279 H149 t172 fk279 (rf279 h152) (fun σ173 H174 e175 c176 => ?_)
            obtain ⟨x177, e179, h178⟩ := iincC (n := 1) (m := 1) (v := v22_4) rfl (by omega) (by omega)
            refine k_iinc (ls' := [(4, .inl x177), (3, .inr (.inr (some a110))), (0, .inr (.inr (some p0))), (1, .inl p1), (2, .inr (.inr (some v22_2)))]) rfl e179 rfl ?_
            refine k_goto ?_
            have R180 : RdC p0 none (-4) (16 + 8 * (d : Int)) (-997) σ0 σ173 := R168.tr ⟨(e175.gw H149.1 (by decide)), (e175.cou (u := 0) H149.1 t159 (by decide) (by rw [e175.cn (by decide)]; omega))⟩ (by omega) (by omega) (by omega) (by omega)
            have c181 := (t159.mi e175 (by decide)).trans c162
            have t182 := h17.x e72
            have t183 := t182.x e112
            have t184 := t183.x e130
            have t185 := t184.x e150
            have t186 := t185.x e175
            have t187 := t172.x e175
            have c188 := (h17.mi e72 (by decide)).trans c42
            have c189 := (t182.fi e112 (by decide) (by decide)).trans c188
            have c190 := (t183.mi e130 (by decide)).trans c189
            have c191 := (t184.mi e150 (by decide)).trans c190
            have c192 := (t185.mi e175 (by decide)).trans c191
            have c193 := (h17.mi e72 (by decide)).trans c47
            have c194 := (t182.fi e112 (by decide) (by decide)).trans c193
            have c195 := (t183.mi e130 (by decide)).trans c194
            have c196 := (t184.mi e150 (by decide)).trans c195
            have c197 := (t185.mi e175 (by decide)).trans c196
            have c198 := (h114.mi e130 (by decide)).trans q117
            have c199 := (t171.mi e150 (by decide)).trans c198
            have c200 := (t172.mi e175 (by decide)).trans c199
            have c201 := (h114.mi e130 (by decide)).trans q116
            have c202 := (t171.mi e150 (by decide)).trans c201
            have c203 := (t172.mi e175 (by decide)).trans c202
            have X204 : ExC [0, 1, 2, 60, 61, 62, 63, 64, 65, 66, 67, 68, 69, 70, 72, 73, 74, 75, 76, 242, 243, 244, 270, 271, 272, 273, 275, 279, 280, 999] σ0 σ146 := X141.tr (e150.mo (by decide))
            have X205 : ExC [0, 1, 2, 60, 61, 62, 63, 64, 65, 66, 67, 68, 69, 70, 72, 73, 74, 75, 76, 242, 243, 244, 270, 271, 272, 273, 275, 279, 280, 999] σ0 σ173 := X204.tr (e175.mo (by decide))
            exact hW _ _ _ _ _ (List.forall_mem_cons.2 ⟨List.Mem.tail _ (List.Mem.tail _ (List.Mem.head _)), (List.forall_mem_cons.2 ⟨List.Mem.tail _ (List.Mem.tail _ (List.Mem.tail _ (List.Mem.head _))), (List.forall_mem_cons.2 ⟨List.Mem.tail _ (List.Mem.tail _ (List.Mem.tail _ (List.Mem.tail _ (List.Mem.head _)))), (List.forall_mem_cons.2 ⟨List.Mem.tail _ (List.Mem.head _), (List.forall_mem_cons.2 ⟨List.Mem.head _, fun _ h => absurd h List.not_mem_nil⟩)⟩)⟩)⟩)⟩) (ih22 ((2147483647 - x177.toInt).toNat) (by omega) σ173 v22_2 a110 x177 rfl H174 X205 (R180.mo (by omega) (by omega) (by omega)) t186 t187 (by omega) (by omega) ⟨by omega, (by rw [c192] <;> omega), (by rw [c197] <;> omega), (by rw [c200] <;> omega), (by rw [c203] <;> omega)⟩)
    refine hB _ _ _ _ (kgoC (is := KX7_readForExps_0) rfl ?_)
    refine k_aload_n rfl ?_
    refine k_bipush (m := 94) rfl (fun x206 h207 => ?_)
    refine k_iload_n rfl ?_
    refine k_inv (P := P_X7_begin) (Q := Q_X7_begin) rfl rfl rfl rfl (Nat.le_of_ble_eq_true rfl) (h_0_0.rc (by decide)) ⟨_, _, _, rfl, H0, h_0_0, (by omega), (by omega), (rd_cd.st H0 h_0_0 (ExC.rf : ExC [0, 1, 2, 60, 61, 62, 63, 64, 65, 66, 67, 68, 69, 70, 72, 73, 74, 75, 76, 242, 243, 244, 270, 271, 272, 273, 275, 279, 280, 999] σ0 σ0) (RdC.rf : RdC p0 none 0 0 0 σ0 σ0).1 (by decide)), ((RdC.rf : RdC p0 none 0 0 0 σ0 σ0).2.2.2.1 rd_at), (rd_bg.st H0 h_0_0 (ExC.rf : ExC [0, 1, 2, 60, 61, 62, 63, 64, 65, 66, 67, 68, 69, 70, 72, 73, 74, 75, 76, 242, 243, 244, 270, 271, 272, 273, 275, 279, 280, 999] σ0 σ0) (RdC.rf : RdC p0 none 0 0 0 σ0 σ0) (by decide) (by omega) (by omega) (by omega)), (by omega)⟩ (fun w208 σ209 q210 => ?_)
    obtain ⟨a211, rfl, H212, e213, h215, R214, q216, q217, q218⟩ := q210
    have c219 := (h_0_0.mi e213 (by decide)).trans c3
    have c220 := (h_0_0.mi e213 (by decide)).trans c8
    have z221 := congrArg Int32.toInt c219
    have z222 := congrArg Int32.toInt c220
    refine k_st (st' := [.inr (.inr (some a211))]) rfl ?_
    have z223 := (RdC.rf : RdC p0 none 0 0 0 σ0 σ0).1.1
    refine k_astore_n (ls' := [(2, .inr (.inr (some a211))), (0, .inr (.inr (some p0))), (1, .inl p1)]) rfl ?_
    refine k_aload_n rfl ?_
    refine k_aload_n rfl ?_
    refine k_iload_n rfl ?_
    have t224 := h_0_0.x e213
    have R225 : RdC p0 none (2) (2) (2) σ0 σ209 := (RdC.rf : RdC p0 none 0 0 0 σ0 σ0).tr ⟨R214.1, R214.2⟩ (by omega) (by omega) (by omega) (by omega)
    have X226 : ExC [0, 1, 2, 60, 61, 62, 63, 64, 65, 66, 67, 68, 69, 70, 72, 73, 74, 75, 76, 242, 243, 244, 270, 271, 272, 273, 275, 279, 280, 999] σ0 σ209 := ExC.rf.tr (e213.mo (by decide))
    refine k_inv (P := (P_X7_readExp d)) (Q := (Q_X7_readExp d)) rfl rfl rfl rfl (Nat.le_of_ble_eq_true rfl) (t224.rc (by decide)) ⟨_, _, rfl, H212, t224, (by omega), (by omega), (rd_cd.st H0 h_0_0 X226 R225.1 (by decide)), (R225.2.2.2.1 rd_at), (rd_bg.st H0 h_0_0 X226 R225 (by decide) (by omega) (by omega) (by omega)), (by omega)⟩ (fun w227 σ228 q229 => ?_)
    obtain ⟨a230, rfl, H231, e232, h234, R233, q235⟩ := q229
    have t241 := t224.x e232
    obtain ⟨x236, e237, c238, h239, h240⟩ := cg242 H231.1 t241
    obtain ⟨x242, e243, c244, h245, h246⟩ := cg243 H231.1 t241
    have z247 := congrArg Int32.toInt c238
    have z248 := congrArg Int32.toInt c244
    refine k_st (st' := [.inr (.inr (some a230)), .inr (.inr (some a211))]) rfl ?_
    have z249 := R225.1.1
    have R250 : RdC p0 none (2) (22 + 8 * (d : Int)) (3) σ0 σ228 := R225.tr ⟨R233.1, R233.2⟩ (by omega) (by omega) (by omega) (by omega)
    have z251 := R250.2.2.1
    have z252 := R250.2.2.2.1 rd_at
    have t253 := h215.x e232
    refine k_putR kp279 H231 t253 fk279 (rf279 h234) (fun σ254 H255 e256 c257 => ?_)
    refine k_aload_n rfl ?_
    refine k_astore_n (ls' := [(3, .inr (.inr (some a211))), (2, .inr (.inr (some a211))), (0, .inr (.inr (some p0))), (1, .inl p1)]) rfl ?_
    refine k_iconst (m := 0) rfl (fun x258 h259 => ?_)
    refine k_istore (ls' := [(4, .inl x258), (3, .inr (.inr (some a211))), (2, .inr (.inr (some a211))), (0, .inr (.inr (some p0))), (1, .inl p1)]) rfl ?_
    refine k_nil ?_
    have R260 : RdC p0 none (2) (22 + 8 * (d : Int)) (3) σ0 σ254 := R250.tr ⟨(e256.gw H231.1 (by decide)), (e256.cou (u := 0) H231.1 t241 (by decide) (by rw [e256.cn (by decide)]; omega))⟩ (by omega) (by omega) (by omega) (by omega)
    have c261 := (t241.mi e256 (by decide)).trans c244
    have t262 := t253.x e256
    have c263 := (h215.mi e232 (by decide)).trans q218
    have c264 := (t253.mi e256 (by decide)).trans c263
    have c265 := (h215.mi e232 (by decide)).trans q217
    have c266 := (t253.mi e256 (by decide)).trans c265
    have X267 : ExC [0, 1, 2, 60, 61, 62, 63, 64, 65, 66, 67, 68, 69, 70, 72, 73, 74, 75, 76, 242, 243, 244, 270, 271, 272, 273, 275, 279, 280, 999] σ0 σ228 := X226.tr (e232.mo (by decide))
    have X268 : ExC [0, 1, 2, 60, 61, 62, 63, 64, 65, 66, 67, 68, 69, 70, 72, 73, 74, 75, 76, 242, 243, 244, 270, 271, 272, 273, 275, 279, 280, 999] σ0 σ254 := X267.tr (e256.mo (by decide))
    exact hW _ _ _ _ _ (List.forall_mem_cons.2 ⟨List.Mem.tail _ (List.Mem.tail _ (List.Mem.tail _ (List.Mem.head _))), (List.forall_mem_cons.2 ⟨List.Mem.tail _ (List.Mem.tail _ (List.Mem.tail _ (List.Mem.tail _ (List.Mem.head _)))), (List.forall_mem_cons.2 ⟨List.Mem.tail _ (List.Mem.tail _ (List.Mem.head _)), (List.forall_mem_cons.2 ⟨List.Mem.tail _ (List.Mem.head _), (List.forall_mem_cons.2 ⟨List.Mem.head _, fun _ h => absurd h List.not_mem_nil⟩)⟩)⟩)⟩)⟩) (L22 _ σ254 a211 a211 x258 rfl H255 X268 (R260.mo (by omega) (by omega) (by omega)) t262 t262 (by omega) (by omega) ⟨by omega, (by rw [c264] <;> omega), (by rw [c266] <;> omega), (by rw [c264] <;> omega), (by rw [c266] <;> omega)⟩)

set_option maxRecDepth 100000 in
set_option maxHeartbeats 4000000 in
theorem s_X7_readCase (l : Launch) (d : Nat) (h_X7_readExp : CMetC l (13 * d + 36) 164 (P_X7_readExp d) (Q_X7_readExp d)) : CMetC l (13 * d + 37) 147 (P_X7_readCase d) (Q_X7_readCase d) := by
  refine CMetC.of KX7_readCase [(125, P_X7_code, Q_X7_code), (142, P_X7_begin, Q_X7_begin), (128, P_X7_accept, Q_X7_accept), (129, P_X7_expect, Q_X7_expect), (164, (P_X7_readExp d), (Q_X7_readExp d))] hX7_readCase (by decide) (by omega) okX7_readCase (cc1C (m_X7_code l) (by omega) (cc1C (m_X7_begin l) (by omega) (cc1C (m_X7_accept l) (by omega) (cc1C (m_X7_expect l) (by omega) (cc1C h_X7_readExp (by omega) cc0C))))) ?_ ?_
  · rintro As σ ⟨p0, p1, rfl, -⟩
    exact Nat.le_of_ble_eq_true rfl
  · rintro As σ0 ⟨p0, p1, rfl, H0, h_0_0, h_1_0, h_1_1, rd_cd, rd_at, rd_bl, rd_lv, rd_tk, rd_dp, q_0⟩ hgr G hB hW
    change G 0 [(0, .inr (.inr (some p0))), (1, .inl p1)] [] σ0
    obtain ⟨x1, e2, c3, h4, h5⟩ := cg242 H0.1 h_0_0
    obtain ⟨x6, e7, c8, h9, h10⟩ := cg243 H0.1 h_0_0
    have z11 := congrArg Int32.toInt c3
    have z12 := congrArg Int32.toInt c8
    have h13 : x6.toInt = 0 := by rw [← c8]; exact rd_lv
    have rd_bg : BgC σ0 p0 (24 + 8 * (d : Int)) 1000000 := ⟨fun _ => rd_bl, fun z => absurd rd_lv z⟩
    refine hB _ _ _ _ (kgoC (is := KX7_readCase_0) rfl ?_)
    refine k_aload_n rfl ?_
    refine k_aload_n rfl ?_
    have R14 := (RdC.rf : RdC p0 none 0 0 0 σ0 σ0).nf (-1000) (-1000) (by rw [c8]; omega)
    refine k_inv (P := P_X7_code) (Q := Q_X7_code) rfl rfl rfl rfl (Nat.le_of_ble_eq_true rfl) (h_0_0.rc (by decide)) ⟨_, rfl, H0, h_0_0, (rd_cd.st H0 h_0_0 (ExC.rf : ExC [0, 1, 2, 60, 61, 62, 63, 64, 65, 66, 67, 68, 69, 70, 72, 73, 74, 75, 76, 242, 243, 244, 270, 271, 272, 273, 279, 280, 999] σ0 σ0) R14.1 (by decide))⟩ (fun w15 σ16 q17 => ?_)
    obtain ⟨x18, rfl, rfl, q19, q20, q21⟩ := q17
    refine k_st (st' := [.inl x18, .inr (.inr (some p0))]) rfl ?_
    have z22 := R14.2.2.1
    have z23 := R14.2.2.2.1 rd_at
    refine k_iload_n rfl ?_
    refine k_inv (P := P_X7_begin) (Q := Q_X7_begin) rfl rfl rfl rfl (Nat.le_of_ble_eq_true rfl) (h_0_0.rc (by decide)) ⟨_, _, _, rfl, H0, h_0_0, (by omega), (by omega), (rd_cd.st H0 h_0_0 (ExC.rf : ExC [0, 1, 2, 60, 61, 62, 63, 64, 65, 66, 67, 68, 69, 70, 72, 73, 74, 75, 76, 242, 243, 244, 270, 271, 272, 273, 279, 280, 999] σ0 σ0) R14.1 (by decide)), (R14.2.2.2.1 rd_at), (rd_bg.stn H0 h_0_0 (ExC.rf : ExC [0, 1, 2, 60, 61, 62, 63, 64, 65, 66, 67, 68, 69, 70, 72, 73, 74, 75, 76, 242, 243, 244, 270, 271, 272, 273, 279, 280, 999] σ0 σ0) R14 (by decide) (by rw [c8]; omega) (by omega)), (by omega)⟩ (fun w24 σ25 q26 => ?_)
    obtain ⟨a27, rfl, H28, e29, h31, R30, q32, q33, q34⟩ := q26
    have c35 := (h_0_0.mi e29 (by decide)).trans c3
    have c36 := (h_0_0.mi e29 (by decide)).trans c8
    have z37 := congrArg Int32.toInt c35
    have z38 := congrArg Int32.toInt c36
    refine k_st (st' := [.inr (.inr (some a27))]) rfl ?_
    have z39 := R14.1.1
    refine k_astore_n (ls' := [(2, .inr (.inr (some a27))), (0, .inr (.inr (some p0))), (1, .inl p1)]) rfl ?_
    refine k_aload_n rfl ?_
    have t40 := h_0_0.x e29
    have R41 : RdC p0 none (2) (2) (-998) σ0 σ25 := R14.tr ⟨R30.1, R30.2⟩ (by omega) (by omega) (by omega) (by omega)
    have R42 := R41.nf (-1000) (-1000) (by rw [c36]; omega)
    have X43 : ExC [0, 1, 2, 60, 61, 62, 63, 64, 65, 66, 67, 68, 69, 70, 72, 73, 74, 75, 76, 242, 243, 244, 270, 271, 272, 273, 279, 280, 999] σ0 σ25 := ExC.rf.tr (e29.mo (by decide))
    refine k_inv (P := P_X7_accept) (Q := Q_X7_accept) rfl rfl rfl rfl (Nat.le_of_ble_eq_true rfl) (t40.rc (by decide)) ⟨_, rfl, H28, t40, (rd_cd.st H0 h_0_0 X43 R42.1 (by decide)), (R42.2.2.2.1 rd_at), (rd_bg.stn H0 h_0_0 X43 R42 (by decide) (by rw [c36]; omega) (by omega)), (by have ct := R42.2.2.1; rw [c36, c35, ct]; omega)⟩ (fun w44 σ45 q46 => ?_)
    obtain ⟨rfl, H47, e48, R49, q50⟩ := q46
    have t56 := t40.x e48
    obtain ⟨x51, e52, c53, h54, h55⟩ := cg242 H47.1 t56
    obtain ⟨x57, e58, c59, h60, h61⟩ := cg243 H47.1 t56
    have z62 := congrArg Int32.toInt c53
    have z63 := congrArg Int32.toInt c59
    refine k_st (st' := []) rfl ?_
    have R64 : RdC p0 none (-6) (2) (-1000) σ0 σ45 := R42.tr ⟨R49.1, R49.2⟩ (by omega) (by omega) (by omega) (by omega)
    have z65 := R64.2.2.1
    have z66 := R64.2.2.2.1 rd_at
    refine k_aload_n rfl ?_
    have t67 := h31.x e48
    have c68 := (h31.mi e48 (by decide)).trans q33
    refine k_get kg270 t67 (congrArg (Sum.inl : Int32 → AvC) c68) ?_
    refine k_bipush (m := 62) rfl (fun x69 h70 => ?_)
    refine k_ic_ne (fun h71 => ?_) (fun h71 => ?_)
    · refine hB _ _ _ _ (kgoC (is := KX7_readCase_32) rfl ?_)
      refine k_aload_n rfl ?_
      refine k_bipush (m := 6) rfl (fun x72 h73 => ?_)
      have X74 : ExC [0, 1, 2, 60, 61, 62, 63, 64, 65, 66, 67, 68, 69, 70, 72, 73, 74, 75, 76, 242, 243, 244, 270, 271, 272, 273, 279, 280, 999] σ0 σ45 := X43.tr (e48.mo (by decide))
      refine k_inv (P := P_X7_expect) (Q := Q_X7_expect) rfl rfl rfl rfl (Nat.le_of_ble_eq_true rfl) (t56.rc (by decide)) ⟨_, _, rfl, H47, t56, (by omega), (by omega), (rd_cd.st H0 h_0_0 X74 R64.1 (by decide)), (R64.2.2.2.1 rd_at), (rd_bg.st H0 h_0_0 X74 R64 (by decide) (by omega) (by omega) (by omega))⟩ (fun w75 σ76 q77 => ?_)
      obtain ⟨rfl, H78, e79, R80, q81⟩ := q77
      have t87 := t56.x e79
      obtain ⟨x82, e83, c84, h85, h86⟩ := cg242 H78.1 t87
      obtain ⟨x88, e89, c90, h91, h92⟩ := cg243 H78.1 t87
      have z93 := congrArg Int32.toInt c84
      have z94 := congrArg Int32.toInt c90
      refine k_st (st' := []) rfl ?_
      have R95 : RdC p0 none (-14) (2) (-1000) σ0 σ76 := R64.tr ⟨R80.1, R80.2⟩ (by omega) (by omega) (by omega) (by omega)
      have z96 := R95.2.2.1
      have z97 := R95.2.2.2.1 rd_at
      refine k_aload_n rfl ?_
      refine k_areturn ?_
      have X98 : ExC [0, 1, 2, 60, 61, 62, 63, 64, 65, 66, 67, 68, 69, 70, 72, 73, 74, 75, 76, 242, 243, 244, 270, 271, 272, 273, 279, 280, 999] σ0 σ76 := X74.tr (e79.mo (by decide))
      have t99 := t67.x e79
      have c100 := (h31.mi e48 (by decide)).trans q34
      have c101 := (t67.mi e79 (by decide)).trans c100
      have c102 := (t67.mi e79 (by decide)).trans c68
      exact ⟨_, rfl, H78, X98, t99, (R95.mo (by omega) (by omega) (by omega)), (by omega), (by rw [c101] <;> omega), (by rw [c102] <;> omega)⟩
    · refine k_nil ?_
      refine hB _ _ _ _ (kgoC (is := KX7_readCase_23) rfl ?_)
      refine k_aload_n rfl ?_
      refine k_aload_n rfl ?_
      refine k_iload_n rfl ?_
      have X103 : ExC [0, 1, 2, 60, 61, 62, 63, 64, 65, 66, 67, 68, 69, 70, 72, 73, 74, 75, 76, 242, 243, 244, 270, 271, 272, 273, 279, 280, 999] σ0 σ45 := X43.tr (e48.mo (by decide))
      refine k_inv (P := (P_X7_readExp d)) (Q := (Q_X7_readExp d)) rfl rfl rfl rfl (Nat.le_of_ble_eq_true rfl) (t56.rc (by decide)) ⟨_, _, rfl, H47, t56, (by omega), (by omega), (rd_cd.st H0 h_0_0 X103 R64.1 (by decide)), (R64.2.2.2.1 rd_at), (rd_bg.st H0 h_0_0 X103 R64 (by decide) (by omega) (by omega) (by omega)), (by omega)⟩ (fun w104 σ105 q106 => ?_)
      obtain ⟨a107, rfl, H108, e109, h111, R110, q112⟩ := q106
      have t118 := t56.x e109
      obtain ⟨x113, e114, c115, h116, h117⟩ := cg242 H108.1 t118
      obtain ⟨x119, e120, c121, h122, h123⟩ := cg243 H108.1 t118
      have z124 := congrArg Int32.toInt c115
      have z125 := congrArg Int32.toInt c121
      refine k_st (st' := [.inr (.inr (some a107)), .inr (.inr (some a27))]) rfl ?_
      have z126 := R64.1.1
      have R127 : RdC p0 none (-6) (14 + 8 * (d : Int)) (-999) σ0 σ105 := R64.tr ⟨R110.1, R110.2⟩ (by omega) (by omega) (by omega) (by omega)
      have z128 := R127.2.2.1
      have z129 := R127.2.2.2.1 rd_at
      have t130 := t67.x e109
      refine k_putR kp279 H108 t130 fk279 (rf279 h111) (fun σ131 H132 e133 c134 => ?_)
      refine k_nil ?_
      refine hB _ _ _ _ (kgoC (is := KX7_readCase_32) rfl ?_)
      refine k_aload_n rfl ?_
      refine k_bipush (m := 6) rfl (fun x135 h136 => ?_)
      have t137 := t118.x e133
      have R138 : RdC p0 none (-6) (14 + 8 * (d : Int)) (-999) σ0 σ131 := R127.tr ⟨(e133.gw H108.1 (by decide)), (e133.cou (u := 0) H108.1 t118 (by decide) (by rw [e133.cn (by decide)]; omega))⟩ (by omega) (by omega) (by omega) (by omega)
      have c139 := (t118.mi e133 (by decide)).trans c121
      have X140 : ExC [0, 1, 2, 60, 61, 62, 63, 64, 65, 66, 67, 68, 69, 70, 72, 73, 74, 75, 76, 242, 243, 244, 270, 271, 272, 273, 279, 280, 999] σ0 σ105 := X103.tr (e109.mo (by decide))
      have X141 : ExC [0, 1, 2, 60, 61, 62, 63, 64, 65, 66, 67, 68, 69, 70, 72, 73, 74, 75, 76, 242, 243, 244, 270, 271, 272, 273, 279, 280, 999] σ0 σ131 := X140.tr (e133.mo (by decide))
      have c142 := (t118.mi e133 (by decide)).trans c115
      have z143 := congrArg Int32.toInt c142
      have z144 := congrArg Int32.toInt c139
      refine k_inv (P := P_X7_expect) (Q := Q_X7_expect) rfl rfl rfl rfl (Nat.le_of_ble_eq_true rfl) (t137.rc (by decide)) ⟨_, _, rfl, H132, t137, (by omega), (by omega), (rd_cd.st H0 h_0_0 X141 R138.1 (by decide)), (R138.2.2.2.1 rd_at), (rd_bg.st H0 h_0_0 X141 R138 (by decide) (by omega) (by omega) (by omega))⟩ (fun w145 σ146 q147 => ?_)
      obtain ⟨rfl, H148, e149, R150, q151⟩ := q147
      have t157 := t137.x e149
      obtain ⟨x152, e153, c154, h155, h156⟩ := cg242 H148.1 t157
      obtain ⟨x158, e159, c160, h161, h162⟩ := cg243 H148.1 t157
      have z163 := congrArg Int32.toInt c154
      have z164 := congrArg Int32.toInt c160
      refine k_st (st' := []) rfl ?_
      have R165 : RdC p0 none (-14) (14 + 8 * (d : Int)) (-999) σ0 σ146 := R138.tr ⟨R150.1, R150.2⟩ (by omega) (by omega) (by omega) (by omega)
      have z166 := R165.2.2.1
      have z167 := R165.2.2.2.1 rd_at
      refine k_aload_n rfl ?_
      refine k_areturn ?_
      have X168 : ExC [0, 1, 2, 60, 61, 62, 63, 64, 65, 66, 67, 68, 69, 70, 72, 73, 74, 75, 76, 242, 243, 244, 270, 271, 272, 273, 279, 280, 999] σ0 σ146 := X141.tr (e149.mo (by decide))
      have t169 := t130.x e133
      have t170 := t169.x e149
      have c171 := (h31.mi e48 (by decide)).trans q34
      have c172 := (t67.mi e109 (by decide)).trans c171
      have c173 := (t130.mi e133 (by decide)).trans c172
      have c174 := (t169.mi e149 (by decide)).trans c173
      have c175 := (t67.mi e109 (by decide)).trans c68
      have c176 := (t130.mi e133 (by decide)).trans c175
      have c177 := (t169.mi e149 (by decide)).trans c176
      exact ⟨_, rfl, H148, X168, t170, (R165.mo (by omega) (by omega) (by omega)), (by omega), (by rw [c174] <;> omega), (by rw [c177] <;> omega)⟩

set_option maxRecDepth 100000 in
set_option maxHeartbeats 4000000 in
theorem s_X7_readInner (l : Launch) (d : Nat) (h_X7_readStatement : CMetC l (13 * d + 40) 149 (P_X7_readStatement d) (Q_X7_readStatement d)) : CMetC l (13 * (d + 1) + 37) 148 (P_X7_readInner (d + 1)) (Q_X7_readInner (d + 1)) := by
  refine CMetC.of KX7_readInner [(149, (P_X7_readStatement d), (Q_X7_readStatement d))] hX7_readInner (by decide) (by omega) okX7_readInner (cc1C h_X7_readStatement (by omega) cc0C) ?_ ?_
  · rintro As σ ⟨p0, p1, p2, rfl, -⟩
    exact Nat.le_of_ble_eq_true rfl
  · rintro As σ0 ⟨p0, p1, p2, rfl, H0, h_0_0, h_1_0, h_2_0, h_2_1, rd_cd, rd_at, rd_bg, rd_dp⟩ hgr G hB hW
    change G 0 [(0, .inr (.inr (some p0))), (1, .inr (.inr (some p1))), (2, .inl p2)] [] σ0
    obtain ⟨x1, e2, c3, h4, h5⟩ := cg242 H0.1 h_0_0
    obtain ⟨x6, e7, c8, h9, h10⟩ := cg243 H0.1 h_0_0
    have z11 := congrArg Int32.toInt c3
    have z12 := congrArg Int32.toInt c8
    refine hB _ _ _ _ (kgoC (is := KX7_readInner_0) rfl ?_)
    refine k_aload_n rfl ?_
    obtain ⟨o15, e13, c14, t16⟩ := cg246 H0.1 h_0_0
    refine k_get kg246 h_0_0 e13 ?_
    refine k_astore_n (ls' := [(3, .inr (.inr o15)), (0, .inr (.inr (some p0))), (1, .inr (.inr (some p1))), (2, .inl p2)]) rfl ?_
    refine k_aload_n rfl ?_
    refine k_aload_n rfl ?_
    refine k_putR kp246 H0 h_0_0 fk246 (rf246 h_1_0) (fun σ17 H18 e19 c20 => ?_)
    refine k_aload_n rfl ?_
    refine k_iload_n rfl ?_
    refine k_iconst (m := 1) rfl (fun x21 h22 => ?_)
    refine k_iadd (by omega) (by omega) (fun x23 h24 => ?_)
    have t25 := h_0_0.x e19
    have R26 : RdC p0 none (0) (0) (0) σ0 σ17 := (RdC.rf : RdC p0 none 0 0 0 σ0 σ0).tr ⟨(e19.gw H0.1 (by decide)), (e19.cou (u := 0) H0.1 h_0_0 (by decide) (by rw [e19.cn (by decide)]; omega))⟩ (by omega) (by omega) (by omega) (by omega)
    have c27 := (h_0_0.mi e19 (by decide)).trans c8
    have X28 : ExC [0, 1, 2, 60, 61, 62, 63, 64, 65, 66, 67, 68, 69, 70, 72, 73, 74, 75, 76, 242, 243, 244, 246, 270, 271, 272, 273, 275, 276, 277, 278, 279, 280, 330, 331, 332, 333, 334, 999] σ0 σ17 := ExC.rf.tr (e19.mo (by decide))
    have c29 := (h_0_0.mi e19 (by decide)).trans c3
    have z30 := congrArg Int32.toInt c29
    have z31 := congrArg Int32.toInt c27
    refine k_inv (P := (P_X7_readStatement d)) (Q := (Q_X7_readStatement d)) rfl rfl rfl rfl (Nat.le_of_ble_eq_true rfl) (t25.rc (by decide)) ⟨_, _, rfl, H18, t25, (by omega), (by omega), (rd_cd.st H0 h_0_0 X28 R26.1 (by decide)), (R26.2.2.2.1 rd_at), (rd_bg.st H0 h_0_0 X28 R26 (by decide) (by omega) (by omega) (by omega)), (by omega)⟩ (fun w32 σ33 q34 => ?_)
    obtain ⟨a35, rfl, H36, e37, h39, R38, q40, q41, q42⟩ := q34
    have t48 := t25.x e37
    obtain ⟨x43, e44, c45, h46, h47⟩ := cg242 H36.1 t48
    obtain ⟨x49, e50, c51, h52, h53⟩ := cg243 H36.1 t48
    have z54 := congrArg Int32.toInt c45
    have z55 := congrArg Int32.toInt c51
    refine k_st (st' := [.inr (.inr (some a35))]) rfl ?_
    have z56 := R26.1.1
    obtain ⟨x57, e58, c59, h60, h61⟩ := cg272 H36.1 h39
    rw [c59] at q41
    obtain ⟨x62, e63, c64, h65, h66⟩ := cg270 H36.1 h39
    rw [c64] at q42
    have R67 : RdC p0 none (0) (24 + 8 * (d : Int)) (3) σ0 σ33 := R26.tr ⟨R38.1, R38.2⟩ (by omega) (by omega) (by omega) (by omega)
    have z68 := R67.2.2.1
    have z69 := R67.2.2.2.1 rd_at
    refine k_astore (ls' := [(4, .inr (.inr (some a35))), (3, .inr (.inr o15)), (0, .inr (.inr (some p0))), (1, .inr (.inr (some p1))), (2, .inl p2)]) rfl ?_
    refine k_aload_n rfl ?_
    refine k_aload_n rfl ?_
    have t74 := t16.x e19
    have t75 := t74.x e37
    refine k_putR kp246 H36 t48 fk246 (rfo246 (t75)) (fun σ70 H71 e72 c73 => ?_)
    refine k_aload rfl ?_
    refine k_areturn ?_
    have X76 : ExC [0, 1, 2, 60, 61, 62, 63, 64, 65, 66, 67, 68, 69, 70, 72, 73, 74, 75, 76, 242, 243, 244, 246, 270, 271, 272, 273, 275, 276, 277, 278, 279, 280, 330, 331, 332, 333, 334, 999] σ0 σ33 := X28.tr (e37.mo (by decide))
    have X77 : ExC [0, 1, 2, 60, 61, 62, 63, 64, 65, 66, 67, 68, 69, 70, 72, 73, 74, 75, 76, 242, 243, 244, 246, 270, 271, 272, 273, 275, 276, 277, 278, 279, 280, 330, 331, 332, 333, 334, 999] σ0 σ70 := X76.tr (e72.mo (by decide))
    have t78 := h39.x e72
    have R79 : RdC p0 none (0) (24 + 8 * (d : Int)) (3) σ0 σ70 := R67.tr ⟨(e72.gw H36.1 (by decide)), (e72.cou (u := 0) H36.1 t48 (by decide) (by rw [e72.cn (by decide)]; omega))⟩ (by omega) (by omega) (by omega) (by omega)
    have c80 := (t48.mi e72 (by decide)).trans c51
    have c81 := (t48.mi e72 (by decide)).trans c45
    have c82 := (h39.mi e72 (by decide)).trans c59
    have c83 := (h39.mi e72 (by decide)).trans c64
    exact ⟨_, rfl, H71, X77, t78, (R79.mo (by omega) (by omega) (by omega)), (by omega), (by rw [c82] <;> omega), (by rw [c83] <;> omega)⟩

set_option maxRecDepth 100000 in
set_option maxHeartbeats 4000000 in
theorem s_X7_readBlock (l : Launch) (d : Nat) (h_X7_readRow : CMetC l (13 * d + 42) 145 (P_X7_readRow d) (Q_X7_readRow d)) : CMetC l (13 * (d + 1) + 37) 144 (P_X7_readBlock (d + 1)) (Q_X7_readBlock (d + 1)) := by
  refine CMetC.of KX7_readBlock [(129, P_X7_expect, Q_X7_expect), (145, (P_X7_readRow d), (Q_X7_readRow d))] hX7_readBlock (by decide) (by omega) okX7_readBlock (cc1C (m_X7_expect l) (by omega) (cc1C h_X7_readRow (by omega) cc0C)) ?_ ?_
  · rintro As σ ⟨p0, p1, p2, rfl, -⟩
    exact Nat.le_of_ble_eq_true rfl
  · rintro As σ0 ⟨p0, p1, p2, rfl, H0, h_0_0, h_1_0, h_2_0, h_2_1, rd_cd, rd_at, rd_bg, rd_dp, q_0, q_1⟩ hgr G hB hW
    change G 0 [(0, .inr (.inr (some p0))), (1, .inr (.inr (some p1))), (2, .inl p2)] [] σ0
    obtain ⟨x1, e2, c3, h4, h5⟩ := cg242 H0.1 h_0_0
    obtain ⟨x6, e7, c8, h9, h10⟩ := cg243 H0.1 h_0_0
    have z11 := congrArg Int32.toInt c3
    have z12 := congrArg Int32.toInt c8
    obtain ⟨x13, e14, c15, h16, h17⟩ := cg270 H0.1 h_1_0
    have h18 : ¬ x13.toInt = 68 := by rw [← c15]; exact q_0
    obtain ⟨x19, e20, c21, h22, h23⟩ := cg272 H0.1 h_1_0
    have h24 : x19.toInt = p2.toInt := by rw [← c21]; exact q_1
    refine hB _ _ _ _ (kgoC (is := KX7_readBlock_0) rfl ?_)
    refine k_aload_n rfl ?_
    obtain ⟨o27, e25, c26, t28⟩ := cg246 H0.1 h_0_0
    refine k_get kg246 h_0_0 e25 ?_
    refine k_astore_n (ls' := [(3, .inr (.inr o27)), (0, .inr (.inr (some p0))), (1, .inr (.inr (some p1))), (2, .inl p2)]) rfl ?_
    refine k_aload_n rfl ?_
    obtain ⟨y31, e29, c30⟩ := cg245 (σ := σ0) (a := p0)
    refine k_get kg245 h_0_0 e29 ?_
    refine k_lstore (ls' := [(4, .inr (.inl y31)), (3, .inr (.inr o27)), (0, .inr (.inr (some p0))), (1, .inr (.inr (some p1))), (2, .inl p2)]) rfl ?_
    refine k_aload_n rfl ?_
    refine k_aload_n rfl ?_
    refine k_putR kp246 H0 h_0_0 fk246 (rf246 h_1_0) (fun σ32 H33 e34 c35 => ?_)
    refine k_aload_n rfl ?_
    refine k_iconst (m := 2) rfl (fun x36 h37 => ?_)
    have t38 := h_0_0.x e34
    have R39 : RdC p0 none (0) (0) (0) σ0 σ32 := (RdC.rf : RdC p0 none 0 0 0 σ0 σ0).tr ⟨(e34.gw H0.1 (by decide)), (e34.cou (u := 0) H0.1 h_0_0 (by decide) (by rw [e34.cn (by decide)]; omega))⟩ (by omega) (by omega) (by omega) (by omega)
    have c40 := (h_0_0.mi e34 (by decide)).trans c8
    have X41 : ExC [0, 1, 2, 60, 61, 62, 63, 64, 65, 66, 67, 68, 69, 70, 72, 73, 74, 75, 76, 242, 243, 244, 246, 270, 271, 272, 273, 275, 276, 277, 278, 279, 280, 330, 331, 332, 333, 334, 999] σ0 σ32 := ExC.rf.tr (e34.mo (by decide))
    have c42 := (h_0_0.mi e34 (by decide)).trans c3
    have z43 := congrArg Int32.toInt c42
    have z44 := congrArg Int32.toInt c40
    refine k_inv (P := P_X7_expect) (Q := Q_X7_expect) rfl rfl rfl rfl (Nat.le_of_ble_eq_true rfl) (t38.rc (by decide)) ⟨_, _, rfl, H33, t38, (by omega), (by omega), (rd_cd.st H0 h_0_0 X41 R39.1 (by decide)), (R39.2.2.2.1 rd_at), (rd_bg.st H0 h_0_0 X41 R39 (by decide) (by omega) (by omega) (by omega))⟩ (fun w45 σ46 q47 => ?_)
    obtain ⟨rfl, H48, e49, R50, q51⟩ := q47
    have t57 := t38.x e49
    obtain ⟨x52, e53, c54, h55, h56⟩ := cg242 H48.1 t57
    obtain ⟨x58, e59, c60, h61, h62⟩ := cg243 H48.1 t57
    have z63 := congrArg Int32.toInt c54
    have z64 := congrArg Int32.toInt c60
    refine k_st (st' := []) rfl ?_
    have R65 : RdC p0 none (-8) (0) (0) σ0 σ46 := R39.tr ⟨R50.1, R50.2⟩ (by omega) (by omega) (by omega) (by omega)
    have z66 := R65.2.2.1
    have z67 := R65.2.2.2.1 rd_at
    refine k_aload_n rfl ?_
    refine k_aload_n rfl ?_
    refine k_iload_n rfl ?_
    refine k_iconst (m := 1) rfl (fun x68 h69 => ?_)
    refine k_iadd (by omega) (by omega) (fun x70 h71 => ?_)
    refine k_iconst (m := 0) rfl (fun x72 h73 => ?_)
    have X74 : ExC [0, 1, 2, 60, 61, 62, 63, 64, 65, 66, 67, 68, 69, 70, 72, 73, 74, 75, 76, 242, 243, 244, 246, 270, 271, 272, 273, 275, 276, 277, 278, 279, 280, 330, 331, 332, 333, 334, 999] σ0 σ46 := X41.tr (e49.mo (by decide))
    refine k_inv (P := (P_X7_readRow d)) (Q := (Q_X7_readRow d)) rfl rfl rfl rfl (Nat.le_of_ble_eq_true rfl) (t57.rc (by decide)) ⟨_, _, _, rfl, H48, t57, (by omega), (by omega), (by omega), (by omega), (rd_cd.st H0 h_0_0 X74 R65.1 (by decide)), (R65.2.2.2.1 rd_at), (rd_bg.st H0 h_0_0 X74 R65 (by decide) (by omega) (by omega) (by omega)), (by omega)⟩ (fun w75 σ76 q77 => ?_)
    obtain ⟨o78, rfl, H79, e80, h82, R81, q83⟩ := q77
    have t89 := t57.x e80
    obtain ⟨x84, e85, c86, h87, h88⟩ := cg242 H79.1 t89
    obtain ⟨x90, e91, c92, h93, h94⟩ := cg243 H79.1 t89
    have z95 := congrArg Int32.toInt c86
    have z96 := congrArg Int32.toInt c92
    refine k_st (st' := [.inr (.inr o78), .inr (.inr (some p1))]) rfl ?_
    have R97 : RdC p0 none (-8) (16 + 8 * (d : Int)) (0) σ0 σ76 := R65.tr ⟨R81.1, R81.2⟩ (by omega) (by omega) (by omega) (by omega)
    have z98 := R97.2.2.1
    have z99 := R97.2.2.2.1 rd_at
    have c100 := (h_1_0.mi e34 (by decide)).trans c15
    have t101 := h_1_0.x e34
    have c102 := (t101.mi e49 (by decide)).trans c100
    have t103 := t101.x e49
    have c104 := (t103.fi e80 (by decide) (by decide)).trans c102
    have c105 := (h_1_0.mi e34 (by decide)).trans c21
    have c106 := (t101.mi e49 (by decide)).trans c105
    have c107 := (t103.fi e80 (by decide) (by decide)).trans c106
    have z112 := t103.1
    have t113 := t103.x e80
    refine k_p276 H79 t113 (h82) (fun z hz => by have hf := q83 z hz; exact ⟨by omega, by unfold LvC; rw [c104, c107]; omega⟩) (fun σ108 H109 e110 c111 => ?_)
    refine k_aload_n rfl ?_
    refine k_iconst (m := 3) rfl (fun x114 h115 => ?_)
    have t116 := t89.x e110
    have R117 : RdC p0 none (-8) (16 + 8 * (d : Int)) (0) σ0 σ108 := R97.tr ⟨(e110.gw H79.1 (by decide)), (e110.cou (u := 0) H79.1 t89 (by decide) (by rw [e110.cn (by decide)]; omega))⟩ (by omega) (by omega) (by omega) (by omega)
    have c118 := (t89.mi e110 (by decide)).trans c92
    have X119 : ExC [0, 1, 2, 60, 61, 62, 63, 64, 65, 66, 67, 68, 69, 70, 72, 73, 74, 75, 76, 242, 243, 244, 246, 270, 271, 272, 273, 275, 276, 277, 278, 279, 280, 330, 331, 332, 333, 334, 999] σ0 σ76 := X74.tr (e80.mo (by decide))
    have X120 : ExC [0, 1, 2, 60, 61, 62, 63, 64, 65, 66, 67, 68, 69, 70, 72, 73, 74, 75, 76, 242, 243, 244, 246, 270, 271, 272, 273, 275, 276, 277, 278, 279, 280, 330, 331, 332, 333, 334, 999] σ0 σ108 := X119.tr (e110.mo (by decide))
    have c121 := (t89.mi e110 (by decide)).trans c86
    have z122 := congrArg Int32.toInt c121
    have z123 := congrArg Int32.toInt c118
    refine k_inv (P := P_X7_expect) (Q := Q_X7_expect) rfl rfl rfl rfl (Nat.le_of_ble_eq_true rfl) (t116.rc (by decide)) ⟨_, _, rfl, H109, t116, (by omega), (by omega), (rd_cd.st H0 h_0_0 X120 R117.1 (by decide)), (R117.2.2.2.1 rd_at), (rd_bg.st H0 h_0_0 X120 R117 (by decide) (by omega) (by omega) (by omega))⟩ (fun w124 σ125 q126 => ?_)
    obtain ⟨rfl, H127, e128, R129, q130⟩ := q126
    have t136 := t116.x e128
    obtain ⟨x131, e132, c133, h134, h135⟩ := cg242 H127.1 t136
    obtain ⟨x137, e138, c139, h140, h141⟩ := cg243 H127.1 t136
    have z142 := congrArg Int32.toInt c133
    have z143 := congrArg Int32.toInt c139
    refine k_st (st' := []) rfl ?_
    have R144 : RdC p0 none (-16) (16 + 8 * (d : Int)) (0) σ0 σ125 := R117.tr ⟨R129.1, R129.2⟩ (by omega) (by omega) (by omega) (by omega)
    have z145 := R144.2.2.1
    have z146 := R144.2.2.2.1 rd_at
    refine k_aload_n rfl ?_
    refine k_lload rfl ?_
    refine k_putL kg245 H127 t136 fk245 (fun σ147 H148 e149 c150 => ?_)
    refine k_aload_n rfl ?_
    refine k_aload_n rfl ?_
    have t151 := t136.x e149
    have t156 := t28.x e34
    have t157 := t156.x e49
    have t158 := t157.x e80
    have t159 := t158.x e110
    have t160 := t159.x e128
    have t161 := t160.x e149
    refine k_putR kp246 H148 t151 fk246 (rfo246 (t161)) (fun σ152 H153 e154 c155 => ?_)
    refine k_return ?_
    have X162 : ExC [0, 1, 2, 60, 61, 62, 63, 64, 65, 66, 67, 68, 69, 70, 72, 73, 74, 75, 76, 242, 243, 244, 246, 270, 271, 272, 273, 275, 276, 277, 278, 279, 280, 330, 331, 332, 333, 334, 999] σ0 σ125 := X120.tr (e128.mo (by decide))
    have X163 : ExC [0, 1, 2, 60, 61, 62, 63, 64, 65, 66, 67, 68, 69, 70, 72, 73, 74, 75, 76, 242, 243, 244, 246, 270, 271, 272, 273, 275, 276, 277, 278, 279, 280, 330, 331, 332, 333, 334, 999] σ0 σ147 := X162.tr (e149.mo (by decide))
    have X164 : ExC [0, 1, 2, 60, 61, 62, 63, 64, 65, 66, 67, 68, 69, 70, 72, 73, 74, 75, 76, 242, 243, 244, 246, 270, 271, 272, 273, 275, 276, 277, 278, 279, 280, 330, 331, 332, 333, 334, 999] σ0 σ152 := X163.tr (e154.mo (by decide))
    have R165 : RdC p0 none (-16) (16 + 8 * (d : Int)) (0) σ0 σ147 := R144.tr ⟨(e149.gw H127.1 (by decide)), (e149.cou (u := 0) H127.1 t136 (by decide) (by rw [e149.cn (by decide)]; omega))⟩ (by omega) (by omega) (by omega) (by omega)
    have R166 : RdC p0 none (-16) (16 + 8 * (d : Int)) (0) σ0 σ152 := R165.tr ⟨(e154.gw H148.1 (by decide)), (e154.cou (u := 0) H148.1 t151 (by decide) (by rw [e154.cn (by decide)]; omega))⟩ (by omega) (by omega) (by omega) (by omega)
    have c167 := (t136.mi e149 (by decide)).trans c139
    have c168 := (t151.mi e154 (by decide)).trans c167
    have c169 := (t136.mi e149 (by decide)).trans c133
    have c170 := (t151.mi e154 (by decide)).trans c169
    exact ⟨rfl, H153, X164, (R166.mo (by omega) (by omega) (by omega))⟩

set_option maxRecDepth 100000 in
set_option maxHeartbeats 4000000 in
theorem s_X7_readBody (l : Launch) (d : Nat) (h_X7_readBlock : CMetC l (13 * d + 37) 144 (P_X7_readBlock d) (Q_X7_readBlock d)) : CMetC l (13 * d + 38) 143 (P_X7_readBody d) (Q_X7_readBody d) := by
  refine CMetC.of KX7_readBody [(142, P_X7_begin, Q_X7_begin), (144, (P_X7_readBlock d), (Q_X7_readBlock d))] hX7_readBody (by decide) (by omega) okX7_readBody (cc1C (m_X7_begin l) (by omega) (cc1C h_X7_readBlock (by omega) cc0C)) ?_ ?_
  · rintro As σ ⟨p0, p1, rfl, -⟩
    exact Nat.le_of_ble_eq_true rfl
  · rintro As σ0 ⟨p0, p1, rfl, H0, h_0_0, h_1_0, h_1_1, rd_cd, rd_at, rd_bg, rd_dp⟩ hgr G hB hW
    change G 0 [(0, .inr (.inr (some p0))), (1, .inl p1)] [] σ0
    obtain ⟨x1, e2, c3, h4, h5⟩ := cg242 H0.1 h_0_0
    obtain ⟨x6, e7, c8, h9, h10⟩ := cg243 H0.1 h_0_0
    have z11 := congrArg Int32.toInt c3
    have z12 := congrArg Int32.toInt c8
    refine hB _ _ _ _ (kgoC (is := KX7_readBody_0) rfl ?_)
    refine k_aload_n rfl ?_
    refine k_bipush (m := 92) rfl (fun x13 h14 => ?_)
    refine k_iload_n rfl ?_
    refine k_inv (P := P_X7_begin) (Q := Q_X7_begin) rfl rfl rfl rfl (Nat.le_of_ble_eq_true rfl) (h_0_0.rc (by decide)) ⟨_, _, _, rfl, H0, h_0_0, (by omega), (by omega), (rd_cd.st H0 h_0_0 (ExC.rf : ExC [0, 1, 2, 60, 61, 62, 63, 64, 65, 66, 67, 68, 69, 70, 72, 73, 74, 75, 76, 242, 243, 244, 246, 270, 271, 272, 273, 275, 276, 277, 278, 279, 280, 330, 331, 332, 333, 334, 999] σ0 σ0) (RdC.rf : RdC p0 none 0 0 0 σ0 σ0).1 (by decide)), ((RdC.rf : RdC p0 none 0 0 0 σ0 σ0).2.2.2.1 rd_at), (rd_bg.st H0 h_0_0 (ExC.rf : ExC [0, 1, 2, 60, 61, 62, 63, 64, 65, 66, 67, 68, 69, 70, 72, 73, 74, 75, 76, 242, 243, 244, 246, 270, 271, 272, 273, 275, 276, 277, 278, 279, 280, 330, 331, 332, 333, 334, 999] σ0 σ0) (RdC.rf : RdC p0 none 0 0 0 σ0 σ0) (by decide) (by omega) (by omega) (by omega)), (by omega)⟩ (fun w15 σ16 q17 => ?_)
    obtain ⟨a18, rfl, H19, e20, h22, R21, q23, q24, q25⟩ := q17
    have c26 := (h_0_0.mi e20 (by decide)).trans c3
    have c27 := (h_0_0.mi e20 (by decide)).trans c8
    have z28 := congrArg Int32.toInt c26
    have z29 := congrArg Int32.toInt c27
    refine k_st (st' := [.inr (.inr (some a18))]) rfl ?_
    have z30 := (RdC.rf : RdC p0 none 0 0 0 σ0 σ0).1.1
    refine k_astore_n (ls' := [(2, .inr (.inr (some a18))), (0, .inr (.inr (some p0))), (1, .inl p1)]) rfl ?_
    refine k_aload_n rfl ?_
    refine k_aload_n rfl ?_
    refine k_iload_n rfl ?_
    have t31 := h_0_0.x e20
    have R32 : RdC p0 none (2) (2) (2) σ0 σ16 := (RdC.rf : RdC p0 none 0 0 0 σ0 σ0).tr ⟨R21.1, R21.2⟩ (by omega) (by omega) (by omega) (by omega)
    have X33 : ExC [0, 1, 2, 60, 61, 62, 63, 64, 65, 66, 67, 68, 69, 70, 72, 73, 74, 75, 76, 242, 243, 244, 246, 270, 271, 272, 273, 275, 276, 277, 278, 279, 280, 330, 331, 332, 333, 334, 999] σ0 σ16 := ExC.rf.tr (e20.mo (by decide))
    refine k_inv (P := (P_X7_readBlock d)) (Q := (Q_X7_readBlock d)) rfl rfl rfl rfl (Nat.le_of_ble_eq_true rfl) (t31.rc (by decide)) ⟨_, _, _, rfl, H19, t31, h22, (by omega), (by omega), (rd_cd.st H0 h_0_0 X33 R32.1 (by decide)), (R32.2.2.2.1 rd_at), (rd_bg.st H0 h_0_0 X33 R32 (by decide) (by omega) (by omega) (by omega)), (by omega), (by rw [q24] <;> omega), (by rw [q25] <;> omega)⟩ (fun w34 σ35 q36 => ?_)
    obtain ⟨rfl, H37, e38, R39⟩ := q36
    have t45 := t31.x e38
    obtain ⟨x40, e41, c42, h43, h44⟩ := cg242 H37.1 t45
    obtain ⟨x46, e47, c48, h49, h50⟩ := cg243 H37.1 t45
    have z51 := congrArg Int32.toInt c42
    have z52 := congrArg Int32.toInt c48
    refine k_st (st' := []) rfl ?_
    have R53 : RdC p0 none (-6) (18 + 8 * (d : Int)) (2) σ0 σ35 := R32.tr ⟨R39.1, R39.2⟩ (by omega) (by omega) (by omega) (by omega)
    have z54 := R53.2.2.1
    have z55 := R53.2.2.2.1 rd_at
    refine k_aload_n rfl ?_
    refine k_areturn ?_
    have X56 : ExC [0, 1, 2, 60, 61, 62, 63, 64, 65, 66, 67, 68, 69, 70, 72, 73, 74, 75, 76, 242, 243, 244, 246, 270, 271, 272, 273, 275, 276, 277, 278, 279, 280, 330, 331, 332, 333, 334, 999] σ0 σ35 := X33.tr (e38.mo (by decide))
    have t57 := h22.x e38
    have c58 := (h22.fi e38 (by decide) (by decide)).trans q25
    have c59 := (h22.fi e38 (by decide) (by decide)).trans q24
    exact ⟨_, rfl, H37, X56, t57, (R53.mo (by omega) (by omega) (by omega)), (by omega), (by rw [c58] <;> omega), (by rw [c59] <;> omega)⟩

set_option maxRecDepth 100000 in
set_option maxHeartbeats 4000000 in
theorem s_X7_readIf (l : Launch) (d : Nat) (h_X7_readCondition : CMetC l (13 * d + 37) 153 (P_X7_readCondition d) (Q_X7_readCondition d)) (h_X7_readInner : CMetC l (13 * d + 37) 148 (P_X7_readInner d) (Q_X7_readInner d)) : CMetC l (13 * d + 38) 154 (P_X7_readIf d) (Q_X7_readIf d) := by
  refine CMetC.of KX7_readIf [(142, P_X7_begin, Q_X7_begin), (128, P_X7_accept, Q_X7_accept), (153, (P_X7_readCondition d), (Q_X7_readCondition d)), (148, (P_X7_readInner d), (Q_X7_readInner d)), (130, P_X7_takes, Q_X7_takes)] hX7_readIf (by decide) (by omega) okX7_readIf (cc1C (m_X7_begin l) (by omega) (cc1C (m_X7_accept l) (by omega) (cc1C h_X7_readCondition (by omega) (cc1C h_X7_readInner (by omega) (cc1C (m_X7_takes l) (by omega) cc0C))))) ?_ ?_
  · rintro As σ ⟨p0, p1, rfl, -⟩
    exact Nat.le_of_ble_eq_true rfl
  · rintro As σ0 ⟨p0, p1, rfl, H0, h_0_0, h_1_0, h_1_1, rd_cd, rd_at, rd_bl, rd_lv, rd_tk, rd_dp⟩ hgr G hB hW
    change G 0 [(0, .inr (.inr (some p0))), (1, .inl p1)] [] σ0
    obtain ⟨x1, e2, c3, h4, h5⟩ := cg242 H0.1 h_0_0
    obtain ⟨x6, e7, c8, h9, h10⟩ := cg243 H0.1 h_0_0
    have z11 := congrArg Int32.toInt c3
    have z12 := congrArg Int32.toInt c8
    have h13 : x6.toInt = 0 := by rw [← c8]; exact rd_lv
    have rd_bg : BgC σ0 p0 (24 + 8 * (d : Int)) 1000000 := ⟨fun _ => rd_bl, fun z => absurd rd_lv z⟩
    refine hB _ _ _ _ (kgoC (is := KX7_readIf_0) rfl ?_)
    refine k_aload_n rfl ?_
    refine k_bipush (m := 56) rfl (fun x14 h15 => ?_)
    refine k_iload_n rfl ?_
    have R16 := (RdC.rf : RdC p0 none 0 0 0 σ0 σ0).nf (-1000) (-1000) (by rw [c8]; omega)
    refine k_inv (P := P_X7_begin) (Q := Q_X7_begin) rfl rfl rfl rfl (Nat.le_of_ble_eq_true rfl) (h_0_0.rc (by decide)) ⟨_, _, _, rfl, H0, h_0_0, (by omega), (by omega), (rd_cd.st H0 h_0_0 (ExC.rf : ExC [0, 1, 2, 60, 61, 62, 63, 64, 65, 66, 67, 68, 69, 70, 72, 73, 74, 75, 76, 242, 243, 244, 246, 270, 271, 272, 273, 275, 276, 277, 278, 279, 280, 330, 331, 332, 333, 334, 999] σ0 σ0) R16.1 (by decide)), (R16.2.2.2.1 rd_at), (rd_bg.stn H0 h_0_0 (ExC.rf : ExC [0, 1, 2, 60, 61, 62, 63, 64, 65, 66, 67, 68, 69, 70, 72, 73, 74, 75, 76, 242, 243, 244, 246, 270, 271, 272, 273, 275, 276, 277, 278, 279, 280, 330, 331, 332, 333, 334, 999] σ0 σ0) R16 (by decide) (by rw [c8]; omega) (by omega)), (by omega)⟩ (fun w17 σ18 q19 => ?_)
    obtain ⟨a20, rfl, H21, e22, h24, R23, q25, q26, q27⟩ := q19
    have c28 := (h_0_0.mi e22 (by decide)).trans c3
    have c29 := (h_0_0.mi e22 (by decide)).trans c8
    have z30 := congrArg Int32.toInt c28
    have z31 := congrArg Int32.toInt c29
    refine k_st (st' := [.inr (.inr (some a20))]) rfl ?_
    have z32 := R16.1.1
    refine k_astore_n (ls' := [(2, .inr (.inr (some a20))), (0, .inr (.inr (some p0))), (1, .inl p1)]) rfl ?_
    refine k_aload_n rfl ?_
    have t33 := h_0_0.x e22
    have R34 : RdC p0 none (2) (2) (-998) σ0 σ18 := R16.tr ⟨R23.1, R23.2⟩ (by omega) (by omega) (by omega) (by omega)
    have R35 := R34.nf (-1000) (-1000) (by rw [c29]; omega)
    have X36 : ExC [0, 1, 2, 60, 61, 62, 63, 64, 65, 66, 67, 68, 69, 70, 72, 73, 74, 75, 76, 242, 243, 244, 246, 270, 271, 272, 273, 275, 276, 277, 278, 279, 280, 330, 331, 332, 333, 334, 999] σ0 σ18 := ExC.rf.tr (e22.mo (by decide))
    refine k_inv (P := P_X7_accept) (Q := Q_X7_accept) rfl rfl rfl rfl (Nat.le_of_ble_eq_true rfl) (t33.rc (by decide)) ⟨_, rfl, H21, t33, (rd_cd.st H0 h_0_0 X36 R35.1 (by decide)), (R35.2.2.2.1 rd_at), (rd_bg.stn H0 h_0_0 X36 R35 (by decide) (by rw [c29]; omega) (by omega)), (by have ct := R35.2.2.1; rw [c29, c28, ct]; omega)⟩ (fun w37 σ38 q39 => ?_)
    obtain ⟨rfl, H40, e41, R42, q43⟩ := q39
    have t49 := t33.x e41
    obtain ⟨x44, e45, c46, h47, h48⟩ := cg242 H40.1 t49
    obtain ⟨x50, e51, c52, h53, h54⟩ := cg243 H40.1 t49
    have z55 := congrArg Int32.toInt c46
    have z56 := congrArg Int32.toInt c52
    refine k_st (st' := []) rfl ?_
    have R57 : RdC p0 none (-6) (2) (-1000) σ0 σ38 := R35.tr ⟨R42.1, R42.2⟩ (by omega) (by omega) (by omega) (by omega)
    have z58 := R57.2.2.1
    have z59 := R57.2.2.2.1 rd_at
    refine k_aload_n rfl ?_
    refine k_aload_n rfl ?_
    refine k_iload_n rfl ?_
    have t60 := h24.x e41
    have X61 : ExC [0, 1, 2, 60, 61, 62, 63, 64, 65, 66, 67, 68, 69, 70, 72, 73, 74, 75, 76, 242, 243, 244, 246, 270, 271, 272, 273, 275, 276, 277, 278, 279, 280, 330, 331, 332, 333, 334, 999] σ0 σ38 := X36.tr (e41.mo (by decide))
    refine k_inv (P := (P_X7_readCondition d)) (Q := (Q_X7_readCondition d)) rfl rfl rfl rfl (Nat.le_of_ble_eq_true rfl) (t49.rc (by decide)) ⟨_, _, _, rfl, H40, t49, t60, (by omega), (by omega), (rd_cd.st H0 h_0_0 X61 R57.1 (by decide)), (R57.2.2.2.1 rd_at), (rd_bg.st H0 h_0_0 X61 R57 (by decide) (by omega) (by omega) (by omega)), (by omega)⟩ (fun w62 σ63 q64 => ?_)
    obtain ⟨rfl, H65, e66, R67⟩ := q64
    have t73 := t49.x e66
    obtain ⟨x68, e69, c70, h71, h72⟩ := cg242 H65.1 t73
    obtain ⟨x74, e75, c76, h77, h78⟩ := cg243 H65.1 t73
    have z79 := congrArg Int32.toInt c70
    have z80 := congrArg Int32.toInt c76
    refine k_st (st' := []) rfl ?_
    have R81 : RdC p0 none (-6) (14 + 8 * (d : Int)) (-999) σ0 σ63 := R57.tr ⟨R67.1, R67.2⟩ (by omega) (by omega) (by omega) (by omega)
    have z82 := R81.2.2.1
    have z83 := R81.2.2.2.1 rd_at
    refine k_aload_n rfl ?_
    refine k_aload_n rfl ?_
    refine k_aload_n rfl ?_
    refine k_iload_n rfl ?_
    have t84 := t60.x e66
    have X85 : ExC [0, 1, 2, 60, 61, 62, 63, 64, 65, 66, 67, 68, 69, 70, 72, 73, 74, 75, 76, 242, 243, 244, 246, 270, 271, 272, 273, 275, 276, 277, 278, 279, 280, 330, 331, 332, 333, 334, 999] σ0 σ63 := X61.tr (e66.mo (by decide))
    refine k_inv (P := (P_X7_readInner d)) (Q := (Q_X7_readInner d)) rfl rfl rfl rfl (Nat.le_of_ble_eq_true rfl) (t73.rc (by decide)) ⟨_, _, _, rfl, H65, t73, t84, (by omega), (by omega), (rd_cd.st H0 h_0_0 X85 R81.1 (by decide)), (R81.2.2.2.1 rd_at), (rd_bg.st H0 h_0_0 X85 R81 (by decide) (by omega) (by omega) (by omega)), (by omega)⟩ (fun w86 σ87 q88 => ?_)
    obtain ⟨a89, rfl, H90, e91, h93, R92, q94, q95, q96⟩ := q88
    have t102 := t73.x e91
    obtain ⟨x97, e98, c99, h100, h101⟩ := cg242 H90.1 t102
    obtain ⟨x103, e104, c105, h106, h107⟩ := cg243 H90.1 t102
    have z108 := congrArg Int32.toInt c99
    have z109 := congrArg Int32.toInt c105
    refine k_st (st' := [.inr (.inr (some a89)), .inr (.inr (some a20))]) rfl ?_
    have z110 := R81.1.1
    obtain ⟨x111, e112, c113, h114, h115⟩ := cg272 H90.1 h93
    rw [c113] at q95
    obtain ⟨x116, e117, c118, h119, h120⟩ := cg270 H90.1 h93
    rw [c118] at q96
    have R121 : RdC p0 none (-6) (17 + 8 * (d : Int)) (-996) σ0 σ87 := R81.tr ⟨R92.1, R92.2⟩ (by omega) (by omega) (by omega) (by omega)
    have z122 := R121.2.2.1
    have z123 := R121.2.2.2.1 rd_at
    have c124 := (h24.mi e41 (by decide)).trans q26
    have c125 := (t60.mi e66 (by decide)).trans c124
    have c126 := (t84.fi e91 (by decide) (by decide)).trans c125
    have c127 := (h24.mi e41 (by decide)).trans q27
    have c128 := (t60.mi e66 (by decide)).trans c127
    have c129 := (t84.fi e91 (by decide) (by decide)).trans c128
    have z134 := t84.1
    have t135 := t84.x e91
    refine k_p276 H90 t135 (h93.ot) (fun z hz => by cases hz; exact ⟨by omega, by unfold LvC; rw [c126, c129, c118, c113]; omega⟩) (fun σ130 H131 e132 c133 => ?_)
    refine k_aload_n rfl ?_
    refine k_bipush (m := 57) rfl (fun x136 h137 => ?_)
    have t138 := t102.x e132
    have R139 : RdC p0 none (-6) (17 + 8 * (d : Int)) (-996) σ0 σ130 := R121.tr ⟨(e132.gw H90.1 (by decide)), (e132.cou (u := 0) H90.1 t102 (by decide) (by rw [e132.cn (by decide)]; omega))⟩ (by omega) (by omega) (by omega) (by omega)
    have c140 := (t102.mi e132 (by decide)).trans c105
    have X141 : ExC [0, 1, 2, 60, 61, 62, 63, 64, 65, 66, 67, 68, 69, 70, 72, 73, 74, 75, 76, 242, 243, 244, 246, 270, 271, 272, 273, 275, 276, 277, 278, 279, 280, 330, 331, 332, 333, 334, 999] σ0 σ87 := X85.tr (e91.mo (by decide))
    have X142 : ExC [0, 1, 2, 60, 61, 62, 63, 64, 65, 66, 67, 68, 69, 70, 72, 73, 74, 75, 76, 242, 243, 244, 246, 270, 271, 272, 273, 275, 276, 277, 278, 279, 280, 330, 331, 332, 333, 334, 999] σ0 σ130 := X141.tr (e132.mo (by decide))
    have c143 := (t102.mi e132 (by decide)).trans c99
    have z144 := congrArg Int32.toInt c143
    have z145 := congrArg Int32.toInt c140
    refine k_inv (P := P_X7_takes) (Q := Q_X7_takes) rfl rfl rfl rfl (Nat.le_of_ble_eq_true rfl) (t138.rc (by decide)) ⟨_, _, rfl, H131, t138, (by omega), (by omega), (rd_cd.st H0 h_0_0 X142 R139.1 (by decide)), (R139.2.2.2.1 rd_at), (rd_bg.st H0 h_0_0 X142 R139 (by decide) (by omega) (by omega) (by omega))⟩ (fun w146 σ147 q148 => ?_)
    obtain ⟨x149, rfl, H150, e151, h153, h154, R152, q155⟩ := q148
    have t161 := t138.x e151
    obtain ⟨x156, e157, c158, h159, h160⟩ := cg242 H150.1 t161
    obtain ⟨x162, e163, c164, h165, h166⟩ := cg243 H150.1 t161
    have z167 := congrArg Int32.toInt c158
    have z168 := congrArg Int32.toInt c164
    refine k_st (st' := [.inl x149]) rfl ?_
    rcases (by omega : x149.toInt = 0 ∨ x149.toInt = 1) with g169 | g169
    · have R170 : RdC p0 none (-6) (17 + 8 * (d : Int)) (-996) σ0 σ147 := R139.tr ⟨R152.1, R152.2⟩ (by omega) (by omega) (by omega) (by omega)
      have z171 := R170.2.2.1
      have z172 := R170.2.2.2.1 rd_at
      refine k_if_eq (fun h173 => ?_) (fun h173 => by exfalso; omega)
      refine hB _ _ _ _ (kgoC (is := KX7_readIf_47) rfl ?_)
      refine k_aload_n rfl ?_
      refine k_areturn ?_
      have X174 : ExC [0, 1, 2, 60, 61, 62, 63, 64, 65, 66, 67, 68, 69, 70, 72, 73, 74, 75, 76, 242, 243, 244, 246, 270, 271, 272, 273, 275, 276, 277, 278, 279, 280, 330, 331, 332, 333, 334, 999] σ0 σ147 := X142.tr (e151.mo (by decide))
      have t175 := t135.x e132
      have t176 := t175.x e151
      have c177 := (t135.mi e132 (by decide)).trans c129
      have c178 := (t175.mi e151 (by decide)).trans c177
      have c179 := (t135.mi e132 (by decide)).trans c126
      have c180 := (t175.mi e151 (by decide)).trans c179
      exact ⟨_, rfl, H150, X174, t176, (R170.mo (by omega) (by omega) (by omega)), (by omega), (by rw [c178] <;> omega), (by rw [c180] <;> omega)⟩
    · have R181 := R139.nf (-1000) (-1000) (q155 (by omega)).1
      have R182 : RdC p0 none (-14) (-6) (-1000) σ0 σ147 := R181.tr ⟨(q155 (by omega)).2.1, (q155 (by omega)).2.2⟩ (by omega) (by omega) (by omega) (by omega)
      have z183 := R182.2.2.1
      have z184 := R182.2.2.2.1 rd_at
      refine k_if_eq (fun h185 => by exfalso; omega) (fun h185 => ?_)
      refine k_nil ?_
      refine hB _ _ _ _ (kgoC (is := KX7_readIf_37) rfl ?_)
      refine k_aload_n rfl ?_
      refine k_aload_n rfl ?_
      refine k_aload_n rfl ?_
      refine k_iload_n rfl ?_
      have t186 := t135.x e132
      have t187 := t186.x e151
      have X188 : ExC [0, 1, 2, 60, 61, 62, 63, 64, 65, 66, 67, 68, 69, 70, 72, 73, 74, 75, 76, 242, 243, 244, 246, 270, 271, 272, 273, 275, 276, 277, 278, 279, 280, 330, 331, 332, 333, 334, 999] σ0 σ147 := X142.tr (e151.mo (by decide))
      refine k_inv (P := (P_X7_readInner d)) (Q := (Q_X7_readInner d)) rfl rfl rfl rfl (Nat.le_of_ble_eq_true rfl) (t161.rc (by decide)) ⟨_, _, _, rfl, H150, t161, t187, (by omega), (by omega), (rd_cd.st H0 h_0_0 X188 R182.1 (by decide)), (R182.2.2.2.1 rd_at), (rd_bg.st H0 h_0_0 X188 R182 (by decide) (by omega) (by omega) (by omega)), (by omega)⟩ (fun w189 σ190 q191 => ?_)
      obtain ⟨a192, rfl, H193, e194, h196, R195, q197, q198, q199⟩ := q191
      have t205 := t161.x e194
      obtain ⟨x200, e201, c202, h203, h204⟩ := cg242 H193.1 t205
      obtain ⟨x206, e207, c208, h209, h210⟩ := cg243 H193.1 t205
      have z211 := congrArg Int32.toInt c202
      have z212 := congrArg Int32.toInt c208
      refine k_st (st' := [.inr (.inr (some a192)), .inr (.inr (some a20))]) rfl ?_
      have z213 := R182.1.1
      obtain ⟨x214, e215, c216, h217, h218⟩ := cg272 H193.1 h196
      rw [c216] at q198
      obtain ⟨x219, e220, c221, h222, h223⟩ := cg270 H193.1 h196
      rw [c221] at q199
      have R224 : RdC p0 none (-14) (2 + 8 * (d : Int)) (-997) σ0 σ190 := R182.tr ⟨R195.1, R195.2⟩ (by omega) (by omega) (by omega) (by omega)
      have z225 := R224.2.2.1
      have z226 := R224.2.2.2.1 rd_at
      have c227 := (t135.mi e132 (by decide)).trans c126
      have c228 := (t186.mi e151 (by decide)).trans c227
      have c229 := (t187.fi e194 (by decide) (by decide)).trans c228
      have c230 := (t135.mi e132 (by decide)).trans c129
      have c231 := (t186.mi e151 (by decide)).trans c230
      have c232 := (t187.fi e194 (by decide) (by decide)).trans c231
      have z237 := t187.1
      have t238 := t187.x e194
      refine k_p277 H193 t238 (h196.ot) (fun z hz => by cases hz; exact ⟨by omega, by unfold LvC; rw [c229, c232, c221, c216]; omega⟩) (fun σ233 H234 e235 c236 => ?_)
      refine k_nil ?_
      refine hB _ _ _ _ (kgoC (is := KX7_readIf_47) rfl ?_)
      refine k_aload_n rfl ?_
      refine k_areturn ?_
      have X239 : ExC [0, 1, 2, 60, 61, 62, 63, 64, 65, 66, 67, 68, 69, 70, 72, 73, 74, 75, 76, 242, 243, 244, 246, 270, 271, 272, 273, 275, 276, 277, 278, 279, 280, 330, 331, 332, 333, 334, 999] σ0 σ190 := X188.tr (e194.mo (by decide))
      have X240 : ExC [0, 1, 2, 60, 61, 62, 63, 64, 65, 66, 67, 68, 69, 70, 72, 73, 74, 75, 76, 242, 243, 244, 246, 270, 271, 272, 273, 275, 276, 277, 278, 279, 280, 330, 331, 332, 333, 334, 999] σ0 σ233 := X239.tr (e235.mo (by decide))
      have t241 := t238.x e235
      have R242 : RdC p0 none (-14) (2 + 8 * (d : Int)) (-997) σ0 σ233 := R224.tr ⟨(e235.gw H193.1 (by decide)), (e235.cou (u := 0) H193.1 t205 (by decide) (by rw [e235.cn (by decide)]; omega))⟩ (by omega) (by omega) (by omega) (by omega)
      have c243 := (t205.mi e235 (by decide)).trans c208
      have c244 := (t205.mi e235 (by decide)).trans c202
      have c245 := (t238.mi e235 (by decide)).trans c232
      have c246 := (t238.mi e235 (by decide)).trans c229
      exact ⟨_, rfl, H234, X240, t241, (R242.mo (by omega) (by omega) (by omega)), (by omega), (by rw [c245] <;> omega), (by rw [c246] <;> omega)⟩
