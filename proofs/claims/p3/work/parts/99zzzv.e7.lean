set_option maxRecDepth 100000 in
set_option maxHeartbeats 4000000 in
theorem s_X7_readWhile (l : Launch) (d : Nat) (h_X7_readCondition : CMetC l (13 * d + 37) 153 (P_X7_readCondition d) (Q_X7_readCondition d)) (h_X7_readInner : CMetC l (13 * d + 37) 148 (P_X7_readInner d) (Q_X7_readInner d)) : CMetC l (13 * d + 38) 155 (P_X7_readWhile d) (Q_X7_readWhile d) := by
  refine CMetC.of KX7_readWhile [(142, P_X7_begin, Q_X7_begin), (128, P_X7_accept, Q_X7_accept), (153, (P_X7_readCondition d), (Q_X7_readCondition d)), (148, (P_X7_readInner d), (Q_X7_readInner d))] hX7_readWhile (by decide) (by omega) okX7_readWhile (cc1C (m_X7_begin l) (by omega) (cc1C (m_X7_accept l) (by omega) (cc1C h_X7_readCondition (by omega) (cc1C h_X7_readInner (by omega) cc0C)))) ?_ ?_
  · rintro As σ ⟨p0, p1, rfl, -⟩
    exact Nat.le_of_ble_eq_true rfl
  · rintro As σ0 ⟨p0, p1, rfl, H0, h_0_0, h_1_0, h_1_1, rd_cd, rd_at, rd_bl, rd_lv, rd_tk, rd_dp⟩ hgr G hB hW
    change G 0 [(0, .inr (.inr (some p0))), (1, .inl p1)] [] σ0
    obtain ⟨x1, e2, c3, h4, h5⟩ := cg242 H0.1 h_0_0
    obtain ⟨x6, e7, c8, h9, h10⟩ := cg243 H0.1 h_0_0
    have z11 := congrArg Int32.toInt c3
    have z12 := congrArg Int32.toInt c8
    have h13 : x6.toInt = 0 := by rw [← c8]; exact rd_lv
    have rd_bg : BgC σ0 p0 (24 + 8 * (d : Int)) 1000000 := ⟨fun _ => rd_bl, fun z => absurd rd_lv z⟩
    refine hB _ _ _ _ (kgoC (is := KX7_readWhile_0) rfl ?_)
    refine k_aload_n rfl ?_
    refine k_bipush (m := 58) rfl (fun x14 h15 => ?_)
    refine k_iload_n rfl ?_
    have R16 := (RdC.rf : RdC p0 none 0 0 0 σ0 σ0).nf (-1000) (-1000) (by rw [c8]; omega)
    refine k_inv (P := P_X7_begin) (Q := Q_X7_begin) rfl rfl rfl rfl (Nat.le_of_ble_eq_true rfl) (h_0_0.rc (by decide)) ⟨_, _, _, rfl, H0, h_0_0, (by omega), (by omega), (rd_cd.st H0 h_0_0 (ExC.rf : ExC [0, 1, 2, 60, 61, 62, 63, 64, 65, 66, 67, 68, 69, 70, 72, 73, 74, 75, 76, 242, 243, 244, 246, 270, 271, 272, 273, 275, 276, 277, 278, 279, 280, 330, 331, 332, 333, 334, 999] σ0 σ0) R16.1 (by decide)), (R16.2.2.2.1 rd_at), (rd_bg.stn H0 h_0_0 (ExC.rf : ExC [0, 1, 2, 60, 61, 62, 63, 64, 65, 66, 67, 68, 69, 70, 72, 73, 74, 75, 76, 242, 243, 244, 246, 270, 271, 272, 273, 275, 276, 277, 278, 279, 280, 330, 331, 332, 333, 334, 999] σ0 σ0) R16 (by decide) (by rw [c8]; omega) (by omega)), (by omega)⟩ (fun w17 σ18 q19 => ?_)
    obtain ⟨a20, rfl, H21, e22, h24, R23, q25, q26, q27⟩ := q19
    have c28 := (h_0_0.mi e22 (by decide)).trans c3
    have c29 := (h_0_0.mi e22 (by decide)).trans c8
    have z30 := congrArg Int32.toInt c28
    have z31 := congrArg Int32.toInt c29
    refine k_st (st' := [.inr (.inr (some a20))]) rfl ?_
    have z32 := R16.1.1
    refine k_astore_n (ls' := [(2, .inr (.inr (some a20))), (0, .inr (.inr (some p0))), (1, .inl p1)]) rfl ?_
    refine k_aload_n rfl ?_
    have t33 := h_0_0.x e22
    have R34 : RdC p0 none (2) (2) (-998) σ0 σ18 := R16.tr ⟨R23.1, R23.2⟩ (by omega) (by omega) (by omega) (by omega)
    have R35 := R34.nf (-1000) (-1000) (by rw [c29]; omega)
    have X36 : ExC [0, 1, 2, 60, 61, 62, 63, 64, 65, 66, 67, 68, 69, 70, 72, 73, 74, 75, 76, 242, 243, 244, 246, 270, 271, 272, 273, 275, 276, 277, 278, 279, 280, 330, 331, 332, 333, 334, 999] σ0 σ18 := ExC.rf.tr (e22.mo (by decide))
    refine k_inv (P := P_X7_accept) (Q := Q_X7_accept) rfl rfl rfl rfl (Nat.le_of_ble_eq_true rfl) (t33.rc (by decide)) ⟨_, rfl, H21, t33, (rd_cd.st H0 h_0_0 X36 R35.1 (by decide)), (R35.2.2.2.1 rd_at), (rd_bg.stn H0 h_0_0 X36 R35 (by decide) (by rw [c29]; omega) (by omega)), (by have ct := R35.2.2.1; rw [c29, c28, ct]; omega)⟩ (fun w37 σ38 q39 => ?_)
    obtain ⟨rfl, H40, e41, R42, q43⟩ := q39
    have t49 := t33.x e41
    obtain ⟨x44, e45, c46, h47, h48⟩ := cg242 H40.1 t49
    obtain ⟨x50, e51, c52, h53, h54⟩ := cg243 H40.1 t49
    have z55 := congrArg Int32.toInt c46
    have z56 := congrArg Int32.toInt c52
    refine k_st (st' := []) rfl ?_
    have R57 : RdC p0 none (-6) (2) (-1000) σ0 σ38 := R35.tr ⟨R42.1, R42.2⟩ (by omega) (by omega) (by omega) (by omega)
    have z58 := R57.2.2.1
    have z59 := R57.2.2.2.1 rd_at
    refine k_aload_n rfl ?_
    refine k_aload_n rfl ?_
    refine k_iload_n rfl ?_
    have t60 := h24.x e41
    have X61 : ExC [0, 1, 2, 60, 61, 62, 63, 64, 65, 66, 67, 68, 69, 70, 72, 73, 74, 75, 76, 242, 243, 244, 246, 270, 271, 272, 273, 275, 276, 277, 278, 279, 280, 330, 331, 332, 333, 334, 999] σ0 σ38 := X36.tr (e41.mo (by decide))
    refine k_inv (P := (P_X7_readCondition d)) (Q := (Q_X7_readCondition d)) rfl rfl rfl rfl (Nat.le_of_ble_eq_true rfl) (t49.rc (by decide)) ⟨_, _, _, rfl, H40, t49, t60, (by omega), (by omega), (rd_cd.st H0 h_0_0 X61 R57.1 (by decide)), (R57.2.2.2.1 rd_at), (rd_bg.st H0 h_0_0 X61 R57 (by decide) (by omega) (by omega) (by omega)), (by omega)⟩ (fun w62 σ63 q64 => ?_)
    obtain ⟨rfl, H65, e66, R67⟩ := q64
    have t73 := t49.x e66
    obtain ⟨x68, e69, c70, h71, h72⟩ := cg242 H65.1 t73
    obtain ⟨x74, e75, c76, h77, h78⟩ := cg243 H65.1 t73
    have z79 := congrArg Int32.toInt c70
    have z80 := congrArg Int32.toInt c76
    refine k_st (st' := []) rfl ?_
    have R81 : RdC p0 none (-6) (14 + 8 * (d : Int)) (-999) σ0 σ63 := R57.tr ⟨R67.1, R67.2⟩ (by omega) (by omega) (by omega) (by omega)
    have z82 := R81.2.2.1
    have z83 := R81.2.2.2.1 rd_at
    refine k_aload_n rfl ?_
    refine k_aload_n rfl ?_
    refine k_aload_n rfl ?_
    refine k_iload_n rfl ?_
    have t84 := t60.x e66
    have X85 : ExC [0, 1, 2, 60, 61, 62, 63, 64, 65, 66, 67, 68, 69, 70, 72, 73, 74, 75, 76, 242, 243, 244, 246, 270, 271, 272, 273, 275, 276, 277, 278, 279, 280, 330, 331, 332, 333, 334, 999] σ0 σ63 := X61.tr (e66.mo (by decide))
    refine k_inv (P := (P_X7_readInner d)) (Q := (Q_X7_readInner d)) rfl rfl rfl rfl (Nat.le_of_ble_eq_true rfl) (t73.rc (by decide)) ⟨_, _, _, rfl, H65, t73, t84, (by omega), (by omega), (rd_cd.st H0 h_0_0 X85 R81.1 (by decide)), (R81.2.2.2.1 rd_at), (rd_bg.st H0 h_0_0 X85 R81 (by decide) (by omega) (by omega) (by omega)), (by omega)⟩ (fun w86 σ87 q88 => ?_)
    obtain ⟨a89, rfl, H90, e91, h93, R92, q94, q95, q96⟩ := q88
    have t102 := t73.x e91
    obtain ⟨x97, e98, c99, h100, h101⟩ := cg242 H90.1 t102
    obtain ⟨x103, e104, c105, h106, h107⟩ := cg243 H90.1 t102
    have z108 := congrArg Int32.toInt c99
    have z109 := congrArg Int32.toInt c105
    refine k_st (st' := [.inr (.inr (some a89)), .inr (.inr (some a20))]) rfl ?_
    have z110 := R81.1.1
    obtain ⟨x111, e112, c113, h114, h115⟩ := cg272 H90.1 h93
    rw [c113] at q95
    obtain ⟨x116, e117, c118, h119, h120⟩ := cg270 H90.1 h93
    rw [c118] at q96
    have R121 : RdC p0 none (-6) (17 + 8 * (d : Int)) (-996) σ0 σ87 := R81.tr ⟨R92.1, R92.2⟩ (by omega) (by omega) (by omega) (by omega)
    have z122 := R121.2.2.1
    have z123 := R121.2.2.2.1 rd_at
    have c124 := (h24.mi e41 (by decide)).trans q26
    have c125 := (t60.mi e66 (by decide)).trans c124
    have c126 := (t84.fi e91 (by decide) (by decide)).trans c125
    have c127 := (h24.mi e41 (by decide)).trans q27
    have c128 := (t60.mi e66 (by decide)).trans c127
    have c129 := (t84.fi e91 (by decide) (by decide)).trans c128
    have z134 := t84.1
    have t135 := t84.x e91
    refine k_p276 H90 t135 (h93.ot) (fun z hz => by cases hz; exact ⟨by omega, by unfold LvC; rw [c126, c129, c118, c113]; omega⟩) (fun σ130 H131 e132 c133 => ?_)
    refine k_aload_n rfl ?_
    refine k_areturn ?_
    have X136 : ExC [0, 1, 2, 60, 61, 62, 63, 64, 65, 66, 67, 68, 69, 70, 72, 73, 74, 75, 76, 242, 243, 244, 246, 270, 271, 272, 273, 275, 276, 277, 278, 279, 280, 330, 331, 332, 333, 334, 999] σ0 σ87 := X85.tr (e91.mo (by decide))
    have X137 : ExC [0, 1, 2, 60, 61, 62, 63, 64, 65, 66, 67, 68, 69, 70, 72, 73, 74, 75, 76, 242, 243, 244, 246, 270, 271, 272, 273, 275, 276, 277, 278, 279, 280, 330, 331, 332, 333, 334, 999] σ0 σ130 := X136.tr (e132.mo (by decide))
    have t138 := t135.x e132
    have R139 : RdC p0 none (-6) (17 + 8 * (d : Int)) (-996) σ0 σ130 := R121.tr ⟨(e132.gw H90.1 (by decide)), (e132.cou (u := 0) H90.1 t102 (by decide) (by rw [e132.cn (by decide)]; omega))⟩ (by omega) (by omega) (by omega) (by omega)
    have c140 := (t102.mi e132 (by decide)).trans c105
    have c141 := (t102.mi e132 (by decide)).trans c99
    have c142 := (t135.mi e132 (by decide)).trans c129
    have c143 := (t135.mi e132 (by decide)).trans c126
    exact ⟨_, rfl, H131, X137, t138, (R139.mo (by omega) (by omega) (by omega)), (by omega), (by rw [c142] <;> omega), (by rw [c143] <;> omega)⟩

set_option maxRecDepth 100000 in
set_option maxHeartbeats 4000000 in
theorem s_X7_readDo (l : Launch) (d : Nat) (h_X7_readInner : CMetC l (13 * d + 37) 148 (P_X7_readInner d) (Q_X7_readInner d)) (h_X7_readCondition : CMetC l (13 * d + 37) 153 (P_X7_readCondition d) (Q_X7_readCondition d)) : CMetC l (13 * d + 38) 156 (P_X7_readDo d) (Q_X7_readDo d) := by
  refine CMetC.of KX7_readDo [(142, P_X7_begin, Q_X7_begin), (128, P_X7_accept, Q_X7_accept), (148, (P_X7_readInner d), (Q_X7_readInner d)), (129, P_X7_expect, Q_X7_expect), (153, (P_X7_readCondition d), (Q_X7_readCondition d))] hX7_readDo (by decide) (by omega) okX7_readDo (cc1C (m_X7_begin l) (by omega) (cc1C (m_X7_accept l) (by omega) (cc1C h_X7_readInner (by omega) (cc1C (m_X7_expect l) (by omega) (cc1C h_X7_readCondition (by omega) cc0C))))) ?_ ?_
  · rintro As σ ⟨p0, p1, rfl, -⟩
    exact Nat.le_of_ble_eq_true rfl
  · rintro As σ0 ⟨p0, p1, rfl, H0, h_0_0, h_1_0, h_1_1, rd_cd, rd_at, rd_bl, rd_lv, rd_tk, rd_dp⟩ hgr G hB hW
    change G 0 [(0, .inr (.inr (some p0))), (1, .inl p1)] [] σ0
    obtain ⟨x1, e2, c3, h4, h5⟩ := cg242 H0.1 h_0_0
    obtain ⟨x6, e7, c8, h9, h10⟩ := cg243 H0.1 h_0_0
    have z11 := congrArg Int32.toInt c3
    have z12 := congrArg Int32.toInt c8
    have h13 : x6.toInt = 0 := by rw [← c8]; exact rd_lv
    have rd_bg : BgC σ0 p0 (24 + 8 * (d : Int)) 1000000 := ⟨fun _ => rd_bl, fun z => absurd rd_lv z⟩
    refine hB _ _ _ _ (kgoC (is := KX7_readDo_0) rfl ?_)
    refine k_aload_n rfl ?_
    refine k_bipush (m := 59) rfl (fun x14 h15 => ?_)
    refine k_iload_n rfl ?_
    have R16 := (RdC.rf : RdC p0 none 0 0 0 σ0 σ0).nf (-1000) (-1000) (by rw [c8]; omega)
    refine k_inv (P := P_X7_begin) (Q := Q_X7_begin) rfl rfl rfl rfl (Nat.le_of_ble_eq_true rfl) (h_0_0.rc (by decide)) ⟨_, _, _, rfl, H0, h_0_0, (by omega), (by omega), (rd_cd.st H0 h_0_0 (ExC.rf : ExC [0, 1, 2, 60, 61, 62, 63, 64, 65, 66, 67, 68, 69, 70, 72, 73, 74, 75, 76, 242, 243, 244, 246, 270, 271, 272, 273, 275, 276, 277, 278, 279, 280, 330, 331, 332, 333, 334, 999] σ0 σ0) R16.1 (by decide)), (R16.2.2.2.1 rd_at), (rd_bg.stn H0 h_0_0 (ExC.rf : ExC [0, 1, 2, 60, 61, 62, 63, 64, 65, 66, 67, 68, 69, 70, 72, 73, 74, 75, 76, 242, 243, 244, 246, 270, 271, 272, 273, 275, 276, 277, 278, 279, 280, 330, 331, 332, 333, 334, 999] σ0 σ0) R16 (by decide) (by rw [c8]; omega) (by omega)), (by omega)⟩ (fun w17 σ18 q19 => ?_)
    obtain ⟨a20, rfl, H21, e22, h24, R23, q25, q26, q27⟩ := q19
    have c28 := (h_0_0.mi e22 (by decide)).trans c3
    have c29 := (h_0_0.mi e22 (by decide)).trans c8
    have z30 := congrArg Int32.toInt c28
    have z31 := congrArg Int32.toInt c29
    refine k_st (st' := [.inr (.inr (some a20))]) rfl ?_
    have z32 := R16.1.1
    refine k_astore_n (ls' := [(2, .inr (.inr (some a20))), (0, .inr (.inr (some p0))), (1, .inl p1)]) rfl ?_
    refine k_aload_n rfl ?_
    have t33 := h_0_0.x e22
    have R34 : RdC p0 none (2) (2) (-998) σ0 σ18 := R16.tr ⟨R23.1, R23.2⟩ (by omega) (by omega) (by omega) (by omega)
    have R35 := R34.nf (-1000) (-1000) (by rw [c29]; omega)
    have X36 : ExC [0, 1, 2, 60, 61, 62, 63, 64, 65, 66, 67, 68, 69, 70, 72, 73, 74, 75, 76, 242, 243, 244, 246, 270, 271, 272, 273, 275, 276, 277, 278, 279, 280, 330, 331, 332, 333, 334, 999] σ0 σ18 := ExC.rf.tr (e22.mo (by decide))
    refine k_inv (P := P_X7_accept) (Q := Q_X7_accept) rfl rfl rfl rfl (Nat.le_of_ble_eq_true rfl) (t33.rc (by decide)) ⟨_, rfl, H21, t33, (rd_cd.st H0 h_0_0 X36 R35.1 (by decide)), (R35.2.2.2.1 rd_at), (rd_bg.stn H0 h_0_0 X36 R35 (by decide) (by rw [c29]; omega) (by omega)), (by have ct := R35.2.2.1; rw [c29, c28, ct]; omega)⟩ (fun w37 σ38 q39 => ?_)
    obtain ⟨rfl, H40, e41, R42, q43⟩ := q39
    have t49 := t33.x e41
    obtain ⟨x44, e45, c46, h47, h48⟩ := cg242 H40.1 t49
    obtain ⟨x50, e51, c52, h53, h54⟩ := cg243 H40.1 t49
    have z55 := congrArg Int32.toInt c46
    have z56 := congrArg Int32.toInt c52
    refine k_st (st' := []) rfl ?_
    have R57 : RdC p0 none (-6) (2) (-1000) σ0 σ38 := R35.tr ⟨R42.1, R42.2⟩ (by omega) (by omega) (by omega) (by omega)
    have z58 := R57.2.2.1
    have z59 := R57.2.2.2.1 rd_at
    refine k_aload_n rfl ?_
    refine k_aload_n rfl ?_
    refine k_aload_n rfl ?_
    refine k_iload_n rfl ?_
    have t60 := h24.x e41
    have X61 : ExC [0, 1, 2, 60, 61, 62, 63, 64, 65, 66, 67, 68, 69, 70, 72, 73, 74, 75, 76, 242, 243, 244, 246, 270, 271, 272, 273, 275, 276, 277, 278, 279, 280, 330, 331, 332, 333, 334, 999] σ0 σ38 := X36.tr (e41.mo (by decide))
    refine k_inv (P := (P_X7_readInner d)) (Q := (Q_X7_readInner d)) rfl rfl rfl rfl (Nat.le_of_ble_eq_true rfl) (t49.rc (by decide)) ⟨_, _, _, rfl, H40, t49, t60, (by omega), (by omega), (rd_cd.st H0 h_0_0 X61 R57.1 (by decide)), (R57.2.2.2.1 rd_at), (rd_bg.st H0 h_0_0 X61 R57 (by decide) (by omega) (by omega) (by omega)), (by omega)⟩ (fun w62 σ63 q64 => ?_)
    obtain ⟨a65, rfl, H66, e67, h69, R68, q70, q71, q72⟩ := q64
    have t78 := t49.x e67
    obtain ⟨x73, e74, c75, h76, h77⟩ := cg242 H66.1 t78
    obtain ⟨x79, e80, c81, h82, h83⟩ := cg243 H66.1 t78
    have z84 := congrArg Int32.toInt c75
    have z85 := congrArg Int32.toInt c81
    refine k_st (st' := [.inr (.inr (some a65)), .inr (.inr (some a20))]) rfl ?_
    have z86 := R57.1.1
    obtain ⟨x87, e88, c89, h90, h91⟩ := cg272 H66.1 h69
    rw [c89] at q71
    obtain ⟨x92, e93, c94, h95, h96⟩ := cg270 H66.1 h69
    rw [c94] at q72
    have R97 : RdC p0 none (-6) (10 + 8 * (d : Int)) (-997) σ0 σ63 := R57.tr ⟨R68.1, R68.2⟩ (by omega) (by omega) (by omega) (by omega)
    have z98 := R97.2.2.1
    have z99 := R97.2.2.2.1 rd_at
    have c100 := (h24.mi e41 (by decide)).trans q26
    have c101 := (t60.fi e67 (by decide) (by decide)).trans c100
    have c102 := (h24.mi e41 (by decide)).trans q27
    have c103 := (t60.fi e67 (by decide) (by decide)).trans c102
    have z108 := t60.1
    have t109 := t60.x e67
    refine k_p276 H66 t109 (h69.ot) (fun z hz => by cases hz; exact ⟨by omega, by unfold LvC; rw [c101, c103, c94, c89]; omega⟩) (fun σ104 H105 e106 c107 => ?_)
    refine k_aload_n rfl ?_
    refine k_bipush (m := 58) rfl (fun x110 h111 => ?_)
    have t112 := t78.x e106
    have R113 : RdC p0 none (-6) (10 + 8 * (d : Int)) (-997) σ0 σ104 := R97.tr ⟨(e106.gw H66.1 (by decide)), (e106.cou (u := 0) H66.1 t78 (by decide) (by rw [e106.cn (by decide)]; omega))⟩ (by omega) (by omega) (by omega) (by omega)
    have c114 := (t78.mi e106 (by decide)).trans c81
    have X115 : ExC [0, 1, 2, 60, 61, 62, 63, 64, 65, 66, 67, 68, 69, 70, 72, 73, 74, 75, 76, 242, 243, 244, 246, 270, 271, 272, 273, 275, 276, 277, 278, 279, 280, 330, 331, 332, 333, 334, 999] σ0 σ63 := X61.tr (e67.mo (by decide))
    have X116 : ExC [0, 1, 2, 60, 61, 62, 63, 64, 65, 66, 67, 68, 69, 70, 72, 73, 74, 75, 76, 242, 243, 244, 246, 270, 271, 272, 273, 275, 276, 277, 278, 279, 280, 330, 331, 332, 333, 334, 999] σ0 σ104 := X115.tr (e106.mo (by decide))
    have c117 := (t78.mi e106 (by decide)).trans c75
    have z118 := congrArg Int32.toInt c117
    have z119 := congrArg Int32.toInt c114
    refine k_inv (P := P_X7_expect) (Q := Q_X7_expect) rfl rfl rfl rfl (Nat.le_of_ble_eq_true rfl) (t112.rc (by decide)) ⟨_, _, rfl, H105, t112, (by omega), (by omega), (rd_cd.st H0 h_0_0 X116 R113.1 (by decide)), (R113.2.2.2.1 rd_at), (rd_bg.st H0 h_0_0 X116 R113 (by decide) (by omega) (by omega) (by omega))⟩ (fun w120 σ121 q122 => ?_)
    obtain ⟨rfl, H123, e124, R125, q126⟩ := q122
    have t132 := t112.x e124
    obtain ⟨x127, e128, c129, h130, h131⟩ := cg242 H123.1 t132
    obtain ⟨x133, e134, c135, h136, h137⟩ := cg243 H123.1 t132
    have z138 := congrArg Int32.toInt c129
    have z139 := congrArg Int32.toInt c135
    refine k_st (st' := []) rfl ?_
    have R140 : RdC p0 none (-14) (10 + 8 * (d : Int)) (-997) σ0 σ121 := R113.tr ⟨R125.1, R125.2⟩ (by omega) (by omega) (by omega) (by omega)
    have z141 := R140.2.2.1
    have z142 := R140.2.2.2.1 rd_at
    refine k_aload_n rfl ?_
    refine k_aload_n rfl ?_
    refine k_iload_n rfl ?_
    have t143 := t109.x e106
    have t144 := t143.x e124
    have X145 : ExC [0, 1, 2, 60, 61, 62, 63, 64, 65, 66, 67, 68, 69, 70, 72, 73, 74, 75, 76, 242, 243, 244, 246, 270, 271, 272, 273, 275, 276, 277, 278, 279, 280, 330, 331, 332, 333, 334, 999] σ0 σ121 := X116.tr (e124.mo (by decide))
    refine k_inv (P := (P_X7_readCondition d)) (Q := (Q_X7_readCondition d)) rfl rfl rfl rfl (Nat.le_of_ble_eq_true rfl) (t132.rc (by decide)) ⟨_, _, _, rfl, H123, t132, t144, (by omega), (by omega), (rd_cd.st H0 h_0_0 X145 R140.1 (by decide)), (R140.2.2.2.1 rd_at), (rd_bg.st H0 h_0_0 X145 R140 (by decide) (by omega) (by omega) (by omega)), (by omega)⟩ (fun w146 σ147 q148 => ?_)
    obtain ⟨rfl, H149, e150, R151⟩ := q148
    have t157 := t132.x e150
    obtain ⟨x152, e153, c154, h155, h156⟩ := cg242 H149.1 t157
    obtain ⟨x158, e159, c160, h161, h162⟩ := cg243 H149.1 t157
    have z163 := congrArg Int32.toInt c154
    have z164 := congrArg Int32.toInt c160
    refine k_st (st' := []) rfl ?_
    have R165 : RdC p0 none (-14) (11 + 8 * (d : Int)) (-996) σ0 σ147 := R140.tr ⟨R151.1, R151.2⟩ (by omega) (by omega) (by omega) (by omega)
    have z166 := R165.2.2.1
    have z167 := R165.2.2.2.1 rd_at
    refine k_aload_n rfl ?_
    refine k_iconst (m := 4) rfl (fun x168 h169 => ?_)
    have X170 : ExC [0, 1, 2, 60, 61, 62, 63, 64, 65, 66, 67, 68, 69, 70, 72, 73, 74, 75, 76, 242, 243, 244, 246, 270, 271, 272, 273, 275, 276, 277, 278, 279, 280, 330, 331, 332, 333, 334, 999] σ0 σ147 := X145.tr (e150.mo (by decide))
    refine k_inv (P := P_X7_expect) (Q := Q_X7_expect) rfl rfl rfl rfl (Nat.le_of_ble_eq_true rfl) (t157.rc (by decide)) ⟨_, _, rfl, H149, t157, (by omega), (by omega), (rd_cd.st H0 h_0_0 X170 R165.1 (by decide)), (R165.2.2.2.1 rd_at), (rd_bg.st H0 h_0_0 X170 R165 (by decide) (by omega) (by omega) (by omega))⟩ (fun w171 σ172 q173 => ?_)
    obtain ⟨rfl, H174, e175, R176, q177⟩ := q173
    have t183 := t157.x e175
    obtain ⟨x178, e179, c180, h181, h182⟩ := cg242 H174.1 t183
    obtain ⟨x184, e185, c186, h187, h188⟩ := cg243 H174.1 t183
    have z189 := congrArg Int32.toInt c180
    have z190 := congrArg Int32.toInt c186
    refine k_st (st' := []) rfl ?_
    have R191 : RdC p0 none (-22) (11 + 8 * (d : Int)) (-996) σ0 σ172 := R165.tr ⟨R176.1, R176.2⟩ (by omega) (by omega) (by omega) (by omega)
    have z192 := R191.2.2.1
    have z193 := R191.2.2.2.1 rd_at
    refine k_aload_n rfl ?_
    refine k_areturn ?_
    have X194 : ExC [0, 1, 2, 60, 61, 62, 63, 64, 65, 66, 67, 68, 69, 70, 72, 73, 74, 75, 76, 242, 243, 244, 246, 270, 271, 272, 273, 275, 276, 277, 278, 279, 280, 330, 331, 332, 333, 334, 999] σ0 σ172 := X170.tr (e175.mo (by decide))
    have t195 := t144.x e150
    have t196 := t195.x e175
    have c197 := (t109.mi e106 (by decide)).trans c103
    have c198 := (t143.mi e124 (by decide)).trans c197
    have c199 := (t144.mi e150 (by decide)).trans c198
    have c200 := (t195.mi e175 (by decide)).trans c199
    have c201 := (t109.mi e106 (by decide)).trans c101
    have c202 := (t143.mi e124 (by decide)).trans c201
    have c203 := (t144.mi e150 (by decide)).trans c202
    have c204 := (t195.mi e175 (by decide)).trans c203
    exact ⟨_, rfl, H174, X194, t196, (R191.mo (by omega) (by omega) (by omega)), (by omega), (by rw [c200] <;> omega), (by rw [c204] <;> omega)⟩

set_option maxRecDepth 100000 in
set_option maxHeartbeats 4000000 in
theorem s_X7_readFor (l : Launch) (d : Nat) (h_X7_readVariable : CMetC l (13 * d + 37) 141 (P_X7_readVariable d) (Q_X7_readVariable d)) (h_X7_readInner : CMetC l (13 * d + 37) 148 (P_X7_readInner d) (Q_X7_readInner d)) (h_X7_readForExps : CMetC l (13 * d + 37) 158 (P_X7_readForExps d) (Q_X7_readForExps d)) (h_X7_readExp : CMetC l (13 * d + 36) 164 (P_X7_readExp d) (Q_X7_readExp d)) : CMetC l (13 * d + 38) 157 (P_X7_readFor d) (Q_X7_readFor d) := by
  refine CMetC.of KX7_readFor [(142, P_X7_begin, Q_X7_begin), (128, P_X7_accept, Q_X7_accept), (129, P_X7_expect, Q_X7_expect), (125, P_X7_code, Q_X7_code), (141, (P_X7_readVariable d), (Q_X7_readVariable d)), (148, (P_X7_readInner d), (Q_X7_readInner d)), (158, (P_X7_readForExps d), (Q_X7_readForExps d)), (164, (P_X7_readExp d), (Q_X7_readExp d)), (132, P_X7_isType, Q_X7_isType)] hX7_readFor (by decide) (by omega) okX7_readFor (cc1C (m_X7_begin l) (by omega) (cc1C (m_X7_accept l) (by omega) (cc1C (m_X7_expect l) (by omega) (cc1C (m_X7_code l) (by omega) (cc1C h_X7_readVariable (by omega) (cc1C h_X7_readInner (by omega) (cc1C h_X7_readForExps (by omega) (cc1C h_X7_readExp (by omega) (cc1C (m_X7_isType l) (by omega) cc0C))))))))) ?_ ?_
  · rintro As σ ⟨p0, p1, rfl, -⟩
    exact Nat.le_of_ble_eq_true rfl
  · rintro As σ0 ⟨p0, p1, rfl, H0, h_0_0, h_1_0, h_1_1, rd_cd, rd_at, rd_bl, rd_lv, rd_tk, rd_dp⟩ hgr G hB hW
    change G 0 [(0, .inr (.inr (some p0))), (1, .inl p1)] [] σ0
    obtain ⟨x1, e2, c3, h4, h5⟩ := cg242 H0.1 h_0_0
    obtain ⟨x6, e7, c8, h9, h10⟩ := cg243 H0.1 h_0_0
    have z11 := congrArg Int32.toInt c3
    have z12 := congrArg Int32.toInt c8
    have h13 : x6.toInt = 0 := by rw [← c8]; exact rd_lv
    have rd_bg : BgC σ0 p0 (24 + 8 * (d : Int)) 1000000 := ⟨fun _ => rd_bl, fun z => absurd rd_lv z⟩
    refine hB _ _ _ _ (kgoC (is := KX7_readFor_0) rfl ?_)
    refine k_aload_n rfl ?_
    refine k_bipush (m := 60) rfl (fun x14 h15 => ?_)
    refine k_iload_n rfl ?_
    have R16 := (RdC.rf : RdC p0 none 0 0 0 σ0 σ0).nf (-1000) (-1000) (by rw [c8]; omega)
    refine k_inv (P := P_X7_begin) (Q := Q_X7_begin) rfl rfl rfl rfl (Nat.le_of_ble_eq_true rfl) (h_0_0.rc (by decide)) ⟨_, _, _, rfl, H0, h_0_0, (by omega), (by omega), (rd_cd.st H0 h_0_0 (ExC.rf : ExC [0, 1, 2, 60, 61, 62, 63, 64, 65, 66, 67, 68, 69, 70, 72, 73, 74, 75, 76, 242, 243, 244, 246, 270, 271, 272, 273, 275, 276, 277, 278, 279, 280, 330, 331, 332, 333, 334, 999] σ0 σ0) R16.1 (by decide)), (R16.2.2.2.1 rd_at), (rd_bg.stn H0 h_0_0 (ExC.rf : ExC [0, 1, 2, 60, 61, 62, 63, 64, 65, 66, 67, 68, 69, 70, 72, 73, 74, 75, 76, 242, 243, 244, 246, 270, 271, 272, 273, 275, 276, 277, 278, 279, 280, 330, 331, 332, 333, 334, 999] σ0 σ0) R16 (by decide) (by rw [c8]; omega) (by omega)), (by omega)⟩ (fun w17 σ18 q19 => ?_)
    obtain ⟨a20, rfl, H21, e22, h24, R23, q25, q26, q27⟩ := q19
    have c28 := (h_0_0.mi e22 (by decide)).trans c3
    have c29 := (h_0_0.mi e22 (by decide)).trans c8
    have z30 := congrArg Int32.toInt c28
    have z31 := congrArg Int32.toInt c29
    refine k_st (st' := [.inr (.inr (some a20))]) rfl ?_
    have z32 := R16.1.1
    refine k_astore_n (ls' := [(2, .inr (.inr (some a20))), (0, .inr (.inr (some p0))), (1, .inl p1)]) rfl ?_
    refine k_aload_n rfl ?_
    have t33 := h_0_0.x e22
    obtain ⟨o36, e34, c35, t37⟩ := cg246 H21.1 t33
    refine k_get kg246 t33 e34 ?_
    refine k_astore_n (ls' := [(3, .inr (.inr o36)), (2, .inr (.inr (some a20))), (0, .inr (.inr (some p0))), (1, .inl p1)]) rfl ?_
    refine k_aload_n rfl ?_
    obtain ⟨y40, e38, c39⟩ := cg245 (σ := σ18) (a := p0)
    refine k_get kg245 t33 e38 ?_
    refine k_lstore (ls' := [(4, .inr (.inl y40)), (3, .inr (.inr o36)), (2, .inr (.inr (some a20))), (0, .inr (.inr (some p0))), (1, .inl p1)]) rfl ?_
    refine k_aload_n rfl ?_
    have R41 : RdC p0 none (2) (2) (-998) σ0 σ18 := R16.tr ⟨R23.1, R23.2⟩ (by omega) (by omega) (by omega) (by omega)
    have R42 := R41.nf (-1000) (-1000) (by rw [c29]; omega)
    have X43 : ExC [0, 1, 2, 60, 61, 62, 63, 64, 65, 66, 67, 68, 69, 70, 72, 73, 74, 75, 76, 242, 243, 244, 246, 270, 271, 272, 273, 275, 276, 277, 278, 279, 280, 330, 331, 332, 333, 334, 999] σ0 σ18 := ExC.rf.tr (e22.mo (by decide))
    refine k_inv (P := P_X7_accept) (Q := Q_X7_accept) rfl rfl rfl rfl (Nat.le_of_ble_eq_true rfl) (t33.rc (by decide)) ⟨_, rfl, H21, t33, (rd_cd.st H0 h_0_0 X43 R42.1 (by decide)), (R42.2.2.2.1 rd_at), (rd_bg.stn H0 h_0_0 X43 R42 (by decide) (by rw [c29]; omega) (by omega)), (by have ct := R42.2.2.1; rw [c29, c28, ct]; omega)⟩ (fun w44 σ45 q46 => ?_)
    obtain ⟨rfl, H47, e48, R49, q50⟩ := q46
    have t56 := t33.x e48
    obtain ⟨x51, e52, c53, h54, h55⟩ := cg242 H47.1 t56
    obtain ⟨x57, e58, c59, h60, h61⟩ := cg243 H47.1 t56
    have z62 := congrArg Int32.toInt c53
    have z63 := congrArg Int32.toInt c59
    refine k_st (st' := []) rfl ?_
    have R64 : RdC p0 none (-6) (2) (-1000) σ0 σ45 := R42.tr ⟨R49.1, R49.2⟩ (by omega) (by omega) (by omega) (by omega)
    have z65 := R64.2.2.1
    have z66 := R64.2.2.2.1 rd_at
    refine k_aload_n rfl ?_
    refine k_iconst (m := 0) rfl (fun x67 h68 => ?_)
    have X69 : ExC [0, 1, 2, 60, 61, 62, 63, 64, 65, 66, 67, 68, 69, 70, 72, 73, 74, 75, 76, 242, 243, 244, 246, 270, 271, 272, 273, 275, 276, 277, 278, 279, 280, 330, 331, 332, 333, 334, 999] σ0 σ45 := X43.tr (e48.mo (by decide))
    refine k_inv (P := P_X7_expect) (Q := Q_X7_expect) rfl rfl rfl rfl (Nat.le_of_ble_eq_true rfl) (t56.rc (by decide)) ⟨_, _, rfl, H47, t56, (by omega), (by omega), (rd_cd.st H0 h_0_0 X69 R64.1 (by decide)), (R64.2.2.2.1 rd_at), (rd_bg.st H0 h_0_0 X69 R64 (by decide) (by omega) (by omega) (by omega))⟩ (fun w70 σ71 q72 => ?_)
    obtain ⟨rfl, H73, e74, R75, q76⟩ := q72
    have t82 := t56.x e74
    obtain ⟨x77, e78, c79, h80, h81⟩ := cg242 H73.1 t82
    obtain ⟨x83, e84, c85, h86, h87⟩ := cg243 H73.1 t82
    have z88 := congrArg Int32.toInt c79
    have z89 := congrArg Int32.toInt c85
    refine k_st (st' := []) rfl ?_
    have R90 : RdC p0 none (-14) (2) (-1000) σ0 σ71 := R64.tr ⟨R75.1, R75.2⟩ (by omega) (by omega) (by omega) (by omega)
    have z91 := R90.2.2.1
    have z92 := R90.2.2.2.1 rd_at
    refine k_aload_n rfl ?_
    refine k_aload_n rfl ?_
    have t97 := h24.x e48
    have t98 := t97.x e74
    refine k_putR kp246 H73 t82 fk246 (rf246 t98) (fun σ93 H94 e95 c96 => ?_)
    refine k_aload_n rfl ?_
    have t99 := t82.x e95
    have R100 : RdC p0 none (-14) (2) (-1000) σ0 σ93 := R90.tr ⟨(e95.gw H73.1 (by decide)), (e95.cou (u := 0) H73.1 t82 (by decide) (by rw [e95.cn (by decide)]; omega))⟩ (by omega) (by omega) (by omega) (by omega)
    have c101 := (t82.mi e95 (by decide)).trans c85
    have X102 : ExC [0, 1, 2, 60, 61, 62, 63, 64, 65, 66, 67, 68, 69, 70, 72, 73, 74, 75, 76, 242, 243, 244, 246, 270, 271, 272, 273, 275, 276, 277, 278, 279, 280, 330, 331, 332, 333, 334, 999] σ0 σ71 := X69.tr (e74.mo (by decide))
    have X103 : ExC [0, 1, 2, 60, 61, 62, 63, 64, 65, 66, 67, 68, 69, 70, 72, 73, 74, 75, 76, 242, 243, 244, 246, 270, 271, 272, 273, 275, 276, 277, 278, 279, 280, 330, 331, 332, 333, 334, 999] σ0 σ93 := X102.tr (e95.mo (by decide))
    refine k_inv (P := P_X7_code) (Q := Q_X7_code) rfl rfl rfl rfl (Nat.le_of_ble_eq_true rfl) (t99.rc (by decide)) ⟨_, rfl, H94, t99, (rd_cd.st H0 h_0_0 X103 R100.1 (by decide))⟩ (fun w104 σ105 q106 => ?_)
    obtain ⟨x107, rfl, rfl, q108, q109, q110⟩ := q106
    refine k_st (st' := [.inl x107]) rfl ?_
    have z111 := R100.2.2.1
    have z112 := R100.2.2.2.1 rd_at
    have c113 := (t82.mi e95 (by decide)).trans c79
    have z114 := congrArg Int32.toInt c113
    have z115 := congrArg Int32.toInt c101
    refine k_bipush (m := 71) rfl (fun x116 h117 => ?_)
    refine k_ic_eq (fun h118 => ?_) (fun h118 => ?_)
    · have h119 : x83.toInt = 0 := by omega
      refine hB _ _ _ _ (kgoC (is := KX7_readFor_52) rfl ?_)
      refine k_aload_n rfl ?_
      refine k_aload_n rfl ?_
      refine k_bipush (m := 93) rfl (fun x120 h121 => ?_)
      refine k_iload_n rfl ?_
      have R122 := R100.nf (-1000) (-1000) (by rw [c101]; omega)
      refine k_inv (P := (P_X7_readVariable d)) (Q := (Q_X7_readVariable d)) rfl rfl rfl rfl (Nat.le_of_ble_eq_true rfl) (t99.rc (by decide)) ⟨_, _, _, rfl, H94, t99, (by omega), (by omega), (by omega), (by omega), (rd_cd.st H0 h_0_0 X103 R122.1 (by decide)), (R122.2.2.2.1 rd_at), ((show BgC σ93 p0 (23 + 8 * (d : Int)) 0 from (rd_bg.stn H0 h_0_0 X103 R122 (by decide) (by rw [c101]; omega) (by omega))).1 (by rw [c101]; omega)), (by rw [c101]; omega), (by omega)⟩ (fun w123 σ124 q125 => ?_)
      obtain ⟨a126, rfl, H127, e128, h130, R129, q131, q132, q133⟩ := q125
      have t139 := t99.x e128
      obtain ⟨x134, e135, c136, h137, h138⟩ := cg242 H127.1 t139
      obtain ⟨x140, e141, c142, h143, h144⟩ := cg243 H127.1 t139
      have z145 := congrArg Int32.toInt c136
      have z146 := congrArg Int32.toInt c142
      refine k_st (st' := [.inr (.inr (some a126)), .inr (.inr (some a20))]) rfl ?_
      have z147 := R122.1.1
      obtain ⟨x148, e149, c150, h151, h152⟩ := cg272 H127.1 h130
      rw [c150] at q132
      obtain ⟨x153, e154, c155, h156, h157⟩ := cg270 H127.1 h130
      rw [c155] at q133
      have R158 : RdC p0 none (-14) (9 + 8 * (d : Int)) (-1000) σ0 σ124 := R122.tr ⟨R129.1, R129.2⟩ (by omega) (by omega) (by omega) (by omega)
      have z159 := R158.2.2.1
      have z160 := R158.2.2.2.1 rd_at
      have c161 := (h24.mi e48 (by decide)).trans q26
      have c162 := (t97.mi e74 (by decide)).trans c161
      have c163 := (t98.mi e95 (by decide)).trans c162
      have t164 := t98.x e95
      have c165 := (t164.fi e128 (by decide) (by decide)).trans c163
      have c166 := (h24.mi e48 (by decide)).trans q27
      have c167 := (t97.mi e74 (by decide)).trans c166
      have c168 := (t98.mi e95 (by decide)).trans c167
      have c169 := (t164.fi e128 (by decide) (by decide)).trans c168
      have z174 := t164.1
      have t175 := t164.x e128
      refine k_p277 H127 t175 (h130.ot) (fun z hz => by cases hz; exact ⟨by omega, by unfold LvC; rw [c165, c169, c155, c150]; omega⟩) (fun σ170 H171 e172 c173 => ?_)
      refine k_goto ?_
      refine hB _ _ _ _ (kgoC (is := KX7_readFor_83) rfl ?_)
      refine k_aload_n rfl ?_
      refine k_iconst (m := 4) rfl (fun x176 h177 => ?_)
      have t178 := t139.x e172
      have R179 : RdC p0 none (-14) (9 + 8 * (d : Int)) (-1000) σ0 σ170 := R158.tr ⟨(e172.gw H127.1 (by decide)), (e172.cou (u := 0) H127.1 t139 (by decide) (by rw [e172.cn (by decide)]; omega))⟩ (by omega) (by omega) (by omega) (by omega)
      have c180 := (t139.mi e172 (by decide)).trans c142
      have X181 : ExC [0, 1, 2, 60, 61, 62, 63, 64, 65, 66, 67, 68, 69, 70, 72, 73, 74, 75, 76, 242, 243, 244, 246, 270, 271, 272, 273, 275, 276, 277, 278, 279, 280, 330, 331, 332, 333, 334, 999] σ0 σ124 := X103.tr (e128.mo (by decide))
      have X182 : ExC [0, 1, 2, 60, 61, 62, 63, 64, 65, 66, 67, 68, 69, 70, 72, 73, 74, 75, 76, 242, 243, 244, 246, 270, 271, 272, 273, 275, 276, 277, 278, 279, 280, 330, 331, 332, 333, 334, 999] σ0 σ170 := X181.tr (e172.mo (by decide))
      have c183 := (t139.mi e172 (by decide)).trans c136
      have z184 := congrArg Int32.toInt c183
      have z185 := congrArg Int32.toInt c180
      refine k_inv (P := P_X7_expect) (Q := Q_X7_expect) rfl rfl rfl rfl (Nat.le_of_ble_eq_true rfl) (t178.rc (by decide)) ⟨_, _, rfl, H171, t178, (by omega), (by omega), (rd_cd.st H0 h_0_0 X182 R179.1 (by decide)), (R179.2.2.2.1 rd_at), (rd_bg.st H0 h_0_0 X182 R179 (by decide) (by omega) (by omega) (by omega))⟩ (fun w186 σ187 q188 => ?_)
      obtain ⟨rfl, H189, e190, R191, q192⟩ := q188
      have t198 := t178.x e190
      obtain ⟨x193, e194, c195, h196, h197⟩ := cg242 H189.1 t198
      obtain ⟨x199, e200, c201, h202, h203⟩ := cg243 H189.1 t198
      have z204 := congrArg Int32.toInt c195
      have z205 := congrArg Int32.toInt c201
      refine k_st (st' := []) rfl ?_
      have R206 : RdC p0 none (-22) (9 + 8 * (d : Int)) (-1000) σ0 σ187 := R179.tr ⟨R191.1, R191.2⟩ (by omega) (by omega) (by omega) (by omega)
      have z207 := R206.2.2.1
      have z208 := R206.2.2.2.1 rd_at
      refine k_aload_n rfl ?_
      have X209 : ExC [0, 1, 2, 60, 61, 62, 63, 64, 65, 66, 67, 68, 69, 70, 72, 73, 74, 75, 76, 242, 243, 244, 246, 270, 271, 272, 273, 275, 276, 277, 278, 279, 280, 330, 331, 332, 333, 334, 999] σ0 σ187 := X182.tr (e190.mo (by decide))
      refine k_inv (P := P_X7_code) (Q := Q_X7_code) rfl rfl rfl rfl (Nat.le_of_ble_eq_true rfl) (t198.rc (by decide)) ⟨_, rfl, H189, t198, (rd_cd.st H0 h_0_0 X209 R206.1 (by decide))⟩ (fun w210 σ211 q212 => ?_)
      obtain ⟨x213, rfl, rfl, q214, q215, q216⟩ := q212
      refine k_st (st' := [.inl x213]) rfl ?_
      refine k_iconst (m := 4) rfl (fun x217 h218 => ?_)
      refine k_ic_eq (fun h219 => ?_) (fun h219 => ?_)
      · have h220 : x199.toInt = 0 := by omega
        refine hB _ _ _ _ (kgoC (is := KX7_readFor_105) rfl ?_)
        refine k_aload_n rfl ?_
        refine k_iconst (m := 4) rfl (fun x221 h222 => ?_)
        have R223 := R206.nf (-1000) (-1000) (by rw [c201]; omega)
        refine k_inv (P := P_X7_expect) (Q := Q_X7_expect) rfl rfl rfl rfl (Nat.le_of_ble_eq_true rfl) (t198.rc (by decide)) ⟨_, _, rfl, H189, t198, (by omega), (by omega), (rd_cd.st H0 h_0_0 X209 R223.1 (by decide)), (R223.2.2.2.1 rd_at), (rd_bg.stn H0 h_0_0 X209 R223 (by decide) (by rw [c201]; omega) (by omega))⟩ (fun w224 σ225 q226 => ?_)
        obtain ⟨rfl, H227, e228, R229, q230⟩ := q226
        have t236 := t198.x e228
        obtain ⟨x231, e232, c233, h234, h235⟩ := cg242 H227.1 t236
        obtain ⟨x237, e238, c239, h240, h241⟩ := cg243 H227.1 t236
        have z242 := congrArg Int32.toInt c233
        have z243 := congrArg Int32.toInt c239
        refine k_st (st' := []) rfl ?_
        have R244 : RdC p0 none (-30) (-22) (-1000) σ0 σ225 := R223.tr ⟨R229.1, R229.2⟩ (by omega) (by omega) (by omega) (by omega)
        have z245 := R244.2.2.1
        have z246 := R244.2.2.2.1 rd_at
        refine k_aload_n rfl ?_
        have X247 : ExC [0, 1, 2, 60, 61, 62, 63, 64, 65, 66, 67, 68, 69, 70, 72, 73, 74, 75, 76, 242, 243, 244, 246, 270, 271, 272, 273, 275, 276, 277, 278, 279, 280, 330, 331, 332, 333, 334, 999] σ0 σ225 := X209.tr (e228.mo (by decide))
        refine k_inv (P := P_X7_code) (Q := Q_X7_code) rfl rfl rfl rfl (Nat.le_of_ble_eq_true rfl) (t236.rc (by decide)) ⟨_, rfl, H227, t236, (rd_cd.st H0 h_0_0 X247 R244.1 (by decide))⟩ (fun w248 σ249 q250 => ?_)
        obtain ⟨x251, rfl, rfl, q252, q253, q254⟩ := q250
        refine k_st (st' := [.inl x251]) rfl ?_
        refine k_iconst (m := 1) rfl (fun x255 h256 => ?_)
        refine k_ic_eq (fun h257 => ?_) (fun h257 => ?_)
        · have h258 : x237.toInt = 0 := by omega
          refine hB _ _ _ _ (kgoC (is := KX7_readFor_127) rfl ?_)
          refine k_aload_n rfl ?_
          refine k_iconst (m := 1) rfl (fun x259 h260 => ?_)
          have R261 := R244.nf (-1000) (-1000) (by rw [c239]; omega)
          refine k_inv (P := P_X7_expect) (Q := Q_X7_expect) rfl rfl rfl rfl (Nat.le_of_ble_eq_true rfl) (t236.rc (by decide)) ⟨_, _, rfl, H227, t236, (by omega), (by omega), (rd_cd.st H0 h_0_0 X247 R261.1 (by decide)), (R261.2.2.2.1 rd_at), (rd_bg.stn H0 h_0_0 X247 R261 (by decide) (by rw [c239]; omega) (by omega))⟩ (fun w262 σ263 q264 => ?_)
          obtain ⟨rfl, H265, e266, R267, q268⟩ := q264
          have t274 := t236.x e266
          obtain ⟨x269, e270, c271, h272, h273⟩ := cg242 H265.1 t274
          obtain ⟨x275, e276, c277, h278, h279⟩ := cg243 H265.1 t274
          have z280 := congrArg Int32.toInt c271
          have z281 := congrArg Int32.toInt c277
          refine k_st (st' := []) rfl ?_
          have R282 : RdC p0 none (-38) (-30) (-1000) σ0 σ263 := R261.tr ⟨R267.1, R267.2⟩ (by omega) (by omega) (by omega) (by omega)
          have z283 := R282.2.2.1
          have z284 := R282.2.2.2.1 rd_at
          refine k_aload_n rfl ?_
          refine k_aload_n rfl ?_
          refine k_aload_n rfl ?_
          refine k_iload_n rfl ?_
          have t285 := t175.x e172
          have t286 := t285.x e190
          have t287 := t286.x e228
          have t288 := t287.x e266
          have X289 : ExC [0, 1, 2, 60, 61, 62, 63, 64, 65, 66, 67, 68, 69, 70, 72, 73, 74, 75, 76, 242, 243, 244, 246, 270, 271, 272, 273, 275, 276, 277, 278, 279, 280, 330, 331, 332, 333, 334, 999] σ0 σ263 := X247.tr (e266.mo (by decide))
          refine k_inv (P := (P_X7_readInner d)) (Q := (Q_X7_readInner d)) rfl rfl rfl rfl (Nat.le_of_ble_eq_true rfl) (t274.rc (by decide)) ⟨_, _, _, rfl, H265, t274, t288, (by omega), (by omega), (rd_cd.st H0 h_0_0 X289 R282.1 (by decide)), (R282.2.2.2.1 rd_at), (rd_bg.st H0 h_0_0 X289 R282 (by decide) (by omega) (by omega) (by omega)), (by omega)⟩ (fun w290 σ291 q292 => ?_)
          obtain ⟨a293, rfl, H294, e295, h297, R296, q298, q299, q300⟩ := q292
          have t306 := t274.x e295
          obtain ⟨x301, e302, c303, h304, h305⟩ := cg242 H294.1 t306
          obtain ⟨x307, e308, c309, h310, h311⟩ := cg243 H294.1 t306
          have z312 := congrArg Int32.toInt c303
          have z313 := congrArg Int32.toInt c309
          refine k_st (st' := [.inr (.inr (some a293)), .inr (.inr (some a20))]) rfl ?_
          have z314 := R282.1.1
          obtain ⟨x315, e316, c317, h318, h319⟩ := cg272 H294.1 h297
          rw [c317] at q299
          obtain ⟨x320, e321, c322, h323, h324⟩ := cg270 H294.1 h297
          rw [c322] at q300
          have R325 : RdC p0 none (-38) (-22 + 8 * (d : Int)) (-997) σ0 σ291 := R282.tr ⟨R296.1, R296.2⟩ (by omega) (by omega) (by omega) (by omega)
          have z326 := R325.2.2.1
          have z327 := R325.2.2.2.1 rd_at
          have c328 := (t175.mi e172 (by decide)).trans c165
          have c329 := (t285.mi e190 (by decide)).trans c328
          have c330 := (t286.mi e228 (by decide)).trans c329
          have c331 := (t287.mi e266 (by decide)).trans c330
          have c332 := (t288.fi e295 (by decide) (by decide)).trans c331
          have c333 := (t175.mi e172 (by decide)).trans c169
          have c334 := (t285.mi e190 (by decide)).trans c333
          have c335 := (t286.mi e228 (by decide)).trans c334
          have c336 := (t287.mi e266 (by decide)).trans c335
          have c337 := (t288.fi e295 (by decide) (by decide)).trans c336
          have z342 := t288.1
          have t343 := t288.x e295
          refine k_p276 H294 t343 (h297.ot) (fun z hz => by cases hz; exact ⟨by omega, by unfold LvC; rw [c332, c337, c322, c317]; omega⟩) (fun σ338 H339 e340 c341 => ?_)
          refine k_aload_n rfl ?_
          refine k_lload rfl ?_
          have t344 := t306.x e340
          refine k_putL kg245 H339 t344 fk245 (fun σ345 H346 e347 c348 => ?_)
          refine k_aload_n rfl ?_
          refine k_aload_n rfl ?_
          have t349 := t344.x e347
          have t354 := t37.x e48
          have t355 := t354.x e74
          have t356 := t355.x e95
          have t357 := t356.x e128
          have t358 := t357.x e172
          have t359 := t358.x e190
          have t360 := t359.x e228
          have t361 := t360.x e266
          have t362 := t361.x e295
          have t363 := t362.x e340
          have t364 := t363.x e347
          refine k_putR kp246 H346 t349 fk246 (rfo246 (t364)) (fun σ350 H351 e352 c353 => ?_)
          refine k_aload_n rfl ?_
          refine k_areturn ?_
          have X365 : ExC [0, 1, 2, 60, 61, 62, 63, 64, 65, 66, 67, 68, 69, 70, 72, 73, 74, 75, 76, 242, 243, 244, 246, 270, 271, 272, 273, 275, 276, 277, 278, 279, 280, 330, 331, 332, 333, 334, 999] σ0 σ291 := X289.tr (e295.mo (by decide))
          have X366 : ExC [0, 1, 2, 60, 61, 62, 63, 64, 65, 66, 67, 68, 69, 70, 72, 73, 74, 75, 76, 242, 243, 244, 246, 270, 271, 272, 273, 275, 276, 277, 278, 279, 280, 330, 331, 332, 333, 334, 999] σ0 σ338 := X365.tr (e340.mo (by decide))
          have X367 : ExC [0, 1, 2, 60, 61, 62, 63, 64, 65, 66, 67, 68, 69, 70, 72, 73, 74, 75, 76, 242, 243, 244, 246, 270, 271, 272, 273, 275, 276, 277, 278, 279, 280, 330, 331, 332, 333, 334, 999] σ0 σ345 := X366.tr (e347.mo (by decide))
          have X368 : ExC [0, 1, 2, 60, 61, 62, 63, 64, 65, 66, 67, 68, 69, 70, 72, 73, 74, 75, 76, 242, 243, 244, 246, 270, 271, 272, 273, 275, 276, 277, 278, 279, 280, 330, 331, 332, 333, 334, 999] σ0 σ350 := X367.tr (e352.mo (by decide))
          have t369 := t343.x e340
          have t370 := t369.x e347
          have t371 := t370.x e352
          have R372 : RdC p0 none (-38) (-22 + 8 * (d : Int)) (-997) σ0 σ338 := R325.tr ⟨(e340.gw H294.1 (by decide)), (e340.cou (u := 0) H294.1 t306 (by decide) (by rw [e340.cn (by decide)]; omega))⟩ (by omega) (by omega) (by omega) (by omega)
          have R373 : RdC p0 none (-38) (-22 + 8 * (d : Int)) (-997) σ0 σ345 := R372.tr ⟨(e347.gw H339.1 (by decide)), (e347.cou (u := 0) H339.1 t344 (by decide) (by rw [e347.cn (by decide)]; omega))⟩ (by omega) (by omega) (by omega) (by omega)
          have R374 : RdC p0 none (-38) (-22 + 8 * (d : Int)) (-997) σ0 σ350 := R373.tr ⟨(e352.gw H346.1 (by decide)), (e352.cou (u := 0) H346.1 t349 (by decide) (by rw [e352.cn (by decide)]; omega))⟩ (by omega) (by omega) (by omega) (by omega)
          have c375 := (t306.mi e340 (by decide)).trans c309
          have c376 := (t344.mi e347 (by decide)).trans c375
          have c377 := (t349.mi e352 (by decide)).trans c376
          have c378 := (t306.mi e340 (by decide)).trans c303
          have c379 := (t344.mi e347 (by decide)).trans c378
          have c380 := (t349.mi e352 (by decide)).trans c379
          have c381 := (t343.mi e340 (by decide)).trans c337
          have c382 := (t369.mi e347 (by decide)).trans c381
          have c383 := (t370.mi e352 (by decide)).trans c382
          have c384 := (t343.mi e340 (by decide)).trans c332
          have c385 := (t369.mi e347 (by decide)).trans c384
          have c386 := (t370.mi e352 (by decide)).trans c385
          exact ⟨_, rfl, H351, X368, t371, (R374.mo (by omega) (by omega) (by omega)), (by omega), (by rw [c383] <;> omega), (by rw [c386] <;> omega)⟩
        · refine k_nil ?_
          refine hB _ _ _ _ (kgoC (is := KX7_readFor_118) rfl ?_)
          refine k_aload_n rfl ?_
          refine k_aload_n rfl ?_
          refine k_iload_n rfl ?_
          refine k_inv (P := (P_X7_readForExps d)) (Q := (Q_X7_readForExps d)) rfl rfl rfl rfl (Nat.le_of_ble_eq_true rfl) (t236.rc (by decide)) ⟨_, _, rfl, H227, t236, (by omega), (by omega), (rd_cd.st H0 h_0_0 X247 R244.1 (by decide)), (R244.2.2.2.1 rd_at), (rd_bg.st H0 h_0_0 X247 R244 (by decide) (by omega) (by omega) (by omega)), (by omega)⟩ (fun w387 σ388 q389 => ?_)
          obtain ⟨a390, rfl, H391, e392, h394, R393, q395, q396, q397⟩ := q389
          have t403 := t236.x e392
          obtain ⟨x398, e399, c400, h401, h402⟩ := cg242 H391.1 t403
          obtain ⟨x404, e405, c406, h407, h408⟩ := cg243 H391.1 t403
          have z409 := congrArg Int32.toInt c400
          have z410 := congrArg Int32.toInt c406
          refine k_st (st' := [.inr (.inr (some a390)), .inr (.inr (some a20))]) rfl ?_
          have z411 := R244.1.1
          obtain ⟨x412, e413, c414, h415, h416⟩ := cg272 H391.1 h394
          rw [c414] at q396
          obtain ⟨x417, e418, c419, h420, h421⟩ := cg270 H391.1 h394
          rw [c419] at q397
          have R422 : RdC p0 none (-28) (-8 + 8 * (d : Int)) (-997) σ0 σ388 := R244.tr ⟨R393.1, R393.2⟩ (by omega) (by omega) (by omega) (by omega)
          have z423 := R422.2.2.1
          have z424 := R422.2.2.2.1 rd_at
          have c425 := (t175.mi e172 (by decide)).trans c165
          have t426 := t175.x e172
          have c427 := (t426.mi e190 (by decide)).trans c425
          have t428 := t426.x e190
          have c429 := (t428.mi e228 (by decide)).trans c427
          have t430 := t428.x e228
          have c431 := (t430.fi e392 (by decide) (by decide)).trans c429
          have c432 := (t175.mi e172 (by decide)).trans c169
          have c433 := (t426.mi e190 (by decide)).trans c432
          have c434 := (t428.mi e228 (by decide)).trans c433
          have c435 := (t430.fi e392 (by decide) (by decide)).trans c434
          have z440 := t430.1
          have t441 := t430.x e392
          refine k_p278 H391 t441 (h394.ot) (fun z hz => by cases hz; exact ⟨by omega, by unfold LvC; rw [c431, c435, c419, c414]; omega⟩) (fun σ436 H437 e438 c439 => ?_)
          refine k_nil ?_
          refine hB _ _ _ _ (kgoC (is := KX7_readFor_127) rfl ?_)
          refine k_aload_n rfl ?_
          refine k_iconst (m := 1) rfl (fun x442 h443 => ?_)
          have t444 := t403.x e438
          have R445 : RdC p0 none (-28) (-8 + 8 * (d : Int)) (-997) σ0 σ436 := R422.tr ⟨(e438.gw H391.1 (by decide)), (e438.cou (u := 0) H391.1 t403 (by decide) (by rw [e438.cn (by decide)]; omega))⟩ (by omega) (by omega) (by omega) (by omega)
          have c446 := (t403.mi e438 (by decide)).trans c406
          have X447 : ExC [0, 1, 2, 60, 61, 62, 63, 64, 65, 66, 67, 68, 69, 70, 72, 73, 74, 75, 76, 242, 243, 244, 246, 270, 271, 272, 273, 275, 276, 277, 278, 279, 280, 330, 331, 332, 333, 334, 999] σ0 σ388 := X247.tr (e392.mo (by decide))
          have X448 : ExC [0, 1, 2, 60, 61, 62, 63, 64, 65, 66, 67, 68, 69, 70, 72, 73, 74, 75, 76, 242, 243, 244, 246, 270, 271, 272, 273, 275, 276, 277, 278, 279, 280, 330, 331, 332, 333, 334, 999] σ0 σ436 := X447.tr (e438.mo (by decide))
          have c449 := (t403.mi e438 (by decide)).trans c400
          have z450 := congrArg Int32.toInt c449
          have z451 := congrArg Int32.toInt c446
          refine k_inv (P := P_X7_expect) (Q := Q_X7_expect) rfl rfl rfl rfl (Nat.le_of_ble_eq_true rfl) (t444.rc (by decide)) ⟨_, _, rfl, H437, t444, (by omega), (by omega), (rd_cd.st H0 h_0_0 X448 R445.1 (by decide)), (R445.2.2.2.1 rd_at), (rd_bg.st H0 h_0_0 X448 R445 (by decide) (by omega) (by omega) (by omega))⟩ (fun w452 σ453 q454 => ?_)
          obtain ⟨rfl, H455, e456, R457, q458⟩ := q454
          have t464 := t444.x e456
          obtain ⟨x459, e460, c461, h462, h463⟩ := cg242 H455.1 t464
          obtain ⟨x465, e466, c467, h468, h469⟩ := cg243 H455.1 t464
          have z470 := congrArg Int32.toInt c461
          have z471 := congrArg Int32.toInt c467
          refine k_st (st' := []) rfl ?_
          have R472 : RdC p0 none (-36) (-8 + 8 * (d : Int)) (-997) σ0 σ453 := R445.tr ⟨R457.1, R457.2⟩ (by omega) (by omega) (by omega) (by omega)
          have z473 := R472.2.2.1
          have z474 := R472.2.2.2.1 rd_at
          refine k_aload_n rfl ?_
          refine k_aload_n rfl ?_
          refine k_aload_n rfl ?_
          refine k_iload_n rfl ?_
          have t475 := t441.x e438
          have t476 := t475.x e456
          have X477 : ExC [0, 1, 2, 60, 61, 62, 63, 64, 65, 66, 67, 68, 69, 70, 72, 73, 74, 75, 76, 242, 243, 244, 246, 270, 271, 272, 273, 275, 276, 277, 278, 279, 280, 330, 331, 332, 333, 334, 999] σ0 σ453 := X448.tr (e456.mo (by decide))
          refine k_inv (P := (P_X7_readInner d)) (Q := (Q_X7_readInner d)) rfl rfl rfl rfl (Nat.le_of_ble_eq_true rfl) (t464.rc (by decide)) ⟨_, _, _, rfl, H455, t464, t476, (by omega), (by omega), (rd_cd.st H0 h_0_0 X477 R472.1 (by decide)), (R472.2.2.2.1 rd_at), (rd_bg.st H0 h_0_0 X477 R472 (by decide) (by omega) (by omega) (by omega)), (by omega)⟩ (fun w478 σ479 q480 => ?_)
          obtain ⟨a481, rfl, H482, e483, h485, R484, q486, q487, q488⟩ := q480
          have t494 := t464.x e483
          obtain ⟨x489, e490, c491, h492, h493⟩ := cg242 H482.1 t494
          obtain ⟨x495, e496, c497, h498, h499⟩ := cg243 H482.1 t494
          have z500 := congrArg Int32.toInt c491
          have z501 := congrArg Int32.toInt c497
          refine k_st (st' := [.inr (.inr (some a481)), .inr (.inr (some a20))]) rfl ?_
          have z502 := R472.1.1
          obtain ⟨x503, e504, c505, h506, h507⟩ := cg272 H482.1 h485
          rw [c505] at q487
          obtain ⟨x508, e509, c510, h511, h512⟩ := cg270 H482.1 h485
          rw [c510] at q488
          have R513 : RdC p0 none (-36) (-5 + 8 * (d : Int)) (-994) σ0 σ479 := R472.tr ⟨R484.1, R484.2⟩ (by omega) (by omega) (by omega) (by omega)
          have z514 := R513.2.2.1
          have z515 := R513.2.2.2.1 rd_at
          have c516 := (t441.mi e438 (by decide)).trans c431
          have c517 := (t475.mi e456 (by decide)).trans c516
          have c518 := (t476.fi e483 (by decide) (by decide)).trans c517
          have c519 := (t441.mi e438 (by decide)).trans c435
          have c520 := (t475.mi e456 (by decide)).trans c519
          have c521 := (t476.fi e483 (by decide) (by decide)).trans c520
          have z526 := t476.1
          have t527 := t476.x e483
          refine k_p276 H482 t527 (h485.ot) (fun z hz => by cases hz; exact ⟨by omega, by unfold LvC; rw [c518, c521, c510, c505]; omega⟩) (fun σ522 H523 e524 c525 => ?_)
          refine k_aload_n rfl ?_
          refine k_lload rfl ?_
          have t528 := t494.x e524
          refine k_putL kg245 H523 t528 fk245 (fun σ529 H530 e531 c532 => ?_)
          refine k_aload_n rfl ?_
          refine k_aload_n rfl ?_
          have t533 := t528.x e531
          have t538 := t37.x e48
          have t539 := t538.x e74
          have t540 := t539.x e95
          have t541 := t540.x e128
          have t542 := t541.x e172
          have t543 := t542.x e190
          have t544 := t543.x e228
          have t545 := t544.x e392
          have t546 := t545.x e438
          have t547 := t546.x e456
          have t548 := t547.x e483
          have t549 := t548.x e524
          have t550 := t549.x e531
          refine k_putR kp246 H530 t533 fk246 (rfo246 (t550)) (fun σ534 H535 e536 c537 => ?_)
          refine k_aload_n rfl ?_
          refine k_areturn ?_
          have X551 : ExC [0, 1, 2, 60, 61, 62, 63, 64, 65, 66, 67, 68, 69, 70, 72, 73, 74, 75, 76, 242, 243, 244, 246, 270, 271, 272, 273, 275, 276, 277, 278, 279, 280, 330, 331, 332, 333, 334, 999] σ0 σ479 := X477.tr (e483.mo (by decide))
          have X552 : ExC [0, 1, 2, 60, 61, 62, 63, 64, 65, 66, 67, 68, 69, 70, 72, 73, 74, 75, 76, 242, 243, 244, 246, 270, 271, 272, 273, 275, 276, 277, 278, 279, 280, 330, 331, 332, 333, 334, 999] σ0 σ522 := X551.tr (e524.mo (by decide))
          have X553 : ExC [0, 1, 2, 60, 61, 62, 63, 64, 65, 66, 67, 68, 69, 70, 72, 73, 74, 75, 76, 242, 243, 244, 246, 270, 271, 272, 273, 275, 276, 277, 278, 279, 280, 330, 331, 332, 333, 334, 999] σ0 σ529 := X552.tr (e531.mo (by decide))
          have X554 : ExC [0, 1, 2, 60, 61, 62, 63, 64, 65, 66, 67, 68, 69, 70, 72, 73, 74, 75, 76, 242, 243, 244, 246, 270, 271, 272, 273, 275, 276, 277, 278, 279, 280, 330, 331, 332, 333, 334, 999] σ0 σ534 := X553.tr (e536.mo (by decide))
          have t555 := t527.x e524
          have t556 := t555.x e531
          have t557 := t556.x e536
          have R558 : RdC p0 none (-36) (-5 + 8 * (d : Int)) (-994) σ0 σ522 := R513.tr ⟨(e524.gw H482.1 (by decide)), (e524.cou (u := 0) H482.1 t494 (by decide) (by rw [e524.cn (by decide)]; omega))⟩ (by omega) (by omega) (by omega) (by omega)
          have R559 : RdC p0 none (-36) (-5 + 8 * (d : Int)) (-994) σ0 σ529 := R558.tr ⟨(e531.gw H523.1 (by decide)), (e531.cou (u := 0) H523.1 t528 (by decide) (by rw [e531.cn (by decide)]; omega))⟩ (by omega) (by omega) (by omega) (by omega)
          have R560 : RdC p0 none (-36) (-5 + 8 * (d : Int)) (-994) σ0 σ534 := R559.tr ⟨(e536.gw H530.1 (by decide)), (e536.cou (u := 0) H530.1 t533 (by decide) (by rw [e536.cn (by decide)]; omega))⟩ (by omega) (by omega) (by omega) (by omega)
          have c561 := (t494.mi e524 (by decide)).trans c497
          have c562 := (t528.mi e531 (by decide)).trans c561
          have c563 := (t533.mi e536 (by decide)).trans c562
          have c564 := (t494.mi e524 (by decide)).trans c491
          have c565 := (t528.mi e531 (by decide)).trans c564
          have c566 := (t533.mi e536 (by decide)).trans c565
          have c567 := (t527.mi e524 (by decide)).trans c521
          have c568 := (t555.mi e531 (by decide)).trans c567
          have c569 := (t556.mi e536 (by decide)).trans c568
          have c570 := (t527.mi e524 (by decide)).trans c518
          have c571 := (t555.mi e531 (by decide)).trans c570
          have c572 := (t556.mi e536 (by decide)).trans c571
          exact ⟨_, rfl, H535, X554, t557, (R560.mo (by omega) (by omega) (by omega)), (by omega), (by rw [c569] <;> omega), (by rw [c572] <;> omega)⟩
      · refine k_nil ?_
        refine hB _ _ _ _ (kgoC (is := KX7_readFor_96) rfl ?_)
        refine k_aload_n rfl ?_
        refine k_aload_n rfl ?_
        refine k_iload_n rfl ?_
        refine k_inv (P := (P_X7_readExp d)) (Q := (Q_X7_readExp d)) rfl rfl rfl rfl (Nat.le_of_ble_eq_true rfl) (t198.rc (by decide)) ⟨_, _, rfl, H189, t198, (by omega), (by omega), (rd_cd.st H0 h_0_0 X209 R206.1 (by decide)), (R206.2.2.2.1 rd_at), (rd_bg.st H0 h_0_0 X209 R206 (by decide) (by omega) (by omega) (by omega)), (by omega)⟩ (fun w573 σ574 q575 => ?_)
        obtain ⟨a576, rfl, H577, e578, h580, R579, q581⟩ := q575
        have t587 := t198.x e578
        obtain ⟨x582, e583, c584, h585, h586⟩ := cg242 H577.1 t587
        obtain ⟨x588, e589, c590, h591, h592⟩ := cg243 H577.1 t587
        have z593 := congrArg Int32.toInt c584
        have z594 := congrArg Int32.toInt c590
        refine k_st (st' := [.inr (.inr (some a576)), .inr (.inr (some a20))]) rfl ?_
        have z595 := R206.1.1
        have R596 : RdC p0 none (-22) (10 + 8 * (d : Int)) (-999) σ0 σ574 := R206.tr ⟨R579.1, R579.2⟩ (by omega) (by omega) (by omega) (by omega)
        have z597 := R596.2.2.1
        have z598 := R596.2.2.2.1 rd_at
        have t599 := t175.x e172
        have t600 := t599.x e190
        have t601 := t600.x e578
        refine k_putR kp279 H577 t601 fk279 (rf279 h580) (fun σ602 H603 e604 c605 => ?_)
        refine k_nil ?_
        refine hB _ _ _ _ (kgoC (is := KX7_readFor_105) rfl ?_)
        refine k_aload_n rfl ?_
        refine k_iconst (m := 4) rfl (fun x606 h607 => ?_)
        have t608 := t587.x e604
        have R609 : RdC p0 none (-22) (10 + 8 * (d : Int)) (-999) σ0 σ602 := R596.tr ⟨(e604.gw H577.1 (by decide)), (e604.cou (u := 0) H577.1 t587 (by decide) (by rw [e604.cn (by decide)]; omega))⟩ (by omega) (by omega) (by omega) (by omega)
        have c610 := (t587.mi e604 (by decide)).trans c590
        have X611 : ExC [0, 1, 2, 60, 61, 62, 63, 64, 65, 66, 67, 68, 69, 70, 72, 73, 74, 75, 76, 242, 243, 244, 246, 270, 271, 272, 273, 275, 276, 277, 278, 279, 280, 330, 331, 332, 333, 334, 999] σ0 σ574 := X209.tr (e578.mo (by decide))
        have X612 : ExC [0, 1, 2, 60, 61, 62, 63, 64, 65, 66, 67, 68, 69, 70, 72, 73, 74, 75, 76, 242, 243, 244, 246, 270, 271, 272, 273, 275, 276, 277, 278, 279, 280, 330, 331, 332, 333, 334, 999] σ0 σ602 := X611.tr (e604.mo (by decide))
        have c613 := (t587.mi e604 (by decide)).trans c584
        have z614 := congrArg Int32.toInt c613
        have z615 := congrArg Int32.toInt c610
        refine k_inv (P := P_X7_expect) (Q := Q_X7_expect) rfl rfl rfl rfl (Nat.le_of_ble_eq_true rfl) (t608.rc (by decide)) ⟨_, _, rfl, H603, t608, (by omega), (by omega), (rd_cd.st H0 h_0_0 X612 R609.1 (by decide)), (R609.2.2.2.1 rd_at), (rd_bg.st H0 h_0_0 X612 R609 (by decide) (by omega) (by omega) (by omega))⟩ (fun w616 σ617 q618 => ?_)
        obtain ⟨rfl, H619, e620, R621, q622⟩ := q618
        have t628 := t608.x e620
        obtain ⟨x623, e624, c625, h626, h627⟩ := cg242 H619.1 t628
        obtain ⟨x629, e630, c631, h632, h633⟩ := cg243 H619.1 t628
        have z634 := congrArg Int32.toInt c625
        have z635 := congrArg Int32.toInt c631
        refine k_st (st' := []) rfl ?_
        have R636 : RdC p0 none (-30) (10 + 8 * (d : Int)) (-999) σ0 σ617 := R609.tr ⟨R621.1, R621.2⟩ (by omega) (by omega) (by omega) (by omega)
        have z637 := R636.2.2.1
        have z638 := R636.2.2.2.1 rd_at
        refine k_aload_n rfl ?_
        have X639 : ExC [0, 1, 2, 60, 61, 62, 63, 64, 65, 66, 67, 68, 69, 70, 72, 73, 74, 75, 76, 242, 243, 244, 246, 270, 271, 272, 273, 275, 276, 277, 278, 279, 280, 330, 331, 332, 333, 334, 999] σ0 σ617 := X612.tr (e620.mo (by decide))
        refine k_inv (P := P_X7_code) (Q := Q_X7_code) rfl rfl rfl rfl (Nat.le_of_ble_eq_true rfl) (t628.rc (by decide)) ⟨_, rfl, H619, t628, (rd_cd.st H0 h_0_0 X639 R636.1 (by decide))⟩ (fun w640 σ641 q642 => ?_)
        obtain ⟨x643, rfl, rfl, q644, q645, q646⟩ := q642
        refine k_st (st' := [.inl x643]) rfl ?_
        refine k_iconst (m := 1) rfl (fun x647 h648 => ?_)
        refine k_ic_eq (fun h649 => ?_) (fun h649 => ?_)
        · have h650 : x629.toInt = 0 := by omega
          refine hB _ _ _ _ (kgoC (is := KX7_readFor_127) rfl ?_)
          refine k_aload_n rfl ?_
          refine k_iconst (m := 1) rfl (fun x651 h652 => ?_)
          have R653 := R636.nf (-1000) (-1000) (by rw [c631]; omega)
          refine k_inv (P := P_X7_expect) (Q := Q_X7_expect) rfl rfl rfl rfl (Nat.le_of_ble_eq_true rfl) (t628.rc (by decide)) ⟨_, _, rfl, H619, t628, (by omega), (by omega), (rd_cd.st H0 h_0_0 X639 R653.1 (by decide)), (R653.2.2.2.1 rd_at), (rd_bg.stn H0 h_0_0 X639 R653 (by decide) (by rw [c631]; omega) (by omega))⟩ (fun w654 σ655 q656 => ?_)
          obtain ⟨rfl, H657, e658, R659, q660⟩ := q656
          have t666 := t628.x e658
          obtain ⟨x661, e662, c663, h664, h665⟩ := cg242 H657.1 t666
          obtain ⟨x667, e668, c669, h670, h671⟩ := cg243 H657.1 t666
          have z672 := congrArg Int32.toInt c663
          have z673 := congrArg Int32.toInt c669
          refine k_st (st' := []) rfl ?_
          have R674 : RdC p0 none (-38) (-30) (-1000) σ0 σ655 := R653.tr ⟨R659.1, R659.2⟩ (by omega) (by omega) (by omega) (by omega)
          have z675 := R674.2.2.1
          have z676 := R674.2.2.2.1 rd_at
          refine k_aload_n rfl ?_
          refine k_aload_n rfl ?_
          refine k_aload_n rfl ?_
          refine k_iload_n rfl ?_
          have t677 := t601.x e604
          have t678 := t677.x e620
          have t679 := t678.x e658
          have X680 : ExC [0, 1, 2, 60, 61, 62, 63, 64, 65, 66, 67, 68, 69, 70, 72, 73, 74, 75, 76, 242, 243, 244, 246, 270, 271, 272, 273, 275, 276, 277, 278, 279, 280, 330, 331, 332, 333, 334, 999] σ0 σ655 := X639.tr (e658.mo (by decide))
          refine k_inv (P := (P_X7_readInner d)) (Q := (Q_X7_readInner d)) rfl rfl rfl rfl (Nat.le_of_ble_eq_true rfl) (t666.rc (by decide)) ⟨_, _, _, rfl, H657, t666, t679, (by omega), (by omega), (rd_cd.st H0 h_0_0 X680 R674.1 (by decide)), (R674.2.2.2.1 rd_at), (rd_bg.st H0 h_0_0 X680 R674 (by decide) (by omega) (by omega) (by omega)), (by omega)⟩ (fun w681 σ682 q683 => ?_)
          obtain ⟨a684, rfl, H685, e686, h688, R687, q689, q690, q691⟩ := q683
          have t697 := t666.x e686
          obtain ⟨x692, e693, c694, h695, h696⟩ := cg242 H685.1 t697
          obtain ⟨x698, e699, c700, h701, h702⟩ := cg243 H685.1 t697
          have z703 := congrArg Int32.toInt c694
          have z704 := congrArg Int32.toInt c700
          refine k_st (st' := [.inr (.inr (some a684)), .inr (.inr (some a20))]) rfl ?_
          have z705 := R674.1.1
          obtain ⟨x706, e707, c708, h709, h710⟩ := cg272 H685.1 h688
          rw [c708] at q690
          obtain ⟨x711, e712, c713, h714, h715⟩ := cg270 H685.1 h688
          rw [c713] at q691
          have R716 : RdC p0 none (-38) (-22 + 8 * (d : Int)) (-997) σ0 σ682 := R674.tr ⟨R687.1, R687.2⟩ (by omega) (by omega) (by omega) (by omega)
          have z717 := R716.2.2.1
          have z718 := R716.2.2.2.1 rd_at
          have c719 := (t175.mi e172 (by decide)).trans c165
          have c720 := (t599.mi e190 (by decide)).trans c719
          have c721 := (t600.mi e578 (by decide)).trans c720
          have c722 := (t601.mi e604 (by decide)).trans c721
          have c723 := (t677.mi e620 (by decide)).trans c722
          have c724 := (t678.mi e658 (by decide)).trans c723
          have c725 := (t679.fi e686 (by decide) (by decide)).trans c724
          have c726 := (t175.mi e172 (by decide)).trans c169
          have c727 := (t599.mi e190 (by decide)).trans c726
          have c728 := (t600.mi e578 (by decide)).trans c727
          have c729 := (t601.mi e604 (by decide)).trans c728
          have c730 := (t677.mi e620 (by decide)).trans c729
          have c731 := (t678.mi e658 (by decide)).trans c730
          have c732 := (t679.fi e686 (by decide) (by decide)).trans c731
          have z737 := t679.1
          have t738 := t679.x e686
          refine k_p276 H685 t738 (h688.ot) (fun z hz => by cases hz; exact ⟨by omega, by unfold LvC; rw [c725, c732, c713, c708]; omega⟩) (fun σ733 H734 e735 c736 => ?_)
          refine k_aload_n rfl ?_
          refine k_lload rfl ?_
          have t739 := t697.x e735
          refine k_putL kg245 H734 t739 fk245 (fun σ740 H741 e742 c743 => ?_)
          refine k_aload_n rfl ?_
          refine k_aload_n rfl ?_
          have t744 := t739.x e742
          have t749 := t37.x e48
          have t750 := t749.x e74
          have t751 := t750.x e95
          have t752 := t751.x e128
          have t753 := t752.x e172
          have t754 := t753.x e190
          have t755 := t754.x e578
          have t756 := t755.x e604
          have t757 := t756.x e620
          have t758 := t757.x e658
          have t759 := t758.x e686
          have t760 := t759.x e735
          have t761 := t760.x e742
          refine k_putR kp246 H741 t744 fk246 (rfo246 (t761)) (fun σ745 H746 e747 c748 => ?_)
          refine k_aload_n rfl ?_
          refine k_areturn ?_
          have X762 : ExC [0, 1, 2, 60, 61, 62, 63, 64, 65, 66, 67, 68, 69, 70, 72, 73, 74, 75, 76, 242, 243, 244, 246, 270, 271, 272, 273, 275, 276, 277, 278, 279, 280, 330, 331, 332, 333, 334, 999] σ0 σ682 := X680.tr (e686.mo (by decide))
          have X763 : ExC [0, 1, 2, 60, 61, 62, 63, 64, 65, 66, 67, 68, 69, 70, 72, 73, 74, 75, 76, 242, 243, 244, 246, 270, 271, 272, 273, 275, 276, 277, 278, 279, 280, 330, 331, 332, 333, 334, 999] σ0 σ733 := X762.tr (e735.mo (by decide))
          have X764 : ExC [0, 1, 2, 60, 61, 62, 63, 64, 65, 66, 67, 68, 69, 70, 72, 73, 74, 75, 76, 242, 243, 244, 246, 270, 271, 272, 273, 275, 276, 277, 278, 279, 280, 330, 331, 332, 333, 334, 999] σ0 σ740 := X763.tr (e742.mo (by decide))
          have X765 : ExC [0, 1, 2, 60, 61, 62, 63, 64, 65, 66, 67, 68, 69, 70, 72, 73, 74, 75, 76, 242, 243, 244, 246, 270, 271, 272, 273, 275, 276, 277, 278, 279, 280, 330, 331, 332, 333, 334, 999] σ0 σ745 := X764.tr (e747.mo (by decide))
          have t766 := t738.x e735
          have t767 := t766.x e742
          have t768 := t767.x e747
          have R769 : RdC p0 none (-38) (-22 + 8 * (d : Int)) (-997) σ0 σ733 := R716.tr ⟨(e735.gw H685.1 (by decide)), (e735.cou (u := 0) H685.1 t697 (by decide) (by rw [e735.cn (by decide)]; omega))⟩ (by omega) (by omega) (by omega) (by omega)
          have R770 : RdC p0 none (-38) (-22 + 8 * (d : Int)) (-997) σ0 σ740 := R769.tr ⟨(e742.gw H734.1 (by decide)), (e742.cou (u := 0) H734.1 t739 (by decide) (by rw [e742.cn (by decide)]; omega))⟩ (by omega) (by omega) (by omega) (by omega)
          have R771 : RdC p0 none (-38) (-22 + 8 * (d : Int)) (-997) σ0 σ745 := R770.tr ⟨(e747.gw H741.1 (by decide)), (e747.cou (u := 0) H741.1 t744 (by decide) (by rw [e747.cn (by decide)]; omega))⟩ (by omega) (by omega) (by omega) (by omega)
          have c772 := (t697.mi e735 (by decide)).trans c700
          have c773 := (t739.mi e742 (by decide)).trans c772
          have c774 := (t744.mi e747 (by decide)).trans c773
          have c775 := (t697.mi e735 (by decide)).trans c694
          have c776 := (t739.mi e742 (by decide)).trans c775
          have c777 := (t744.mi e747 (by decide)).trans c776
          have c778 := (t738.mi e735 (by decide)).trans c732
          have c779 := (t766.mi e742 (by decide)).trans c778
          have c780 := (t767.mi e747 (by decide)).trans c779
          have c781 := (t738.mi e735 (by decide)).trans c725
          have c782 := (t766.mi e742 (by decide)).trans c781
          have c783 := (t767.mi e747 (by decide)).trans c782
          exact ⟨_, rfl, H746, X765, t768, (R771.mo (by omega) (by omega) (by omega)), (by omega), (by rw [c780] <;> omega), (by rw [c783] <;> omega)⟩
        · refine k_nil ?_
          refine hB _ _ _ _ (kgoC (is := KX7_readFor_118) rfl ?_)
          refine k_aload_n rfl ?_
          refine k_aload_n rfl ?_
          refine k_iload_n rfl ?_
          refine k_inv (P := (P_X7_readForExps d)) (Q := (Q_X7_readForExps d)) rfl rfl rfl rfl (Nat.le_of_ble_eq_true rfl) (t628.rc (by decide)) ⟨_, _, rfl, H619, t628, (by omega), (by omega), (rd_cd.st H0 h_0_0 X639 R636.1 (by decide)), (R636.2.2.2.1 rd_at), (rd_bg.st H0 h_0_0 X639 R636 (by decide) (by omega) (by omega) (by omega)), (by omega)⟩ (fun w784 σ785 q786 => ?_)
          obtain ⟨a787, rfl, H788, e789, h791, R790, q792, q793, q794⟩ := q786
          have t800 := t628.x e789
          obtain ⟨x795, e796, c797, h798, h799⟩ := cg242 H788.1 t800
          obtain ⟨x801, e802, c803, h804, h805⟩ := cg243 H788.1 t800
          have z806 := congrArg Int32.toInt c797
          have z807 := congrArg Int32.toInt c803
          refine k_st (st' := [.inr (.inr (some a787)), .inr (.inr (some a20))]) rfl ?_
          have z808 := R636.1.1
          obtain ⟨x809, e810, c811, h812, h813⟩ := cg272 H788.1 h791
          rw [c811] at q793
          obtain ⟨x814, e815, c816, h817, h818⟩ := cg270 H788.1 h791
          rw [c816] at q794
          have R819 : RdC p0 none (-28) (13 + 8 * (d : Int)) (-996) σ0 σ785 := R636.tr ⟨R790.1, R790.2⟩ (by omega) (by omega) (by omega) (by omega)
          have z820 := R819.2.2.1
          have z821 := R819.2.2.2.1 rd_at
          have c822 := (t175.mi e172 (by decide)).trans c165
          have c823 := (t599.mi e190 (by decide)).trans c822
          have c824 := (t600.mi e578 (by decide)).trans c823
          have c825 := (t601.mi e604 (by decide)).trans c824
          have t826 := t601.x e604
          have c827 := (t826.mi e620 (by decide)).trans c825
          have t828 := t826.x e620
          have c829 := (t828.fi e789 (by decide) (by decide)).trans c827
          have c830 := (t175.mi e172 (by decide)).trans c169
          have c831 := (t599.mi e190 (by decide)).trans c830
          have c832 := (t600.mi e578 (by decide)).trans c831
          have c833 := (t601.mi e604 (by decide)).trans c832
          have c834 := (t826.mi e620 (by decide)).trans c833
          have c835 := (t828.fi e789 (by decide) (by decide)).trans c834
          have z840 := t828.1
          have t841 := t828.x e789
          refine k_p278 H788 t841 (h791.ot) (fun z hz => by cases hz; exact ⟨by omega, by unfold LvC; rw [c829, c835, c816, c811]; omega⟩) (fun σ836 H837 e838 c839 => ?_)
          refine k_nil ?_
          refine hB _ _ _ _ (kgoC (is := KX7_readFor_127) rfl ?_)
          refine k_aload_n rfl ?_
          refine k_iconst (m := 1) rfl (fun x842 h843 => ?_)
          have t844 := t800.x e838
          have R845 : RdC p0 none (-28) (13 + 8 * (d : Int)) (-996) σ0 σ836 := R819.tr ⟨(e838.gw H788.1 (by decide)), (e838.cou (u := 0) H788.1 t800 (by decide) (by rw [e838.cn (by decide)]; omega))⟩ (by omega) (by omega) (by omega) (by omega)
          have c846 := (t800.mi e838 (by decide)).trans c803
          have X847 : ExC [0, 1, 2, 60, 61, 62, 63, 64, 65, 66, 67, 68, 69, 70, 72, 73, 74, 75, 76, 242, 243, 244, 246, 270, 271, 272, 273, 275, 276, 277, 278, 279, 280, 330, 331, 332, 333, 334, 999] σ0 σ785 := X639.tr (e789.mo (by decide))
          have X848 : ExC [0, 1, 2, 60, 61, 62, 63, 64, 65, 66, 67, 68, 69, 70, 72, 73, 74, 75, 76, 242, 243, 244, 246, 270, 271, 272, 273, 275, 276, 277, 278, 279, 280, 330, 331, 332, 333, 334, 999] σ0 σ836 := X847.tr (e838.mo (by decide))
          have c849 := (t800.mi e838 (by decide)).trans c797
          have z850 := congrArg Int32.toInt c849
          have z851 := congrArg Int32.toInt c846
          refine k_inv (P := P_X7_expect) (Q := Q_X7_expect) rfl rfl rfl rfl (Nat.le_of_ble_eq_true rfl) (t844.rc (by decide)) ⟨_, _, rfl, H837, t844, (by omega), (by omega), (rd_cd.st H0 h_0_0 X848 R845.1 (by decide)), (R845.2.2.2.1 rd_at), (rd_bg.st H0 h_0_0 X848 R845 (by decide) (by omega) (by omega) (by omega))⟩ (fun w852 σ853 q854 => ?_)
          obtain ⟨rfl, H855, e856, R857, q858⟩ := q854
          have t864 := t844.x e856
          obtain ⟨x859, e860, c861, h862, h863⟩ := cg242 H855.1 t864
          obtain ⟨x865, e866, c867, h868, h869⟩ := cg243 H855.1 t864
          have z870 := congrArg Int32.toInt c861
          have z871 := congrArg Int32.toInt c867
          refine k_st (st' := []) rfl ?_
          have R872 : RdC p0 none (-36) (13 + 8 * (d : Int)) (-996) σ0 σ853 := R845.tr ⟨R857.1, R857.2⟩ (by omega) (by omega) (by omega) (by omega)
          have z873 := R872.2.2.1
          have z874 := R872.2.2.2.1 rd_at
          refine k_aload_n rfl ?_
          refine k_aload_n rfl ?_
          refine k_aload_n rfl ?_
          refine k_iload_n rfl ?_
          have t875 := t841.x e838
          have t876 := t875.x e856
          have X877 : ExC [0, 1, 2, 60, 61, 62, 63, 64, 65, 66, 67, 68, 69, 70, 72, 73, 74, 75, 76, 242, 243, 244, 246, 270, 271, 272, 273, 275, 276, 277, 278, 279, 280, 330, 331, 332, 333, 334, 999] σ0 σ853 := X848.tr (e856.mo (by decide))
          refine k_inv (P := (P_X7_readInner d)) (Q := (Q_X7_readInner d)) rfl rfl rfl rfl (Nat.le_of_ble_eq_true rfl) (t864.rc (by decide)) ⟨_, _, _, rfl, H855, t864, t876, (by omega), (by omega), (rd_cd.st H0 h_0_0 X877 R872.1 (by decide)), (R872.2.2.2.1 rd_at), (rd_bg.st H0 h_0_0 X877 R872 (by decide) (by omega) (by omega) (by omega)), (by omega)⟩ (fun w878 σ879 q880 => ?_)
          obtain ⟨a881, rfl, H882, e883, h885, R884, q886, q887, q888⟩ := q880
          have t894 := t864.x e883
          obtain ⟨x889, e890, c891, h892, h893⟩ := cg242 H882.1 t894
          obtain ⟨x895, e896, c897, h898, h899⟩ := cg243 H882.1 t894
          have z900 := congrArg Int32.toInt c891
          have z901 := congrArg Int32.toInt c897
          refine k_st (st' := [.inr (.inr (some a881)), .inr (.inr (some a20))]) rfl ?_
          have z902 := R872.1.1
          obtain ⟨x903, e904, c905, h906, h907⟩ := cg272 H882.1 h885
          rw [c905] at q887
          obtain ⟨x908, e909, c910, h911, h912⟩ := cg270 H882.1 h885
          rw [c910] at q888
          have R913 : RdC p0 none (-36) (16 + 8 * (d : Int)) (-993) σ0 σ879 := R872.tr ⟨R884.1, R884.2⟩ (by omega) (by omega) (by omega) (by omega)
          have z914 := R913.2.2.1
          have z915 := R913.2.2.2.1 rd_at
          have c916 := (t841.mi e838 (by decide)).trans c829
          have c917 := (t875.mi e856 (by decide)).trans c916
          have c918 := (t876.fi e883 (by decide) (by decide)).trans c917
          have c919 := (t841.mi e838 (by decide)).trans c835
          have c920 := (t875.mi e856 (by decide)).trans c919
          have c921 := (t876.fi e883 (by decide) (by decide)).trans c920
          have z926 := t876.1
          have t927 := t876.x e883
          refine k_p276 H882 t927 (h885.ot) (fun z hz => by cases hz; exact ⟨by omega, by unfold LvC; rw [c918, c921, c910, c905]; omega⟩) (fun σ922 H923 e924 c925 => ?_)
          refine k_aload_n rfl ?_
          refine k_lload rfl ?_
          have t928 := t894.x e924
          refine k_putL kg245 H923 t928 fk245 (fun σ929 H930 e931 c932 => ?_)
          refine k_aload_n rfl ?_
          refine k_aload_n rfl ?_
          have t933 := t928.x e931
          have t938 := t37.x e48
          have t939 := t938.x e74
          have t940 := t939.x e95
          have t941 := t940.x e128
          have t942 := t941.x e172
          have t943 := t942.x e190
          have t944 := t943.x e578
          have t945 := t944.x e604
          have t946 := t945.x e620
          have t947 := t946.x e789
          have t948 := t947.x e838
          have t949 := t948.x e856
          have t950 := t949.x e883
          have t951 := t950.x e924
          have t952 := t951.x e931
          refine k_putR kp246 H930 t933 fk246 (rfo246 (t952)) (fun σ934 H935 e936 c937 => ?_)
          refine k_aload_n rfl ?_
          refine k_areturn ?_
          have X953 : ExC [0, 1, 2, 60, 61, 62, 63, 64, 65, 66, 67, 68, 69, 70, 72, 73, 74, 75, 76, 242, 243, 244, 246, 270, 271, 272, 273, 275, 276, 277, 278, 279, 280, 330, 331, 332, 333, 334, 999] σ0 σ879 := X877.tr (e883.mo (by decide))
          have X954 : ExC [0, 1, 2, 60, 61, 62, 63, 64, 65, 66, 67, 68, 69, 70, 72, 73, 74, 75, 76, 242, 243, 244, 246, 270, 271, 272, 273, 275, 276, 277, 278, 279, 280, 330, 331, 332, 333, 334, 999] σ0 σ922 := X953.tr (e924.mo (by decide))
          have X955 : ExC [0, 1, 2, 60, 61, 62, 63, 64, 65, 66, 67, 68, 69, 70, 72, 73, 74, 75, 76, 242, 243, 244, 246, 270, 271, 272, 273, 275, 276, 277, 278, 279, 280, 330, 331, 332, 333, 334, 999] σ0 σ929 := X954.tr (e931.mo (by decide))
          have X956 : ExC [0, 1, 2, 60, 61, 62, 63, 64, 65, 66, 67, 68, 69, 70, 72, 73, 74, 75, 76, 242, 243, 244, 246, 270, 271, 272, 273, 275, 276, 277, 278, 279, 280, 330, 331, 332, 333, 334, 999] σ0 σ934 := X955.tr (e936.mo (by decide))
          have t957 := t927.x e924
          have t958 := t957.x e931
          have t959 := t958.x e936
          have R960 : RdC p0 none (-36) (16 + 8 * (d : Int)) (-993) σ0 σ922 := R913.tr ⟨(e924.gw H882.1 (by decide)), (e924.cou (u := 0) H882.1 t894 (by decide) (by rw [e924.cn (by decide)]; omega))⟩ (by omega) (by omega) (by omega) (by omega)
          have R961 : RdC p0 none (-36) (16 + 8 * (d : Int)) (-993) σ0 σ929 := R960.tr ⟨(e931.gw H923.1 (by decide)), (e931.cou (u := 0) H923.1 t928 (by decide) (by rw [e931.cn (by decide)]; omega))⟩ (by omega) (by omega) (by omega) (by omega)
          have R962 : RdC p0 none (-36) (16 + 8 * (d : Int)) (-993) σ0 σ934 := R961.tr ⟨(e936.gw H930.1 (by decide)), (e936.cou (u := 0) H930.1 t933 (by decide) (by rw [e936.cn (by decide)]; omega))⟩ (by omega) (by omega) (by omega) (by omega)
          have c963 := (t894.mi e924 (by decide)).trans c897
          have c964 := (t928.mi e931 (by decide)).trans c963
          have c965 := (t933.mi e936 (by decide)).trans c964
          have c966 := (t894.mi e924 (by decide)).trans c891
          have c967 := (t928.mi e931 (by decide)).trans c966
          have c968 := (t933.mi e936 (by decide)).trans c967
          have c969 := (t927.mi e924 (by decide)).trans c921
          have c970 := (t957.mi e931 (by decide)).trans c969
          have c971 := (t958.mi e936 (by decide)).trans c970
          have c972 := (t927.mi e924 (by decide)).trans c918
          have c973 := (t957.mi e931 (by decide)).trans c972
          have c974 := (t958.mi e936 (by decide)).trans c973
          exact ⟨_, rfl, H935, X956, t959, (R962.mo (by omega) (by omega) (by omega)), (by omega), (by rw [c971] <;> omega), (by rw [c974] <;> omega)⟩
    · refine k_nil ?_
      refine hB _ _ _ _ (kgoC (is := KX7_readFor_42) rfl ?_)
      refine k_aload_n rfl ?_
      refine k_inv (P := P_X7_code) (Q := Q_X7_code) rfl rfl rfl rfl (Nat.le_of_ble_eq_true rfl) (t99.rc (by decide)) ⟨_, rfl, H94, t99, (rd_cd.st H0 h_0_0 X103 R100.1 (by decide))⟩ (fun w975 σ976 q977 => ?_)
      obtain ⟨x978, rfl, rfl, q979, q980, q981⟩ := q977
      refine k_st (st' := [.inl x978]) rfl ?_
      refine k_stat (P := P_X7_isType) (Q := Q_X7_isType) rfl rfl (Nat.le_of_ble_eq_true rfl) rfl rfl (Nat.le_of_ble_eq_true rfl) ⟨_, rfl, H94⟩ (fun w982 σ983 q984 => ?_)
      obtain ⟨x985, rfl, rfl, h986, h987, q988⟩ := q984
      refine k_st (st' := [.inl x985]) rfl ?_
      rcases (by omega : x985.toInt = 0 ∨ x985.toInt = 1) with g989 | g989
      · refine k_if_eq (fun h990 => ?_) (fun h990 => by exfalso; omega)
        refine hB _ _ _ _ (kgoC (is := KX7_readFor_66) rfl ?_)
        refine k_aload_n rfl ?_
        refine k_inv (P := P_X7_code) (Q := Q_X7_code) rfl rfl rfl rfl (Nat.le_of_ble_eq_true rfl) (t99.rc (by decide)) ⟨_, rfl, H94, t99, (rd_cd.st H0 h_0_0 X103 R100.1 (by decide))⟩ (fun w991 σ992 q993 => ?_)
        obtain ⟨x994, rfl, rfl, q995, q996, q997⟩ := q993
        refine k_st (st' := [.inl x994]) rfl ?_
        refine k_iconst (m := 4) rfl (fun x998 h999 => ?_)
        refine k_ic_eq (fun h1000 => ?_) (fun h1000 => ?_)
        · have h1001 : x83.toInt = 0 := by omega
          refine hB _ _ _ _ (kgoC (is := KX7_readFor_83) rfl ?_)
          refine k_aload_n rfl ?_
          refine k_iconst (m := 4) rfl (fun x1002 h1003 => ?_)
          have R1004 := R100.nf (-1000) (-1000) (by rw [c101]; omega)
          refine k_inv (P := P_X7_expect) (Q := Q_X7_expect) rfl rfl rfl rfl (Nat.le_of_ble_eq_true rfl) (t99.rc (by decide)) ⟨_, _, rfl, H94, t99, (by omega), (by omega), (rd_cd.st H0 h_0_0 X103 R1004.1 (by decide)), (R1004.2.2.2.1 rd_at), (rd_bg.stn H0 h_0_0 X103 R1004 (by decide) (by rw [c101]; omega) (by omega))⟩ (fun w1005 σ1006 q1007 => ?_)
          obtain ⟨rfl, H1008, e1009, R1010, q1011⟩ := q1007
          have t1017 := t99.x e1009
          obtain ⟨x1012, e1013, c1014, h1015, h1016⟩ := cg242 H1008.1 t1017
          obtain ⟨x1018, e1019, c1020, h1021, h1022⟩ := cg243 H1008.1 t1017
          have z1023 := congrArg Int32.toInt c1014
          have z1024 := congrArg Int32.toInt c1020
          refine k_st (st' := []) rfl ?_
          have R1025 : RdC p0 none (-22) (-14) (-1000) σ0 σ1006 := R1004.tr ⟨R1010.1, R1010.2⟩ (by omega) (by omega) (by omega) (by omega)
          have z1026 := R1025.2.2.1
          have z1027 := R1025.2.2.2.1 rd_at
          refine k_aload_n rfl ?_
          have X1028 : ExC [0, 1, 2, 60, 61, 62, 63, 64, 65, 66, 67, 68, 69, 70, 72, 73, 74, 75, 76, 242, 243, 244, 246, 270, 271, 272, 273, 275, 276, 277, 278, 279, 280, 330, 331, 332, 333, 334, 999] σ0 σ1006 := X103.tr (e1009.mo (by decide))
          refine k_inv (P := P_X7_code) (Q := Q_X7_code) rfl rfl rfl rfl (Nat.le_of_ble_eq_true rfl) (t1017.rc (by decide)) ⟨_, rfl, H1008, t1017, (rd_cd.st H0 h_0_0 X1028 R1025.1 (by decide))⟩ (fun w1029 σ1030 q1031 => ?_)
          obtain ⟨x1032, rfl, rfl, q1033, q1034, q1035⟩ := q1031
          refine k_st (st' := [.inl x1032]) rfl ?_
          refine k_iconst (m := 4) rfl (fun x1036 h1037 => ?_)
          refine k_ic_eq (fun h1038 => ?_) (fun h1038 => ?_)
          · have h1039 : x1018.toInt = 0 := by omega
            refine hB _ _ _ _ (kgoC (is := KX7_readFor_105) rfl ?_)
            refine k_aload_n rfl ?_
            refine k_iconst (m := 4) rfl (fun x1040 h1041 => ?_)
            have R1042 := R1025.nf (-1000) (-1000) (by rw [c1020]; omega)
            refine k_inv (P := P_X7_expect) (Q := Q_X7_expect) rfl rfl rfl rfl (Nat.le_of_ble_eq_true rfl) (t1017.rc (by decide)) ⟨_, _, rfl, H1008, t1017, (by omega), (by omega), (rd_cd.st H0 h_0_0 X1028 R1042.1 (by decide)), (R1042.2.2.2.1 rd_at), (rd_bg.stn H0 h_0_0 X1028 R1042 (by decide) (by rw [c1020]; omega) (by omega))⟩ (fun w1043 σ1044 q1045 => ?_)
            obtain ⟨rfl, H1046, e1047, R1048, q1049⟩ := q1045
            have t1055 := t1017.x e1047
            obtain ⟨x1050, e1051, c1052, h1053, h1054⟩ := cg242 H1046.1 t1055
            obtain ⟨x1056, e1057, c1058, h1059, h1060⟩ := cg243 H1046.1 t1055
            have z1061 := congrArg Int32.toInt c1052
            have z1062 := congrArg Int32.toInt c1058
            refine k_st (st' := []) rfl ?_
            have R1063 : RdC p0 none (-30) (-22) (-1000) σ0 σ1044 := R1042.tr ⟨R1048.1, R1048.2⟩ (by omega) (by omega) (by omega) (by omega)
            have z1064 := R1063.2.2.1
            have z1065 := R1063.2.2.2.1 rd_at
            refine k_aload_n rfl ?_
            have X1066 : ExC [0, 1, 2, 60, 61, 62, 63, 64, 65, 66, 67, 68, 69, 70, 72, 73, 74, 75, 76, 242, 243, 244, 246, 270, 271, 272, 273, 275, 276, 277, 278, 279, 280, 330, 331, 332, 333, 334, 999] σ0 σ1044 := X1028.tr (e1047.mo (by decide))
            refine k_inv (P := P_X7_code) (Q := Q_X7_code) rfl rfl rfl rfl (Nat.le_of_ble_eq_true rfl) (t1055.rc (by decide)) ⟨_, rfl, H1046, t1055, (rd_cd.st H0 h_0_0 X1066 R1063.1 (by decide))⟩ (fun w1067 σ1068 q1069 => ?_)
            obtain ⟨x1070, rfl, rfl, q1071, q1072, q1073⟩ := q1069
            refine k_st (st' := [.inl x1070]) rfl ?_
            refine k_iconst (m := 1) rfl (fun x1074 h1075 => ?_)
            refine k_ic_eq (fun h1076 => ?_) (fun h1076 => ?_)
            · have h1077 : x1056.toInt = 0 := by omega
              refine hB _ _ _ _ (kgoC (is := KX7_readFor_127) rfl ?_)
              refine k_aload_n rfl ?_
              refine k_iconst (m := 1) rfl (fun x1078 h1079 => ?_)
              have R1080 := R1063.nf (-1000) (-1000) (by rw [c1058]; omega)
              refine k_inv (P := P_X7_expect) (Q := Q_X7_expect) rfl rfl rfl rfl (Nat.le_of_ble_eq_true rfl) (t1055.rc (by decide)) ⟨_, _, rfl, H1046, t1055, (by omega), (by omega), (rd_cd.st H0 h_0_0 X1066 R1080.1 (by decide)), (R1080.2.2.2.1 rd_at), (rd_bg.stn H0 h_0_0 X1066 R1080 (by decide) (by rw [c1058]; omega) (by omega))⟩ (fun w1081 σ1082 q1083 => ?_)
              obtain ⟨rfl, H1084, e1085, R1086, q1087⟩ := q1083
              have t1093 := t1055.x e1085
              obtain ⟨x1088, e1089, c1090, h1091, h1092⟩ := cg242 H1084.1 t1093
              obtain ⟨x1094, e1095, c1096, h1097, h1098⟩ := cg243 H1084.1 t1093
              have z1099 := congrArg Int32.toInt c1090
              have z1100 := congrArg Int32.toInt c1096
              refine k_st (st' := []) rfl ?_
              have R1101 : RdC p0 none (-38) (-30) (-1000) σ0 σ1082 := R1080.tr ⟨R1086.1, R1086.2⟩ (by omega) (by omega) (by omega) (by omega)
              have z1102 := R1101.2.2.1
              have z1103 := R1101.2.2.2.1 rd_at
              refine k_aload_n rfl ?_
              refine k_aload_n rfl ?_
              refine k_aload_n rfl ?_
              refine k_iload_n rfl ?_
              have t1104 := t98.x e95
              have t1105 := t1104.x e1009
              have t1106 := t1105.x e1047
              have t1107 := t1106.x e1085
              have X1108 : ExC [0, 1, 2, 60, 61, 62, 63, 64, 65, 66, 67, 68, 69, 70, 72, 73, 74, 75, 76, 242, 243, 244, 246, 270, 271, 272, 273, 275, 276, 277, 278, 279, 280, 330, 331, 332, 333, 334, 999] σ0 σ1082 := X1066.tr (e1085.mo (by decide))
              refine k_inv (P := (P_X7_readInner d)) (Q := (Q_X7_readInner d)) rfl rfl rfl rfl (Nat.le_of_ble_eq_true rfl) (t1093.rc (by decide)) ⟨_, _, _, rfl, H1084, t1093, t1107, (by omega), (by omega), (rd_cd.st H0 h_0_0 X1108 R1101.1 (by decide)), (R1101.2.2.2.1 rd_at), (rd_bg.st H0 h_0_0 X1108 R1101 (by decide) (by omega) (by omega) (by omega)), (by omega)⟩ (fun w1109 σ1110 q1111 => ?_)
              obtain ⟨a1112, rfl, H1113, e1114, h1116, R1115, q1117, q1118, q1119⟩ := q1111
              have t1125 := t1093.x e1114
              obtain ⟨x1120, e1121, c1122, h1123, h1124⟩ := cg242 H1113.1 t1125
              obtain ⟨x1126, e1127, c1128, h1129, h1130⟩ := cg243 H1113.1 t1125
              have z1131 := congrArg Int32.toInt c1122
              have z1132 := congrArg Int32.toInt c1128
              refine k_st (st' := [.inr (.inr (some a1112)), .inr (.inr (some a20))]) rfl ?_
              have z1133 := R1101.1.1
              obtain ⟨x1134, e1135, c1136, h1137, h1138⟩ := cg272 H1113.1 h1116
              rw [c1136] at q1118
              obtain ⟨x1139, e1140, c1141, h1142, h1143⟩ := cg270 H1113.1 h1116
              rw [c1141] at q1119
              have R1144 : RdC p0 none (-38) (-22 + 8 * (d : Int)) (-997) σ0 σ1110 := R1101.tr ⟨R1115.1, R1115.2⟩ (by omega) (by omega) (by omega) (by omega)
              have z1145 := R1144.2.2.1
              have z1146 := R1144.2.2.2.1 rd_at
              have c1147 := (h24.mi e48 (by decide)).trans q26
              have c1148 := (t97.mi e74 (by decide)).trans c1147
              have c1149 := (t98.mi e95 (by decide)).trans c1148
              have c1150 := (t1104.mi e1009 (by decide)).trans c1149
              have c1151 := (t1105.mi e1047 (by decide)).trans c1150
              have c1152 := (t1106.mi e1085 (by decide)).trans c1151
              have c1153 := (t1107.fi e1114 (by decide) (by decide)).trans c1152
              have c1154 := (h24.mi e48 (by decide)).trans q27
              have c1155 := (t97.mi e74 (by decide)).trans c1154
              have c1156 := (t98.mi e95 (by decide)).trans c1155
              have c1157 := (t1104.mi e1009 (by decide)).trans c1156
              have c1158 := (t1105.mi e1047 (by decide)).trans c1157
              have c1159 := (t1106.mi e1085 (by decide)).trans c1158
              have c1160 := (t1107.fi e1114 (by decide) (by decide)).trans c1159
              have z1165 := t1107.1
              have t1166 := t1107.x e1114
              refine k_p276 H1113 t1166 (h1116.ot) (fun z hz => by cases hz; exact ⟨by omega, by unfold LvC; rw [c1153, c1160, c1141, c1136]; omega⟩) (fun σ1161 H1162 e1163 c1164 => ?_)
              refine k_aload_n rfl ?_
              refine k_lload rfl ?_
              have t1167 := t1125.x e1163
              refine k_putL kg245 H1162 t1167 fk245 (fun σ1168 H1169 e1170 c1171 => ?_)
              refine k_aload_n rfl ?_
              refine k_aload_n rfl ?_
              have t1172 := t1167.x e1170
              have t1177 := t37.x e48
              have t1178 := t1177.x e74
              have t1179 := t1178.x e95
              have t1180 := t1179.x e1009
              have t1181 := t1180.x e1047
              have t1182 := t1181.x e1085
              have t1183 := t1182.x e1114
              have t1184 := t1183.x e1163
              have t1185 := t1184.x e1170
              refine k_putR kp246 H1169 t1172 fk246 (rfo246 (t1185)) (fun σ1173 H1174 e1175 c1176 => ?_)
              refine k_aload_n rfl ?_
              refine k_areturn ?_
              have X1186 : ExC [0, 1, 2, 60, 61, 62, 63, 64, 65, 66, 67, 68, 69, 70, 72, 73, 74, 75, 76, 242, 243, 244, 246, 270, 271, 272, 273, 275, 276, 277, 278, 279, 280, 330, 331, 332, 333, 334, 999] σ0 σ1110 := X1108.tr (e1114.mo (by decide))
              have X1187 : ExC [0, 1, 2, 60, 61, 62, 63, 64, 65, 66, 67, 68, 69, 70, 72, 73, 74, 75, 76, 242, 243, 244, 246, 270, 271, 272, 273, 275, 276, 277, 278, 279, 280, 330, 331, 332, 333, 334, 999] σ0 σ1161 := X1186.tr (e1163.mo (by decide))
              have X1188 : ExC [0, 1, 2, 60, 61, 62, 63, 64, 65, 66, 67, 68, 69, 70, 72, 73, 74, 75, 76, 242, 243, 244, 246, 270, 271, 272, 273, 275, 276, 277, 278, 279, 280, 330, 331, 332, 333, 334, 999] σ0 σ1168 := X1187.tr (e1170.mo (by decide))
              have X1189 : ExC [0, 1, 2, 60, 61, 62, 63, 64, 65, 66, 67, 68, 69, 70, 72, 73, 74, 75, 76, 242, 243, 244, 246, 270, 271, 272, 273, 275, 276, 277, 278, 279, 280, 330, 331, 332, 333, 334, 999] σ0 σ1173 := X1188.tr (e1175.mo (by decide))
              have t1190 := t1166.x e1163
              have t1191 := t1190.x e1170
              have t1192 := t1191.x e1175
              have R1193 : RdC p0 none (-38) (-22 + 8 * (d : Int)) (-997) σ0 σ1161 := R1144.tr ⟨(e1163.gw H1113.1 (by decide)), (e1163.cou (u := 0) H1113.1 t1125 (by decide) (by rw [e1163.cn (by decide)]; omega))⟩ (by omega) (by omega) (by omega) (by omega)
              have R1194 : RdC p0 none (-38) (-22 + 8 * (d : Int)) (-997) σ0 σ1168 := R1193.tr ⟨(e1170.gw H1162.1 (by decide)), (e1170.cou (u := 0) H1162.1 t1167 (by decide) (by rw [e1170.cn (by decide)]; omega))⟩ (by omega) (by omega) (by omega) (by omega)
              have R1195 : RdC p0 none (-38) (-22 + 8 * (d : Int)) (-997) σ0 σ1173 := R1194.tr ⟨(e1175.gw H1169.1 (by decide)), (e1175.cou (u := 0) H1169.1 t1172 (by decide) (by rw [e1175.cn (by decide)]; omega))⟩ (by omega) (by omega) (by omega) (by omega)
              have c1196 := (t1125.mi e1163 (by decide)).trans c1128
              have c1197 := (t1167.mi e1170 (by decide)).trans c1196
              have c1198 := (t1172.mi e1175 (by decide)).trans c1197
              have c1199 := (t1125.mi e1163 (by decide)).trans c1122
              have c1200 := (t1167.mi e1170 (by decide)).trans c1199
              have c1201 := (t1172.mi e1175 (by decide)).trans c1200
              have c1202 := (t1166.mi e1163 (by decide)).trans c1160
              have c1203 := (t1190.mi e1170 (by decide)).trans c1202
              have c1204 := (t1191.mi e1175 (by decide)).trans c1203
              have c1205 := (t1166.mi e1163 (by decide)).trans c1153
              have c1206 := (t1190.mi e1170 (by decide)).trans c1205
              have c1207 := (t1191.mi e1175 (by decide)).trans c1206
              exact ⟨_, rfl, H1174, X1189, t1192, (R1195.mo (by omega) (by omega) (by omega)), (by omega), (by rw [c1204] <;> omega), (by rw [c1207] <;> omega)⟩
            · refine k_nil ?_
              refine hB _ _ _ _ (kgoC (is := KX7_readFor_118) rfl ?_)
              refine k_aload_n rfl ?_
              refine k_aload_n rfl ?_
              refine k_iload_n rfl ?_
              refine k_inv (P := (P_X7_readForExps d)) (Q := (Q_X7_readForExps d)) rfl rfl rfl rfl (Nat.le_of_ble_eq_true rfl) (t1055.rc (by decide)) ⟨_, _, rfl, H1046, t1055, (by omega), (by omega), (rd_cd.st H0 h_0_0 X1066 R1063.1 (by decide)), (R1063.2.2.2.1 rd_at), (rd_bg.st H0 h_0_0 X1066 R1063 (by decide) (by omega) (by omega) (by omega)), (by omega)⟩ (fun w1208 σ1209 q1210 => ?_)
              obtain ⟨a1211, rfl, H1212, e1213, h1215, R1214, q1216, q1217, q1218⟩ := q1210
              have t1224 := t1055.x e1213
              obtain ⟨x1219, e1220, c1221, h1222, h1223⟩ := cg242 H1212.1 t1224
              obtain ⟨x1225, e1226, c1227, h1228, h1229⟩ := cg243 H1212.1 t1224
              have z1230 := congrArg Int32.toInt c1221
              have z1231 := congrArg Int32.toInt c1227
              refine k_st (st' := [.inr (.inr (some a1211)), .inr (.inr (some a20))]) rfl ?_
              have z1232 := R1063.1.1
              obtain ⟨x1233, e1234, c1235, h1236, h1237⟩ := cg272 H1212.1 h1215
              rw [c1235] at q1217
              obtain ⟨x1238, e1239, c1240, h1241, h1242⟩ := cg270 H1212.1 h1215
              rw [c1240] at q1218
              have R1243 : RdC p0 none (-28) (-8 + 8 * (d : Int)) (-997) σ0 σ1209 := R1063.tr ⟨R1214.1, R1214.2⟩ (by omega) (by omega) (by omega) (by omega)
              have z1244 := R1243.2.2.1
              have z1245 := R1243.2.2.2.1 rd_at
              have c1246 := (h24.mi e48 (by decide)).trans q26
              have c1247 := (t97.mi e74 (by decide)).trans c1246
              have c1248 := (t98.mi e95 (by decide)).trans c1247
              have t1249 := t98.x e95
              have c1250 := (t1249.mi e1009 (by decide)).trans c1248
              have t1251 := t1249.x e1009
              have c1252 := (t1251.mi e1047 (by decide)).trans c1250
              have t1253 := t1251.x e1047
              have c1254 := (t1253.fi e1213 (by decide) (by decide)).trans c1252
              have c1255 := (h24.mi e48 (by decide)).trans q27
              have c1256 := (t97.mi e74 (by decide)).trans c1255
              have c1257 := (t98.mi e95 (by decide)).trans c1256
              have c1258 := (t1249.mi e1009 (by decide)).trans c1257
              have c1259 := (t1251.mi e1047 (by decide)).trans c1258
              have c1260 := (t1253.fi e1213 (by decide) (by decide)).trans c1259
              have z1265 := t1253.1
              have t1266 := t1253.x e1213
              refine k_p278 H1212 t1266 (h1215.ot) (fun z hz => by cases hz; exact ⟨by omega, by unfold LvC; rw [c1254, c1260, c1240, c1235]; omega⟩) (fun σ1261 H1262 e1263 c1264 => ?_)
              refine k_nil ?_
              refine hB _ _ _ _ (kgoC (is := KX7_readFor_127) rfl ?_)
              refine k_aload_n rfl ?_
              refine k_iconst (m := 1) rfl (fun x1267 h1268 => ?_)
              have t1269 := t1224.x e1263
              have R1270 : RdC p0 none (-28) (-8 + 8 * (d : Int)) (-997) σ0 σ1261 := R1243.tr ⟨(e1263.gw H1212.1 (by decide)), (e1263.cou (u := 0) H1212.1 t1224 (by decide) (by rw [e1263.cn (by decide)]; omega))⟩ (by omega) (by omega) (by omega) (by omega)
              have c1271 := (t1224.mi e1263 (by decide)).trans c1227
              have X1272 : ExC [0, 1, 2, 60, 61, 62, 63, 64, 65, 66, 67, 68, 69, 70, 72, 73, 74, 75, 76, 242, 243, 244, 246, 270, 271, 272, 273, 275, 276, 277, 278, 279, 280, 330, 331, 332, 333, 334, 999] σ0 σ1209 := X1066.tr (e1213.mo (by decide))
              have X1273 : ExC [0, 1, 2, 60, 61, 62, 63, 64, 65, 66, 67, 68, 69, 70, 72, 73, 74, 75, 76, 242, 243, 244, 246, 270, 271, 272, 273, 275, 276, 277, 278, 279, 280, 330, 331, 332, 333, 334, 999] σ0 σ1261 := X1272.tr (e1263.mo (by decide))
              have c1274 := (t1224.mi e1263 (by decide)).trans c1221
              have z1275 := congrArg Int32.toInt c1274
              have z1276 := congrArg Int32.toInt c1271
              refine k_inv (P := P_X7_expect) (Q := Q_X7_expect) rfl rfl rfl rfl (Nat.le_of_ble_eq_true rfl) (t1269.rc (by decide)) ⟨_, _, rfl, H1262, t1269, (by omega), (by omega), (rd_cd.st H0 h_0_0 X1273 R1270.1 (by decide)), (R1270.2.2.2.1 rd_at), (rd_bg.st H0 h_0_0 X1273 R1270 (by decide) (by omega) (by omega) (by omega))⟩ (fun w1277 σ1278 q1279 => ?_)
              obtain ⟨rfl, H1280, e1281, R1282, q1283⟩ := q1279
              have t1289 := t1269.x e1281
              obtain ⟨x1284, e1285, c1286, h1287, h1288⟩ := cg242 H1280.1 t1289
              obtain ⟨x1290, e1291, c1292, h1293, h1294⟩ := cg243 H1280.1 t1289
              have z1295 := congrArg Int32.toInt c1286
              have z1296 := congrArg Int32.toInt c1292
              refine k_st (st' := []) rfl ?_
              have R1297 : RdC p0 none (-36) (-8 + 8 * (d : Int)) (-997) σ0 σ1278 := R1270.tr ⟨R1282.1, R1282.2⟩ (by omega) (by omega) (by omega) (by omega)
              have z1298 := R1297.2.2.1
              have z1299 := R1297.2.2.2.1 rd_at
              refine k_aload_n rfl ?_
              refine k_aload_n rfl ?_
              refine k_aload_n rfl ?_
              refine k_iload_n rfl ?_
              have t1300 := t1266.x e1263
              have t1301 := t1300.x e1281
              have X1302 : ExC [0, 1, 2, 60, 61, 62, 63, 64, 65, 66, 67, 68, 69, 70, 72, 73, 74, 75, 76, 242, 243, 244, 246, 270, 271, 272, 273, 275, 276, 277, 278, 279, 280, 330, 331, 332, 333, 334, 999] σ0 σ1278 := X1273.tr (e1281.mo (by decide))
              refine k_inv (P := (P_X7_readInner d)) (Q := (Q_X7_readInner d)) rfl rfl rfl rfl (Nat.le_of_ble_eq_true rfl) (t1289.rc (by decide)) ⟨_, _, _, rfl, H1280, t1289, t1301, (by omega), (by omega), (rd_cd.st H0 h_0_0 X1302 R1297.1 (by decide)), (R1297.2.2.2.1 rd_at), (rd_bg.st H0 h_0_0 X1302 R1297 (by decide) (by omega) (by omega) (by omega)), (by omega)⟩ (fun w1303 σ1304 q1305 => ?_)
              obtain ⟨a1306, rfl, H1307, e1308, h1310, R1309, q1311, q1312, q1313⟩ := q1305
              have t1319 := t1289.x e1308
              obtain ⟨x1314, e1315, c1316, h1317, h1318⟩ := cg242 H1307.1 t1319
              obtain ⟨x1320, e1321, c1322, h1323, h1324⟩ := cg243 H1307.1 t1319
              have z1325 := congrArg Int32.toInt c1316
              have z1326 := congrArg Int32.toInt c1322
              refine k_st (st' := [.inr (.inr (some a1306)), .inr (.inr (some a20))]) rfl ?_
              have z1327 := R1297.1.1
              obtain ⟨x1328, e1329, c1330, h1331, h1332⟩ := cg272 H1307.1 h1310
              rw [c1330] at q1312
              obtain ⟨x1333, e1334, c1335, h1336, h1337⟩ := cg270 H1307.1 h1310
              rw [c1335] at q1313
              have R1338 : RdC p0 none (-36) (-5 + 8 * (d : Int)) (-994) σ0 σ1304 := R1297.tr ⟨R1309.1, R1309.2⟩ (by omega) (by omega) (by omega) (by omega)
              have z1339 := R1338.2.2.1
              have z1340 := R1338.2.2.2.1 rd_at
              have c1341 := (t1266.mi e1263 (by decide)).trans c1254
              have c1342 := (t1300.mi e1281 (by decide)).trans c1341
              have c1343 := (t1301.fi e1308 (by decide) (by decide)).trans c1342
              have c1344 := (t1266.mi e1263 (by decide)).trans c1260
              have c1345 := (t1300.mi e1281 (by decide)).trans c1344
              have c1346 := (t1301.fi e1308 (by decide) (by decide)).trans c1345
              have z1351 := t1301.1
              have t1352 := t1301.x e1308
              refine k_p276 H1307 t1352 (h1310.ot) (fun z hz => by cases hz; exact ⟨by omega, by unfold LvC; rw [c1343, c1346, c1335, c1330]; omega⟩) (fun σ1347 H1348 e1349 c1350 => ?_)
              refine k_aload_n rfl ?_
              refine k_lload rfl ?_
              have t1353 := t1319.x e1349
              refine k_putL kg245 H1348 t1353 fk245 (fun σ1354 H1355 e1356 c1357 => ?_)
              refine k_aload_n rfl ?_
              refine k_aload_n rfl ?_
              have t1358 := t1353.x e1356
              have t1363 := t37.x e48
              have t1364 := t1363.x e74
              have t1365 := t1364.x e95
              have t1366 := t1365.x e1009
              have t1367 := t1366.x e1047
              have t1368 := t1367.x e1213
              have t1369 := t1368.x e1263
              have t1370 := t1369.x e1281
              have t1371 := t1370.x e1308
              have t1372 := t1371.x e1349
              have t1373 := t1372.x e1356
              refine k_putR kp246 H1355 t1358 fk246 (rfo246 (t1373)) (fun σ1359 H1360 e1361 c1362 => ?_)
              refine k_aload_n rfl ?_
              refine k_areturn ?_
              have X1374 : ExC [0, 1, 2, 60, 61, 62, 63, 64, 65, 66, 67, 68, 69, 70, 72, 73, 74, 75, 76, 242, 243, 244, 246, 270, 271, 272, 273, 275, 276, 277, 278, 279, 280, 330, 331, 332, 333, 334, 999] σ0 σ1304 := X1302.tr (e1308.mo (by decide))
              have X1375 : ExC [0, 1, 2, 60, 61, 62, 63, 64, 65, 66, 67, 68, 69, 70, 72, 73, 74, 75, 76, 242, 243, 244, 246, 270, 271, 272, 273, 275, 276, 277, 278, 279, 280, 330, 331, 332, 333, 334, 999] σ0 σ1347 := X1374.tr (e1349.mo (by decide))
              have X1376 : ExC [0, 1, 2, 60, 61, 62, 63, 64, 65, 66, 67, 68, 69, 70, 72, 73, 74, 75, 76, 242, 243, 244, 246, 270, 271, 272, 273, 275, 276, 277, 278, 279, 280, 330, 331, 332, 333, 334, 999] σ0 σ1354 := X1375.tr (e1356.mo (by decide))
              have X1377 : ExC [0, 1, 2, 60, 61, 62, 63, 64, 65, 66, 67, 68, 69, 70, 72, 73, 74, 75, 76, 242, 243, 244, 246, 270, 271, 272, 273, 275, 276, 277, 278, 279, 280, 330, 331, 332, 333, 334, 999] σ0 σ1359 := X1376.tr (e1361.mo (by decide))
              have t1378 := t1352.x e1349
              have t1379 := t1378.x e1356
              have t1380 := t1379.x e1361
              have R1381 : RdC p0 none (-36) (-5 + 8 * (d : Int)) (-994) σ0 σ1347 := R1338.tr ⟨(e1349.gw H1307.1 (by decide)), (e1349.cou (u := 0) H1307.1 t1319 (by decide) (by rw [e1349.cn (by decide)]; omega))⟩ (by omega) (by omega) (by omega) (by omega)
              have R1382 : RdC p0 none (-36) (-5 + 8 * (d : Int)) (-994) σ0 σ1354 := R1381.tr ⟨(e1356.gw H1348.1 (by decide)), (e1356.cou (u := 0) H1348.1 t1353 (by decide) (by rw [e1356.cn (by decide)]; omega))⟩ (by omega) (by omega) (by omega) (by omega)
              have R1383 : RdC p0 none (-36) (-5 + 8 * (d : Int)) (-994) σ0 σ1359 := R1382.tr ⟨(e1361.gw H1355.1 (by decide)), (e1361.cou (u := 0) H1355.1 t1358 (by decide) (by rw [e1361.cn (by decide)]; omega))⟩ (by omega) (by omega) (by omega) (by omega)
              have c1384 := (t1319.mi e1349 (by decide)).trans c1322
              have c1385 := (t1353.mi e1356 (by decide)).trans c1384
              have c1386 := (t1358.mi e1361 (by decide)).trans c1385
              have c1387 := (t1319.mi e1349 (by decide)).trans c1316
              have c1388 := (t1353.mi e1356 (by decide)).trans c1387
              have c1389 := (t1358.mi e1361 (by decide)).trans c1388
              have c1390 := (t1352.mi e1349 (by decide)).trans c1346
              have c1391 := (t1378.mi e1356 (by decide)).trans c1390
              have c1392 := (t1379.mi e1361 (by decide)).trans c1391
              have c1393 := (t1352.mi e1349 (by decide)).trans c1343
              have c1394 := (t1378.mi e1356 (by decide)).trans c1393
              have c1395 := (t1379.mi e1361 (by decide)).trans c1394
              exact ⟨_, rfl, H1360, X1377, t1380, (R1383.mo (by omega) (by omega) (by omega)), (by omega), (by rw [c1392] <;> omega), (by rw [c1395] <;> omega)⟩
          · refine k_nil ?_
            refine hB _ _ _ _ (kgoC (is := KX7_readFor_96) rfl ?_)
            refine k_aload_n rfl ?_
            refine k_aload_n rfl ?_
            refine k_iload_n rfl ?_
            refine k_inv (P := (P_X7_readExp d)) (Q := (Q_X7_readExp d)) rfl rfl rfl rfl (Nat.le_of_ble_eq_true rfl) (t1017.rc (by decide)) ⟨_, _, rfl, H1008, t1017, (by omega), (by omega), (rd_cd.st H0 h_0_0 X1028 R1025.1 (by decide)), (R1025.2.2.2.1 rd_at), (rd_bg.st H0 h_0_0 X1028 R1025 (by decide) (by omega) (by omega) (by omega)), (by omega)⟩ (fun w1396 σ1397 q1398 => ?_)
            obtain ⟨a1399, rfl, H1400, e1401, h1403, R1402, q1404⟩ := q1398
            have t1410 := t1017.x e1401
            obtain ⟨x1405, e1406, c1407, h1408, h1409⟩ := cg242 H1400.1 t1410
            obtain ⟨x1411, e1412, c1413, h1414, h1415⟩ := cg243 H1400.1 t1410
            have z1416 := congrArg Int32.toInt c1407
            have z1417 := congrArg Int32.toInt c1413
            refine k_st (st' := [.inr (.inr (some a1399)), .inr (.inr (some a20))]) rfl ?_
            have z1418 := R1025.1.1
            have R1419 : RdC p0 none (-22) (-2 + 8 * (d : Int)) (-999) σ0 σ1397 := R1025.tr ⟨R1402.1, R1402.2⟩ (by omega) (by omega) (by omega) (by omega)
            have z1420 := R1419.2.2.1
            have z1421 := R1419.2.2.2.1 rd_at
            have t1422 := t98.x e95
            have t1423 := t1422.x e1009
            have t1424 := t1423.x e1401
            refine k_putR kp279 H1400 t1424 fk279 (rf279 h1403) (fun σ1425 H1426 e1427 c1428 => ?_)
            refine k_nil ?_
            refine hB _ _ _ _ (kgoC (is := KX7_readFor_105) rfl ?_)
            refine k_aload_n rfl ?_
            refine k_iconst (m := 4) rfl (fun x1429 h1430 => ?_)
            have t1431 := t1410.x e1427
            have R1432 : RdC p0 none (-22) (-2 + 8 * (d : Int)) (-999) σ0 σ1425 := R1419.tr ⟨(e1427.gw H1400.1 (by decide)), (e1427.cou (u := 0) H1400.1 t1410 (by decide) (by rw [e1427.cn (by decide)]; omega))⟩ (by omega) (by omega) (by omega) (by omega)
            have c1433 := (t1410.mi e1427 (by decide)).trans c1413
            have X1434 : ExC [0, 1, 2, 60, 61, 62, 63, 64, 65, 66, 67, 68, 69, 70, 72, 73, 74, 75, 76, 242, 243, 244, 246, 270, 271, 272, 273, 275, 276, 277, 278, 279, 280, 330, 331, 332, 333, 334, 999] σ0 σ1397 := X1028.tr (e1401.mo (by decide))
            have X1435 : ExC [0, 1, 2, 60, 61, 62, 63, 64, 65, 66, 67, 68, 69, 70, 72, 73, 74, 75, 76, 242, 243, 244, 246, 270, 271, 272, 273, 275, 276, 277, 278, 279, 280, 330, 331, 332, 333, 334, 999] σ0 σ1425 := X1434.tr (e1427.mo (by decide))
            have c1436 := (t1410.mi e1427 (by decide)).trans c1407
            have z1437 := congrArg Int32.toInt c1436
            have z1438 := congrArg Int32.toInt c1433
            refine k_inv (P := P_X7_expect) (Q := Q_X7_expect) rfl rfl rfl rfl (Nat.le_of_ble_eq_true rfl) (t1431.rc (by decide)) ⟨_, _, rfl, H1426, t1431, (by omega), (by omega), (rd_cd.st H0 h_0_0 X1435 R1432.1 (by decide)), (R1432.2.2.2.1 rd_at), (rd_bg.st H0 h_0_0 X1435 R1432 (by decide) (by omega) (by omega) (by omega))⟩ (fun w1439 σ1440 q1441 => ?_)
            obtain ⟨rfl, H1442, e1443, R1444, q1445⟩ := q1441
            have t1451 := t1431.x e1443
            obtain ⟨x1446, e1447, c1448, h1449, h1450⟩ := cg242 H1442.1 t1451
            obtain ⟨x1452, e1453, c1454, h1455, h1456⟩ := cg243 H1442.1 t1451
            have z1457 := congrArg Int32.toInt c1448
            have z1458 := congrArg Int32.toInt c1454
            refine k_st (st' := []) rfl ?_
            have R1459 : RdC p0 none (-30) (-2 + 8 * (d : Int)) (-999) σ0 σ1440 := R1432.tr ⟨R1444.1, R1444.2⟩ (by omega) (by omega) (by omega) (by omega)
            have z1460 := R1459.2.2.1
            have z1461 := R1459.2.2.2.1 rd_at
            refine k_aload_n rfl ?_
            have X1462 : ExC [0, 1, 2, 60, 61, 62, 63, 64, 65, 66, 67, 68, 69, 70, 72, 73, 74, 75, 76, 242, 243, 244, 246, 270, 271, 272, 273, 275, 276, 277, 278, 279, 280, 330, 331, 332, 333, 334, 999] σ0 σ1440 := X1435.tr (e1443.mo (by decide))
            refine k_inv (P := P_X7_code) (Q := Q_X7_code) rfl rfl rfl rfl (Nat.le_of_ble_eq_true rfl) (t1451.rc (by decide)) ⟨_, rfl, H1442, t1451, (rd_cd.st H0 h_0_0 X1462 R1459.1 (by decide))⟩ (fun w1463 σ1464 q1465 => ?_)
            obtain ⟨x1466, rfl, rfl, q1467, q1468, q1469⟩ := q1465
            refine k_st (st' := [.inl x1466]) rfl ?_
            refine k_iconst (m := 1) rfl (fun x1470 h1471 => ?_)
            refine k_ic_eq (fun h1472 => ?_) (fun h1472 => ?_)
            · have h1473 : x1452.toInt = 0 := by omega
              refine hB _ _ _ _ (kgoC (is := KX7_readFor_127) rfl ?_)
              refine k_aload_n rfl ?_
              refine k_iconst (m := 1) rfl (fun x1474 h1475 => ?_)
              have R1476 := R1459.nf (-1000) (-1000) (by rw [c1454]; omega)
              refine k_inv (P := P_X7_expect) (Q := Q_X7_expect) rfl rfl rfl rfl (Nat.le_of_ble_eq_true rfl) (t1451.rc (by decide)) ⟨_, _, rfl, H1442, t1451, (by omega), (by omega), (rd_cd.st H0 h_0_0 X1462 R1476.1 (by decide)), (R1476.2.2.2.1 rd_at), (rd_bg.stn H0 h_0_0 X1462 R1476 (by decide) (by rw [c1454]; omega) (by omega))⟩ (fun w1477 σ1478 q1479 => ?_)
              obtain ⟨rfl, H1480, e1481, R1482, q1483⟩ := q1479
              have t1489 := t1451.x e1481
              obtain ⟨x1484, e1485, c1486, h1487, h1488⟩ := cg242 H1480.1 t1489
              obtain ⟨x1490, e1491, c1492, h1493, h1494⟩ := cg243 H1480.1 t1489
              have z1495 := congrArg Int32.toInt c1486
              have z1496 := congrArg Int32.toInt c1492
              refine k_st (st' := []) rfl ?_
              have R1497 : RdC p0 none (-38) (-30) (-1000) σ0 σ1478 := R1476.tr ⟨R1482.1, R1482.2⟩ (by omega) (by omega) (by omega) (by omega)
              have z1498 := R1497.2.2.1
              have z1499 := R1497.2.2.2.1 rd_at
              refine k_aload_n rfl ?_
              refine k_aload_n rfl ?_
              refine k_aload_n rfl ?_
              refine k_iload_n rfl ?_
              have t1500 := t1424.x e1427
              have t1501 := t1500.x e1443
              have t1502 := t1501.x e1481
              have X1503 : ExC [0, 1, 2, 60, 61, 62, 63, 64, 65, 66, 67, 68, 69, 70, 72, 73, 74, 75, 76, 242, 243, 244, 246, 270, 271, 272, 273, 275, 276, 277, 278, 279, 280, 330, 331, 332, 333, 334, 999] σ0 σ1478 := X1462.tr (e1481.mo (by decide))
              refine k_inv (P := (P_X7_readInner d)) (Q := (Q_X7_readInner d)) rfl rfl rfl rfl (Nat.le_of_ble_eq_true rfl) (t1489.rc (by decide)) ⟨_, _, _, rfl, H1480, t1489, t1502, (by omega), (by omega), (rd_cd.st H0 h_0_0 X1503 R1497.1 (by decide)), (R1497.2.2.2.1 rd_at), (rd_bg.st H0 h_0_0 X1503 R1497 (by decide) (by omega) (by omega) (by omega)), (by omega)⟩ (fun w1504 σ1505 q1506 => ?_)
              obtain ⟨a1507, rfl, H1508, e1509, h1511, R1510, q1512, q1513, q1514⟩ := q1506
              have t1520 := t1489.x e1509
              obtain ⟨x1515, e1516, c1517, h1518, h1519⟩ := cg242 H1508.1 t1520
              obtain ⟨x1521, e1522, c1523, h1524, h1525⟩ := cg243 H1508.1 t1520
              have z1526 := congrArg Int32.toInt c1517
              have z1527 := congrArg Int32.toInt c1523
              refine k_st (st' := [.inr (.inr (some a1507)), .inr (.inr (some a20))]) rfl ?_
              have z1528 := R1497.1.1
              obtain ⟨x1529, e1530, c1531, h1532, h1533⟩ := cg272 H1508.1 h1511
              rw [c1531] at q1513
              obtain ⟨x1534, e1535, c1536, h1537, h1538⟩ := cg270 H1508.1 h1511
              rw [c1536] at q1514
              have R1539 : RdC p0 none (-38) (-22 + 8 * (d : Int)) (-997) σ0 σ1505 := R1497.tr ⟨R1510.1, R1510.2⟩ (by omega) (by omega) (by omega) (by omega)
              have z1540 := R1539.2.2.1
              have z1541 := R1539.2.2.2.1 rd_at
              have c1542 := (h24.mi e48 (by decide)).trans q26
              have c1543 := (t97.mi e74 (by decide)).trans c1542
              have c1544 := (t98.mi e95 (by decide)).trans c1543
              have c1545 := (t1422.mi e1009 (by decide)).trans c1544
              have c1546 := (t1423.mi e1401 (by decide)).trans c1545
              have c1547 := (t1424.mi e1427 (by decide)).trans c1546
              have c1548 := (t1500.mi e1443 (by decide)).trans c1547
              have c1549 := (t1501.mi e1481 (by decide)).trans c1548
              have c1550 := (t1502.fi e1509 (by decide) (by decide)).trans c1549
              have c1551 := (h24.mi e48 (by decide)).trans q27
              have c1552 := (t97.mi e74 (by decide)).trans c1551
              have c1553 := (t98.mi e95 (by decide)).trans c1552
              have c1554 := (t1422.mi e1009 (by decide)).trans c1553
              have c1555 := (t1423.mi e1401 (by decide)).trans c1554
              have c1556 := (t1424.mi e1427 (by decide)).trans c1555
              have c1557 := (t1500.mi e1443 (by decide)).trans c1556
              have c1558 := (t1501.mi e1481 (by decide)).trans c1557
              have c1559 := (t1502.fi e1509 (by decide) (by decide)).trans c1558
              have z1564 := t1502.1
              have t1565 := t1502.x e1509
              refine k_p276 H1508 t1565 (h1511.ot) (fun z hz => by cases hz; exact ⟨by omega, by unfold LvC; rw [c1550, c1559, c1536, c1531]; omega⟩) (fun σ1560 H1561 e1562 c1563 => ?_)
              refine k_aload_n rfl ?_
              refine k_lload rfl ?_
              have t1566 := t1520.x e1562
              refine k_putL kg245 H1561 t1566 fk245 (fun σ1567 H1568 e1569 c1570 => ?_)
              refine k_aload_n rfl ?_
              refine k_aload_n rfl ?_
              have t1571 := t1566.x e1569
              have t1576 := t37.x e48
              have t1577 := t1576.x e74
              have t1578 := t1577.x e95
              have t1579 := t1578.x e1009
              have t1580 := t1579.x e1401
              have t1581 := t1580.x e1427
              have t1582 := t1581.x e1443
              have t1583 := t1582.x e1481
              have t1584 := t1583.x e1509
              have t1585 := t1584.x e1562
              have t1586 := t1585.x e1569
              refine k_putR kp246 H1568 t1571 fk246 (rfo246 (t1586)) (fun σ1572 H1573 e1574 c1575 => ?_)
              refine k_aload_n rfl ?_
              refine k_areturn ?_
              have X1587 : ExC [0, 1, 2, 60, 61, 62, 63, 64, 65, 66, 67, 68, 69, 70, 72, 73, 74, 75, 76, 242, 243, 244, 246, 270, 271, 272, 273, 275, 276, 277, 278, 279, 280, 330, 331, 332, 333, 334, 999] σ0 σ1505 := X1503.tr (e1509.mo (by decide))
              have X1588 : ExC [0, 1, 2, 60, 61, 62, 63, 64, 65, 66, 67, 68, 69, 70, 72, 73, 74, 75, 76, 242, 243, 244, 246, 270, 271, 272, 273, 275, 276, 277, 278, 279, 280, 330, 331, 332, 333, 334, 999] σ0 σ1560 := X1587.tr (e1562.mo (by decide))
              have X1589 : ExC [0, 1, 2, 60, 61, 62, 63, 64, 65, 66, 67, 68, 69, 70, 72, 73, 74, 75, 76, 242, 243, 244, 246, 270, 271, 272, 273, 275, 276, 277, 278, 279, 280, 330, 331, 332, 333, 334, 999] σ0 σ1567 := X1588.tr (e1569.mo (by decide))
              have X1590 : ExC [0, 1, 2, 60, 61, 62, 63, 64, 65, 66, 67, 68, 69, 70, 72, 73, 74, 75, 76, 242, 243, 244, 246, 270, 271, 272, 273, 275, 276, 277, 278, 279, 280, 330, 331, 332, 333, 334, 999] σ0 σ1572 := X1589.tr (e1574.mo (by decide))
              have t1591 := t1565.x e1562
              have t1592 := t1591.x e1569
              have t1593 := t1592.x e1574
              have R1594 : RdC p0 none (-38) (-22 + 8 * (d : Int)) (-997) σ0 σ1560 := R1539.tr ⟨(e1562.gw H1508.1 (by decide)), (e1562.cou (u := 0) H1508.1 t1520 (by decide) (by rw [e1562.cn (by decide)]; omega))⟩ (by omega) (by omega) (by omega) (by omega)
              have R1595 : RdC p0 none (-38) (-22 + 8 * (d : Int)) (-997) σ0 σ1567 := R1594.tr ⟨(e1569.gw H1561.1 (by decide)), (e1569.cou (u := 0) H1561.1 t1566 (by decide) (by rw [e1569.cn (by decide)]; omega))⟩ (by omega) (by omega) (by omega) (by omega)
              have R1596 : RdC p0 none (-38) (-22 + 8 * (d : Int)) (-997) σ0 σ1572 := R1595.tr ⟨(e1574.gw H1568.1 (by decide)), (e1574.cou (u := 0) H1568.1 t1571 (by decide) (by rw [e1574.cn (by decide)]; omega))⟩ (by omega) (by omega) (by omega) (by omega)
              have c1597 := (t1520.mi e1562 (by decide)).trans c1523
              have c1598 := (t1566.mi e1569 (by decide)).trans c1597
              have c1599 := (t1571.mi e1574 (by decide)).trans c1598
              have c1600 := (t1520.mi e1562 (by decide)).trans c1517
              have c1601 := (t1566.mi e1569 (by decide)).trans c1600
              have c1602 := (t1571.mi e1574 (by decide)).trans c1601
              have c1603 := (t1565.mi e1562 (by decide)).trans c1559
              have c1604 := (t1591.mi e1569 (by decide)).trans c1603
              have c1605 := (t1592.mi e1574 (by decide)).trans c1604
              have c1606 := (t1565.mi e1562 (by decide)).trans c1550
              have c1607 := (t1591.mi e1569 (by decide)).trans c1606
              have c1608 := (t1592.mi e1574 (by decide)).trans c1607
              exact ⟨_, rfl, H1573, X1590, t1593, (R1596.mo (by omega) (by omega) (by omega)), (by omega), (by rw [c1605] <;> omega), (by rw [c1608] <;> omega)⟩
            · refine k_nil ?_
              refine hB _ _ _ _ (kgoC (is := KX7_readFor_118) rfl ?_)
              refine k_aload_n rfl ?_
              refine k_aload_n rfl ?_
              refine k_iload_n rfl ?_
              refine k_inv (P := (P_X7_readForExps d)) (Q := (Q_X7_readForExps d)) rfl rfl rfl rfl (Nat.le_of_ble_eq_true rfl) (t1451.rc (by decide)) ⟨_, _, rfl, H1442, t1451, (by omega), (by omega), (rd_cd.st H0 h_0_0 X1462 R1459.1 (by decide)), (R1459.2.2.2.1 rd_at), (rd_bg.st H0 h_0_0 X1462 R1459 (by decide) (by omega) (by omega) (by omega)), (by omega)⟩ (fun w1609 σ1610 q1611 => ?_)
              obtain ⟨a1612, rfl, H1613, e1614, h1616, R1615, q1617, q1618, q1619⟩ := q1611
              have t1625 := t1451.x e1614
              obtain ⟨x1620, e1621, c1622, h1623, h1624⟩ := cg242 H1613.1 t1625
              obtain ⟨x1626, e1627, c1628, h1629, h1630⟩ := cg243 H1613.1 t1625
              have z1631 := congrArg Int32.toInt c1622
              have z1632 := congrArg Int32.toInt c1628
              refine k_st (st' := [.inr (.inr (some a1612)), .inr (.inr (some a20))]) rfl ?_
              have z1633 := R1459.1.1
              obtain ⟨x1634, e1635, c1636, h1637, h1638⟩ := cg272 H1613.1 h1616
              rw [c1636] at q1618
              obtain ⟨x1639, e1640, c1641, h1642, h1643⟩ := cg270 H1613.1 h1616
              rw [c1641] at q1619
              have R1644 : RdC p0 none (-28) (1 + 8 * (d : Int)) (-996) σ0 σ1610 := R1459.tr ⟨R1615.1, R1615.2⟩ (by omega) (by omega) (by omega) (by omega)
              have z1645 := R1644.2.2.1
              have z1646 := R1644.2.2.2.1 rd_at
              have c1647 := (h24.mi e48 (by decide)).trans q26
              have c1648 := (t97.mi e74 (by decide)).trans c1647
              have c1649 := (t98.mi e95 (by decide)).trans c1648
              have c1650 := (t1422.mi e1009 (by decide)).trans c1649
              have c1651 := (t1423.mi e1401 (by decide)).trans c1650
              have c1652 := (t1424.mi e1427 (by decide)).trans c1651
              have t1653 := t1424.x e1427
              have c1654 := (t1653.mi e1443 (by decide)).trans c1652
              have t1655 := t1653.x e1443
              have c1656 := (t1655.fi e1614 (by decide) (by decide)).trans c1654
              have c1657 := (h24.mi e48 (by decide)).trans q27
              have c1658 := (t97.mi e74 (by decide)).trans c1657
              have c1659 := (t98.mi e95 (by decide)).trans c1658
              have c1660 := (t1422.mi e1009 (by decide)).trans c1659
              have c1661 := (t1423.mi e1401 (by decide)).trans c1660
              have c1662 := (t1424.mi e1427 (by decide)).trans c1661
              have c1663 := (t1653.mi e1443 (by decide)).trans c1662
              have c1664 := (t1655.fi e1614 (by decide) (by decide)).trans c1663
              have z1669 := t1655.1
              have t1670 := t1655.x e1614
              refine k_p278 H1613 t1670 (h1616.ot) (fun z hz => by cases hz; exact ⟨by omega, by unfold LvC; rw [c1656, c1664, c1641, c1636]; omega⟩) (fun σ1665 H1666 e1667 c1668 => ?_)
              refine k_nil ?_
              refine hB _ _ _ _ (kgoC (is := KX7_readFor_127) rfl ?_)
              refine k_aload_n rfl ?_
              refine k_iconst (m := 1) rfl (fun x1671 h1672 => ?_)
              have t1673 := t1625.x e1667
              have R1674 : RdC p0 none (-28) (1 + 8 * (d : Int)) (-996) σ0 σ1665 := R1644.tr ⟨(e1667.gw H1613.1 (by decide)), (e1667.cou (u := 0) H1613.1 t1625 (by decide) (by rw [e1667.cn (by decide)]; omega))⟩ (by omega) (by omega) (by omega) (by omega)
              have c1675 := (t1625.mi e1667 (by decide)).trans c1628
              have X1676 : ExC [0, 1, 2, 60, 61, 62, 63, 64, 65, 66, 67, 68, 69, 70, 72, 73, 74, 75, 76, 242, 243, 244, 246, 270, 271, 272, 273, 275, 276, 277, 278, 279, 280, 330, 331, 332, 333, 334, 999] σ0 σ1610 := X1462.tr (e1614.mo (by decide))
              have X1677 : ExC [0, 1, 2, 60, 61, 62, 63, 64, 65, 66, 67, 68, 69, 70, 72, 73, 74, 75, 76, 242, 243, 244, 246, 270, 271, 272, 273, 275, 276, 277, 278, 279, 280, 330, 331, 332, 333, 334, 999] σ0 σ1665 := X1676.tr (e1667.mo (by decide))
              have c1678 := (t1625.mi e1667 (by decide)).trans c1622
              have z1679 := congrArg Int32.toInt c1678
              have z1680 := congrArg Int32.toInt c1675
              refine k_inv (P := P_X7_expect) (Q := Q_X7_expect) rfl rfl rfl rfl (Nat.le_of_ble_eq_true rfl) (t1673.rc (by decide)) ⟨_, _, rfl, H1666, t1673, (by omega), (by omega), (rd_cd.st H0 h_0_0 X1677 R1674.1 (by decide)), (R1674.2.2.2.1 rd_at), (rd_bg.st H0 h_0_0 X1677 R1674 (by decide) (by omega) (by omega) (by omega))⟩ (fun w1681 σ1682 q1683 => ?_)
              obtain ⟨rfl, H1684, e1685, R1686, q1687⟩ := q1683
              have t1693 := t1673.x e1685
              obtain ⟨x1688, e1689, c1690, h1691, h1692⟩ := cg242 H1684.1 t1693
              obtain ⟨x1694, e1695, c1696, h1697, h1698⟩ := cg243 H1684.1 t1693
              have z1699 := congrArg Int32.toInt c1690
              have z1700 := congrArg Int32.toInt c1696
              refine k_st (st' := []) rfl ?_
              have R1701 : RdC p0 none (-36) (1 + 8 * (d : Int)) (-996) σ0 σ1682 := R1674.tr ⟨R1686.1, R1686.2⟩ (by omega) (by omega) (by omega) (by omega)
              have z1702 := R1701.2.2.1
              have z1703 := R1701.2.2.2.1 rd_at
              refine k_aload_n rfl ?_
              refine k_aload_n rfl ?_
              refine k_aload_n rfl ?_
              refine k_iload_n rfl ?_
              have t1704 := t1670.x e1667
              have t1705 := t1704.x e1685
              have X1706 : ExC [0, 1, 2, 60, 61, 62, 63, 64, 65, 66, 67, 68, 69, 70, 72, 73, 74, 75, 76, 242, 243, 244, 246, 270, 271, 272, 273, 275, 276, 277, 278, 279, 280, 330, 331, 332, 333, 334, 999] σ0 σ1682 := X1677.tr (e1685.mo (by decide))
              refine k_inv (P := (P_X7_readInner d)) (Q := (Q_X7_readInner d)) rfl rfl rfl rfl (Nat.le_of_ble_eq_true rfl) (t1693.rc (by decide)) ⟨_, _, _, rfl, H1684, t1693, t1705, (by omega), (by omega), (rd_cd.st H0 h_0_0 X1706 R1701.1 (by decide)), (R1701.2.2.2.1 rd_at), (rd_bg.st H0 h_0_0 X1706 R1701 (by decide) (by omega) (by omega) (by omega)), (by omega)⟩ (fun w1707 σ1708 q1709 => ?_)
              obtain ⟨a1710, rfl, H1711, e1712, h1714, R1713, q1715, q1716, q1717⟩ := q1709
              have t1723 := t1693.x e1712
              obtain ⟨x1718, e1719, c1720, h1721, h1722⟩ := cg242 H1711.1 t1723
              obtain ⟨x1724, e1725, c1726, h1727, h1728⟩ := cg243 H1711.1 t1723
              have z1729 := congrArg Int32.toInt c1720
              have z1730 := congrArg Int32.toInt c1726
              refine k_st (st' := [.inr (.inr (some a1710)), .inr (.inr (some a20))]) rfl ?_
              have z1731 := R1701.1.1
              obtain ⟨x1732, e1733, c1734, h1735, h1736⟩ := cg272 H1711.1 h1714
              rw [c1734] at q1716
              obtain ⟨x1737, e1738, c1739, h1740, h1741⟩ := cg270 H1711.1 h1714
              rw [c1739] at q1717
              have R1742 : RdC p0 none (-36) (4 + 8 * (d : Int)) (-993) σ0 σ1708 := R1701.tr ⟨R1713.1, R1713.2⟩ (by omega) (by omega) (by omega) (by omega)
              have z1743 := R1742.2.2.1
              have z1744 := R1742.2.2.2.1 rd_at
              have c1745 := (t1670.mi e1667 (by decide)).trans c1656
              have c1746 := (t1704.mi e1685 (by decide)).trans c1745
              have c1747 := (t1705.fi e1712 (by decide) (by decide)).trans c1746
              have c1748 := (t1670.mi e1667 (by decide)).trans c1664
              have c1749 := (t1704.mi e1685 (by decide)).trans c1748
              have c1750 := (t1705.fi e1712 (by decide) (by decide)).trans c1749
              have z1755 := t1705.1
              have t1756 := t1705.x e1712
              refine k_p276 H1711 t1756 (h1714.ot) (fun z hz => by cases hz; exact ⟨by omega, by unfold LvC; rw [c1747, c1750, c1739, c1734]; omega⟩) (fun σ1751 H1752 e1753 c1754 => ?_)
              refine k_aload_n rfl ?_
              refine k_lload rfl ?_
              have t1757 := t1723.x e1753
              refine k_putL kg245 H1752 t1757 fk245 (fun σ1758 H1759 e1760 c1761 => ?_)
              refine k_aload_n rfl ?_
              refine k_aload_n rfl ?_
              have t1762 := t1757.x e1760
              have t1767 := t37.x e48
              have t1768 := t1767.x e74
              have t1769 := t1768.x e95
              have t1770 := t1769.x e1009
              have t1771 := t1770.x e1401
              have t1772 := t1771.x e1427
              have t1773 := t1772.x e1443
              have t1774 := t1773.x e1614
              have t1775 := t1774.x e1667
              have t1776 := t1775.x e1685
              have t1777 := t1776.x e1712
              have t1778 := t1777.x e1753
              have t1779 := t1778.x e1760
              refine k_putR kp246 H1759 t1762 fk246 (rfo246 (t1779)) (fun σ1763 H1764 e1765 c1766 => ?_)
              refine k_aload_n rfl ?_
              refine k_areturn ?_
              have X1780 : ExC [0, 1, 2, 60, 61, 62, 63, 64, 65, 66, 67, 68, 69, 70, 72, 73, 74, 75, 76, 242, 243, 244, 246, 270, 271, 272, 273, 275, 276, 277, 278, 279, 280, 330, 331, 332, 333, 334, 999] σ0 σ1708 := X1706.tr (e1712.mo (by decide))
              have X1781 : ExC [0, 1, 2, 60, 61, 62, 63, 64, 65, 66, 67, 68, 69, 70, 72, 73, 74, 75, 76, 242, 243, 244, 246, 270, 271, 272, 273, 275, 276, 277, 278, 279, 280, 330, 331, 332, 333, 334, 999] σ0 σ1751 := X1780.tr (e1753.mo (by decide))
              have X1782 : ExC [0, 1, 2, 60, 61, 62, 63, 64, 65, 66, 67, 68, 69, 70, 72, 73, 74, 75, 76, 242, 243, 244, 246, 270, 271, 272, 273, 275, 276, 277, 278, 279, 280, 330, 331, 332, 333, 334, 999] σ0 σ1758 := X1781.tr (e1760.mo (by decide))
              have X1783 : ExC [0, 1, 2, 60, 61, 62, 63, 64, 65, 66, 67, 68, 69, 70, 72, 73, 74, 75, 76, 242, 243, 244, 246, 270, 271, 272, 273, 275, 276, 277, 278, 279, 280, 330, 331, 332, 333, 334, 999] σ0 σ1763 := X1782.tr (e1765.mo (by decide))
              have t1784 := t1756.x e1753
              have t1785 := t1784.x e1760
              have t1786 := t1785.x e1765
              have R1787 : RdC p0 none (-36) (4 + 8 * (d : Int)) (-993) σ0 σ1751 := R1742.tr ⟨(e1753.gw H1711.1 (by decide)), (e1753.cou (u := 0) H1711.1 t1723 (by decide) (by rw [e1753.cn (by decide)]; omega))⟩ (by omega) (by omega) (by omega) (by omega)
              have R1788 : RdC p0 none (-36) (4 + 8 * (d : Int)) (-993) σ0 σ1758 := R1787.tr ⟨(e1760.gw H1752.1 (by decide)), (e1760.cou (u := 0) H1752.1 t1757 (by decide) (by rw [e1760.cn (by decide)]; omega))⟩ (by omega) (by omega) (by omega) (by omega)
              have R1789 : RdC p0 none (-36) (4 + 8 * (d : Int)) (-993) σ0 σ1763 := R1788.tr ⟨(e1765.gw H1759.1 (by decide)), (e1765.cou (u := 0) H1759.1 t1762 (by decide) (by rw [e1765.cn (by decide)]; omega))⟩ (by omega) (by omega) (by omega) (by omega)
              have c1790 := (t1723.mi e1753 (by decide)).trans c1726
              have c1791 := (t1757.mi e1760 (by decide)).trans c1790
              have c1792 := (t1762.mi e1765 (by decide)).trans c1791
              have c1793 := (t1723.mi e1753 (by decide)).trans c1720
              have c1794 := (t1757.mi e1760 (by decide)).trans c1793
              have c1795 := (t1762.mi e1765 (by decide)).trans c1794
              have c1796 := (t1756.mi e1753 (by decide)).trans c1750
              have c1797 := (t1784.mi e1760 (by decide)).trans c1796
              have c1798 := (t1785.mi e1765 (by decide)).trans c1797
              have c1799 := (t1756.mi e1753 (by decide)).trans c1747
              have c1800 := (t1784.mi e1760 (by decide)).trans c1799
              have c1801 := (t1785.mi e1765 (by decide)).trans c1800
              exact ⟨_, rfl, H1764, X1783, t1786, (R1789.mo (by omega) (by omega) (by omega)), (by omega), (by rw [c1798] <;> omega), (by rw [c1801] <;> omega)⟩
        · refine k_nil ?_
          refine hB _ _ _ _ (kgoC (is := KX7_readFor_74) rfl ?_)
          refine k_aload_n rfl ?_
          refine k_aload_n rfl ?_
          refine k_iload_n rfl ?_
          refine k_inv (P := (P_X7_readForExps d)) (Q := (Q_X7_readForExps d)) rfl rfl rfl rfl (Nat.le_of_ble_eq_true rfl) (t99.rc (by decide)) ⟨_, _, rfl, H94, t99, (by omega), (by omega), (rd_cd.st H0 h_0_0 X103 R100.1 (by decide)), (R100.2.2.2.1 rd_at), (rd_bg.st H0 h_0_0 X103 R100 (by decide) (by omega) (by omega) (by omega)), (by omega)⟩ (fun w1802 σ1803 q1804 => ?_)
          obtain ⟨a1805, rfl, H1806, e1807, h1809, R1808, q1810, q1811, q1812⟩ := q1804
          have t1818 := t99.x e1807
          obtain ⟨x1813, e1814, c1815, h1816, h1817⟩ := cg242 H1806.1 t1818
          obtain ⟨x1819, e1820, c1821, h1822, h1823⟩ := cg243 H1806.1 t1818
          have z1824 := congrArg Int32.toInt c1815
          have z1825 := congrArg Int32.toInt c1821
          refine k_st (st' := [.inr (.inr (some a1805)), .inr (.inr (some a20))]) rfl ?_
          have z1826 := R100.1.1
          obtain ⟨x1827, e1828, c1829, h1830, h1831⟩ := cg272 H1806.1 h1809
          rw [c1829] at q1811
          obtain ⟨x1832, e1833, c1834, h1835, h1836⟩ := cg270 H1806.1 h1809
          rw [c1834] at q1812
          have R1837 : RdC p0 none (-12) (8 + 8 * (d : Int)) (-997) σ0 σ1803 := R100.tr ⟨R1808.1, R1808.2⟩ (by omega) (by omega) (by omega) (by omega)
          have z1838 := R1837.2.2.1
          have z1839 := R1837.2.2.2.1 rd_at
          have c1840 := (h24.mi e48 (by decide)).trans q26
          have c1841 := (t97.mi e74 (by decide)).trans c1840
          have c1842 := (t98.mi e95 (by decide)).trans c1841
          have t1843 := t98.x e95
          have c1844 := (t1843.fi e1807 (by decide) (by decide)).trans c1842
          have c1845 := (h24.mi e48 (by decide)).trans q27
          have c1846 := (t97.mi e74 (by decide)).trans c1845
          have c1847 := (t98.mi e95 (by decide)).trans c1846
          have c1848 := (t1843.fi e1807 (by decide) (by decide)).trans c1847
          have z1853 := t1843.1
          have t1854 := t1843.x e1807
          refine k_p277 H1806 t1854 (h1809.ot) (fun z hz => by cases hz; exact ⟨by omega, by unfold LvC; rw [c1844, c1848, c1834, c1829]; omega⟩) (fun σ1849 H1850 e1851 c1852 => ?_)
          refine k_nil ?_
          refine hB _ _ _ _ (kgoC (is := KX7_readFor_83) rfl ?_)
          refine k_aload_n rfl ?_
          refine k_iconst (m := 4) rfl (fun x1855 h1856 => ?_)
          have t1857 := t1818.x e1851
          have R1858 : RdC p0 none (-12) (8 + 8 * (d : Int)) (-997) σ0 σ1849 := R1837.tr ⟨(e1851.gw H1806.1 (by decide)), (e1851.cou (u := 0) H1806.1 t1818 (by decide) (by rw [e1851.cn (by decide)]; omega))⟩ (by omega) (by omega) (by omega) (by omega)
          have c1859 := (t1818.mi e1851 (by decide)).trans c1821
          have X1860 : ExC [0, 1, 2, 60, 61, 62, 63, 64, 65, 66, 67, 68, 69, 70, 72, 73, 74, 75, 76, 242, 243, 244, 246, 270, 271, 272, 273, 275, 276, 277, 278, 279, 280, 330, 331, 332, 333, 334, 999] σ0 σ1803 := X103.tr (e1807.mo (by decide))
          have X1861 : ExC [0, 1, 2, 60, 61, 62, 63, 64, 65, 66, 67, 68, 69, 70, 72, 73, 74, 75, 76, 242, 243, 244, 246, 270, 271, 272, 273, 275, 276, 277, 278, 279, 280, 330, 331, 332, 333, 334, 999] σ0 σ1849 := X1860.tr (e1851.mo (by decide))
          have c1862 := (t1818.mi e1851 (by decide)).trans c1815
          have z1863 := congrArg Int32.toInt c1862
          have z1864 := congrArg Int32.toInt c1859
          refine k_inv (P := P_X7_expect) (Q := Q_X7_expect) rfl rfl rfl rfl (Nat.le_of_ble_eq_true rfl) (t1857.rc (by decide)) ⟨_, _, rfl, H1850, t1857, (by omega), (by omega), (rd_cd.st H0 h_0_0 X1861 R1858.1 (by decide)), (R1858.2.2.2.1 rd_at), (rd_bg.st H0 h_0_0 X1861 R1858 (by decide) (by omega) (by omega) (by omega))⟩ (fun w1865 σ1866 q1867 => ?_)
          obtain ⟨rfl, H1868, e1869, R1870, q1871⟩ := q1867
          have t1877 := t1857.x e1869
          obtain ⟨x1872, e1873, c1874, h1875, h1876⟩ := cg242 H1868.1 t1877
          obtain ⟨x1878, e1879, c1880, h1881, h1882⟩ := cg243 H1868.1 t1877
          have z1883 := congrArg Int32.toInt c1874
          have z1884 := congrArg Int32.toInt c1880
          refine k_st (st' := []) rfl ?_
          have R1885 : RdC p0 none (-20) (8 + 8 * (d : Int)) (-997) σ0 σ1866 := R1858.tr ⟨R1870.1, R1870.2⟩ (by omega) (by omega) (by omega) (by omega)
          have z1886 := R1885.2.2.1
          have z1887 := R1885.2.2.2.1 rd_at
          refine k_aload_n rfl ?_
          have X1888 : ExC [0, 1, 2, 60, 61, 62, 63, 64, 65, 66, 67, 68, 69, 70, 72, 73, 74, 75, 76, 242, 243, 244, 246, 270, 271, 272, 273, 275, 276, 277, 278, 279, 280, 330, 331, 332, 333, 334, 999] σ0 σ1866 := X1861.tr (e1869.mo (by decide))
          refine k_inv (P := P_X7_code) (Q := Q_X7_code) rfl rfl rfl rfl (Nat.le_of_ble_eq_true rfl) (t1877.rc (by decide)) ⟨_, rfl, H1868, t1877, (rd_cd.st H0 h_0_0 X1888 R1885.1 (by decide))⟩ (fun w1889 σ1890 q1891 => ?_)
          obtain ⟨x1892, rfl, rfl, q1893, q1894, q1895⟩ := q1891
          refine k_st (st' := [.inl x1892]) rfl ?_
          refine k_iconst (m := 4) rfl (fun x1896 h1897 => ?_)
          refine k_ic_eq (fun h1898 => ?_) (fun h1898 => ?_)
          · have h1899 : x1878.toInt = 0 := by omega
            refine hB _ _ _ _ (kgoC (is := KX7_readFor_105) rfl ?_)
            refine k_aload_n rfl ?_
            refine k_iconst (m := 4) rfl (fun x1900 h1901 => ?_)
            have R1902 := R1885.nf (-1000) (-1000) (by rw [c1880]; omega)
            refine k_inv (P := P_X7_expect) (Q := Q_X7_expect) rfl rfl rfl rfl (Nat.le_of_ble_eq_true rfl) (t1877.rc (by decide)) ⟨_, _, rfl, H1868, t1877, (by omega), (by omega), (rd_cd.st H0 h_0_0 X1888 R1902.1 (by decide)), (R1902.2.2.2.1 rd_at), (rd_bg.stn H0 h_0_0 X1888 R1902 (by decide) (by rw [c1880]; omega) (by omega))⟩ (fun w1903 σ1904 q1905 => ?_)
            obtain ⟨rfl, H1906, e1907, R1908, q1909⟩ := q1905
            have t1915 := t1877.x e1907
            obtain ⟨x1910, e1911, c1912, h1913, h1914⟩ := cg242 H1906.1 t1915
            obtain ⟨x1916, e1917, c1918, h1919, h1920⟩ := cg243 H1906.1 t1915
            have z1921 := congrArg Int32.toInt c1912
            have z1922 := congrArg Int32.toInt c1918
            refine k_st (st' := []) rfl ?_
            have R1923 : RdC p0 none (-28) (-20) (-1000) σ0 σ1904 := R1902.tr ⟨R1908.1, R1908.2⟩ (by omega) (by omega) (by omega) (by omega)
            have z1924 := R1923.2.2.1
            have z1925 := R1923.2.2.2.1 rd_at
            refine k_aload_n rfl ?_
            have X1926 : ExC [0, 1, 2, 60, 61, 62, 63, 64, 65, 66, 67, 68, 69, 70, 72, 73, 74, 75, 76, 242, 243, 244, 246, 270, 271, 272, 273, 275, 276, 277, 278, 279, 280, 330, 331, 332, 333, 334, 999] σ0 σ1904 := X1888.tr (e1907.mo (by decide))
            refine k_inv (P := P_X7_code) (Q := Q_X7_code) rfl rfl rfl rfl (Nat.le_of_ble_eq_true rfl) (t1915.rc (by decide)) ⟨_, rfl, H1906, t1915, (rd_cd.st H0 h_0_0 X1926 R1923.1 (by decide))⟩ (fun w1927 σ1928 q1929 => ?_)
            obtain ⟨x1930, rfl, rfl, q1931, q1932, q1933⟩ := q1929
            refine k_st (st' := [.inl x1930]) rfl ?_
            refine k_iconst (m := 1) rfl (fun x1934 h1935 => ?_)
            refine k_ic_eq (fun h1936 => ?_) (fun h1936 => ?_)
            · have h1937 : x1916.toInt = 0 := by omega
              refine hB _ _ _ _ (kgoC (is := KX7_readFor_127) rfl ?_)
              refine k_aload_n rfl ?_
              refine k_iconst (m := 1) rfl (fun x1938 h1939 => ?_)
              have R1940 := R1923.nf (-1000) (-1000) (by rw [c1918]; omega)
              refine k_inv (P := P_X7_expect) (Q := Q_X7_expect) rfl rfl rfl rfl (Nat.le_of_ble_eq_true rfl) (t1915.rc (by decide)) ⟨_, _, rfl, H1906, t1915, (by omega), (by omega), (rd_cd.st H0 h_0_0 X1926 R1940.1 (by decide)), (R1940.2.2.2.1 rd_at), (rd_bg.stn H0 h_0_0 X1926 R1940 (by decide) (by rw [c1918]; omega) (by omega))⟩ (fun w1941 σ1942 q1943 => ?_)
              obtain ⟨rfl, H1944, e1945, R1946, q1947⟩ := q1943
              have t1953 := t1915.x e1945
              obtain ⟨x1948, e1949, c1950, h1951, h1952⟩ := cg242 H1944.1 t1953
              obtain ⟨x1954, e1955, c1956, h1957, h1958⟩ := cg243 H1944.1 t1953
              have z1959 := congrArg Int32.toInt c1950
              have z1960 := congrArg Int32.toInt c1956
              refine k_st (st' := []) rfl ?_
              have R1961 : RdC p0 none (-36) (-28) (-1000) σ0 σ1942 := R1940.tr ⟨R1946.1, R1946.2⟩ (by omega) (by omega) (by omega) (by omega)
              have z1962 := R1961.2.2.1
              have z1963 := R1961.2.2.2.1 rd_at
              refine k_aload_n rfl ?_
              refine k_aload_n rfl ?_
              refine k_aload_n rfl ?_
              refine k_iload_n rfl ?_
              have t1964 := t1854.x e1851
              have t1965 := t1964.x e1869
              have t1966 := t1965.x e1907
              have t1967 := t1966.x e1945
              have X1968 : ExC [0, 1, 2, 60, 61, 62, 63, 64, 65, 66, 67, 68, 69, 70, 72, 73, 74, 75, 76, 242, 243, 244, 246, 270, 271, 272, 273, 275, 276, 277, 278, 279, 280, 330, 331, 332, 333, 334, 999] σ0 σ1942 := X1926.tr (e1945.mo (by decide))
              refine k_inv (P := (P_X7_readInner d)) (Q := (Q_X7_readInner d)) rfl rfl rfl rfl (Nat.le_of_ble_eq_true rfl) (t1953.rc (by decide)) ⟨_, _, _, rfl, H1944, t1953, t1967, (by omega), (by omega), (rd_cd.st H0 h_0_0 X1968 R1961.1 (by decide)), (R1961.2.2.2.1 rd_at), (rd_bg.st H0 h_0_0 X1968 R1961 (by decide) (by omega) (by omega) (by omega)), (by omega)⟩ (fun w1969 σ1970 q1971 => ?_)
              obtain ⟨a1972, rfl, H1973, e1974, h1976, R1975, q1977, q1978, q1979⟩ := q1971
              have t1985 := t1953.x e1974
              obtain ⟨x1980, e1981, c1982, h1983, h1984⟩ := cg242 H1973.1 t1985
              obtain ⟨x1986, e1987, c1988, h1989, h1990⟩ := cg243 H1973.1 t1985
              have z1991 := congrArg Int32.toInt c1982
              have z1992 := congrArg Int32.toInt c1988
              refine k_st (st' := [.inr (.inr (some a1972)), .inr (.inr (some a20))]) rfl ?_
              have z1993 := R1961.1.1
              obtain ⟨x1994, e1995, c1996, h1997, h1998⟩ := cg272 H1973.1 h1976
              rw [c1996] at q1978
              obtain ⟨x1999, e2000, c2001, h2002, h2003⟩ := cg270 H1973.1 h1976
              rw [c2001] at q1979
              have R2004 : RdC p0 none (-36) (-20 + 8 * (d : Int)) (-997) σ0 σ1970 := R1961.tr ⟨R1975.1, R1975.2⟩ (by omega) (by omega) (by omega) (by omega)
              have z2005 := R2004.2.2.1
              have z2006 := R2004.2.2.2.1 rd_at
              have c2007 := (t1854.mi e1851 (by decide)).trans c1844
              have c2008 := (t1964.mi e1869 (by decide)).trans c2007
              have c2009 := (t1965.mi e1907 (by decide)).trans c2008
              have c2010 := (t1966.mi e1945 (by decide)).trans c2009
              have c2011 := (t1967.fi e1974 (by decide) (by decide)).trans c2010
              have c2012 := (t1854.mi e1851 (by decide)).trans c1848
              have c2013 := (t1964.mi e1869 (by decide)).trans c2012
              have c2014 := (t1965.mi e1907 (by decide)).trans c2013
              have c2015 := (t1966.mi e1945 (by decide)).trans c2014
              have c2016 := (t1967.fi e1974 (by decide) (by decide)).trans c2015
              have z2021 := t1967.1
              have t2022 := t1967.x e1974
              refine k_p276 H1973 t2022 (h1976.ot) (fun z hz => by cases hz; exact ⟨by omega, by unfold LvC; rw [c2011, c2016, c2001, c1996]; omega⟩) (fun σ2017 H2018 e2019 c2020 => ?_)
              refine k_aload_n rfl ?_
              refine k_lload rfl ?_
              have t2023 := t1985.x e2019
              refine k_putL kg245 H2018 t2023 fk245 (fun σ2024 H2025 e2026 c2027 => ?_)
              refine k_aload_n rfl ?_
              refine k_aload_n rfl ?_
              have t2028 := t2023.x e2026
              have t2033 := t37.x e48
              have t2034 := t2033.x e74
              have t2035 := t2034.x e95
              have t2036 := t2035.x e1807
              have t2037 := t2036.x e1851
              have t2038 := t2037.x e1869
              have t2039 := t2038.x e1907
              have t2040 := t2039.x e1945
              have t2041 := t2040.x e1974
              have t2042 := t2041.x e2019
              have t2043 := t2042.x e2026
              refine k_putR kp246 H2025 t2028 fk246 (rfo246 (t2043)) (fun σ2029 H2030 e2031 c2032 => ?_)
              refine k_aload_n rfl ?_
              refine k_areturn ?_
              have X2044 : ExC [0, 1, 2, 60, 61, 62, 63, 64, 65, 66, 67, 68, 69, 70, 72, 73, 74, 75, 76, 242, 243, 244, 246, 270, 271, 272, 273, 275, 276, 277, 278, 279, 280, 330, 331, 332, 333, 334, 999] σ0 σ1970 := X1968.tr (e1974.mo (by decide))
              have X2045 : ExC [0, 1, 2, 60, 61, 62, 63, 64, 65, 66, 67, 68, 69, 70, 72, 73, 74, 75, 76, 242, 243, 244, 246, 270, 271, 272, 273, 275, 276, 277, 278, 279, 280, 330, 331, 332, 333, 334, 999] σ0 σ2017 := X2044.tr (e2019.mo (by decide))
              have X2046 : ExC [0, 1, 2, 60, 61, 62, 63, 64, 65, 66, 67, 68, 69, 70, 72, 73, 74, 75, 76, 242, 243, 244, 246, 270, 271, 272, 273, 275, 276, 277, 278, 279, 280, 330, 331, 332, 333, 334, 999] σ0 σ2024 := X2045.tr (e2026.mo (by decide))
              have X2047 : ExC [0, 1, 2, 60, 61, 62, 63, 64, 65, 66, 67, 68, 69, 70, 72, 73, 74, 75, 76, 242, 243, 244, 246, 270, 271, 272, 273, 275, 276, 277, 278, 279, 280, 330, 331, 332, 333, 334, 999] σ0 σ2029 := X2046.tr (e2031.mo (by decide))
              have t2048 := t2022.x e2019
              have t2049 := t2048.x e2026
              have t2050 := t2049.x e2031
              have R2051 : RdC p0 none (-36) (-20 + 8 * (d : Int)) (-997) σ0 σ2017 := R2004.tr ⟨(e2019.gw H1973.1 (by decide)), (e2019.cou (u := 0) H1973.1 t1985 (by decide) (by rw [e2019.cn (by decide)]; omega))⟩ (by omega) (by omega) (by omega) (by omega)
              have R2052 : RdC p0 none (-36) (-20 + 8 * (d : Int)) (-997) σ0 σ2024 := R2051.tr ⟨(e2026.gw H2018.1 (by decide)), (e2026.cou (u := 0) H2018.1 t2023 (by decide) (by rw [e2026.cn (by decide)]; omega))⟩ (by omega) (by omega) (by omega) (by omega)
              have R2053 : RdC p0 none (-36) (-20 + 8 * (d : Int)) (-997) σ0 σ2029 := R2052.tr ⟨(e2031.gw H2025.1 (by decide)), (e2031.cou (u := 0) H2025.1 t2028 (by decide) (by rw [e2031.cn (by decide)]; omega))⟩ (by omega) (by omega) (by omega) (by omega)
              have c2054 := (t1985.mi e2019 (by decide)).trans c1988
              have c2055 := (t2023.mi e2026 (by decide)).trans c2054
              have c2056 := (t2028.mi e2031 (by decide)).trans c2055
              have c2057 := (t1985.mi e2019 (by decide)).trans c1982
              have c2058 := (t2023.mi e2026 (by decide)).trans c2057
              have c2059 := (t2028.mi e2031 (by decide)).trans c2058
              have c2060 := (t2022.mi e2019 (by decide)).trans c2016
              have c2061 := (t2048.mi e2026 (by decide)).trans c2060
              have c2062 := (t2049.mi e2031 (by decide)).trans c2061
              have c2063 := (t2022.mi e2019 (by decide)).trans c2011
              have c2064 := (t2048.mi e2026 (by decide)).trans c2063
              have c2065 := (t2049.mi e2031 (by decide)).trans c2064
              exact ⟨_, rfl, H2030, X2047, t2050, (R2053.mo (by omega) (by omega) (by omega)), (by omega), (by rw [c2062] <;> omega), (by rw [c2065] <;> omega)⟩
            · refine k_nil ?_
              refine hB _ _ _ _ (kgoC (is := KX7_readFor_118) rfl ?_)
              refine k_aload_n rfl ?_
              refine k_aload_n rfl ?_
              refine k_iload_n rfl ?_
              refine k_inv (P := (P_X7_readForExps d)) (Q := (Q_X7_readForExps d)) rfl rfl rfl rfl (Nat.le_of_ble_eq_true rfl) (t1915.rc (by decide)) ⟨_, _, rfl, H1906, t1915, (by omega), (by omega), (rd_cd.st H0 h_0_0 X1926 R1923.1 (by decide)), (R1923.2.2.2.1 rd_at), (rd_bg.st H0 h_0_0 X1926 R1923 (by decide) (by omega) (by omega) (by omega)), (by omega)⟩ (fun w2066 σ2067 q2068 => ?_)
              obtain ⟨a2069, rfl, H2070, e2071, h2073, R2072, q2074, q2075, q2076⟩ := q2068
              have t2082 := t1915.x e2071
              obtain ⟨x2077, e2078, c2079, h2080, h2081⟩ := cg242 H2070.1 t2082
              obtain ⟨x2083, e2084, c2085, h2086, h2087⟩ := cg243 H2070.1 t2082
              have z2088 := congrArg Int32.toInt c2079
              have z2089 := congrArg Int32.toInt c2085
              refine k_st (st' := [.inr (.inr (some a2069)), .inr (.inr (some a20))]) rfl ?_
              have z2090 := R1923.1.1
              obtain ⟨x2091, e2092, c2093, h2094, h2095⟩ := cg272 H2070.1 h2073
              rw [c2093] at q2075
              obtain ⟨x2096, e2097, c2098, h2099, h2100⟩ := cg270 H2070.1 h2073
              rw [c2098] at q2076
              have R2101 : RdC p0 none (-26) (-6 + 8 * (d : Int)) (-997) σ0 σ2067 := R1923.tr ⟨R2072.1, R2072.2⟩ (by omega) (by omega) (by omega) (by omega)
              have z2102 := R2101.2.2.1
              have z2103 := R2101.2.2.2.1 rd_at
              have c2104 := (t1854.mi e1851 (by decide)).trans c1844
              have t2105 := t1854.x e1851
              have c2106 := (t2105.mi e1869 (by decide)).trans c2104
              have t2107 := t2105.x e1869
              have c2108 := (t2107.mi e1907 (by decide)).trans c2106
              have t2109 := t2107.x e1907
              have c2110 := (t2109.fi e2071 (by decide) (by decide)).trans c2108
              have c2111 := (t1854.mi e1851 (by decide)).trans c1848
              have c2112 := (t2105.mi e1869 (by decide)).trans c2111
              have c2113 := (t2107.mi e1907 (by decide)).trans c2112
              have c2114 := (t2109.fi e2071 (by decide) (by decide)).trans c2113
              have z2119 := t2109.1
              have t2120 := t2109.x e2071
              refine k_p278 H2070 t2120 (h2073.ot) (fun z hz => by cases hz; exact ⟨by omega, by unfold LvC; rw [c2110, c2114, c2098, c2093]; omega⟩) (fun σ2115 H2116 e2117 c2118 => ?_)
              refine k_nil ?_
              refine hB _ _ _ _ (kgoC (is := KX7_readFor_127) rfl ?_)
              refine k_aload_n rfl ?_
              refine k_iconst (m := 1) rfl (fun x2121 h2122 => ?_)
              have t2123 := t2082.x e2117
              have R2124 : RdC p0 none (-26) (-6 + 8 * (d : Int)) (-997) σ0 σ2115 := R2101.tr ⟨(e2117.gw H2070.1 (by decide)), (e2117.cou (u := 0) H2070.1 t2082 (by decide) (by rw [e2117.cn (by decide)]; omega))⟩ (by omega) (by omega) (by omega) (by omega)
              have c2125 := (t2082.mi e2117 (by decide)).trans c2085
              have X2126 : ExC [0, 1, 2, 60, 61, 62, 63, 64, 65, 66, 67, 68, 69, 70, 72, 73, 74, 75, 76, 242, 243, 244, 246, 270, 271, 272, 273, 275, 276, 277, 278, 279, 280, 330, 331, 332, 333, 334, 999] σ0 σ2067 := X1926.tr (e2071.mo (by decide))
              have X2127 : ExC [0, 1, 2, 60, 61, 62, 63, 64, 65, 66, 67, 68, 69, 70, 72, 73, 74, 75, 76, 242, 243, 244, 246, 270, 271, 272, 273, 275, 276, 277, 278, 279, 280, 330, 331, 332, 333, 334, 999] σ0 σ2115 := X2126.tr (e2117.mo (by decide))
              have c2128 := (t2082.mi e2117 (by decide)).trans c2079
              have z2129 := congrArg Int32.toInt c2128
              have z2130 := congrArg Int32.toInt c2125
              refine k_inv (P := P_X7_expect) (Q := Q_X7_expect) rfl rfl rfl rfl (Nat.le_of_ble_eq_true rfl) (t2123.rc (by decide)) ⟨_, _, rfl, H2116, t2123, (by omega), (by omega), (rd_cd.st H0 h_0_0 X2127 R2124.1 (by decide)), (R2124.2.2.2.1 rd_at), (rd_bg.st H0 h_0_0 X2127 R2124 (by decide) (by omega) (by omega) (by omega))⟩ (fun w2131 σ2132 q2133 => ?_)
              obtain ⟨rfl, H2134, e2135, R2136, q2137⟩ := q2133
              have t2143 := t2123.x e2135
              obtain ⟨x2138, e2139, c2140, h2141, h2142⟩ := cg242 H2134.1 t2143
              obtain ⟨x2144, e2145, c2146, h2147, h2148⟩ := cg243 H2134.1 t2143
              have z2149 := congrArg Int32.toInt c2140
              have z2150 := congrArg Int32.toInt c2146
              refine k_st (st' := []) rfl ?_
              have R2151 : RdC p0 none (-34) (-6 + 8 * (d : Int)) (-997) σ0 σ2132 := R2124.tr ⟨R2136.1, R2136.2⟩ (by omega) (by omega) (by omega) (by omega)
              have z2152 := R2151.2.2.1
              have z2153 := R2151.2.2.2.1 rd_at
              refine k_aload_n rfl ?_
              refine k_aload_n rfl ?_
              refine k_aload_n rfl ?_
              refine k_iload_n rfl ?_
              have t2154 := t2120.x e2117
              have t2155 := t2154.x e2135
              have X2156 : ExC [0, 1, 2, 60, 61, 62, 63, 64, 65, 66, 67, 68, 69, 70, 72, 73, 74, 75, 76, 242, 243, 244, 246, 270, 271, 272, 273, 275, 276, 277, 278, 279, 280, 330, 331, 332, 333, 334, 999] σ0 σ2132 := X2127.tr (e2135.mo (by decide))
              refine k_inv (P := (P_X7_readInner d)) (Q := (Q_X7_readInner d)) rfl rfl rfl rfl (Nat.le_of_ble_eq_true rfl) (t2143.rc (by decide)) ⟨_, _, _, rfl, H2134, t2143, t2155, (by omega), (by omega), (rd_cd.st H0 h_0_0 X2156 R2151.1 (by decide)), (R2151.2.2.2.1 rd_at), (rd_bg.st H0 h_0_0 X2156 R2151 (by decide) (by omega) (by omega) (by omega)), (by omega)⟩ (fun w2157 σ2158 q2159 => ?_)
              obtain ⟨a2160, rfl, H2161, e2162, h2164, R2163, q2165, q2166, q2167⟩ := q2159
              have t2173 := t2143.x e2162
              obtain ⟨x2168, e2169, c2170, h2171, h2172⟩ := cg242 H2161.1 t2173
              obtain ⟨x2174, e2175, c2176, h2177, h2178⟩ := cg243 H2161.1 t2173
              have z2179 := congrArg Int32.toInt c2170
              have z2180 := congrArg Int32.toInt c2176
              refine k_st (st' := [.inr (.inr (some a2160)), .inr (.inr (some a20))]) rfl ?_
              have z2181 := R2151.1.1
              obtain ⟨x2182, e2183, c2184, h2185, h2186⟩ := cg272 H2161.1 h2164
              rw [c2184] at q2166
              obtain ⟨x2187, e2188, c2189, h2190, h2191⟩ := cg270 H2161.1 h2164
              rw [c2189] at q2167
              have R2192 : RdC p0 none (-34) (-3 + 8 * (d : Int)) (-994) σ0 σ2158 := R2151.tr ⟨R2163.1, R2163.2⟩ (by omega) (by omega) (by omega) (by omega)
              have z2193 := R2192.2.2.1
              have z2194 := R2192.2.2.2.1 rd_at
              have c2195 := (t2120.mi e2117 (by decide)).trans c2110
              have c2196 := (t2154.mi e2135 (by decide)).trans c2195
              have c2197 := (t2155.fi e2162 (by decide) (by decide)).trans c2196
              have c2198 := (t2120.mi e2117 (by decide)).trans c2114
              have c2199 := (t2154.mi e2135 (by decide)).trans c2198
              have c2200 := (t2155.fi e2162 (by decide) (by decide)).trans c2199
              have z2205 := t2155.1
              have t2206 := t2155.x e2162
              refine k_p276 H2161 t2206 (h2164.ot) (fun z hz => by cases hz; exact ⟨by omega, by unfold LvC; rw [c2197, c2200, c2189, c2184]; omega⟩) (fun σ2201 H2202 e2203 c2204 => ?_)
              refine k_aload_n rfl ?_
              refine k_lload rfl ?_
              have t2207 := t2173.x e2203
              refine k_putL kg245 H2202 t2207 fk245 (fun σ2208 H2209 e2210 c2211 => ?_)
              refine k_aload_n rfl ?_
              refine k_aload_n rfl ?_
              have t2212 := t2207.x e2210
              have t2217 := t37.x e48
              have t2218 := t2217.x e74
              have t2219 := t2218.x e95
              have t2220 := t2219.x e1807
              have t2221 := t2220.x e1851
              have t2222 := t2221.x e1869
              have t2223 := t2222.x e1907
              have t2224 := t2223.x e2071
              have t2225 := t2224.x e2117
              have t2226 := t2225.x e2135
              have t2227 := t2226.x e2162
              have t2228 := t2227.x e2203
              have t2229 := t2228.x e2210
              refine k_putR kp246 H2209 t2212 fk246 (rfo246 (t2229)) (fun σ2213 H2214 e2215 c2216 => ?_)
              refine k_aload_n rfl ?_
              refine k_areturn ?_
              have X2230 : ExC [0, 1, 2, 60, 61, 62, 63, 64, 65, 66, 67, 68, 69, 70, 72, 73, 74, 75, 76, 242, 243, 244, 246, 270, 271, 272, 273, 275, 276, 277, 278, 279, 280, 330, 331, 332, 333, 334, 999] σ0 σ2158 := X2156.tr (e2162.mo (by decide))
              have X2231 : ExC [0, 1, 2, 60, 61, 62, 63, 64, 65, 66, 67, 68, 69, 70, 72, 73, 74, 75, 76, 242, 243, 244, 246, 270, 271, 272, 273, 275, 276, 277, 278, 279, 280, 330, 331, 332, 333, 334, 999] σ0 σ2201 := X2230.tr (e2203.mo (by decide))
              have X2232 : ExC [0, 1, 2, 60, 61, 62, 63, 64, 65, 66, 67, 68, 69, 70, 72, 73, 74, 75, 76, 242, 243, 244, 246, 270, 271, 272, 273, 275, 276, 277, 278, 279, 280, 330, 331, 332, 333, 334, 999] σ0 σ2208 := X2231.tr (e2210.mo (by decide))
              have X2233 : ExC [0, 1, 2, 60, 61, 62, 63, 64, 65, 66, 67, 68, 69, 70, 72, 73, 74, 75, 76, 242, 243, 244, 246, 270, 271, 272, 273, 275, 276, 277, 278, 279, 280, 330, 331, 332, 333, 334, 999] σ0 σ2213 := X2232.tr (e2215.mo (by decide))
              have t2234 := t2206.x e2203
              have t2235 := t2234.x e2210
              have t2236 := t2235.x e2215
              have R2237 : RdC p0 none (-34) (-3 + 8 * (d : Int)) (-994) σ0 σ2201 := R2192.tr ⟨(e2203.gw H2161.1 (by decide)), (e2203.cou (u := 0) H2161.1 t2173 (by decide) (by rw [e2203.cn (by decide)]; omega))⟩ (by omega) (by omega) (by omega) (by omega)
              have R2238 : RdC p0 none (-34) (-3 + 8 * (d : Int)) (-994) σ0 σ2208 := R2237.tr ⟨(e2210.gw H2202.1 (by decide)), (e2210.cou (u := 0) H2202.1 t2207 (by decide) (by rw [e2210.cn (by decide)]; omega))⟩ (by omega) (by omega) (by omega) (by omega)
              have R2239 : RdC p0 none (-34) (-3 + 8 * (d : Int)) (-994) σ0 σ2213 := R2238.tr ⟨(e2215.gw H2209.1 (by decide)), (e2215.cou (u := 0) H2209.1 t2212 (by decide) (by rw [e2215.cn (by decide)]; omega))⟩ (by omega) (by omega) (by omega) (by omega)
              have c2240 := (t2173.mi e2203 (by decide)).trans c2176
              have c2241 := (t2207.mi e2210 (by decide)).trans c2240
              have c2242 := (t2212.mi e2215 (by decide)).trans c2241
              have c2243 := (t2173.mi e2203 (by decide)).trans c2170
              have c2244 := (t2207.mi e2210 (by decide)).trans c2243
              have c2245 := (t2212.mi e2215 (by decide)).trans c2244
              have c2246 := (t2206.mi e2203 (by decide)).trans c2200
              have c2247 := (t2234.mi e2210 (by decide)).trans c2246
              have c2248 := (t2235.mi e2215 (by decide)).trans c2247
              have c2249 := (t2206.mi e2203 (by decide)).trans c2197
              have c2250 := (t2234.mi e2210 (by decide)).trans c2249
              have c2251 := (t2235.mi e2215 (by decide)).trans c2250
              exact ⟨_, rfl, H2214, X2233, t2236, (R2239.mo (by omega) (by omega) (by omega)), (by omega), (by rw [c2248] <;> omega), (by rw [c2251] <;> omega)⟩
          · refine k_nil ?_
            refine hB _ _ _ _ (kgoC (is := KX7_readFor_96) rfl ?_)
            refine k_aload_n rfl ?_
            refine k_aload_n rfl ?_
            refine k_iload_n rfl ?_
            refine k_inv (P := (P_X7_readExp d)) (Q := (Q_X7_readExp d)) rfl rfl rfl rfl (Nat.le_of_ble_eq_true rfl) (t1877.rc (by decide)) ⟨_, _, rfl, H1868, t1877, (by omega), (by omega), (rd_cd.st H0 h_0_0 X1888 R1885.1 (by decide)), (R1885.2.2.2.1 rd_at), (rd_bg.st H0 h_0_0 X1888 R1885 (by decide) (by omega) (by omega) (by omega)), (by omega)⟩ (fun w2252 σ2253 q2254 => ?_)
            obtain ⟨a2255, rfl, H2256, e2257, h2259, R2258, q2260⟩ := q2254
            have t2266 := t1877.x e2257
            obtain ⟨x2261, e2262, c2263, h2264, h2265⟩ := cg242 H2256.1 t2266
            obtain ⟨x2267, e2268, c2269, h2270, h2271⟩ := cg243 H2256.1 t2266
            have z2272 := congrArg Int32.toInt c2263
            have z2273 := congrArg Int32.toInt c2269
            refine k_st (st' := [.inr (.inr (some a2255)), .inr (.inr (some a20))]) rfl ?_
            have z2274 := R1885.1.1
            have R2275 : RdC p0 none (-20) (9 + 8 * (d : Int)) (-996) σ0 σ2253 := R1885.tr ⟨R2258.1, R2258.2⟩ (by omega) (by omega) (by omega) (by omega)
            have z2276 := R2275.2.2.1
            have z2277 := R2275.2.2.2.1 rd_at
            have t2278 := t1854.x e1851
            have t2279 := t2278.x e1869
            have t2280 := t2279.x e2257
            refine k_putR kp279 H2256 t2280 fk279 (rf279 h2259) (fun σ2281 H2282 e2283 c2284 => ?_)
            refine k_nil ?_
            refine hB _ _ _ _ (kgoC (is := KX7_readFor_105) rfl ?_)
            refine k_aload_n rfl ?_
            refine k_iconst (m := 4) rfl (fun x2285 h2286 => ?_)
            have t2287 := t2266.x e2283
            have R2288 : RdC p0 none (-20) (9 + 8 * (d : Int)) (-996) σ0 σ2281 := R2275.tr ⟨(e2283.gw H2256.1 (by decide)), (e2283.cou (u := 0) H2256.1 t2266 (by decide) (by rw [e2283.cn (by decide)]; omega))⟩ (by omega) (by omega) (by omega) (by omega)
            have c2289 := (t2266.mi e2283 (by decide)).trans c2269
            have X2290 : ExC [0, 1, 2, 60, 61, 62, 63, 64, 65, 66, 67, 68, 69, 70, 72, 73, 74, 75, 76, 242, 243, 244, 246, 270, 271, 272, 273, 275, 276, 277, 278, 279, 280, 330, 331, 332, 333, 334, 999] σ0 σ2253 := X1888.tr (e2257.mo (by decide))
            have X2291 : ExC [0, 1, 2, 60, 61, 62, 63, 64, 65, 66, 67, 68, 69, 70, 72, 73, 74, 75, 76, 242, 243, 244, 246, 270, 271, 272, 273, 275, 276, 277, 278, 279, 280, 330, 331, 332, 333, 334, 999] σ0 σ2281 := X2290.tr (e2283.mo (by decide))
            have c2292 := (t2266.mi e2283 (by decide)).trans c2263
            have z2293 := congrArg Int32.toInt c2292
            have z2294 := congrArg Int32.toInt c2289
            refine k_inv (P := P_X7_expect) (Q := Q_X7_expect) rfl rfl rfl rfl (Nat.le_of_ble_eq_true rfl) (t2287.rc (by decide)) ⟨_, _, rfl, H2282, t2287, (by omega), (by omega), (rd_cd.st H0 h_0_0 X2291 R2288.1 (by decide)), (R2288.2.2.2.1 rd_at), (rd_bg.st H0 h_0_0 X2291 R2288 (by decide) (by omega) (by omega) (by omega))⟩ (fun w2295 σ2296 q2297 => ?_)
            obtain ⟨rfl, H2298, e2299, R2300, q2301⟩ := q2297
            have t2307 := t2287.x e2299
            obtain ⟨x2302, e2303, c2304, h2305, h2306⟩ := cg242 H2298.1 t2307
            obtain ⟨x2308, e2309, c2310, h2311, h2312⟩ := cg243 H2298.1 t2307
            have z2313 := congrArg Int32.toInt c2304
            have z2314 := congrArg Int32.toInt c2310
            refine k_st (st' := []) rfl ?_
            have R2315 : RdC p0 none (-28) (9 + 8 * (d : Int)) (-996) σ0 σ2296 := R2288.tr ⟨R2300.1, R2300.2⟩ (by omega) (by omega) (by omega) (by omega)
            have z2316 := R2315.2.2.1
            have z2317 := R2315.2.2.2.1 rd_at
            refine k_aload_n rfl ?_
            have X2318 : ExC [0, 1, 2, 60, 61, 62, 63, 64, 65, 66, 67, 68, 69, 70, 72, 73, 74, 75, 76, 242, 243, 244, 246, 270, 271, 272, 273, 275, 276, 277, 278, 279, 280, 330, 331, 332, 333, 334, 999] σ0 σ2296 := X2291.tr (e2299.mo (by decide))
            refine k_inv (P := P_X7_code) (Q := Q_X7_code) rfl rfl rfl rfl (Nat.le_of_ble_eq_true rfl) (t2307.rc (by decide)) ⟨_, rfl, H2298, t2307, (rd_cd.st H0 h_0_0 X2318 R2315.1 (by decide))⟩ (fun w2319 σ2320 q2321 => ?_)
            obtain ⟨x2322, rfl, rfl, q2323, q2324, q2325⟩ := q2321
            refine k_st (st' := [.inl x2322]) rfl ?_
            refine k_iconst (m := 1) rfl (fun x2326 h2327 => ?_)
            refine k_ic_eq (fun h2328 => ?_) (fun h2328 => ?_)
            · have h2329 : x2308.toInt = 0 := by omega
              refine hB _ _ _ _ (kgoC (is := KX7_readFor_127) rfl ?_)
              refine k_aload_n rfl ?_
              refine k_iconst (m := 1) rfl (fun x2330 h2331 => ?_)
              have R2332 := R2315.nf (-1000) (-1000) (by rw [c2310]; omega)
              refine k_inv (P := P_X7_expect) (Q := Q_X7_expect) rfl rfl rfl rfl (Nat.le_of_ble_eq_true rfl) (t2307.rc (by decide)) ⟨_, _, rfl, H2298, t2307, (by omega), (by omega), (rd_cd.st H0 h_0_0 X2318 R2332.1 (by decide)), (R2332.2.2.2.1 rd_at), (rd_bg.stn H0 h_0_0 X2318 R2332 (by decide) (by rw [c2310]; omega) (by omega))⟩ (fun w2333 σ2334 q2335 => ?_)
              obtain ⟨rfl, H2336, e2337, R2338, q2339⟩ := q2335
              have t2345 := t2307.x e2337
              obtain ⟨x2340, e2341, c2342, h2343, h2344⟩ := cg242 H2336.1 t2345
              obtain ⟨x2346, e2347, c2348, h2349, h2350⟩ := cg243 H2336.1 t2345
              have z2351 := congrArg Int32.toInt c2342
              have z2352 := congrArg Int32.toInt c2348
              refine k_st (st' := []) rfl ?_
              have R2353 : RdC p0 none (-36) (-28) (-1000) σ0 σ2334 := R2332.tr ⟨R2338.1, R2338.2⟩ (by omega) (by omega) (by omega) (by omega)
              have z2354 := R2353.2.2.1
              have z2355 := R2353.2.2.2.1 rd_at
              refine k_aload_n rfl ?_
              refine k_aload_n rfl ?_
              refine k_aload_n rfl ?_
              refine k_iload_n rfl ?_
              have t2356 := t2280.x e2283
              have t2357 := t2356.x e2299
              have t2358 := t2357.x e2337
              have X2359 : ExC [0, 1, 2, 60, 61, 62, 63, 64, 65, 66, 67, 68, 69, 70, 72, 73, 74, 75, 76, 242, 243, 244, 246, 270, 271, 272, 273, 275, 276, 277, 278, 279, 280, 330, 331, 332, 333, 334, 999] σ0 σ2334 := X2318.tr (e2337.mo (by decide))
              refine k_inv (P := (P_X7_readInner d)) (Q := (Q_X7_readInner d)) rfl rfl rfl rfl (Nat.le_of_ble_eq_true rfl) (t2345.rc (by decide)) ⟨_, _, _, rfl, H2336, t2345, t2358, (by omega), (by omega), (rd_cd.st H0 h_0_0 X2359 R2353.1 (by decide)), (R2353.2.2.2.1 rd_at), (rd_bg.st H0 h_0_0 X2359 R2353 (by decide) (by omega) (by omega) (by omega)), (by omega)⟩ (fun w2360 σ2361 q2362 => ?_)
              obtain ⟨a2363, rfl, H2364, e2365, h2367, R2366, q2368, q2369, q2370⟩ := q2362
              have t2376 := t2345.x e2365
              obtain ⟨x2371, e2372, c2373, h2374, h2375⟩ := cg242 H2364.1 t2376
              obtain ⟨x2377, e2378, c2379, h2380, h2381⟩ := cg243 H2364.1 t2376
              have z2382 := congrArg Int32.toInt c2373
              have z2383 := congrArg Int32.toInt c2379
              refine k_st (st' := [.inr (.inr (some a2363)), .inr (.inr (some a20))]) rfl ?_
              have z2384 := R2353.1.1
              obtain ⟨x2385, e2386, c2387, h2388, h2389⟩ := cg272 H2364.1 h2367
              rw [c2387] at q2369
              obtain ⟨x2390, e2391, c2392, h2393, h2394⟩ := cg270 H2364.1 h2367
              rw [c2392] at q2370
              have R2395 : RdC p0 none (-36) (-20 + 8 * (d : Int)) (-997) σ0 σ2361 := R2353.tr ⟨R2366.1, R2366.2⟩ (by omega) (by omega) (by omega) (by omega)
              have z2396 := R2395.2.2.1
              have z2397 := R2395.2.2.2.1 rd_at
              have c2398 := (t1854.mi e1851 (by decide)).trans c1844
              have c2399 := (t2278.mi e1869 (by decide)).trans c2398
              have c2400 := (t2279.mi e2257 (by decide)).trans c2399
              have c2401 := (t2280.mi e2283 (by decide)).trans c2400
              have c2402 := (t2356.mi e2299 (by decide)).trans c2401
              have c2403 := (t2357.mi e2337 (by decide)).trans c2402
              have c2404 := (t2358.fi e2365 (by decide) (by decide)).trans c2403
              have c2405 := (t1854.mi e1851 (by decide)).trans c1848
              have c2406 := (t2278.mi e1869 (by decide)).trans c2405
              have c2407 := (t2279.mi e2257 (by decide)).trans c2406
              have c2408 := (t2280.mi e2283 (by decide)).trans c2407
              have c2409 := (t2356.mi e2299 (by decide)).trans c2408
              have c2410 := (t2357.mi e2337 (by decide)).trans c2409
              have c2411 := (t2358.fi e2365 (by decide) (by decide)).trans c2410
              have z2416 := t2358.1
              have t2417 := t2358.x e2365
              refine k_p276 H2364 t2417 (h2367.ot) (fun z hz => by cases hz; exact ⟨by omega, by unfold LvC; rw [c2404, c2411, c2392, c2387]; omega⟩) (fun σ2412 H2413 e2414 c2415 => ?_)
              refine k_aload_n rfl ?_
              refine k_lload rfl ?_
              have t2418 := t2376.x e2414
              refine k_putL kg245 H2413 t2418 fk245 (fun σ2419 H2420 e2421 c2422 => ?_)
              refine k_aload_n rfl ?_
              refine k_aload_n rfl ?_
              have t2423 := t2418.x e2421
              have t2428 := t37.x e48
              have t2429 := t2428.x e74
              have t2430 := t2429.x e95
              have t2431 := t2430.x e1807
              have t2432 := t2431.x e1851
              have t2433 := t2432.x e1869
              have t2434 := t2433.x e2257
              have t2435 := t2434.x e2283
              have t2436 := t2435.x e2299
              have t2437 := t2436.x e2337
              have t2438 := t2437.x e2365
              have t2439 := t2438.x e2414
              have t2440 := t2439.x e2421
              refine k_putR kp246 H2420 t2423 fk246 (rfo246 (t2440)) (fun σ2424 H2425 e2426 c2427 => ?_)
              refine k_aload_n rfl ?_
              refine k_areturn ?_
              have X2441 : ExC [0, 1, 2, 60, 61, 62, 63, 64, 65, 66, 67, 68, 69, 70, 72, 73, 74, 75, 76, 242, 243, 244, 246, 270, 271, 272, 273, 275, 276, 277, 278, 279, 280, 330, 331, 332, 333, 334, 999] σ0 σ2361 := X2359.tr (e2365.mo (by decide))
              have X2442 : ExC [0, 1, 2, 60, 61, 62, 63, 64, 65, 66, 67, 68, 69, 70, 72, 73, 74, 75, 76, 242, 243, 244, 246, 270, 271, 272, 273, 275, 276, 277, 278, 279, 280, 330, 331, 332, 333, 334, 999] σ0 σ2412 := X2441.tr (e2414.mo (by decide))
              have X2443 : ExC [0, 1, 2, 60, 61, 62, 63, 64, 65, 66, 67, 68, 69, 70, 72, 73, 74, 75, 76, 242, 243, 244, 246, 270, 271, 272, 273, 275, 276, 277, 278, 279, 280, 330, 331, 332, 333, 334, 999] σ0 σ2419 := X2442.tr (e2421.mo (by decide))
              have X2444 : ExC [0, 1, 2, 60, 61, 62, 63, 64, 65, 66, 67, 68, 69, 70, 72, 73, 74, 75, 76, 242, 243, 244, 246, 270, 271, 272, 273, 275, 276, 277, 278, 279, 280, 330, 331, 332, 333, 334, 999] σ0 σ2424 := X2443.tr (e2426.mo (by decide))
              have t2445 := t2417.x e2414
              have t2446 := t2445.x e2421
              have t2447 := t2446.x e2426
              have R2448 : RdC p0 none (-36) (-20 + 8 * (d : Int)) (-997) σ0 σ2412 := R2395.tr ⟨(e2414.gw H2364.1 (by decide)), (e2414.cou (u := 0) H2364.1 t2376 (by decide) (by rw [e2414.cn (by decide)]; omega))⟩ (by omega) (by omega) (by omega) (by omega)
              have R2449 : RdC p0 none (-36) (-20 + 8 * (d : Int)) (-997) σ0 σ2419 := R2448.tr ⟨(e2421.gw H2413.1 (by decide)), (e2421.cou (u := 0) H2413.1 t2418 (by decide) (by rw [e2421.cn (by decide)]; omega))⟩ (by omega) (by omega) (by omega) (by omega)
              have R2450 : RdC p0 none (-36) (-20 + 8 * (d : Int)) (-997) σ0 σ2424 := R2449.tr ⟨(e2426.gw H2420.1 (by decide)), (e2426.cou (u := 0) H2420.1 t2423 (by decide) (by rw [e2426.cn (by decide)]; omega))⟩ (by omega) (by omega) (by omega) (by omega)
              have c2451 := (t2376.mi e2414 (by decide)).trans c2379
              have c2452 := (t2418.mi e2421 (by decide)).trans c2451
              have c2453 := (t2423.mi e2426 (by decide)).trans c2452
              have c2454 := (t2376.mi e2414 (by decide)).trans c2373
              have c2455 := (t2418.mi e2421 (by decide)).trans c2454
              have c2456 := (t2423.mi e2426 (by decide)).trans c2455
              have c2457 := (t2417.mi e2414 (by decide)).trans c2411
              have c2458 := (t2445.mi e2421 (by decide)).trans c2457
              have c2459 := (t2446.mi e2426 (by decide)).trans c2458
              have c2460 := (t2417.mi e2414 (by decide)).trans c2404
              have c2461 := (t2445.mi e2421 (by decide)).trans c2460
              have c2462 := (t2446.mi e2426 (by decide)).trans c2461
              exact ⟨_, rfl, H2425, X2444, t2447, (R2450.mo (by omega) (by omega) (by omega)), (by omega), (by rw [c2459] <;> omega), (by rw [c2462] <;> omega)⟩
            · refine k_nil ?_
              refine hB _ _ _ _ (kgoC (is := KX7_readFor_118) rfl ?_)
              refine k_aload_n rfl ?_
              refine k_aload_n rfl ?_
              refine k_iload_n rfl ?_
              refine k_inv (P := (P_X7_readForExps d)) (Q := (Q_X7_readForExps d)) rfl rfl rfl rfl (Nat.le_of_ble_eq_true rfl) (t2307.rc (by decide)) ⟨_, _, rfl, H2298, t2307, (by omega), (by omega), (rd_cd.st H0 h_0_0 X2318 R2315.1 (by decide)), (R2315.2.2.2.1 rd_at), (rd_bg.st H0 h_0_0 X2318 R2315 (by decide) (by omega) (by omega) (by omega)), (by omega)⟩ (fun w2463 σ2464 q2465 => ?_)
              obtain ⟨a2466, rfl, H2467, e2468, h2470, R2469, q2471, q2472, q2473⟩ := q2465
              have t2479 := t2307.x e2468
              obtain ⟨x2474, e2475, c2476, h2477, h2478⟩ := cg242 H2467.1 t2479
              obtain ⟨x2480, e2481, c2482, h2483, h2484⟩ := cg243 H2467.1 t2479
              have z2485 := congrArg Int32.toInt c2476
              have z2486 := congrArg Int32.toInt c2482
              refine k_st (st' := [.inr (.inr (some a2466)), .inr (.inr (some a20))]) rfl ?_
              have z2487 := R2315.1.1
              obtain ⟨x2488, e2489, c2490, h2491, h2492⟩ := cg272 H2467.1 h2470
              rw [c2490] at q2472
              obtain ⟨x2493, e2494, c2495, h2496, h2497⟩ := cg270 H2467.1 h2470
              rw [c2495] at q2473
              have R2498 : RdC p0 none (-26) (12 + 8 * (d : Int)) (-993) σ0 σ2464 := R2315.tr ⟨R2469.1, R2469.2⟩ (by omega) (by omega) (by omega) (by omega)
              have z2499 := R2498.2.2.1
              have z2500 := R2498.2.2.2.1 rd_at
              have c2501 := (t1854.mi e1851 (by decide)).trans c1844
              have c2502 := (t2278.mi e1869 (by decide)).trans c2501
              have c2503 := (t2279.mi e2257 (by decide)).trans c2502
              have c2504 := (t2280.mi e2283 (by decide)).trans c2503
              have t2505 := t2280.x e2283
              have c2506 := (t2505.mi e2299 (by decide)).trans c2504
              have t2507 := t2505.x e2299
              have c2508 := (t2507.fi e2468 (by decide) (by decide)).trans c2506
              have c2509 := (t1854.mi e1851 (by decide)).trans c1848
              have c2510 := (t2278.mi e1869 (by decide)).trans c2509
              have c2511 := (t2279.mi e2257 (by decide)).trans c2510
              have c2512 := (t2280.mi e2283 (by decide)).trans c2511
              have c2513 := (t2505.mi e2299 (by decide)).trans c2512
              have c2514 := (t2507.fi e2468 (by decide) (by decide)).trans c2513
              have z2519 := t2507.1
              have t2520 := t2507.x e2468
              refine k_p278 H2467 t2520 (h2470.ot) (fun z hz => by cases hz; exact ⟨by omega, by unfold LvC; rw [c2508, c2514, c2495, c2490]; omega⟩) (fun σ2515 H2516 e2517 c2518 => ?_)
              refine k_nil ?_
              refine hB _ _ _ _ (kgoC (is := KX7_readFor_127) rfl ?_)
              refine k_aload_n rfl ?_
              refine k_iconst (m := 1) rfl (fun x2521 h2522 => ?_)
              have t2523 := t2479.x e2517
              have R2524 : RdC p0 none (-26) (12 + 8 * (d : Int)) (-993) σ0 σ2515 := R2498.tr ⟨(e2517.gw H2467.1 (by decide)), (e2517.cou (u := 0) H2467.1 t2479 (by decide) (by rw [e2517.cn (by decide)]; omega))⟩ (by omega) (by omega) (by omega) (by omega)
              have c2525 := (t2479.mi e2517 (by decide)).trans c2482
              have X2526 : ExC [0, 1, 2, 60, 61, 62, 63, 64, 65, 66, 67, 68, 69, 70, 72, 73, 74, 75, 76, 242, 243, 244, 246, 270, 271, 272, 273, 275, 276, 277, 278, 279, 280, 330, 331, 332, 333, 334, 999] σ0 σ2464 := X2318.tr (e2468.mo (by decide))
              have X2527 : ExC [0, 1, 2, 60, 61, 62, 63, 64, 65, 66, 67, 68, 69, 70, 72, 73, 74, 75, 76, 242, 243, 244, 246, 270, 271, 272, 273, 275, 276, 277, 278, 279, 280, 330, 331, 332, 333, 334, 999] σ0 σ2515 := X2526.tr (e2517.mo (by decide))
              have c2528 := (t2479.mi e2517 (by decide)).trans c2476
              have z2529 := congrArg Int32.toInt c2528
              have z2530 := congrArg Int32.toInt c2525
              refine k_inv (P := P_X7_expect) (Q := Q_X7_expect) rfl rfl rfl rfl (Nat.le_of_ble_eq_true rfl) (t2523.rc (by decide)) ⟨_, _, rfl, H2516, t2523, (by omega), (by omega), (rd_cd.st H0 h_0_0 X2527 R2524.1 (by decide)), (R2524.2.2.2.1 rd_at), (rd_bg.st H0 h_0_0 X2527 R2524 (by decide) (by omega) (by omega) (by omega))⟩ (fun w2531 σ2532 q2533 => ?_)
              obtain ⟨rfl, H2534, e2535, R2536, q2537⟩ := q2533
              have t2543 := t2523.x e2535
              obtain ⟨x2538, e2539, c2540, h2541, h2542⟩ := cg242 H2534.1 t2543
              obtain ⟨x2544, e2545, c2546, h2547, h2548⟩ := cg243 H2534.1 t2543
              have z2549 := congrArg Int32.toInt c2540
              have z2550 := congrArg Int32.toInt c2546
              refine k_st (st' := []) rfl ?_
              have R2551 : RdC p0 none (-34) (12 + 8 * (d : Int)) (-993) σ0 σ2532 := R2524.tr ⟨R2536.1, R2536.2⟩ (by omega) (by omega) (by omega) (by omega)
              have z2552 := R2551.2.2.1
              have z2553 := R2551.2.2.2.1 rd_at
              refine k_aload_n rfl ?_
              refine k_aload_n rfl ?_
              refine k_aload_n rfl ?_
              refine k_iload_n rfl ?_
              have t2554 := t2520.x e2517
              have t2555 := t2554.x e2535
              have X2556 : ExC [0, 1, 2, 60, 61, 62, 63, 64, 65, 66, 67, 68, 69, 70, 72, 73, 74, 75, 76, 242, 243, 244, 246, 270, 271, 272, 273, 275, 276, 277, 278, 279, 280, 330, 331, 332, 333, 334, 999] σ0 σ2532 := X2527.tr (e2535.mo (by decide))
              refine k_inv (P := (P_X7_readInner d)) (Q := (Q_X7_readInner d)) rfl rfl rfl rfl (Nat.le_of_ble_eq_true rfl) (t2543.rc (by decide)) ⟨_, _, _, rfl, H2534, t2543, t2555, (by omega), (by omega), (rd_cd.st H0 h_0_0 X2556 R2551.1 (by decide)), (R2551.2.2.2.1 rd_at), (rd_bg.st H0 h_0_0 X2556 R2551 (by decide) (by omega) (by omega) (by omega)), (by omega)⟩ (fun w2557 σ2558 q2559 => ?_)
              obtain ⟨a2560, rfl, H2561, e2562, h2564, R2563, q2565, q2566, q2567⟩ := q2559
              have t2573 := t2543.x e2562
              obtain ⟨x2568, e2569, c2570, h2571, h2572⟩ := cg242 H2561.1 t2573
              obtain ⟨x2574, e2575, c2576, h2577, h2578⟩ := cg243 H2561.1 t2573
              have z2579 := congrArg Int32.toInt c2570
              have z2580 := congrArg Int32.toInt c2576
              refine k_st (st' := [.inr (.inr (some a2560)), .inr (.inr (some a20))]) rfl ?_
              have z2581 := R2551.1.1
              obtain ⟨x2582, e2583, c2584, h2585, h2586⟩ := cg272 H2561.1 h2564
              rw [c2584] at q2566
              obtain ⟨x2587, e2588, c2589, h2590, h2591⟩ := cg270 H2561.1 h2564
              rw [c2589] at q2567
              have R2592 : RdC p0 none (-34) (15 + 8 * (d : Int)) (-990) σ0 σ2558 := R2551.tr ⟨R2563.1, R2563.2⟩ (by omega) (by omega) (by omega) (by omega)
              have z2593 := R2592.2.2.1
              have z2594 := R2592.2.2.2.1 rd_at
              have c2595 := (t2520.mi e2517 (by decide)).trans c2508
              have c2596 := (t2554.mi e2535 (by decide)).trans c2595
              have c2597 := (t2555.fi e2562 (by decide) (by decide)).trans c2596
              have c2598 := (t2520.mi e2517 (by decide)).trans c2514
              have c2599 := (t2554.mi e2535 (by decide)).trans c2598
              have c2600 := (t2555.fi e2562 (by decide) (by decide)).trans c2599
              have z2605 := t2555.1
              have t2606 := t2555.x e2562
              refine k_p276 H2561 t2606 (h2564.ot) (fun z hz => by cases hz; exact ⟨by omega, by unfold LvC; rw [c2597, c2600, c2589, c2584]; omega⟩) (fun σ2601 H2602 e2603 c2604 => ?_)
              refine k_aload_n rfl ?_
              refine k_lload rfl ?_
              have t2607 := t2573.x e2603
              refine k_putL kg245 H2602 t2607 fk245 (fun σ2608 H2609 e2610 c2611 => ?_)
              refine k_aload_n rfl ?_
              refine k_aload_n rfl ?_
              have t2612 := t2607.x e2610
              have t2617 := t37.x e48
              have t2618 := t2617.x e74
              have t2619 := t2618.x e95
              have t2620 := t2619.x e1807
              have t2621 := t2620.x e1851
              have t2622 := t2621.x e1869
              have t2623 := t2622.x e2257
              have t2624 := t2623.x e2283
              have t2625 := t2624.x e2299
              have t2626 := t2625.x e2468
              have t2627 := t2626.x e2517
              have t2628 := t2627.x e2535
              have t2629 := t2628.x e2562
              have t2630 := t2629.x e2603
              have t2631 := t2630.x e2610
              refine k_putR kp246 H2609 t2612 fk246 (rfo246 (t2631)) (fun σ2613 H2614 e2615 c2616 => ?_)
              refine k_aload_n rfl ?_
              refine k_areturn ?_
              have X2632 : ExC [0, 1, 2, 60, 61, 62, 63, 64, 65, 66, 67, 68, 69, 70, 72, 73, 74, 75, 76, 242, 243, 244, 246, 270, 271, 272, 273, 275, 276, 277, 278, 279, 280, 330, 331, 332, 333, 334, 999] σ0 σ2558 := X2556.tr (e2562.mo (by decide))
              have X2633 : ExC [0, 1, 2, 60, 61, 62, 63, 64, 65, 66, 67, 68, 69, 70, 72, 73, 74, 75, 76, 242, 243, 244, 246, 270, 271, 272, 273, 275, 276, 277, 278, 279, 280, 330, 331, 332, 333, 334, 999] σ0 σ2601 := X2632.tr (e2603.mo (by decide))
              have X2634 : ExC [0, 1, 2, 60, 61, 62, 63, 64, 65, 66, 67, 68, 69, 70, 72, 73, 74, 75, 76, 242, 243, 244, 246, 270, 271, 272, 273, 275, 276, 277, 278, 279, 280, 330, 331, 332, 333, 334, 999] σ0 σ2608 := X2633.tr (e2610.mo (by decide))
              have X2635 : ExC [0, 1, 2, 60, 61, 62, 63, 64, 65, 66, 67, 68, 69, 70, 72, 73, 74, 75, 76, 242, 243, 244, 246, 270, 271, 272, 273, 275, 276, 277, 278, 279, 280, 330, 331, 332, 333, 334, 999] σ0 σ2613 := X2634.tr (e2615.mo (by decide))
              have t2636 := t2606.x e2603
              have t2637 := t2636.x e2610
              have t2638 := t2637.x e2615
              have R2639 : RdC p0 none (-34) (15 + 8 * (d : Int)) (-990) σ0 σ2601 := R2592.tr ⟨(e2603.gw H2561.1 (by decide)), (e2603.cou (u := 0) H2561.1 t2573 (by decide) (by rw [e2603.cn (by decide)]; omega))⟩ (by omega) (by omega) (by omega) (by omega)
              have R2640 : RdC p0 none (-34) (15 + 8 * (d : Int)) (-990) σ0 σ2608 := R2639.tr ⟨(e2610.gw H2602.1 (by decide)), (e2610.cou (u := 0) H2602.1 t2607 (by decide) (by rw [e2610.cn (by decide)]; omega))⟩ (by omega) (by omega) (by omega) (by omega)
              have R2641 : RdC p0 none (-34) (15 + 8 * (d : Int)) (-990) σ0 σ2613 := R2640.tr ⟨(e2615.gw H2609.1 (by decide)), (e2615.cou (u := 0) H2609.1 t2612 (by decide) (by rw [e2615.cn (by decide)]; omega))⟩ (by omega) (by omega) (by omega) (by omega)
              have c2642 := (t2573.mi e2603 (by decide)).trans c2576
              have c2643 := (t2607.mi e2610 (by decide)).trans c2642
              have c2644 := (t2612.mi e2615 (by decide)).trans c2643
              have c2645 := (t2573.mi e2603 (by decide)).trans c2570
              have c2646 := (t2607.mi e2610 (by decide)).trans c2645
              have c2647 := (t2612.mi e2615 (by decide)).trans c2646
              have c2648 := (t2606.mi e2603 (by decide)).trans c2600
              have c2649 := (t2636.mi e2610 (by decide)).trans c2648
              have c2650 := (t2637.mi e2615 (by decide)).trans c2649
              have c2651 := (t2606.mi e2603 (by decide)).trans c2597
              have c2652 := (t2636.mi e2610 (by decide)).trans c2651
              have c2653 := (t2637.mi e2615 (by decide)).trans c2652
              exact ⟨_, rfl, H2614, X2635, t2638, (R2641.mo (by omega) (by omega) (by omega)), (by omega), (by rw [c2650] <;> omega), (by rw [c2653] <;> omega)⟩
      · have h2654 := q988 (by omega)
        have h2655 : x83.toInt = 0 := by omega
        refine k_if_eq (fun h2656 => by exfalso; omega) (fun h2656 => ?_)
        refine k_nil ?_
        refine hB _ _ _ _ (kgoC (is := KX7_readFor_52) rfl ?_)
        refine k_aload_n rfl ?_
        refine k_aload_n rfl ?_
        refine k_bipush (m := 93) rfl (fun x2657 h2658 => ?_)
        refine k_iload_n rfl ?_
        have R2659 := R100.nf (-1000) (-1000) (by rw [c101]; omega)
        refine k_inv (P := (P_X7_readVariable d)) (Q := (Q_X7_readVariable d)) rfl rfl rfl rfl (Nat.le_of_ble_eq_true rfl) (t99.rc (by decide)) ⟨_, _, _, rfl, H94, t99, (by omega), (by omega), (by omega), (by omega), (rd_cd.st H0 h_0_0 X103 R2659.1 (by decide)), (R2659.2.2.2.1 rd_at), ((show BgC σ93 p0 (23 + 8 * (d : Int)) 0 from (rd_bg.stn H0 h_0_0 X103 R2659 (by decide) (by rw [c101]; omega) (by omega))).1 (by rw [c101]; omega)), (by rw [c101]; omega), (by omega)⟩ (fun w2660 σ2661 q2662 => ?_)
        obtain ⟨a2663, rfl, H2664, e2665, h2667, R2666, q2668, q2669, q2670⟩ := q2662
        have t2676 := t99.x e2665
        obtain ⟨x2671, e2672, c2673, h2674, h2675⟩ := cg242 H2664.1 t2676
        obtain ⟨x2677, e2678, c2679, h2680, h2681⟩ := cg243 H2664.1 t2676
        have z2682 := congrArg Int32.toInt c2673
        have z2683 := congrArg Int32.toInt c2679
        refine k_st (st' := [.inr (.inr (some a2663)), .inr (.inr (some a20))]) rfl ?_
        have z2684 := R2659.1.1
        obtain ⟨x2685, e2686, c2687, h2688, h2689⟩ := cg272 H2664.1 h2667
        rw [c2687] at q2669
        obtain ⟨x2690, e2691, c2692, h2693, h2694⟩ := cg270 H2664.1 h2667
        rw [c2692] at q2670
        have R2695 : RdC p0 none (-14) (9 + 8 * (d : Int)) (-1000) σ0 σ2661 := R2659.tr ⟨R2666.1, R2666.2⟩ (by omega) (by omega) (by omega) (by omega)
        have z2696 := R2695.2.2.1
        have z2697 := R2695.2.2.2.1 rd_at
        have c2698 := (h24.mi e48 (by decide)).trans q26
        have c2699 := (t97.mi e74 (by decide)).trans c2698
        have c2700 := (t98.mi e95 (by decide)).trans c2699
        have t2701 := t98.x e95
        have c2702 := (t2701.fi e2665 (by decide) (by decide)).trans c2700
        have c2703 := (h24.mi e48 (by decide)).trans q27
        have c2704 := (t97.mi e74 (by decide)).trans c2703
        have c2705 := (t98.mi e95 (by decide)).trans c2704
        have c2706 := (t2701.fi e2665 (by decide) (by decide)).trans c2705
        have z2711 := t2701.1
        have t2712 := t2701.x e2665
        refine k_p277 H2664 t2712 (h2667.ot) (fun z hz => by cases hz; exact ⟨by omega, by unfold LvC; rw [c2702, c2706, c2692, c2687]; omega⟩) (fun σ2707 H2708 e2709 c2710 => ?_)
        refine k_goto ?_
        refine hB _ _ _ _ (kgoC (is := KX7_readFor_83) rfl ?_)
        refine k_aload_n rfl ?_
        refine k_iconst (m := 4) rfl (fun x2713 h2714 => ?_)
        have t2715 := t2676.x e2709
        have R2716 : RdC p0 none (-14) (9 + 8 * (d : Int)) (-1000) σ0 σ2707 := R2695.tr ⟨(e2709.gw H2664.1 (by decide)), (e2709.cou (u := 0) H2664.1 t2676 (by decide) (by rw [e2709.cn (by decide)]; omega))⟩ (by omega) (by omega) (by omega) (by omega)
        have c2717 := (t2676.mi e2709 (by decide)).trans c2679
        have X2718 : ExC [0, 1, 2, 60, 61, 62, 63, 64, 65, 66, 67, 68, 69, 70, 72, 73, 74, 75, 76, 242, 243, 244, 246, 270, 271, 272, 273, 275, 276, 277, 278, 279, 280, 330, 331, 332, 333, 334, 999] σ0 σ2661 := X103.tr (e2665.mo (by decide))
        have X2719 : ExC [0, 1, 2, 60, 61, 62, 63, 64, 65, 66, 67, 68, 69, 70, 72, 73, 74, 75, 76, 242, 243, 244, 246, 270, 271, 272, 273, 275, 276, 277, 278, 279, 280, 330, 331, 332, 333, 334, 999] σ0 σ2707 := X2718.tr (e2709.mo (by decide))
        have c2720 := (t2676.mi e2709 (by decide)).trans c2673
        have z2721 := congrArg Int32.toInt c2720
        have z2722 := congrArg Int32.toInt c2717
        refine k_inv (P := P_X7_expect) (Q := Q_X7_expect) rfl rfl rfl rfl (Nat.le_of_ble_eq_true rfl) (t2715.rc (by decide)) ⟨_, _, rfl, H2708, t2715, (by omega), (by omega), (rd_cd.st H0 h_0_0 X2719 R2716.1 (by decide)), (R2716.2.2.2.1 rd_at), (rd_bg.st H0 h_0_0 X2719 R2716 (by decide) (by omega) (by omega) (by omega))⟩ (fun w2723 σ2724 q2725 => ?_)
        obtain ⟨rfl, H2726, e2727, R2728, q2729⟩ := q2725
        have t2735 := t2715.x e2727
        obtain ⟨x2730, e2731, c2732, h2733, h2734⟩ := cg242 H2726.1 t2735
        obtain ⟨x2736, e2737, c2738, h2739, h2740⟩ := cg243 H2726.1 t2735
        have z2741 := congrArg Int32.toInt c2732
        have z2742 := congrArg Int32.toInt c2738
        refine k_st (st' := []) rfl ?_
        have R2743 : RdC p0 none (-22) (9 + 8 * (d : Int)) (-1000) σ0 σ2724 := R2716.tr ⟨R2728.1, R2728.2⟩ (by omega) (by omega) (by omega) (by omega)
        have z2744 := R2743.2.2.1
        have z2745 := R2743.2.2.2.1 rd_at
        refine k_aload_n rfl ?_
        have X2746 : ExC [0, 1, 2, 60, 61, 62, 63, 64, 65, 66, 67, 68, 69, 70, 72, 73, 74, 75, 76, 242, 243, 244, 246, 270, 271, 272, 273, 275, 276, 277, 278, 279, 280, 330, 331, 332, 333, 334, 999] σ0 σ2724 := X2719.tr (e2727.mo (by decide))
        refine k_inv (P := P_X7_code) (Q := Q_X7_code) rfl rfl rfl rfl (Nat.le_of_ble_eq_true rfl) (t2735.rc (by decide)) ⟨_, rfl, H2726, t2735, (rd_cd.st H0 h_0_0 X2746 R2743.1 (by decide))⟩ (fun w2747 σ2748 q2749 => ?_)
        obtain ⟨x2750, rfl, rfl, q2751, q2752, q2753⟩ := q2749
        refine k_st (st' := [.inl x2750]) rfl ?_
        refine k_iconst (m := 4) rfl (fun x2754 h2755 => ?_)
        refine k_ic_eq (fun h2756 => ?_) (fun h2756 => ?_)
        · have h2757 : x2736.toInt = 0 := by omega
          refine hB _ _ _ _ (kgoC (is := KX7_readFor_105) rfl ?_)
          refine k_aload_n rfl ?_
          refine k_iconst (m := 4) rfl (fun x2758 h2759 => ?_)
          have R2760 := R2743.nf (-1000) (-1000) (by rw [c2738]; omega)
          refine k_inv (P := P_X7_expect) (Q := Q_X7_expect) rfl rfl rfl rfl (Nat.le_of_ble_eq_true rfl) (t2735.rc (by decide)) ⟨_, _, rfl, H2726, t2735, (by omega), (by omega), (rd_cd.st H0 h_0_0 X2746 R2760.1 (by decide)), (R2760.2.2.2.1 rd_at), (rd_bg.stn H0 h_0_0 X2746 R2760 (by decide) (by rw [c2738]; omega) (by omega))⟩ (fun w2761 σ2762 q2763 => ?_)
          obtain ⟨rfl, H2764, e2765, R2766, q2767⟩ := q2763
          have t2773 := t2735.x e2765
          obtain ⟨x2768, e2769, c2770, h2771, h2772⟩ := cg242 H2764.1 t2773
          obtain ⟨x2774, e2775, c2776, h2777, h2778⟩ := cg243 H2764.1 t2773
          have z2779 := congrArg Int32.toInt c2770
          have z2780 := congrArg Int32.toInt c2776
          refine k_st (st' := []) rfl ?_
          have R2781 : RdC p0 none (-30) (-22) (-1000) σ0 σ2762 := R2760.tr ⟨R2766.1, R2766.2⟩ (by omega) (by omega) (by omega) (by omega)
          have z2782 := R2781.2.2.1
          have z2783 := R2781.2.2.2.1 rd_at
          refine k_aload_n rfl ?_
          have X2784 : ExC [0, 1, 2, 60, 61, 62, 63, 64, 65, 66, 67, 68, 69, 70, 72, 73, 74, 75, 76, 242, 243, 244, 246, 270, 271, 272, 273, 275, 276, 277, 278, 279, 280, 330, 331, 332, 333, 334, 999] σ0 σ2762 := X2746.tr (e2765.mo (by decide))
          refine k_inv (P := P_X7_code) (Q := Q_X7_code) rfl rfl rfl rfl (Nat.le_of_ble_eq_true rfl) (t2773.rc (by decide)) ⟨_, rfl, H2764, t2773, (rd_cd.st H0 h_0_0 X2784 R2781.1 (by decide))⟩ (fun w2785 σ2786 q2787 => ?_)
          obtain ⟨x2788, rfl, rfl, q2789, q2790, q2791⟩ := q2787
          refine k_st (st' := [.inl x2788]) rfl ?_
          refine k_iconst (m := 1) rfl (fun x2792 h2793 => ?_)
          refine k_ic_eq (fun h2794 => ?_) (fun h2794 => ?_)
          · have h2795 : x2774.toInt = 0 := by omega
            refine hB _ _ _ _ (kgoC (is := KX7_readFor_127) rfl ?_)
            refine k_aload_n rfl ?_
            refine k_iconst (m := 1) rfl (fun x2796 h2797 => ?_)
            have R2798 := R2781.nf (-1000) (-1000) (by rw [c2776]; omega)
            refine k_inv (P := P_X7_expect) (Q := Q_X7_expect) rfl rfl rfl rfl (Nat.le_of_ble_eq_true rfl) (t2773.rc (by decide)) ⟨_, _, rfl, H2764, t2773, (by omega), (by omega), (rd_cd.st H0 h_0_0 X2784 R2798.1 (by decide)), (R2798.2.2.2.1 rd_at), (rd_bg.stn H0 h_0_0 X2784 R2798 (by decide) (by rw [c2776]; omega) (by omega))⟩ (fun w2799 σ2800 q2801 => ?_)
            obtain ⟨rfl, H2802, e2803, R2804, q2805⟩ := q2801
            have t2811 := t2773.x e2803
            obtain ⟨x2806, e2807, c2808, h2809, h2810⟩ := cg242 H2802.1 t2811
            obtain ⟨x2812, e2813, c2814, h2815, h2816⟩ := cg243 H2802.1 t2811
            have z2817 := congrArg Int32.toInt c2808
            have z2818 := congrArg Int32.toInt c2814
            refine k_st (st' := []) rfl ?_
            have R2819 : RdC p0 none (-38) (-30) (-1000) σ0 σ2800 := R2798.tr ⟨R2804.1, R2804.2⟩ (by omega) (by omega) (by omega) (by omega)
            have z2820 := R2819.2.2.1
            have z2821 := R2819.2.2.2.1 rd_at
            refine k_aload_n rfl ?_
            refine k_aload_n rfl ?_
            refine k_aload_n rfl ?_
            refine k_iload_n rfl ?_
            have t2822 := t2712.x e2709
            have t2823 := t2822.x e2727
            have t2824 := t2823.x e2765
            have t2825 := t2824.x e2803
            have X2826 : ExC [0, 1, 2, 60, 61, 62, 63, 64, 65, 66, 67, 68, 69, 70, 72, 73, 74, 75, 76, 242, 243, 244, 246, 270, 271, 272, 273, 275, 276, 277, 278, 279, 280, 330, 331, 332, 333, 334, 999] σ0 σ2800 := X2784.tr (e2803.mo (by decide))
            refine k_inv (P := (P_X7_readInner d)) (Q := (Q_X7_readInner d)) rfl rfl rfl rfl (Nat.le_of_ble_eq_true rfl) (t2811.rc (by decide)) ⟨_, _, _, rfl, H2802, t2811, t2825, (by omega), (by omega), (rd_cd.st H0 h_0_0 X2826 R2819.1 (by decide)), (R2819.2.2.2.1 rd_at), (rd_bg.st H0 h_0_0 X2826 R2819 (by decide) (by omega) (by omega) (by omega)), (by omega)⟩ (fun w2827 σ2828 q2829 => ?_)
            obtain ⟨a2830, rfl, H2831, e2832, h2834, R2833, q2835, q2836, q2837⟩ := q2829
            have t2843 := t2811.x e2832
            obtain ⟨x2838, e2839, c2840, h2841, h2842⟩ := cg242 H2831.1 t2843
            obtain ⟨x2844, e2845, c2846, h2847, h2848⟩ := cg243 H2831.1 t2843
            have z2849 := congrArg Int32.toInt c2840
            have z2850 := congrArg Int32.toInt c2846
            refine k_st (st' := [.inr (.inr (some a2830)), .inr (.inr (some a20))]) rfl ?_
            have z2851 := R2819.1.1
            obtain ⟨x2852, e2853, c2854, h2855, h2856⟩ := cg272 H2831.1 h2834
            rw [c2854] at q2836
            obtain ⟨x2857, e2858, c2859, h2860, h2861⟩ := cg270 H2831.1 h2834
            rw [c2859] at q2837
            have R2862 : RdC p0 none (-38) (-22 + 8 * (d : Int)) (-997) σ0 σ2828 := R2819.tr ⟨R2833.1, R2833.2⟩ (by omega) (by omega) (by omega) (by omega)
            have z2863 := R2862.2.2.1
            have z2864 := R2862.2.2.2.1 rd_at
            have c2865 := (t2712.mi e2709 (by decide)).trans c2702
            have c2866 := (t2822.mi e2727 (by decide)).trans c2865
            have c2867 := (t2823.mi e2765 (by decide)).trans c2866
            have c2868 := (t2824.mi e2803 (by decide)).trans c2867
            have c2869 := (t2825.fi e2832 (by decide) (by decide)).trans c2868
            have c2870 := (t2712.mi e2709 (by decide)).trans c2706
            have c2871 := (t2822.mi e2727 (by decide)).trans c2870
            have c2872 := (t2823.mi e2765 (by decide)).trans c2871
            have c2873 := (t2824.mi e2803 (by decide)).trans c2872
            have c2874 := (t2825.fi e2832 (by decide) (by decide)).trans c2873
            have z2879 := t2825.1
            have t2880 := t2825.x e2832
            refine k_p276 H2831 t2880 (h2834.ot) (fun z hz => by cases hz; exact ⟨by omega, by unfold LvC; rw [c2869, c2874, c2859, c2854]; omega⟩) (fun σ2875 H2876 e2877 c2878 => ?_)
            refine k_aload_n rfl ?_
            refine k_lload rfl ?_
            have t2881 := t2843.x e2877
            refine k_putL kg245 H2876 t2881 fk245 (fun σ2882 H2883 e2884 c2885 => ?_)
            refine k_aload_n rfl ?_
            refine k_aload_n rfl ?_
            have t2886 := t2881.x e2884
            have t2891 := t37.x e48
            have t2892 := t2891.x e74
            have t2893 := t2892.x e95
            have t2894 := t2893.x e2665
            have t2895 := t2894.x e2709
            have t2896 := t2895.x e2727
            have t2897 := t2896.x e2765
            have t2898 := t2897.x e2803
            have t2899 := t2898.x e2832
            have t2900 := t2899.x e2877
            have t2901 := t2900.x e2884
            refine k_putR kp246 H2883 t2886 fk246 (rfo246 (t2901)) (fun σ2887 H2888 e2889 c2890 => ?_)
            refine k_aload_n rfl ?_
            refine k_areturn ?_
            have X2902 : ExC [0, 1, 2, 60, 61, 62, 63, 64, 65, 66, 67, 68, 69, 70, 72, 73, 74, 75, 76, 242, 243, 244, 246, 270, 271, 272, 273, 275, 276, 277, 278, 279, 280, 330, 331, 332, 333, 334, 999] σ0 σ2828 := X2826.tr (e2832.mo (by decide))
            have X2903 : ExC [0, 1, 2, 60, 61, 62, 63, 64, 65, 66, 67, 68, 69, 70, 72, 73, 74, 75, 76, 242, 243, 244, 246, 270, 271, 272, 273, 275, 276, 277, 278, 279, 280, 330, 331, 332, 333, 334, 999] σ0 σ2875 := X2902.tr (e2877.mo (by decide))
            have X2904 : ExC [0, 1, 2, 60, 61, 62, 63, 64, 65, 66, 67, 68, 69, 70, 72, 73, 74, 75, 76, 242, 243, 244, 246, 270, 271, 272, 273, 275, 276, 277, 278, 279, 280, 330, 331, 332, 333, 334, 999] σ0 σ2882 := X2903.tr (e2884.mo (by decide))
            have X2905 : ExC [0, 1, 2, 60, 61, 62, 63, 64, 65, 66, 67, 68, 69, 70, 72, 73, 74, 75, 76, 242, 243, 244, 246, 270, 271, 272, 273, 275, 276, 277, 278, 279, 280, 330, 331, 332, 333, 334, 999] σ0 σ2887 := X2904.tr (e2889.mo (by decide))
            have t2906 := t2880.x e2877
            have t2907 := t2906.x e2884
            have t2908 := t2907.x e2889
            have R2909 : RdC p0 none (-38) (-22 + 8 * (d : Int)) (-997) σ0 σ2875 := R2862.tr ⟨(e2877.gw H2831.1 (by decide)), (e2877.cou (u := 0) H2831.1 t2843 (by decide) (by rw [e2877.cn (by decide)]; omega))⟩ (by omega) (by omega) (by omega) (by omega)
            have R2910 : RdC p0 none (-38) (-22 + 8 * (d : Int)) (-997) σ0 σ2882 := R2909.tr ⟨(e2884.gw H2876.1 (by decide)), (e2884.cou (u := 0) H2876.1 t2881 (by decide) (by rw [e2884.cn (by decide)]; omega))⟩ (by omega) (by omega) (by omega) (by omega)
            have R2911 : RdC p0 none (-38) (-22 + 8 * (d : Int)) (-997) σ0 σ2887 := R2910.tr ⟨(e2889.gw H2883.1 (by decide)), (e2889.cou (u := 0) H2883.1 t2886 (by decide) (by rw [e2889.cn (by decide)]; omega))⟩ (by omega) (by omega) (by omega) (by omega)
            have c2912 := (t2843.mi e2877 (by decide)).trans c2846
            have c2913 := (t2881.mi e2884 (by decide)).trans c2912
            have c2914 := (t2886.mi e2889 (by decide)).trans c2913
            have c2915 := (t2843.mi e2877 (by decide)).trans c2840
            have c2916 := (t2881.mi e2884 (by decide)).trans c2915
            have c2917 := (t2886.mi e2889 (by decide)).trans c2916
            have c2918 := (t2880.mi e2877 (by decide)).trans c2874
            have c2919 := (t2906.mi e2884 (by decide)).trans c2918
            have c2920 := (t2907.mi e2889 (by decide)).trans c2919
            have c2921 := (t2880.mi e2877 (by decide)).trans c2869
            have c2922 := (t2906.mi e2884 (by decide)).trans c2921
            have c2923 := (t2907.mi e2889 (by decide)).trans c2922
            exact ⟨_, rfl, H2888, X2905, t2908, (R2911.mo (by omega) (by omega) (by omega)), (by omega), (by rw [c2920] <;> omega), (by rw [c2923] <;> omega)⟩
          · refine k_nil ?_
            refine hB _ _ _ _ (kgoC (is := KX7_readFor_118) rfl ?_)
            refine k_aload_n rfl ?_
            refine k_aload_n rfl ?_
            refine k_iload_n rfl ?_
            refine k_inv (P := (P_X7_readForExps d)) (Q := (Q_X7_readForExps d)) rfl rfl rfl rfl (Nat.le_of_ble_eq_true rfl) (t2773.rc (by decide)) ⟨_, _, rfl, H2764, t2773, (by omega), (by omega), (rd_cd.st H0 h_0_0 X2784 R2781.1 (by decide)), (R2781.2.2.2.1 rd_at), (rd_bg.st H0 h_0_0 X2784 R2781 (by decide) (by omega) (by omega) (by omega)), (by omega)⟩ (fun w2924 σ2925 q2926 => ?_)
            obtain ⟨a2927, rfl, H2928, e2929, h2931, R2930, q2932, q2933, q2934⟩ := q2926
            have t2940 := t2773.x e2929
            obtain ⟨x2935, e2936, c2937, h2938, h2939⟩ := cg242 H2928.1 t2940
            obtain ⟨x2941, e2942, c2943, h2944, h2945⟩ := cg243 H2928.1 t2940
            have z2946 := congrArg Int32.toInt c2937
            have z2947 := congrArg Int32.toInt c2943
            refine k_st (st' := [.inr (.inr (some a2927)), .inr (.inr (some a20))]) rfl ?_
            have z2948 := R2781.1.1
            obtain ⟨x2949, e2950, c2951, h2952, h2953⟩ := cg272 H2928.1 h2931
            rw [c2951] at q2933
            obtain ⟨x2954, e2955, c2956, h2957, h2958⟩ := cg270 H2928.1 h2931
            rw [c2956] at q2934
            have R2959 : RdC p0 none (-28) (-8 + 8 * (d : Int)) (-997) σ0 σ2925 := R2781.tr ⟨R2930.1, R2930.2⟩ (by omega) (by omega) (by omega) (by omega)
            have z2960 := R2959.2.2.1
            have z2961 := R2959.2.2.2.1 rd_at
            have c2962 := (t2712.mi e2709 (by decide)).trans c2702
            have t2963 := t2712.x e2709
            have c2964 := (t2963.mi e2727 (by decide)).trans c2962
            have t2965 := t2963.x e2727
            have c2966 := (t2965.mi e2765 (by decide)).trans c2964
            have t2967 := t2965.x e2765
            have c2968 := (t2967.fi e2929 (by decide) (by decide)).trans c2966
            have c2969 := (t2712.mi e2709 (by decide)).trans c2706
            have c2970 := (t2963.mi e2727 (by decide)).trans c2969
            have c2971 := (t2965.mi e2765 (by decide)).trans c2970
            have c2972 := (t2967.fi e2929 (by decide) (by decide)).trans c2971
            have z2977 := t2967.1
            have t2978 := t2967.x e2929
            refine k_p278 H2928 t2978 (h2931.ot) (fun z hz => by cases hz; exact ⟨by omega, by unfold LvC; rw [c2968, c2972, c2956, c2951]; omega⟩) (fun σ2973 H2974 e2975 c2976 => ?_)
            refine k_nil ?_
            refine hB _ _ _ _ (kgoC (is := KX7_readFor_127) rfl ?_)
            refine k_aload_n rfl ?_
            refine k_iconst (m := 1) rfl (fun x2979 h2980 => ?_)
            have t2981 := t2940.x e2975
            have R2982 : RdC p0 none (-28) (-8 + 8 * (d : Int)) (-997) σ0 σ2973 := R2959.tr ⟨(e2975.gw H2928.1 (by decide)), (e2975.cou (u := 0) H2928.1 t2940 (by decide) (by rw [e2975.cn (by decide)]; omega))⟩ (by omega) (by omega) (by omega) (by omega)
            have c2983 := (t2940.mi e2975 (by decide)).trans c2943
            have X2984 : ExC [0, 1, 2, 60, 61, 62, 63, 64, 65, 66, 67, 68, 69, 70, 72, 73, 74, 75, 76, 242, 243, 244, 246, 270, 271, 272, 273, 275, 276, 277, 278, 279, 280, 330, 331, 332, 333, 334, 999] σ0 σ2925 := X2784.tr (e2929.mo (by decide))
            have X2985 : ExC [0, 1, 2, 60, 61, 62, 63, 64, 65, 66, 67, 68, 69, 70, 72, 73, 74, 75, 76, 242, 243, 244, 246, 270, 271, 272, 273, 275, 276, 277, 278, 279, 280, 330, 331, 332, 333, 334, 999] σ0 σ2973 := X2984.tr (e2975.mo (by decide))
            have c2986 := (t2940.mi e2975 (by decide)).trans c2937
            have z2987 := congrArg Int32.toInt c2986
            have z2988 := congrArg Int32.toInt c2983
            refine k_inv (P := P_X7_expect) (Q := Q_X7_expect) rfl rfl rfl rfl (Nat.le_of_ble_eq_true rfl) (t2981.rc (by decide)) ⟨_, _, rfl, H2974, t2981, (by omega), (by omega), (rd_cd.st H0 h_0_0 X2985 R2982.1 (by decide)), (R2982.2.2.2.1 rd_at), (rd_bg.st H0 h_0_0 X2985 R2982 (by decide) (by omega) (by omega) (by omega))⟩ (fun w2989 σ2990 q2991 => ?_)
            obtain ⟨rfl, H2992, e2993, R2994, q2995⟩ := q2991
            have t3001 := t2981.x e2993
            obtain ⟨x2996, e2997, c2998, h2999, h3000⟩ := cg242 H2992.1 t3001
            obtain ⟨x3002, e3003, c3004, h3005, h3006⟩ := cg243 H2992.1 t3001
            have z3007 := congrArg Int32.toInt c2998
            have z3008 := congrArg Int32.toInt c3004
            refine k_st (st' := []) rfl ?_
            have R3009 : RdC p0 none (-36) (-8 + 8 * (d : Int)) (-997) σ0 σ2990 := R2982.tr ⟨R2994.1, R2994.2⟩ (by omega) (by omega) (by omega) (by omega)
            have z3010 := R3009.2.2.1
            have z3011 := R3009.2.2.2.1 rd_at
            refine k_aload_n rfl ?_
            refine k_aload_n rfl ?_
            refine k_aload_n rfl ?_
            refine k_iload_n rfl ?_
            have t3012 := t2978.x e2975
            have t3013 := t3012.x e2993
            have X3014 : ExC [0, 1, 2, 60, 61, 62, 63, 64, 65, 66, 67, 68, 69, 70, 72, 73, 74, 75, 76, 242, 243, 244, 246, 270, 271, 272, 273, 275, 276, 277, 278, 279, 280, 330, 331, 332, 333, 334, 999] σ0 σ2990 := X2985.tr (e2993.mo (by decide))
            refine k_inv (P := (P_X7_readInner d)) (Q := (Q_X7_readInner d)) rfl rfl rfl rfl (Nat.le_of_ble_eq_true rfl) (t3001.rc (by decide)) ⟨_, _, _, rfl, H2992, t3001, t3013, (by omega), (by omega), (rd_cd.st H0 h_0_0 X3014 R3009.1 (by decide)), (R3009.2.2.2.1 rd_at), (rd_bg.st H0 h_0_0 X3014 R3009 (by decide) (by omega) (by omega) (by omega)), (by omega)⟩ (fun w3015 σ3016 q3017 => ?_)
            obtain ⟨a3018, rfl, H3019, e3020, h3022, R3021, q3023, q3024, q3025⟩ := q3017
            have t3031 := t3001.x e3020
            obtain ⟨x3026, e3027, c3028, h3029, h3030⟩ := cg242 H3019.1 t3031
            obtain ⟨x3032, e3033, c3034, h3035, h3036⟩ := cg243 H3019.1 t3031
            have z3037 := congrArg Int32.toInt c3028
            have z3038 := congrArg Int32.toInt c3034
            refine k_st (st' := [.inr (.inr (some a3018)), .inr (.inr (some a20))]) rfl ?_
            have z3039 := R3009.1.1
            obtain ⟨x3040, e3041, c3042, h3043, h3044⟩ := cg272 H3019.1 h3022
            rw [c3042] at q3024
            obtain ⟨x3045, e3046, c3047, h3048, h3049⟩ := cg270 H3019.1 h3022
            rw [c3047] at q3025
            have R3050 : RdC p0 none (-36) (-5 + 8 * (d : Int)) (-994) σ0 σ3016 := R3009.tr ⟨R3021.1, R3021.2⟩ (by omega) (by omega) (by omega) (by omega)
            have z3051 := R3050.2.2.1
            have z3052 := R3050.2.2.2.1 rd_at
            have c3053 := (t2978.mi e2975 (by decide)).trans c2968
            have c3054 := (t3012.mi e2993 (by decide)).trans c3053
            have c3055 := (t3013.fi e3020 (by decide) (by decide)).trans c3054
            have c3056 := (t2978.mi e2975 (by decide)).trans c2972
            have c3057 := (t3012.mi e2993 (by decide)).trans c3056
            have c3058 := (t3013.fi e3020 (by decide) (by decide)).trans c3057
            have z3063 := t3013.1
            have t3064 := t3013.x e3020
            refine k_p276 H3019 t3064 (h3022.ot) (fun z hz => by cases hz; exact ⟨by omega, by unfold LvC; rw [c3055, c3058, c3047, c3042]; omega⟩) (fun σ3059 H3060 e3061 c3062 => ?_)
            refine k_aload_n rfl ?_
            refine k_lload rfl ?_
            have t3065 := t3031.x e3061
            refine k_putL kg245 H3060 t3065 fk245 (fun σ3066 H3067 e3068 c3069 => ?_)
            refine k_aload_n rfl ?_
            refine k_aload_n rfl ?_
            have t3070 := t3065.x e3068
            have t3075 := t37.x e48
            have t3076 := t3075.x e74
            have t3077 := t3076.x e95
            have t3078 := t3077.x e2665
            have t3079 := t3078.x e2709
            have t3080 := t3079.x e2727
            have t3081 := t3080.x e2765
            have t3082 := t3081.x e2929
            have t3083 := t3082.x e2975
            have t3084 := t3083.x e2993
            have t3085 := t3084.x e3020
            have t3086 := t3085.x e3061
            have t3087 := t3086.x e3068
            refine k_putR kp246 H3067 t3070 fk246 (rfo246 (t3087)) (fun σ3071 H3072 e3073 c3074 => ?_)
            refine k_aload_n rfl ?_
            refine k_areturn ?_
            have X3088 : ExC [0, 1, 2, 60, 61, 62, 63, 64, 65, 66, 67, 68, 69, 70, 72, 73, 74, 75, 76, 242, 243, 244, 246, 270, 271, 272, 273, 275, 276, 277, 278, 279, 280, 330, 331, 332, 333, 334, 999] σ0 σ3016 := X3014.tr (e3020.mo (by decide))
            have X3089 : ExC [0, 1, 2, 60, 61, 62, 63, 64, 65, 66, 67, 68, 69, 70, 72, 73, 74, 75, 76, 242, 243, 244, 246, 270, 271, 272, 273, 275, 276, 277, 278, 279, 280, 330, 331, 332, 333, 334, 999] σ0 σ3059 := X3088.tr (e3061.mo (by decide))
            have X3090 : ExC [0, 1, 2, 60, 61, 62, 63, 64, 65, 66, 67, 68, 69, 70, 72, 73, 74, 75, 76, 242, 243, 244, 246, 270, 271, 272, 273, 275, 276, 277, 278, 279, 280, 330, 331, 332, 333, 334, 999] σ0 σ3066 := X3089.tr (e3068.mo (by decide))
            have X3091 : ExC [0, 1, 2, 60, 61, 62, 63, 64, 65, 66, 67, 68, 69, 70, 72, 73, 74, 75, 76, 242, 243, 244, 246, 270, 271, 272, 273, 275, 276, 277, 278, 279, 280, 330, 331, 332, 333, 334, 999] σ0 σ3071 := X3090.tr (e3073.mo (by decide))
            have t3092 := t3064.x e3061
            have t3093 := t3092.x e3068
            have t3094 := t3093.x e3073
            have R3095 : RdC p0 none (-36) (-5 + 8 * (d : Int)) (-994) σ0 σ3059 := R3050.tr ⟨(e3061.gw H3019.1 (by decide)), (e3061.cou (u := 0) H3019.1 t3031 (by decide) (by rw [e3061.cn (by decide)]; omega))⟩ (by omega) (by omega) (by omega) (by omega)
            have R3096 : RdC p0 none (-36) (-5 + 8 * (d : Int)) (-994) σ0 σ3066 := R3095.tr ⟨(e3068.gw H3060.1 (by decide)), (e3068.cou (u := 0) H3060.1 t3065 (by decide) (by rw [e3068.cn (by decide)]; omega))⟩ (by omega) (by omega) (by omega) (by omega)
            have R3097 : RdC p0 none (-36) (-5 + 8 * (d : Int)) (-994) σ0 σ3071 := R3096.tr ⟨(e3073.gw H3067.1 (by decide)), (e3073.cou (u := 0) H3067.1 t3070 (by decide) (by rw [e3073.cn (by decide)]; omega))⟩ (by omega) (by omega) (by omega) (by omega)
            have c3098 := (t3031.mi e3061 (by decide)).trans c3034
            have c3099 := (t3065.mi e3068 (by decide)).trans c3098
            have c3100 := (t3070.mi e3073 (by decide)).trans c3099
            have c3101 := (t3031.mi e3061 (by decide)).trans c3028
            have c3102 := (t3065.mi e3068 (by decide)).trans c3101
            have c3103 := (t3070.mi e3073 (by decide)).trans c3102
            have c3104 := (t3064.mi e3061 (by decide)).trans c3058
            have c3105 := (t3092.mi e3068 (by decide)).trans c3104
            have c3106 := (t3093.mi e3073 (by decide)).trans c3105
            have c3107 := (t3064.mi e3061 (by decide)).trans c3055
            have c3108 := (t3092.mi e3068 (by decide)).trans c3107
            have c3109 := (t3093.mi e3073 (by decide)).trans c3108
            exact ⟨_, rfl, H3072, X3091, t3094, (R3097.mo (by omega) (by omega) (by omega)), (by omega), (by rw [c3106] <;> omega), (by rw [c3109] <;> omega)⟩
        · refine k_nil ?_
          refine hB _ _ _ _ (kgoC (is := KX7_readFor_96) rfl ?_)
          refine k_aload_n rfl ?_
          refine k_aload_n rfl ?_
          refine k_iload_n rfl ?_
          refine k_inv (P := (P_X7_readExp d)) (Q := (Q_X7_readExp d)) rfl rfl rfl rfl (Nat.le_of_ble_eq_true rfl) (t2735.rc (by decide)) ⟨_, _, rfl, H2726, t2735, (by omega), (by omega), (rd_cd.st H0 h_0_0 X2746 R2743.1 (by decide)), (R2743.2.2.2.1 rd_at), (rd_bg.st H0 h_0_0 X2746 R2743 (by decide) (by omega) (by omega) (by omega)), (by omega)⟩ (fun w3110 σ3111 q3112 => ?_)
          obtain ⟨a3113, rfl, H3114, e3115, h3117, R3116, q3118⟩ := q3112
          have t3124 := t2735.x e3115
          obtain ⟨x3119, e3120, c3121, h3122, h3123⟩ := cg242 H3114.1 t3124
          obtain ⟨x3125, e3126, c3127, h3128, h3129⟩ := cg243 H3114.1 t3124
          have z3130 := congrArg Int32.toInt c3121
          have z3131 := congrArg Int32.toInt c3127
          refine k_st (st' := [.inr (.inr (some a3113)), .inr (.inr (some a20))]) rfl ?_
          have z3132 := R2743.1.1
          have R3133 : RdC p0 none (-22) (10 + 8 * (d : Int)) (-999) σ0 σ3111 := R2743.tr ⟨R3116.1, R3116.2⟩ (by omega) (by omega) (by omega) (by omega)
          have z3134 := R3133.2.2.1
          have z3135 := R3133.2.2.2.1 rd_at
          have t3136 := t2712.x e2709
          have t3137 := t3136.x e2727
          have t3138 := t3137.x e3115
          refine k_putR kp279 H3114 t3138 fk279 (rf279 h3117) (fun σ3139 H3140 e3141 c3142 => ?_)
          refine k_nil ?_
          refine hB _ _ _ _ (kgoC (is := KX7_readFor_105) rfl ?_)
          refine k_aload_n rfl ?_
          refine k_iconst (m := 4) rfl (fun x3143 h3144 => ?_)
          have t3145 := t3124.x e3141
          have R3146 : RdC p0 none (-22) (10 + 8 * (d : Int)) (-999) σ0 σ3139 := R3133.tr ⟨(e3141.gw H3114.1 (by decide)), (e3141.cou (u := 0) H3114.1 t3124 (by decide) (by rw [e3141.cn (by decide)]; omega))⟩ (by omega) (by omega) (by omega) (by omega)
          have c3147 := (t3124.mi e3141 (by decide)).trans c3127
          have X3148 : ExC [0, 1, 2, 60, 61, 62, 63, 64, 65, 66, 67, 68, 69, 70, 72, 73, 74, 75, 76, 242, 243, 244, 246, 270, 271, 272, 273, 275, 276, 277, 278, 279, 280, 330, 331, 332, 333, 334, 999] σ0 σ3111 := X2746.tr (e3115.mo (by decide))
          have X3149 : ExC [0, 1, 2, 60, 61, 62, 63, 64, 65, 66, 67, 68, 69, 70, 72, 73, 74, 75, 76, 242, 243, 244, 246, 270, 271, 272, 273, 275, 276, 277, 278, 279, 280, 330, 331, 332, 333, 334, 999] σ0 σ3139 := X3148.tr (e3141.mo (by decide))
          have c3150 := (t3124.mi e3141 (by decide)).trans c3121
          have z3151 := congrArg Int32.toInt c3150
          have z3152 := congrArg Int32.toInt c3147
          refine k_inv (P := P_X7_expect) (Q := Q_X7_expect) rfl rfl rfl rfl (Nat.le_of_ble_eq_true rfl) (t3145.rc (by decide)) ⟨_, _, rfl, H3140, t3145, (by omega), (by omega), (rd_cd.st H0 h_0_0 X3149 R3146.1 (by decide)), (R3146.2.2.2.1 rd_at), (rd_bg.st H0 h_0_0 X3149 R3146 (by decide) (by omega) (by omega) (by omega))⟩ (fun w3153 σ3154 q3155 => ?_)
          obtain ⟨rfl, H3156, e3157, R3158, q3159⟩ := q3155
          have t3165 := t3145.x e3157
          obtain ⟨x3160, e3161, c3162, h3163, h3164⟩ := cg242 H3156.1 t3165
          obtain ⟨x3166, e3167, c3168, h3169, h3170⟩ := cg243 H3156.1 t3165
          have z3171 := congrArg Int32.toInt c3162
          have z3172 := congrArg Int32.toInt c3168
          refine k_st (st' := []) rfl ?_
          have R3173 : RdC p0 none (-30) (10 + 8 * (d : Int)) (-999) σ0 σ3154 := R3146.tr ⟨R3158.1, R3158.2⟩ (by omega) (by omega) (by omega) (by omega)
          have z3174 := R3173.2.2.1
          have z3175 := R3173.2.2.2.1 rd_at
          refine k_aload_n rfl ?_
          have X3176 : ExC [0, 1, 2, 60, 61, 62, 63, 64, 65, 66, 67, 68, 69, 70, 72, 73, 74, 75, 76, 242, 243, 244, 246, 270, 271, 272, 273, 275, 276, 277, 278, 279, 280, 330, 331, 332, 333, 334, 999] σ0 σ3154 := X3149.tr (e3157.mo (by decide))
          refine k_inv (P := P_X7_code) (Q := Q_X7_code) rfl rfl rfl rfl (Nat.le_of_ble_eq_true rfl) (t3165.rc (by decide)) ⟨_, rfl, H3156, t3165, (rd_cd.st H0 h_0_0 X3176 R3173.1 (by decide))⟩ (fun w3177 σ3178 q3179 => ?_)
          obtain ⟨x3180, rfl, rfl, q3181, q3182, q3183⟩ := q3179
          refine k_st (st' := [.inl x3180]) rfl ?_
          refine k_iconst (m := 1) rfl (fun x3184 h3185 => ?_)
          refine k_ic_eq (fun h3186 => ?_) (fun h3186 => ?_)
          · have h3187 : x3166.toInt = 0 := by omega
            refine hB _ _ _ _ (kgoC (is := KX7_readFor_127) rfl ?_)
            refine k_aload_n rfl ?_
            refine k_iconst (m := 1) rfl (fun x3188 h3189 => ?_)
            have R3190 := R3173.nf (-1000) (-1000) (by rw [c3168]; omega)
            refine k_inv (P := P_X7_expect) (Q := Q_X7_expect) rfl rfl rfl rfl (Nat.le_of_ble_eq_true rfl) (t3165.rc (by decide)) ⟨_, _, rfl, H3156, t3165, (by omega), (by omega), (rd_cd.st H0 h_0_0 X3176 R3190.1 (by decide)), (R3190.2.2.2.1 rd_at), (rd_bg.stn H0 h_0_0 X3176 R3190 (by decide) (by rw [c3168]; omega) (by omega))⟩ (fun w3191 σ3192 q3193 => ?_)
            obtain ⟨rfl, H3194, e3195, R3196, q3197⟩ := q3193
            have t3203 := t3165.x e3195
            obtain ⟨x3198, e3199, c3200, h3201, h3202⟩ := cg242 H3194.1 t3203
            obtain ⟨x3204, e3205, c3206, h3207, h3208⟩ := cg243 H3194.1 t3203
            have z3209 := congrArg Int32.toInt c3200
            have z3210 := congrArg Int32.toInt c3206
            refine k_st (st' := []) rfl ?_
            have R3211 : RdC p0 none (-38) (-30) (-1000) σ0 σ3192 := R3190.tr ⟨R3196.1, R3196.2⟩ (by omega) (by omega) (by omega) (by omega)
            have z3212 := R3211.2.2.1
            have z3213 := R3211.2.2.2.1 rd_at
            refine k_aload_n rfl ?_
            refine k_aload_n rfl ?_
            refine k_aload_n rfl ?_
            refine k_iload_n rfl ?_
            have t3214 := t3138.x e3141
            have t3215 := t3214.x e3157
            have t3216 := t3215.x e3195
            have X3217 : ExC [0, 1, 2, 60, 61, 62, 63, 64, 65, 66, 67, 68, 69, 70, 72, 73, 74, 75, 76, 242, 243, 244, 246, 270, 271, 272, 273, 275, 276, 277, 278, 279, 280, 330, 331, 332, 333, 334, 999] σ0 σ3192 := X3176.tr (e3195.mo (by decide))
            refine k_inv (P := (P_X7_readInner d)) (Q := (Q_X7_readInner d)) rfl rfl rfl rfl (Nat.le_of_ble_eq_true rfl) (t3203.rc (by decide)) ⟨_, _, _, rfl, H3194, t3203, t3216, (by omega), (by omega), (rd_cd.st H0 h_0_0 X3217 R3211.1 (by decide)), (R3211.2.2.2.1 rd_at), (rd_bg.st H0 h_0_0 X3217 R3211 (by decide) (by omega) (by omega) (by omega)), (by omega)⟩ (fun w3218 σ3219 q3220 => ?_)
            obtain ⟨a3221, rfl, H3222, e3223, h3225, R3224, q3226, q3227, q3228⟩ := q3220
            have t3234 := t3203.x e3223
            obtain ⟨x3229, e3230, c3231, h3232, h3233⟩ := cg242 H3222.1 t3234
            obtain ⟨x3235, e3236, c3237, h3238, h3239⟩ := cg243 H3222.1 t3234
            have z3240 := congrArg Int32.toInt c3231
            have z3241 := congrArg Int32.toInt c3237
            refine k_st (st' := [.inr (.inr (some a3221)), .inr (.inr (some a20))]) rfl ?_
            have z3242 := R3211.1.1
            obtain ⟨x3243, e3244, c3245, h3246, h3247⟩ := cg272 H3222.1 h3225
            rw [c3245] at q3227
            obtain ⟨x3248, e3249, c3250, h3251, h3252⟩ := cg270 H3222.1 h3225
            rw [c3250] at q3228
            have R3253 : RdC p0 none (-38) (-22 + 8 * (d : Int)) (-997) σ0 σ3219 := R3211.tr ⟨R3224.1, R3224.2⟩ (by omega) (by omega) (by omega) (by omega)
            have z3254 := R3253.2.2.1
            have z3255 := R3253.2.2.2.1 rd_at
            have c3256 := (t2712.mi e2709 (by decide)).trans c2702
            have c3257 := (t3136.mi e2727 (by decide)).trans c3256
            have c3258 := (t3137.mi e3115 (by decide)).trans c3257
            have c3259 := (t3138.mi e3141 (by decide)).trans c3258
            have c3260 := (t3214.mi e3157 (by decide)).trans c3259
            have c3261 := (t3215.mi e3195 (by decide)).trans c3260
            have c3262 := (t3216.fi e3223 (by decide) (by decide)).trans c3261
            have c3263 := (t2712.mi e2709 (by decide)).trans c2706
            have c3264 := (t3136.mi e2727 (by decide)).trans c3263
            have c3265 := (t3137.mi e3115 (by decide)).trans c3264
            have c3266 := (t3138.mi e3141 (by decide)).trans c3265
            have c3267 := (t3214.mi e3157 (by decide)).trans c3266
            have c3268 := (t3215.mi e3195 (by decide)).trans c3267
            have c3269 := (t3216.fi e3223 (by decide) (by decide)).trans c3268
            have z3274 := t3216.1
            have t3275 := t3216.x e3223
            refine k_p276 H3222 t3275 (h3225.ot) (fun z hz => by cases hz; exact ⟨by omega, by unfold LvC; rw [c3262, c3269, c3250, c3245]; omega⟩) (fun σ3270 H3271 e3272 c3273 => ?_)
            refine k_aload_n rfl ?_
            refine k_lload rfl ?_
            have t3276 := t3234.x e3272
            refine k_putL kg245 H3271 t3276 fk245 (fun σ3277 H3278 e3279 c3280 => ?_)
            refine k_aload_n rfl ?_
            refine k_aload_n rfl ?_
            have t3281 := t3276.x e3279
            have t3286 := t37.x e48
            have t3287 := t3286.x e74
            have t3288 := t3287.x e95
            have t3289 := t3288.x e2665
            have t3290 := t3289.x e2709
            have t3291 := t3290.x e2727
            have t3292 := t3291.x e3115
            have t3293 := t3292.x e3141
            have t3294 := t3293.x e3157
            have t3295 := t3294.x e3195
            have t3296 := t3295.x e3223
            have t3297 := t3296.x e3272
            have t3298 := t3297.x e3279
            refine k_putR kp246 H3278 t3281 fk246 (rfo246 (t3298)) (fun σ3282 H3283 e3284 c3285 => ?_)
            refine k_aload_n rfl ?_
            refine k_areturn ?_
            have X3299 : ExC [0, 1, 2, 60, 61, 62, 63, 64, 65, 66, 67, 68, 69, 70, 72, 73, 74, 75, 76, 242, 243, 244, 246, 270, 271, 272, 273, 275, 276, 277, 278, 279, 280, 330, 331, 332, 333, 334, 999] σ0 σ3219 := X3217.tr (e3223.mo (by decide))
            have X3300 : ExC [0, 1, 2, 60, 61, 62, 63, 64, 65, 66, 67, 68, 69, 70, 72, 73, 74, 75, 76, 242, 243, 244, 246, 270, 271, 272, 273, 275, 276, 277, 278, 279, 280, 330, 331, 332, 333, 334, 999] σ0 σ3270 := X3299.tr (e3272.mo (by decide))
            have X3301 : ExC [0, 1, 2, 60, 61, 62, 63, 64, 65, 66, 67, 68, 69, 70, 72, 73, 74, 75, 76, 242, 243, 244, 246, 270, 271, 272, 273, 275, 276, 277, 278, 279, 280, 330, 331, 332, 333, 334, 999] σ0 σ3277 := X3300.tr (e3279.mo (by decide))
            have X3302 : ExC [0, 1, 2, 60, 61, 62, 63, 64, 65, 66, 67, 68, 69, 70, 72, 73, 74, 75, 76, 242, 243, 244, 246, 270, 271, 272, 273, 275, 276, 277, 278, 279, 280, 330, 331, 332, 333, 334, 999] σ0 σ3282 := X3301.tr (e3284.mo (by decide))
            have t3303 := t3275.x e3272
            have t3304 := t3303.x e3279
            have t3305 := t3304.x e3284
            have R3306 : RdC p0 none (-38) (-22 + 8 * (d : Int)) (-997) σ0 σ3270 := R3253.tr ⟨(e3272.gw H3222.1 (by decide)), (e3272.cou (u := 0) H3222.1 t3234 (by decide) (by rw [e3272.cn (by decide)]; omega))⟩ (by omega) (by omega) (by omega) (by omega)
            have R3307 : RdC p0 none (-38) (-22 + 8 * (d : Int)) (-997) σ0 σ3277 := R3306.tr ⟨(e3279.gw H3271.1 (by decide)), (e3279.cou (u := 0) H3271.1 t3276 (by decide) (by rw [e3279.cn (by decide)]; omega))⟩ (by omega) (by omega) (by omega) (by omega)
            have R3308 : RdC p0 none (-38) (-22 + 8 * (d : Int)) (-997) σ0 σ3282 := R3307.tr ⟨(e3284.gw H3278.1 (by decide)), (e3284.cou (u := 0) H3278.1 t3281 (by decide) (by rw [e3284.cn (by decide)]; omega))⟩ (by omega) (by omega) (by omega) (by omega)
            have c3309 := (t3234.mi e3272 (by decide)).trans c3237
            have c3310 := (t3276.mi e3279 (by decide)).trans c3309
            have c3311 := (t3281.mi e3284 (by decide)).trans c3310
            have c3312 := (t3234.mi e3272 (by decide)).trans c3231
            have c3313 := (t3276.mi e3279 (by decide)).trans c3312
            have c3314 := (t3281.mi e3284 (by decide)).trans c3313
            have c3315 := (t3275.mi e3272 (by decide)).trans c3269
            have c3316 := (t3303.mi e3279 (by decide)).trans c3315
            have c3317 := (t3304.mi e3284 (by decide)).trans c3316
            have c3318 := (t3275.mi e3272 (by decide)).trans c3262
            have c3319 := (t3303.mi e3279 (by decide)).trans c3318
            have c3320 := (t3304.mi e3284 (by decide)).trans c3319
            exact ⟨_, rfl, H3283, X3302, t3305, (R3308.mo (by omega) (by omega) (by omega)), (by omega), (by rw [c3317] <;> omega), (by rw [c3320] <;> omega)⟩
          · refine k_nil ?_
            refine hB _ _ _ _ (kgoC (is := KX7_readFor_118) rfl ?_)
            refine k_aload_n rfl ?_
            refine k_aload_n rfl ?_
            refine k_iload_n rfl ?_
            refine k_inv (P := (P_X7_readForExps d)) (Q := (Q_X7_readForExps d)) rfl rfl rfl rfl (Nat.le_of_ble_eq_true rfl) (t3165.rc (by decide)) ⟨_, _, rfl, H3156, t3165, (by omega), (by omega), (rd_cd.st H0 h_0_0 X3176 R3173.1 (by decide)), (R3173.2.2.2.1 rd_at), (rd_bg.st H0 h_0_0 X3176 R3173 (by decide) (by omega) (by omega) (by omega)), (by omega)⟩ (fun w3321 σ3322 q3323 => ?_)
            obtain ⟨a3324, rfl, H3325, e3326, h3328, R3327, q3329, q3330, q3331⟩ := q3323
            have t3337 := t3165.x e3326
            obtain ⟨x3332, e3333, c3334, h3335, h3336⟩ := cg242 H3325.1 t3337
            obtain ⟨x3338, e3339, c3340, h3341, h3342⟩ := cg243 H3325.1 t3337
            have z3343 := congrArg Int32.toInt c3334
            have z3344 := congrArg Int32.toInt c3340
            refine k_st (st' := [.inr (.inr (some a3324)), .inr (.inr (some a20))]) rfl ?_
            have z3345 := R3173.1.1
            obtain ⟨x3346, e3347, c3348, h3349, h3350⟩ := cg272 H3325.1 h3328
            rw [c3348] at q3330
            obtain ⟨x3351, e3352, c3353, h3354, h3355⟩ := cg270 H3325.1 h3328
            rw [c3353] at q3331
            have R3356 : RdC p0 none (-28) (13 + 8 * (d : Int)) (-996) σ0 σ3322 := R3173.tr ⟨R3327.1, R3327.2⟩ (by omega) (by omega) (by omega) (by omega)
            have z3357 := R3356.2.2.1
            have z3358 := R3356.2.2.2.1 rd_at
            have c3359 := (t2712.mi e2709 (by decide)).trans c2702
            have c3360 := (t3136.mi e2727 (by decide)).trans c3359
            have c3361 := (t3137.mi e3115 (by decide)).trans c3360
            have c3362 := (t3138.mi e3141 (by decide)).trans c3361
            have t3363 := t3138.x e3141
            have c3364 := (t3363.mi e3157 (by decide)).trans c3362
            have t3365 := t3363.x e3157
            have c3366 := (t3365.fi e3326 (by decide) (by decide)).trans c3364
            have c3367 := (t2712.mi e2709 (by decide)).trans c2706
            have c3368 := (t3136.mi e2727 (by decide)).trans c3367
            have c3369 := (t3137.mi e3115 (by decide)).trans c3368
            have c3370 := (t3138.mi e3141 (by decide)).trans c3369
            have c3371 := (t3363.mi e3157 (by decide)).trans c3370
            have c3372 := (t3365.fi e3326 (by decide) (by decide)).trans c3371
            have z3377 := t3365.1
            have t3378 := t3365.x e3326
            refine k_p278 H3325 t3378 (h3328.ot) (fun z hz => by cases hz; exact ⟨by omega, by unfold LvC; rw [c3366, c3372, c3353, c3348]; omega⟩) (fun σ3373 H3374 e3375 c3376 => ?_)
            refine k_nil ?_
            refine hB _ _ _ _ (kgoC (is := KX7_readFor_127) rfl ?_)
            refine k_aload_n rfl ?_
            refine k_iconst (m := 1) rfl (fun x3379 h3380 => ?_)
            have t3381 := t3337.x e3375
            have R3382 : RdC p0 none (-28) (13 + 8 * (d : Int)) (-996) σ0 σ3373 := R3356.tr ⟨(e3375.gw H3325.1 (by decide)), (e3375.cou (u := 0) H3325.1 t3337 (by decide) (by rw [e3375.cn (by decide)]; omega))⟩ (by omega) (by omega) (by omega) (by omega)
            have c3383 := (t3337.mi e3375 (by decide)).trans c3340
            have X3384 : ExC [0, 1, 2, 60, 61, 62, 63, 64, 65, 66, 67, 68, 69, 70, 72, 73, 74, 75, 76, 242, 243, 244, 246, 270, 271, 272, 273, 275, 276, 277, 278, 279, 280, 330, 331, 332, 333, 334, 999] σ0 σ3322 := X3176.tr (e3326.mo (by decide))
            have X3385 : ExC [0, 1, 2, 60, 61, 62, 63, 64, 65, 66, 67, 68, 69, 70, 72, 73, 74, 75, 76, 242, 243, 244, 246, 270, 271, 272, 273, 275, 276, 277, 278, 279, 280, 330, 331, 332, 333, 334, 999] σ0 σ3373 := X3384.tr (e3375.mo (by decide))
            have c3386 := (t3337.mi e3375 (by decide)).trans c3334
            have z3387 := congrArg Int32.toInt c3386
            have z3388 := congrArg Int32.toInt c3383
            refine k_inv (P := P_X7_expect) (Q := Q_X7_expect) rfl rfl rfl rfl (Nat.le_of_ble_eq_true rfl) (t3381.rc (by decide)) ⟨_, _, rfl, H3374, t3381, (by omega), (by omega), (rd_cd.st H0 h_0_0 X3385 R3382.1 (by decide)), (R3382.2.2.2.1 rd_at), (rd_bg.st H0 h_0_0 X3385 R3382 (by decide) (by omega) (by omega) (by omega))⟩ (fun w3389 σ3390 q3391 => ?_)
            obtain ⟨rfl, H3392, e3393, R3394, q3395⟩ := q3391
            have t3401 := t3381.x e3393
            obtain ⟨x3396, e3397, c3398, h3399, h3400⟩ := cg242 H3392.1 t3401
            obtain ⟨x3402, e3403, c3404, h3405, h3406⟩ := cg243 H3392.1 t3401
            have z3407 := congrArg Int32.toInt c3398
            have z3408 := congrArg Int32.toInt c3404
            refine k_st (st' := []) rfl ?_
            have R3409 : RdC p0 none (-36) (13 + 8 * (d : Int)) (-996) σ0 σ3390 := R3382.tr ⟨R3394.1, R3394.2⟩ (by omega) (by omega) (by omega) (by omega)
            have z3410 := R3409.2.2.1
            have z3411 := R3409.2.2.2.1 rd_at
            refine k_aload_n rfl ?_
            refine k_aload_n rfl ?_
            refine k_aload_n rfl ?_
            refine k_iload_n rfl ?_
            have t3412 := t3378.x e3375
            have t3413 := t3412.x e3393
            have X3414 : ExC [0, 1, 2, 60, 61, 62, 63, 64, 65, 66, 67, 68, 69, 70, 72, 73, 74, 75, 76, 242, 243, 244, 246, 270, 271, 272, 273, 275, 276, 277, 278, 279, 280, 330, 331, 332, 333, 334, 999] σ0 σ3390 := X3385.tr (e3393.mo (by decide))
            refine k_inv (P := (P_X7_readInner d)) (Q := (Q_X7_readInner d)) rfl rfl rfl rfl (Nat.le_of_ble_eq_true rfl) (t3401.rc (by decide)) ⟨_, _, _, rfl, H3392, t3401, t3413, (by omega), (by omega), (rd_cd.st H0 h_0_0 X3414 R3409.1 (by decide)), (R3409.2.2.2.1 rd_at), (rd_bg.st H0 h_0_0 X3414 R3409 (by decide) (by omega) (by omega) (by omega)), (by omega)⟩ (fun w3415 σ3416 q3417 => ?_)
            obtain ⟨a3418, rfl, H3419, e3420, h3422, R3421, q3423, q3424, q3425⟩ := q3417
            have t3431 := t3401.x e3420
            obtain ⟨x3426, e3427, c3428, h3429, h3430⟩ := cg242 H3419.1 t3431
            obtain ⟨x3432, e3433, c3434, h3435, h3436⟩ := cg243 H3419.1 t3431
            have z3437 := congrArg Int32.toInt c3428
            have z3438 := congrArg Int32.toInt c3434
            refine k_st (st' := [.inr (.inr (some a3418)), .inr (.inr (some a20))]) rfl ?_
            have z3439 := R3409.1.1
            obtain ⟨x3440, e3441, c3442, h3443, h3444⟩ := cg272 H3419.1 h3422
            rw [c3442] at q3424
            obtain ⟨x3445, e3446, c3447, h3448, h3449⟩ := cg270 H3419.1 h3422
            rw [c3447] at q3425
            have R3450 : RdC p0 none (-36) (16 + 8 * (d : Int)) (-993) σ0 σ3416 := R3409.tr ⟨R3421.1, R3421.2⟩ (by omega) (by omega) (by omega) (by omega)
            have z3451 := R3450.2.2.1
            have z3452 := R3450.2.2.2.1 rd_at
            have c3453 := (t3378.mi e3375 (by decide)).trans c3366
            have c3454 := (t3412.mi e3393 (by decide)).trans c3453
            have c3455 := (t3413.fi e3420 (by decide) (by decide)).trans c3454
            have c3456 := (t3378.mi e3375 (by decide)).trans c3372
            have c3457 := (t3412.mi e3393 (by decide)).trans c3456
            have c3458 := (t3413.fi e3420 (by decide) (by decide)).trans c3457
            have z3463 := t3413.1
            have t3464 := t3413.x e3420
            refine k_p276 H3419 t3464 (h3422.ot) (fun z hz => by cases hz; exact ⟨by omega, by unfold LvC; rw [c3455, c3458, c3447, c3442]; omega⟩) (fun σ3459 H3460 e3461 c3462 => ?_)
            refine k_aload_n rfl ?_
            refine k_lload rfl ?_
            have t3465 := t3431.x e3461
            refine k_putL kg245 H3460 t3465 fk245 (fun σ3466 H3467 e3468 c3469 => ?_)
            refine k_aload_n rfl ?_
            refine k_aload_n rfl ?_
            have t3470 := t3465.x e3468
            have t3475 := t37.x e48
            have t3476 := t3475.x e74
            have t3477 := t3476.x e95
            have t3478 := t3477.x e2665
            have t3479 := t3478.x e2709
            have t3480 := t3479.x e2727
            have t3481 := t3480.x e3115
            have t3482 := t3481.x e3141
            have t3483 := t3482.x e3157
            have t3484 := t3483.x e3326
            have t3485 := t3484.x e3375
            have t3486 := t3485.x e3393
            have t3487 := t3486.x e3420
            have t3488 := t3487.x e3461
            have t3489 := t3488.x e3468
            refine k_putR kp246 H3467 t3470 fk246 (rfo246 (t3489)) (fun σ3471 H3472 e3473 c3474 => ?_)
            refine k_aload_n rfl ?_
            refine k_areturn ?_
            have X3490 : ExC [0, 1, 2, 60, 61, 62, 63, 64, 65, 66, 67, 68, 69, 70, 72, 73, 74, 75, 76, 242, 243, 244, 246, 270, 271, 272, 273, 275, 276, 277, 278, 279, 280, 330, 331, 332, 333, 334, 999] σ0 σ3416 := X3414.tr (e3420.mo (by decide))
            have X3491 : ExC [0, 1, 2, 60, 61, 62, 63, 64, 65, 66, 67, 68, 69, 70, 72, 73, 74, 75, 76, 242, 243, 244, 246, 270, 271, 272, 273, 275, 276, 277, 278, 279, 280, 330, 331, 332, 333, 334, 999] σ0 σ3459 := X3490.tr (e3461.mo (by decide))
            have X3492 : ExC [0, 1, 2, 60, 61, 62, 63, 64, 65, 66, 67, 68, 69, 70, 72, 73, 74, 75, 76, 242, 243, 244, 246, 270, 271, 272, 273, 275, 276, 277, 278, 279, 280, 330, 331, 332, 333, 334, 999] σ0 σ3466 := X3491.tr (e3468.mo (by decide))
            have X3493 : ExC [0, 1, 2, 60, 61, 62, 63, 64, 65, 66, 67, 68, 69, 70, 72, 73, 74, 75, 76, 242, 243, 244, 246, 270, 271, 272, 273, 275, 276, 277, 278, 279, 280, 330, 331, 332, 333, 334, 999] σ0 σ3471 := X3492.tr (e3473.mo (by decide))
            have t3494 := t3464.x e3461
            have t3495 := t3494.x e3468
            have t3496 := t3495.x e3473
            have R3497 : RdC p0 none (-36) (16 + 8 * (d : Int)) (-993) σ0 σ3459 := R3450.tr ⟨(e3461.gw H3419.1 (by decide)), (e3461.cou (u := 0) H3419.1 t3431 (by decide) (by rw [e3461.cn (by decide)]; omega))⟩ (by omega) (by omega) (by omega) (by omega)
            have R3498 : RdC p0 none (-36) (16 + 8 * (d : Int)) (-993) σ0 σ3466 := R3497.tr ⟨(e3468.gw H3460.1 (by decide)), (e3468.cou (u := 0) H3460.1 t3465 (by decide) (by rw [e3468.cn (by decide)]; omega))⟩ (by omega) (by omega) (by omega) (by omega)
            have R3499 : RdC p0 none (-36) (16 + 8 * (d : Int)) (-993) σ0 σ3471 := R3498.tr ⟨(e3473.gw H3467.1 (by decide)), (e3473.cou (u := 0) H3467.1 t3470 (by decide) (by rw [e3473.cn (by decide)]; omega))⟩ (by omega) (by omega) (by omega) (by omega)
            have c3500 := (t3431.mi e3461 (by decide)).trans c3434
            have c3501 := (t3465.mi e3468 (by decide)).trans c3500
            have c3502 := (t3470.mi e3473 (by decide)).trans c3501
            have c3503 := (t3431.mi e3461 (by decide)).trans c3428
            have c3504 := (t3465.mi e3468 (by decide)).trans c3503
            have c3505 := (t3470.mi e3473 (by decide)).trans c3504
            have c3506 := (t3464.mi e3461 (by decide)).trans c3458
            have c3507 := (t3494.mi e3468 (by decide)).trans c3506
            have c3508 := (t3495.mi e3473 (by decide)).trans c3507
            have c3509 := (t3464.mi e3461 (by decide)).trans c3455
            have c3510 := (t3494.mi e3468 (by decide)).trans c3509
            have c3511 := (t3495.mi e3473 (by decide)).trans c3510
            exact ⟨_, rfl, H3472, X3493, t3496, (R3499.mo (by omega) (by omega) (by omega)), (by omega), (by rw [c3508] <;> omega), (by rw [c3511] <;> omega)⟩

set_option maxRecDepth 100000 in
set_option maxHeartbeats 4000000 in
theorem s_X7_readSwitch (l : Launch) (d : Nat) (h_X7_readCondition : CMetC l (13 * (d + 1) + 37) 153 (P_X7_readCondition (d + 1)) (Q_X7_readCondition (d + 1))) (h_X7_readRow : CMetC l (13 * d + 42) 145 (P_X7_readRow d) (Q_X7_readRow d)) : CMetC l (13 * (d + 1) + 38) 159 (P_X7_readSwitch (d + 1)) (Q_X7_readSwitch (d + 1)) := by
  refine CMetC.of KX7_readSwitch [(142, P_X7_begin, Q_X7_begin), (128, P_X7_accept, Q_X7_accept), (153, (P_X7_readCondition (d + 1)), (Q_X7_readCondition (d + 1))), (129, P_X7_expect, Q_X7_expect), (145, (P_X7_readRow d), (Q_X7_readRow d))] hX7_readSwitch (by decide) (by omega) okX7_readSwitch (cc1C (m_X7_begin l) (by omega) (cc1C (m_X7_accept l) (by omega) (cc1C h_X7_readCondition (by omega) (cc1C (m_X7_expect l) (by omega) (cc1C h_X7_readRow (by omega) cc0C))))) ?_ ?_
  · rintro As σ ⟨p0, p1, rfl, -⟩
    exact Nat.le_of_ble_eq_true rfl
  · rintro As σ0 ⟨p0, p1, rfl, H0, h_0_0, h_1_0, h_1_1, rd_cd, rd_at, rd_bl, rd_lv, rd_tk, rd_dp⟩ hgr G hB hW
    change G 0 [(0, .inr (.inr (some p0))), (1, .inl p1)] [] σ0
    obtain ⟨x1, e2, c3, h4, h5⟩ := cg242 H0.1 h_0_0
    obtain ⟨x6, e7, c8, h9, h10⟩ := cg243 H0.1 h_0_0
    have z11 := congrArg Int32.toInt c3
    have z12 := congrArg Int32.toInt c8
    have h13 : x6.toInt = 0 := by rw [← c8]; exact rd_lv
    have rd_bg : BgC σ0 p0 (24 + 8 * (((d + 1) : Nat) : Int)) 1000000 := ⟨fun _ => rd_bl, fun z => absurd rd_lv z⟩
    refine hB _ _ _ _ (kgoC (is := KX7_readSwitch_0) rfl ?_)
    refine k_aload_n rfl ?_
    refine k_bipush (m := 61) rfl (fun x14 h15 => ?_)
    refine k_iload_n rfl ?_
    have R16 := (RdC.rf : RdC p0 none 0 0 0 σ0 σ0).nf (-1000) (-1000) (by rw [c8]; omega)
    refine k_inv (P := P_X7_begin) (Q := Q_X7_begin) rfl rfl rfl rfl (Nat.le_of_ble_eq_true rfl) (h_0_0.rc (by decide)) ⟨_, _, _, rfl, H0, h_0_0, (by omega), (by omega), (rd_cd.st H0 h_0_0 (ExC.rf : ExC [0, 1, 2, 60, 61, 62, 63, 64, 65, 66, 67, 68, 69, 70, 72, 73, 74, 75, 76, 242, 243, 244, 246, 270, 271, 272, 273, 275, 276, 277, 278, 279, 280, 330, 331, 332, 333, 334, 999] σ0 σ0) R16.1 (by decide)), (R16.2.2.2.1 rd_at), (rd_bg.stn H0 h_0_0 (ExC.rf : ExC [0, 1, 2, 60, 61, 62, 63, 64, 65, 66, 67, 68, 69, 70, 72, 73, 74, 75, 76, 242, 243, 244, 246, 270, 271, 272, 273, 275, 276, 277, 278, 279, 280, 330, 331, 332, 333, 334, 999] σ0 σ0) R16 (by decide) (by rw [c8]; omega) (by omega)), (by omega)⟩ (fun w17 σ18 q19 => ?_)
    obtain ⟨a20, rfl, H21, e22, h24, R23, q25, q26, q27⟩ := q19
    have c28 := (h_0_0.mi e22 (by decide)).trans c3
    have c29 := (h_0_0.mi e22 (by decide)).trans c8
    have z30 := congrArg Int32.toInt c28
    have z31 := congrArg Int32.toInt c29
    refine k_st (st' := [.inr (.inr (some a20))]) rfl ?_
    have z32 := R16.1.1
    refine k_astore_n (ls' := [(2, .inr (.inr (some a20))), (0, .inr (.inr (some p0))), (1, .inl p1)]) rfl ?_
    refine k_aload_n rfl ?_
    have t33 := h_0_0.x e22
    obtain ⟨o36, e34, c35, t37⟩ := cg246 H21.1 t33
    refine k_get kg246 t33 e34 ?_
    refine k_astore_n (ls' := [(3, .inr (.inr o36)), (2, .inr (.inr (some a20))), (0, .inr (.inr (some p0))), (1, .inl p1)]) rfl ?_
    refine k_aload_n rfl ?_
    obtain ⟨y40, e38, c39⟩ := cg245 (σ := σ18) (a := p0)
    refine k_get kg245 t33 e38 ?_
    refine k_lstore (ls' := [(4, .inr (.inl y40)), (3, .inr (.inr o36)), (2, .inr (.inr (some a20))), (0, .inr (.inr (some p0))), (1, .inl p1)]) rfl ?_
    refine k_aload_n rfl ?_
    have R41 : RdC p0 none (2) (2) (-998) σ0 σ18 := R16.tr ⟨R23.1, R23.2⟩ (by omega) (by omega) (by omega) (by omega)
    have R42 := R41.nf (-1000) (-1000) (by rw [c29]; omega)
    have X43 : ExC [0, 1, 2, 60, 61, 62, 63, 64, 65, 66, 67, 68, 69, 70, 72, 73, 74, 75, 76, 242, 243, 244, 246, 270, 271, 272, 273, 275, 276, 277, 278, 279, 280, 330, 331, 332, 333, 334, 999] σ0 σ18 := ExC.rf.tr (e22.mo (by decide))
    refine k_inv (P := P_X7_accept) (Q := Q_X7_accept) rfl rfl rfl rfl (Nat.le_of_ble_eq_true rfl) (t33.rc (by decide)) ⟨_, rfl, H21, t33, (rd_cd.st H0 h_0_0 X43 R42.1 (by decide)), (R42.2.2.2.1 rd_at), (rd_bg.stn H0 h_0_0 X43 R42 (by decide) (by rw [c29]; omega) (by omega)), (by have ct := R42.2.2.1; rw [c29, c28, ct]; omega)⟩ (fun w44 σ45 q46 => ?_)
    obtain ⟨rfl, H47, e48, R49, q50⟩ := q46
    have t56 := t33.x e48
    obtain ⟨x51, e52, c53, h54, h55⟩ := cg242 H47.1 t56
    obtain ⟨x57, e58, c59, h60, h61⟩ := cg243 H47.1 t56
    have z62 := congrArg Int32.toInt c53
    have z63 := congrArg Int32.toInt c59
    refine k_st (st' := []) rfl ?_
    have R64 : RdC p0 none (-6) (2) (-1000) σ0 σ45 := R42.tr ⟨R49.1, R49.2⟩ (by omega) (by omega) (by omega) (by omega)
    have z65 := R64.2.2.1
    have z66 := R64.2.2.2.1 rd_at
    refine k_aload_n rfl ?_
    refine k_aload_n rfl ?_
    refine k_iload_n rfl ?_
    have t67 := h24.x e48
    have X68 : ExC [0, 1, 2, 60, 61, 62, 63, 64, 65, 66, 67, 68, 69, 70, 72, 73, 74, 75, 76, 242, 243, 244, 246, 270, 271, 272, 273, 275, 276, 277, 278, 279, 280, 330, 331, 332, 333, 334, 999] σ0 σ45 := X43.tr (e48.mo (by decide))
    refine k_inv (P := (P_X7_readCondition (d + 1))) (Q := (Q_X7_readCondition (d + 1))) rfl rfl rfl rfl (Nat.le_of_ble_eq_true rfl) (t56.rc (by decide)) ⟨_, _, _, rfl, H47, t56, t67, (by omega), (by omega), (rd_cd.st H0 h_0_0 X68 R64.1 (by decide)), (R64.2.2.2.1 rd_at), (rd_bg.st H0 h_0_0 X68 R64 (by decide) (by omega) (by omega) (by omega)), (by omega)⟩ (fun w69 σ70 q71 => ?_)
    obtain ⟨rfl, H72, e73, R74⟩ := q71
    have t80 := t56.x e73
    obtain ⟨x75, e76, c77, h78, h79⟩ := cg242 H72.1 t80
    obtain ⟨x81, e82, c83, h84, h85⟩ := cg243 H72.1 t80
    have z86 := congrArg Int32.toInt c77
    have z87 := congrArg Int32.toInt c83
    refine k_st (st' := []) rfl ?_
    have R88 : RdC p0 none (-6) (22 + 8 * (d : Int)) (-999) σ0 σ70 := R64.tr ⟨R74.1, R74.2⟩ (by omega) (by omega) (by omega) (by omega)
    have z89 := R88.2.2.1
    have z90 := R88.2.2.2.1 rd_at
    refine k_aload_n rfl ?_
    refine k_aload_n rfl ?_
    have t95 := t67.x e73
    refine k_putR kp246 H72 t80 fk246 (rf246 t95) (fun σ91 H92 e93 c94 => ?_)
    refine k_aload_n rfl ?_
    refine k_iconst (m := 2) rfl (fun x96 h97 => ?_)
    have t98 := t80.x e93
    have R99 : RdC p0 none (-6) (22 + 8 * (d : Int)) (-999) σ0 σ91 := R88.tr ⟨(e93.gw H72.1 (by decide)), (e93.cou (u := 0) H72.1 t80 (by decide) (by rw [e93.cn (by decide)]; omega))⟩ (by omega) (by omega) (by omega) (by omega)
    have c100 := (t80.mi e93 (by decide)).trans c83
    have X101 : ExC [0, 1, 2, 60, 61, 62, 63, 64, 65, 66, 67, 68, 69, 70, 72, 73, 74, 75, 76, 242, 243, 244, 246, 270, 271, 272, 273, 275, 276, 277, 278, 279, 280, 330, 331, 332, 333, 334, 999] σ0 σ70 := X68.tr (e73.mo (by decide))
    have X102 : ExC [0, 1, 2, 60, 61, 62, 63, 64, 65, 66, 67, 68, 69, 70, 72, 73, 74, 75, 76, 242, 243, 244, 246, 270, 271, 272, 273, 275, 276, 277, 278, 279, 280, 330, 331, 332, 333, 334, 999] σ0 σ91 := X101.tr (e93.mo (by decide))
    have c103 := (t80.mi e93 (by decide)).trans c77
    have z104 := congrArg Int32.toInt c103
    have z105 := congrArg Int32.toInt c100
    refine k_inv (P := P_X7_expect) (Q := Q_X7_expect) rfl rfl rfl rfl (Nat.le_of_ble_eq_true rfl) (t98.rc (by decide)) ⟨_, _, rfl, H92, t98, (by omega), (by omega), (rd_cd.st H0 h_0_0 X102 R99.1 (by decide)), (R99.2.2.2.1 rd_at), (rd_bg.st H0 h_0_0 X102 R99 (by decide) (by omega) (by omega) (by omega))⟩ (fun w106 σ107 q108 => ?_)
    obtain ⟨rfl, H109, e110, R111, q112⟩ := q108
    have t118 := t98.x e110
    obtain ⟨x113, e114, c115, h116, h117⟩ := cg242 H109.1 t118
    obtain ⟨x119, e120, c121, h122, h123⟩ := cg243 H109.1 t118
    have z124 := congrArg Int32.toInt c115
    have z125 := congrArg Int32.toInt c121
    refine k_st (st' := []) rfl ?_
    have R126 : RdC p0 none (-14) (22 + 8 * (d : Int)) (-999) σ0 σ107 := R99.tr ⟨R111.1, R111.2⟩ (by omega) (by omega) (by omega) (by omega)
    have z127 := R126.2.2.1
    have z128 := R126.2.2.2.1 rd_at
    refine k_aload_n rfl ?_
    refine k_aload_n rfl ?_
    refine k_iload_n rfl ?_
    refine k_iconst (m := 1) rfl (fun x129 h130 => ?_)
    refine k_iadd (by omega) (by omega) (fun x131 h132 => ?_)
    refine k_iconst (m := 1) rfl (fun x133 h134 => ?_)
    have X135 : ExC [0, 1, 2, 60, 61, 62, 63, 64, 65, 66, 67, 68, 69, 70, 72, 73, 74, 75, 76, 242, 243, 244, 246, 270, 271, 272, 273, 275, 276, 277, 278, 279, 280, 330, 331, 332, 333, 334, 999] σ0 σ107 := X102.tr (e110.mo (by decide))
    refine k_inv (P := (P_X7_readRow d)) (Q := (Q_X7_readRow d)) rfl rfl rfl rfl (Nat.le_of_ble_eq_true rfl) (t118.rc (by decide)) ⟨_, _, _, rfl, H109, t118, (by omega), (by omega), (by omega), (by omega), (rd_cd.st H0 h_0_0 X135 R126.1 (by decide)), (R126.2.2.2.1 rd_at), (rd_bg.st H0 h_0_0 X135 R126 (by decide) (by omega) (by omega) (by omega)), (by omega)⟩ (fun w136 σ137 q138 => ?_)
    obtain ⟨o139, rfl, H140, e141, h143, R142, q144⟩ := q138
    have t150 := t118.x e141
    obtain ⟨x145, e146, c147, h148, h149⟩ := cg242 H140.1 t150
    obtain ⟨x151, e152, c153, h154, h155⟩ := cg243 H140.1 t150
    have z156 := congrArg Int32.toInt c147
    have z157 := congrArg Int32.toInt c153
    refine k_st (st' := [.inr (.inr o139), .inr (.inr (some a20))]) rfl ?_
    have R158 : RdC p0 none (-14) (22 + 8 * (d : Int)) (-999) σ0 σ137 := R126.tr ⟨R142.1, R142.2⟩ (by omega) (by omega) (by omega) (by omega)
    have z159 := R158.2.2.1
    have z160 := R158.2.2.2.1 rd_at
    have c161 := (h24.mi e48 (by decide)).trans q26
    have c162 := (t67.mi e73 (by decide)).trans c161
    have c163 := (t95.mi e93 (by decide)).trans c162
    have t164 := t95.x e93
    have c165 := (t164.mi e110 (by decide)).trans c163
    have t166 := t164.x e110
    have c167 := (t166.fi e141 (by decide) (by decide)).trans c165
    have c168 := (h24.mi e48 (by decide)).trans q27
    have c169 := (t67.mi e73 (by decide)).trans c168
    have c170 := (t95.mi e93 (by decide)).trans c169
    have c171 := (t164.mi e110 (by decide)).trans c170
    have c172 := (t166.fi e141 (by decide) (by decide)).trans c171
    have z177 := t166.1
    have t178 := t166.x e141
    refine k_p276 H140 t178 (h143) (fun z hz => by have hf := q144 z hz; exact ⟨by omega, by unfold LvC; rw [c167, c172]; omega⟩) (fun σ173 H174 e175 c176 => ?_)
    refine k_aload_n rfl ?_
    refine k_iconst (m := 3) rfl (fun x179 h180 => ?_)
    have t181 := t150.x e175
    have R182 : RdC p0 none (-14) (22 + 8 * (d : Int)) (-999) σ0 σ173 := R158.tr ⟨(e175.gw H140.1 (by decide)), (e175.cou (u := 0) H140.1 t150 (by decide) (by rw [e175.cn (by decide)]; omega))⟩ (by omega) (by omega) (by omega) (by omega)
    have c183 := (t150.mi e175 (by decide)).trans c153
    have X184 : ExC [0, 1, 2, 60, 61, 62, 63, 64, 65, 66, 67, 68, 69, 70, 72, 73, 74, 75, 76, 242, 243, 244, 246, 270, 271, 272, 273, 275, 276, 277, 278, 279, 280, 330, 331, 332, 333, 334, 999] σ0 σ137 := X135.tr (e141.mo (by decide))
    have X185 : ExC [0, 1, 2, 60, 61, 62, 63, 64, 65, 66, 67, 68, 69, 70, 72, 73, 74, 75, 76, 242, 243, 244, 246, 270, 271, 272, 273, 275, 276, 277, 278, 279, 280, 330, 331, 332, 333, 334, 999] σ0 σ173 := X184.tr (e175.mo (by decide))
    have c186 := (t150.mi e175 (by decide)).trans c147
    have z187 := congrArg Int32.toInt c186
    have z188 := congrArg Int32.toInt c183
    refine k_inv (P := P_X7_expect) (Q := Q_X7_expect) rfl rfl rfl rfl (Nat.le_of_ble_eq_true rfl) (t181.rc (by decide)) ⟨_, _, rfl, H174, t181, (by omega), (by omega), (rd_cd.st H0 h_0_0 X185 R182.1 (by decide)), (R182.2.2.2.1 rd_at), (rd_bg.st H0 h_0_0 X185 R182 (by decide) (by omega) (by omega) (by omega))⟩ (fun w189 σ190 q191 => ?_)
    obtain ⟨rfl, H192, e193, R194, q195⟩ := q191
    have t201 := t181.x e193
    obtain ⟨x196, e197, c198, h199, h200⟩ := cg242 H192.1 t201
    obtain ⟨x202, e203, c204, h205, h206⟩ := cg243 H192.1 t201
    have z207 := congrArg Int32.toInt c198
    have z208 := congrArg Int32.toInt c204
    refine k_st (st' := []) rfl ?_
    have R209 : RdC p0 none (-22) (22 + 8 * (d : Int)) (-999) σ0 σ190 := R182.tr ⟨R194.1, R194.2⟩ (by omega) (by omega) (by omega) (by omega)
    have z210 := R209.2.2.1
    have z211 := R209.2.2.2.1 rd_at
    refine k_aload_n rfl ?_
    refine k_lload rfl ?_
    refine k_putL kg245 H192 t201 fk245 (fun σ212 H213 e214 c215 => ?_)
    refine k_aload_n rfl ?_
    refine k_aload_n rfl ?_
    have t216 := t201.x e214
    have t221 := t37.x e48
    have t222 := t221.x e73
    have t223 := t222.x e93
    have t224 := t223.x e110
    have t225 := t224.x e141
    have t226 := t225.x e175
    have t227 := t226.x e193
    have t228 := t227.x e214
    refine k_putR kp246 H213 t216 fk246 (rfo246 (t228)) (fun σ217 H218 e219 c220 => ?_)
    refine k_aload_n rfl ?_
    refine k_areturn ?_
    have X229 : ExC [0, 1, 2, 60, 61, 62, 63, 64, 65, 66, 67, 68, 69, 70, 72, 73, 74, 75, 76, 242, 243, 244, 246, 270, 271, 272, 273, 275, 276, 277, 278, 279, 280, 330, 331, 332, 333, 334, 999] σ0 σ190 := X185.tr (e193.mo (by decide))
    have X230 : ExC [0, 1, 2, 60, 61, 62, 63, 64, 65, 66, 67, 68, 69, 70, 72, 73, 74, 75, 76, 242, 243, 244, 246, 270, 271, 272, 273, 275, 276, 277, 278, 279, 280, 330, 331, 332, 333, 334, 999] σ0 σ212 := X229.tr (e214.mo (by decide))
    have X231 : ExC [0, 1, 2, 60, 61, 62, 63, 64, 65, 66, 67, 68, 69, 70, 72, 73, 74, 75, 76, 242, 243, 244, 246, 270, 271, 272, 273, 275, 276, 277, 278, 279, 280, 330, 331, 332, 333, 334, 999] σ0 σ217 := X230.tr (e219.mo (by decide))
    have t232 := t178.x e175
    have t233 := t232.x e193
    have t234 := t233.x e214
    have t235 := t234.x e219
    have R236 : RdC p0 none (-22) (22 + 8 * (d : Int)) (-999) σ0 σ212 := R209.tr ⟨(e214.gw H192.1 (by decide)), (e214.cou (u := 0) H192.1 t201 (by decide) (by rw [e214.cn (by decide)]; omega))⟩ (by omega) (by omega) (by omega) (by omega)
    have R237 : RdC p0 none (-22) (22 + 8 * (d : Int)) (-999) σ0 σ217 := R236.tr ⟨(e219.gw H213.1 (by decide)), (e219.cou (u := 0) H213.1 t216 (by decide) (by rw [e219.cn (by decide)]; omega))⟩ (by omega) (by omega) (by omega) (by omega)
    have c238 := (t201.mi e214 (by decide)).trans c204
    have c239 := (t216.mi e219 (by decide)).trans c238
    have c240 := (t201.mi e214 (by decide)).trans c198
    have c241 := (t216.mi e219 (by decide)).trans c240
    have c242 := (t178.mi e175 (by decide)).trans c172
    have c243 := (t232.mi e193 (by decide)).trans c242
    have c244 := (t233.mi e214 (by decide)).trans c243
    have c245 := (t234.mi e219 (by decide)).trans c244
    have c246 := (t178.mi e175 (by decide)).trans c167
    have c247 := (t232.mi e193 (by decide)).trans c246
    have c248 := (t233.mi e214 (by decide)).trans c247
    have c249 := (t234.mi e219 (by decide)).trans c248
    exact ⟨_, rfl, H218, X231, t235, (R237.mo (by omega) (by omega) (by omega)), (by omega), (by rw [c245] <;> omega), (by rw [c249] <;> omega)⟩

set_option maxRecDepth 100000 in
set_option maxHeartbeats 4000000 in
theorem s_X7_readSimple (l : Launch) (d : Nat) (h_X7_readExp : CMetC l (13 * d + 36) 164 (P_X7_readExp d) (Q_X7_readExp d)) (h_X7_readBlock : CMetC l (13 * d + 37) 144 (P_X7_readBlock d) (Q_X7_readBlock d)) : CMetC l (13 * d + 38) 150 (P_X7_readSimple d) (Q_X7_readSimple d) := by
  refine CMetC.of KX7_readSimple [(125, P_X7_code, Q_X7_code), (142, P_X7_begin, Q_X7_begin), (128, P_X7_accept, Q_X7_accept), (164, (P_X7_readExp d), (Q_X7_readExp d)), (129, P_X7_expect, Q_X7_expect), (234, P_Jx4a65c_size_8abf5, Q_Jx4a65c_size_8abf5), (144, (P_X7_readBlock d), (Q_X7_readBlock d))] hX7_readSimple (by decide) (by omega) okX7_readSimple (cc1C (m_X7_code l) (by omega) (cc1C (m_X7_begin l) (by omega) (cc1C (m_X7_accept l) (by omega) (cc1C h_X7_readExp (by omega) (cc1C (m_X7_expect l) (by omega) (cc1C (m_Jx4a65c_size_8abf5 l) (by omega) (cc1C h_X7_readBlock (by omega) cc0C))))))) ?_ ?_
  · rintro As σ ⟨p0, p1, rfl, -⟩
    exact Nat.le_of_ble_eq_true rfl
  · rintro As σ0 ⟨p0, p1, rfl, H0, h_0_0, h_1_0, h_1_1, rd_cd, rd_at, rd_bl, rd_lv, rd_tk, rd_dp, q_0⟩ hgr G hB hW
    change G 0 [(0, .inr (.inr (some p0))), (1, .inl p1)] [] σ0
    obtain ⟨x1, e2, c3, h4, h5⟩ := cg242 H0.1 h_0_0
    obtain ⟨x6, e7, c8, h9, h10⟩ := cg243 H0.1 h_0_0
    have z11 := congrArg Int32.toInt c3
    have z12 := congrArg Int32.toInt c8
    have h13 : x6.toInt = 0 := by rw [← c8]; exact rd_lv
    have rd_bg : BgC σ0 p0 (24 + 8 * (d : Int)) 1000000 := ⟨fun _ => rd_bl, fun z => absurd rd_lv z⟩
    refine hB _ _ _ _ (kgoC (is := KX7_readSimple_0) rfl ?_)
    refine k_aload_n rfl ?_
    refine k_aload_n rfl ?_
    have R14 := (RdC.rf : RdC p0 none 0 0 0 σ0 σ0).nf (-1000) (-1000) (by rw [c8]; omega)
    refine k_inv (P := P_X7_code) (Q := Q_X7_code) rfl rfl rfl rfl (Nat.le_of_ble_eq_true rfl) (h_0_0.rc (by decide)) ⟨_, rfl, H0, h_0_0, (rd_cd.st H0 h_0_0 (ExC.rf : ExC [0, 1, 2, 60, 61, 62, 63, 64, 65, 66, 67, 68, 69, 70, 72, 73, 74, 75, 76, 242, 243, 244, 246, 270, 271, 272, 273, 275, 276, 277, 278, 279, 280, 330, 331, 332, 333, 334, 999] σ0 σ0) R14.1 (by decide))⟩ (fun w15 σ16 q17 => ?_)
    obtain ⟨x18, rfl, rfl, q19, q20, q21⟩ := q17
    refine k_st (st' := [.inl x18, .inr (.inr (some p0))]) rfl ?_
    have z22 := R14.2.2.1
    have z23 := R14.2.2.2.1 rd_at
    refine k_iload_n rfl ?_
    refine k_inv (P := P_X7_begin) (Q := Q_X7_begin) rfl rfl rfl rfl (Nat.le_of_ble_eq_true rfl) (h_0_0.rc (by decide)) ⟨_, _, _, rfl, H0, h_0_0, (by omega), (by omega), (rd_cd.st H0 h_0_0 (ExC.rf : ExC [0, 1, 2, 60, 61, 62, 63, 64, 65, 66, 67, 68, 69, 70, 72, 73, 74, 75, 76, 242, 243, 244, 246, 270, 271, 272, 273, 275, 276, 277, 278, 279, 280, 330, 331, 332, 333, 334, 999] σ0 σ0) R14.1 (by decide)), (R14.2.2.2.1 rd_at), (rd_bg.stn H0 h_0_0 (ExC.rf : ExC [0, 1, 2, 60, 61, 62, 63, 64, 65, 66, 67, 68, 69, 70, 72, 73, 74, 75, 76, 242, 243, 244, 246, 270, 271, 272, 273, 275, 276, 277, 278, 279, 280, 330, 331, 332, 333, 334, 999] σ0 σ0) R14 (by decide) (by rw [c8]; omega) (by omega)), (by omega)⟩ (fun w24 σ25 q26 => ?_)
    obtain ⟨a27, rfl, H28, e29, h31, R30, q32, q33, q34⟩ := q26
    have c35 := (h_0_0.mi e29 (by decide)).trans c3
    have c36 := (h_0_0.mi e29 (by decide)).trans c8
    have z37 := congrArg Int32.toInt c35
    have z38 := congrArg Int32.toInt c36
    refine k_st (st' := [.inr (.inr (some a27))]) rfl ?_
    have z39 := R14.1.1
    refine k_astore_n (ls' := [(2, .inr (.inr (some a27))), (0, .inr (.inr (some p0))), (1, .inl p1)]) rfl ?_
    refine k_aload_n rfl ?_
    refine k_get kg270 h31 (congrArg (Sum.inl : Int32 → AvC) q33) ?_
    refine k_iconst (m := 2) rfl (fun x40 h41 => ?_)
    refine k_ic_ne (fun h42 => ?_) (fun h42 => ?_)
    · refine hB _ _ _ _ (kgoC (is := KX7_readSimple_26) rfl ?_)
      refine k_aload_n rfl ?_
      have t43 := h_0_0.x e29
      have R44 : RdC p0 none (2) (2) (-998) σ0 σ25 := R14.tr ⟨R30.1, R30.2⟩ (by omega) (by omega) (by omega) (by omega)
      have R45 := R44.nf (-1000) (-1000) (by rw [c36]; omega)
      have X46 : ExC [0, 1, 2, 60, 61, 62, 63, 64, 65, 66, 67, 68, 69, 70, 72, 73, 74, 75, 76, 242, 243, 244, 246, 270, 271, 272, 273, 275, 276, 277, 278, 279, 280, 330, 331, 332, 333, 334, 999] σ0 σ25 := ExC.rf.tr (e29.mo (by decide))
      refine k_inv (P := P_X7_accept) (Q := Q_X7_accept) rfl rfl rfl rfl (Nat.le_of_ble_eq_true rfl) (t43.rc (by decide)) ⟨_, rfl, H28, t43, (rd_cd.st H0 h_0_0 X46 R45.1 (by decide)), (R45.2.2.2.1 rd_at), (rd_bg.stn H0 h_0_0 X46 R45 (by decide) (by rw [c36]; omega) (by omega)), (by have ct := R45.2.2.1; rw [c36, c35, ct]; omega)⟩ (fun w47 σ48 q49 => ?_)
      obtain ⟨rfl, H50, e51, R52, q53⟩ := q49
      have t59 := t43.x e51
      obtain ⟨x54, e55, c56, h57, h58⟩ := cg242 H50.1 t59
      obtain ⟨x60, e61, c62, h63, h64⟩ := cg243 H50.1 t59
      have z65 := congrArg Int32.toInt c56
      have z66 := congrArg Int32.toInt c62
      refine k_st (st' := []) rfl ?_
      have R67 : RdC p0 none (-6) (2) (-1000) σ0 σ48 := R45.tr ⟨R52.1, R52.2⟩ (by omega) (by omega) (by omega) (by omega)
      have z68 := R67.2.2.1
      have z69 := R67.2.2.2.1 rd_at
      refine k_aload_n rfl ?_
      have t70 := h31.x e51
      have c71 := (h31.mi e51 (by decide)).trans q33
      refine k_get kg270 t70 (congrArg (Sum.inl : Int32 → AvC) c71) ?_
      refine k_iconst (m := 4) rfl (fun x72 h73 => ?_)
      refine k_ic_ne (fun h74 => ?_) (fun h74 => ?_)
      · refine hB _ _ _ _ (kgoC (is := KX7_readSimple_40) rfl ?_)
        refine k_aload_n rfl ?_
        refine k_get kg270 t70 (congrArg (Sum.inl : Int32 → AvC) c71) ?_
        refine k_bipush (m := 67) rfl (fun x75 h76 => ?_)
        refine k_ic_eq (fun h77 => ?_) (fun h77 => ?_)
        · refine hB _ _ _ _ (kgoC (is := KX7_readSimple_66) rfl ?_)
          refine k_aload_n rfl ?_
          refine k_aload_n rfl ?_
          refine k_iload_n rfl ?_
          have X78 : ExC [0, 1, 2, 60, 61, 62, 63, 64, 65, 66, 67, 68, 69, 70, 72, 73, 74, 75, 76, 242, 243, 244, 246, 270, 271, 272, 273, 275, 276, 277, 278, 279, 280, 330, 331, 332, 333, 334, 999] σ0 σ48 := X46.tr (e51.mo (by decide))
          refine k_inv (P := (P_X7_readExp d)) (Q := (Q_X7_readExp d)) rfl rfl rfl rfl (Nat.le_of_ble_eq_true rfl) (t59.rc (by decide)) ⟨_, _, rfl, H50, t59, (by omega), (by omega), (rd_cd.st H0 h_0_0 X78 R67.1 (by decide)), (R67.2.2.2.1 rd_at), (rd_bg.st H0 h_0_0 X78 R67 (by decide) (by omega) (by omega) (by omega)), (by omega)⟩ (fun w79 σ80 q81 => ?_)
          obtain ⟨a82, rfl, H83, e84, h86, R85, q87⟩ := q81
          have t93 := t59.x e84
          obtain ⟨x88, e89, c90, h91, h92⟩ := cg242 H83.1 t93
          obtain ⟨x94, e95, c96, h97, h98⟩ := cg243 H83.1 t93
          have z99 := congrArg Int32.toInt c90
          have z100 := congrArg Int32.toInt c96
          refine k_st (st' := [.inr (.inr (some a82)), .inr (.inr (some a27))]) rfl ?_
          have z101 := R67.1.1
          have R102 : RdC p0 none (-6) (14 + 8 * (d : Int)) (-999) σ0 σ80 := R67.tr ⟨R85.1, R85.2⟩ (by omega) (by omega) (by omega) (by omega)
          have z103 := R102.2.2.1
          have z104 := R102.2.2.2.1 rd_at
          have t105 := t70.x e84
          refine k_putR kp279 H83 t105 fk279 (rf279 h86) (fun σ106 H107 e108 c109 => ?_)
          refine k_nil ?_
          refine hB _ _ _ _ (kgoC (is := KX7_readSimple_75) rfl ?_)
          refine k_aload_n rfl ?_
          have t110 := t105.x e108
          have c111 := (t70.mi e84 (by decide)).trans c71
          have c112 := (t105.mi e108 (by decide)).trans c111
          refine k_get kg270 t110 (congrArg (Sum.inl : Int32 → AvC) c112) ?_
          refine k_bipush (m := 66) rfl (fun x113 h114 => ?_)
          refine k_ic_ne (fun h115 => ?_) (fun h115 => by exfalso; omega)
          refine hB _ _ _ _ (kgoC (is := KX7_readSimple_103) rfl ?_)
          refine k_aload_n rfl ?_
          refine k_get kg270 t110 (congrArg (Sum.inl : Int32 → AvC) c112) ?_
          refine k_bipush (m := 67) rfl (fun x116 h117 => ?_)
          refine k_ic_eq (fun h118 => ?_) (fun h118 => by exfalso; omega)
          refine hB _ _ _ _ (kgoC (is := KX7_readSimple_148) rfl ?_)
          refine k_aload_n rfl ?_
          refine k_iconst (m := 4) rfl (fun x119 h120 => ?_)
          have t121 := t93.x e108
          have R122 : RdC p0 none (-6) (14 + 8 * (d : Int)) (-999) σ0 σ106 := R102.tr ⟨(e108.gw H83.1 (by decide)), (e108.cou (u := 0) H83.1 t93 (by decide) (by rw [e108.cn (by decide)]; omega))⟩ (by omega) (by omega) (by omega) (by omega)
          have c123 := (t93.mi e108 (by decide)).trans c96
          have X124 : ExC [0, 1, 2, 60, 61, 62, 63, 64, 65, 66, 67, 68, 69, 70, 72, 73, 74, 75, 76, 242, 243, 244, 246, 270, 271, 272, 273, 275, 276, 277, 278, 279, 280, 330, 331, 332, 333, 334, 999] σ0 σ80 := X78.tr (e84.mo (by decide))
          have X125 : ExC [0, 1, 2, 60, 61, 62, 63, 64, 65, 66, 67, 68, 69, 70, 72, 73, 74, 75, 76, 242, 243, 244, 246, 270, 271, 272, 273, 275, 276, 277, 278, 279, 280, 330, 331, 332, 333, 334, 999] σ0 σ106 := X124.tr (e108.mo (by decide))
          have c126 := (t93.mi e108 (by decide)).trans c90
          have z127 := congrArg Int32.toInt c126
          have z128 := congrArg Int32.toInt c123
          refine k_inv (P := P_X7_expect) (Q := Q_X7_expect) rfl rfl rfl rfl (Nat.le_of_ble_eq_true rfl) (t121.rc (by decide)) ⟨_, _, rfl, H107, t121, (by omega), (by omega), (rd_cd.st H0 h_0_0 X125 R122.1 (by decide)), (R122.2.2.2.1 rd_at), (rd_bg.st H0 h_0_0 X125 R122 (by decide) (by omega) (by omega) (by omega))⟩ (fun w129 σ130 q131 => ?_)
          obtain ⟨rfl, H132, e133, R134, q135⟩ := q131
          have t141 := t121.x e133
          obtain ⟨x136, e137, c138, h139, h140⟩ := cg242 H132.1 t141
          obtain ⟨x142, e143, c144, h145, h146⟩ := cg243 H132.1 t141
          have z147 := congrArg Int32.toInt c138
          have z148 := congrArg Int32.toInt c144
          refine k_st (st' := []) rfl ?_
          have R149 : RdC p0 none (-14) (14 + 8 * (d : Int)) (-999) σ0 σ130 := R122.tr ⟨R134.1, R134.2⟩ (by omega) (by omega) (by omega) (by omega)
          have z150 := R149.2.2.1
          have z151 := R149.2.2.2.1 rd_at
          refine k_aload_n rfl ?_
          refine k_areturn ?_
          have X152 : ExC [0, 1, 2, 60, 61, 62, 63, 64, 65, 66, 67, 68, 69, 70, 72, 73, 74, 75, 76, 242, 243, 244, 246, 270, 271, 272, 273, 275, 276, 277, 278, 279, 280, 330, 331, 332, 333, 334, 999] σ0 σ130 := X125.tr (e133.mo (by decide))
          have t153 := t110.x e133
          have c154 := (h31.mi e51 (by decide)).trans q34
          have c155 := (t70.mi e84 (by decide)).trans c154
          have c156 := (t105.mi e108 (by decide)).trans c155
          have c157 := (t110.mi e133 (by decide)).trans c156
          have c158 := (t110.mi e133 (by decide)).trans c112
          exact ⟨_, rfl, H132, X152, t153, (R149.mo (by omega) (by omega) (by omega)), (by omega), (by rw [c157] <;> omega), (by rw [c158] <;> omega)⟩
        · refine k_nil ?_
          refine hB _ _ _ _ (kgoC (is := KX7_readSimple_49) rfl ?_)
          refine k_aload_n rfl ?_
          refine k_get kg270 t70 (congrArg (Sum.inl : Int32 → AvC) c71) ?_
          refine k_bipush (m := 66) rfl (fun x159 h160 => ?_)
          refine k_ic_ne (fun h161 => ?_) (fun h161 => ?_)
          · refine hB _ _ _ _ (kgoC (is := KX7_readSimple_75) rfl ?_)
            refine k_aload_n rfl ?_
            refine k_get kg270 t70 (congrArg (Sum.inl : Int32 → AvC) c71) ?_
            refine k_bipush (m := 66) rfl (fun x162 h163 => ?_)
            refine k_ic_ne (fun h164 => ?_) (fun h164 => ?_)
            · refine hB _ _ _ _ (kgoC (is := KX7_readSimple_103) rfl ?_)
              refine k_aload_n rfl ?_
              refine k_get kg270 t70 (congrArg (Sum.inl : Int32 → AvC) c71) ?_
              refine k_bipush (m := 67) rfl (fun x165 h166 => ?_)
              refine k_ic_eq (fun h167 => ?_) (fun h167 => ?_)
              · refine hB _ _ _ _ (kgoC (is := KX7_readSimple_148) rfl ?_)
                refine k_aload_n rfl ?_
                refine k_iconst (m := 4) rfl (fun x168 h169 => ?_)
                have X170 : ExC [0, 1, 2, 60, 61, 62, 63, 64, 65, 66, 67, 68, 69, 70, 72, 73, 74, 75, 76, 242, 243, 244, 246, 270, 271, 272, 273, 275, 276, 277, 278, 279, 280, 330, 331, 332, 333, 334, 999] σ0 σ48 := X46.tr (e51.mo (by decide))
                refine k_inv (P := P_X7_expect) (Q := Q_X7_expect) rfl rfl rfl rfl (Nat.le_of_ble_eq_true rfl) (t59.rc (by decide)) ⟨_, _, rfl, H50, t59, (by omega), (by omega), (rd_cd.st H0 h_0_0 X170 R67.1 (by decide)), (R67.2.2.2.1 rd_at), (rd_bg.st H0 h_0_0 X170 R67 (by decide) (by omega) (by omega) (by omega))⟩ (fun w171 σ172 q173 => ?_)
                obtain ⟨rfl, H174, e175, R176, q177⟩ := q173
                have t183 := t59.x e175
                obtain ⟨x178, e179, c180, h181, h182⟩ := cg242 H174.1 t183
                obtain ⟨x184, e185, c186, h187, h188⟩ := cg243 H174.1 t183
                have z189 := congrArg Int32.toInt c180
                have z190 := congrArg Int32.toInt c186
                refine k_st (st' := []) rfl ?_
                have R191 : RdC p0 none (-14) (2) (-1000) σ0 σ172 := R67.tr ⟨R176.1, R176.2⟩ (by omega) (by omega) (by omega) (by omega)
                have z192 := R191.2.2.1
                have z193 := R191.2.2.2.1 rd_at
                refine k_aload_n rfl ?_
                refine k_areturn ?_
                have X194 : ExC [0, 1, 2, 60, 61, 62, 63, 64, 65, 66, 67, 68, 69, 70, 72, 73, 74, 75, 76, 242, 243, 244, 246, 270, 271, 272, 273, 275, 276, 277, 278, 279, 280, 330, 331, 332, 333, 334, 999] σ0 σ172 := X170.tr (e175.mo (by decide))
                have t195 := t70.x e175
                have c196 := (h31.mi e51 (by decide)).trans q34
                have c197 := (t70.mi e175 (by decide)).trans c196
                have c198 := (t70.mi e175 (by decide)).trans c71
                exact ⟨_, rfl, H174, X194, t195, (R191.mo (by omega) (by omega) (by omega)), (by omega), (by rw [c197] <;> omega), (by rw [c198] <;> omega)⟩
              · refine k_nil ?_
                refine hB _ _ _ _ (kgoC (is := KX7_readSimple_112) rfl ?_)
                refine k_aload_n rfl ?_
                have X199 : ExC [0, 1, 2, 60, 61, 62, 63, 64, 65, 66, 67, 68, 69, 70, 72, 73, 74, 75, 76, 242, 243, 244, 246, 270, 271, 272, 273, 275, 276, 277, 278, 279, 280, 330, 331, 332, 333, 334, 999] σ0 σ48 := X46.tr (e51.mo (by decide))
                refine k_inv (P := P_X7_code) (Q := Q_X7_code) rfl rfl rfl rfl (Nat.le_of_ble_eq_true rfl) (t59.rc (by decide)) ⟨_, rfl, H50, t59, (rd_cd.st H0 h_0_0 X199 R67.1 (by decide))⟩ (fun w200 σ201 q202 => ?_)
                obtain ⟨x203, rfl, rfl, q204, q205, q206⟩ := q202
                refine k_st (st' := [.inl x203]) rfl ?_
                refine k_bipush (m := 80) rfl (fun x207 h208 => ?_)
                refine k_ic_ne (fun h209 => ?_) (fun h209 => ?_)
                · refine hB _ _ _ _ (kgoC (is := KX7_readSimple_148) rfl ?_)
                  refine k_aload_n rfl ?_
                  refine k_iconst (m := 4) rfl (fun x210 h211 => ?_)
                  refine k_inv (P := P_X7_expect) (Q := Q_X7_expect) rfl rfl rfl rfl (Nat.le_of_ble_eq_true rfl) (t59.rc (by decide)) ⟨_, _, rfl, H50, t59, (by omega), (by omega), (rd_cd.st H0 h_0_0 X199 R67.1 (by decide)), (R67.2.2.2.1 rd_at), (rd_bg.st H0 h_0_0 X199 R67 (by decide) (by omega) (by omega) (by omega))⟩ (fun w212 σ213 q214 => ?_)
                  obtain ⟨rfl, H215, e216, R217, q218⟩ := q214
                  have t224 := t59.x e216
                  obtain ⟨x219, e220, c221, h222, h223⟩ := cg242 H215.1 t224
                  obtain ⟨x225, e226, c227, h228, h229⟩ := cg243 H215.1 t224
                  have z230 := congrArg Int32.toInt c221
                  have z231 := congrArg Int32.toInt c227
                  refine k_st (st' := []) rfl ?_
                  have R232 : RdC p0 none (-14) (2) (-1000) σ0 σ213 := R67.tr ⟨R217.1, R217.2⟩ (by omega) (by omega) (by omega) (by omega)
                  have z233 := R232.2.2.1
                  have z234 := R232.2.2.2.1 rd_at
                  refine k_aload_n rfl ?_
                  refine k_areturn ?_
                  have X235 : ExC [0, 1, 2, 60, 61, 62, 63, 64, 65, 66, 67, 68, 69, 70, 72, 73, 74, 75, 76, 242, 243, 244, 246, 270, 271, 272, 273, 275, 276, 277, 278, 279, 280, 330, 331, 332, 333, 334, 999] σ0 σ213 := X199.tr (e216.mo (by decide))
                  have t236 := t70.x e216
                  have c237 := (h31.mi e51 (by decide)).trans q34
                  have c238 := (t70.mi e216 (by decide)).trans c237
                  have c239 := (t70.mi e216 (by decide)).trans c71
                  exact ⟨_, rfl, H215, X235, t236, (R232.mo (by omega) (by omega) (by omega)), (by omega), (by rw [c238] <;> omega), (by rw [c239] <;> omega)⟩
                · have h240 : x60.toInt = 0 := by omega
                  refine k_nil ?_
                  refine hB _ _ _ _ (kgoC (is := KX7_readSimple_121) rfl ?_)
                  refine k_aload_n rfl ?_
                  refine k_aload_n rfl ?_
                  refine k_get kg242 t59 (congrArg (Sum.inl : Int32 → AvC) c56) ?_
                  refine k_p280 H50 t70 (by omega) (by omega) (by rw [c71]; omega) (fun σ241 H242 e243 c244 => ?_)
                  refine k_aload_n rfl ?_
                  have t245 := t59.x e243
                  obtain ⟨a248, e246, c247, t249⟩ := cg241 H242.1 t245
                  refine k_get kg241 t245 e246 ?_
                  obtain ⟨a252, e250, c251, t253, l254, l255⟩ := cg303 H242.1 t249
                  refine k_get kg303 t249 e250 ?_
                  refine k_aload_n rfl ?_
                  have c256 := (t59.mi e243 (by decide)).trans c56
                  refine k_get kg242 t245 (congrArg (Sum.inl : Int32 → AvC) c256) ?_
                  refine k_sipush (m := 200) rfl (fun x257 h258 => ?_)
                  refine k_iastore H242 t253 l255 (by omega) (by omega) (fun σ259 H260 e261 => ?_)
                  refine k_aload_n rfl ?_
                  have t262 := t245.x e261
                  have R263 : RdC p0 none (-6) (2) (-1000) σ0 σ241 := R67.tr ⟨(e243.gw H50.1 (by decide)), (e243.cou (u := 0) H50.1 t59 (by decide) (by rw [e243.cn (by decide)]; omega))⟩ (by omega) (by omega) (by omega) (by omega)
                  have R264 : RdC p0 none (-6) (2) (-1000) σ0 σ259 := R263.tr ⟨(e261.gw H242.1 (by decide)), (e261.cou (u := 0) H242.1 t245 (by decide) (by rw [e261.cn (by decide)]; omega))⟩ (by omega) (by omega) (by omega) (by omega)
                  have c265 := (t59.mi e243 (by decide)).trans c62
                  have c266 := (t245.mi e261 (by decide)).trans c265
                  have R267 := R264.nf (-1000) (-1000) (by rw [c266]; omega)
                  have X268 : ExC [0, 1, 2, 60, 61, 62, 63, 64, 65, 66, 67, 68, 69, 70, 72, 73, 74, 75, 76, 242, 243, 244, 246, 270, 271, 272, 273, 275, 276, 277, 278, 279, 280, 330, 331, 332, 333, 334, 999] σ0 σ241 := X199.tr (e243.mo (by decide))
                  have X269 : ExC [0, 1, 2, 60, 61, 62, 63, 64, 65, 66, 67, 68, 69, 70, 72, 73, 74, 75, 76, 242, 243, 244, 246, 270, 271, 272, 273, 275, 276, 277, 278, 279, 280, 330, 331, 332, 333, 334, 999] σ0 σ259 := X268.tr (e261.mo (by decide))
                  have c270 := (t245.mi e261 (by decide)).trans c256
                  have z271 := congrArg Int32.toInt c270
                  have z272 := congrArg Int32.toInt c266
                  refine k_inv (P := P_X7_accept) (Q := Q_X7_accept) rfl rfl rfl rfl (Nat.le_of_ble_eq_true rfl) (t262.rc (by decide)) ⟨_, rfl, H260, t262, (rd_cd.st H0 h_0_0 X269 R267.1 (by decide)), (R267.2.2.2.1 rd_at), (rd_bg.stn H0 h_0_0 X269 R267 (by decide) (by rw [c266]; omega) (by omega)), (by have ct := R267.2.2.1; rw [c266, c270, ct]; omega)⟩ (fun w273 σ274 q275 => ?_)
                  obtain ⟨rfl, H276, e277, R278, q279⟩ := q275
                  have t285 := t262.x e277
                  obtain ⟨x280, e281, c282, h283, h284⟩ := cg242 H276.1 t285
                  obtain ⟨x286, e287, c288, h289, h290⟩ := cg243 H276.1 t285
                  have z291 := congrArg Int32.toInt c282
                  have z292 := congrArg Int32.toInt c288
                  refine k_st (st' := []) rfl ?_
                  have R293 : RdC p0 none (-14) (-6) (-1000) σ0 σ274 := R267.tr ⟨R278.1, R278.2⟩ (by omega) (by omega) (by omega) (by omega)
                  have z294 := R293.2.2.1
                  have z295 := R293.2.2.2.1 rd_at
                  refine k_nil ?_
                  refine hB _ _ _ _ (kgoC (is := KX7_readSimple_148) rfl ?_)
                  refine k_aload_n rfl ?_
                  refine k_iconst (m := 4) rfl (fun x296 h297 => ?_)
                  have X298 : ExC [0, 1, 2, 60, 61, 62, 63, 64, 65, 66, 67, 68, 69, 70, 72, 73, 74, 75, 76, 242, 243, 244, 246, 270, 271, 272, 273, 275, 276, 277, 278, 279, 280, 330, 331, 332, 333, 334, 999] σ0 σ274 := X269.tr (e277.mo (by decide))
                  refine k_inv (P := P_X7_expect) (Q := Q_X7_expect) rfl rfl rfl rfl (Nat.le_of_ble_eq_true rfl) (t285.rc (by decide)) ⟨_, _, rfl, H276, t285, (by omega), (by omega), (rd_cd.st H0 h_0_0 X298 R293.1 (by decide)), (R293.2.2.2.1 rd_at), (rd_bg.st H0 h_0_0 X298 R293 (by decide) (by omega) (by omega) (by omega))⟩ (fun w299 σ300 q301 => ?_)
                  obtain ⟨rfl, H302, e303, R304, q305⟩ := q301
                  have t311 := t285.x e303
                  obtain ⟨x306, e307, c308, h309, h310⟩ := cg242 H302.1 t311
                  obtain ⟨x312, e313, c314, h315, h316⟩ := cg243 H302.1 t311
                  have z317 := congrArg Int32.toInt c308
                  have z318 := congrArg Int32.toInt c314
                  refine k_st (st' := []) rfl ?_
                  have R319 : RdC p0 none (-22) (-6) (-1000) σ0 σ300 := R293.tr ⟨R304.1, R304.2⟩ (by omega) (by omega) (by omega) (by omega)
                  have z320 := R319.2.2.1
                  have z321 := R319.2.2.2.1 rd_at
                  refine k_aload_n rfl ?_
                  refine k_areturn ?_
                  have X322 : ExC [0, 1, 2, 60, 61, 62, 63, 64, 65, 66, 67, 68, 69, 70, 72, 73, 74, 75, 76, 242, 243, 244, 246, 270, 271, 272, 273, 275, 276, 277, 278, 279, 280, 330, 331, 332, 333, 334, 999] σ0 σ300 := X298.tr (e303.mo (by decide))
                  have t323 := t70.x e243
                  have t324 := t323.x e261
                  have t325 := t324.x e277
                  have t326 := t325.x e303
                  have c327 := (h31.mi e51 (by decide)).trans q34
                  have c328 := (t70.mi e243 (by decide)).trans c327
                  have c329 := (t323.mi e261 (by decide)).trans c328
                  have c330 := (t324.mi e277 (by decide)).trans c329
                  have c331 := (t325.mi e303 (by decide)).trans c330
                  have c332 := (t70.mi e243 (by decide)).trans c71
                  have c333 := (t323.mi e261 (by decide)).trans c332
                  have c334 := (t324.mi e277 (by decide)).trans c333
                  have c335 := (t325.mi e303 (by decide)).trans c334
                  exact ⟨_, rfl, H302, X322, t326, (R319.mo (by omega) (by omega) (by omega)), (by omega), (by rw [c331] <;> omega), (by rw [c335] <;> omega)⟩
            · refine k_nil ?_
              refine hB _ _ _ _ (kgoC (is := KX7_readSimple_84) rfl ?_)
              refine k_aload_n rfl ?_
              refine k_aload_n rfl ?_
              obtain ⟨a338, e336, c337, t339⟩ := cg240 H50.1 t59
              refine k_get kg240 t59 e336 ?_
              obtain ⟨a342, e340, c341, t343, l344⟩ := cg211 H50.1 t339
              refine k_get kg211 t339 e340 ?_
              refine k_inv (P := P_Jx4a65c_size_8abf5) (Q := Q_Jx4a65c_size_8abf5) rfl rfl rfl rfl (Nat.le_of_ble_eq_true rfl) (t343.rc (by decide)) ⟨_, rfl, H50, t343⟩ (fun w345 σ346 q347 => ?_)
              obtain ⟨x348, rfl, rfl, h349, h350, q351, q352⟩ := q347
              refine k_st (st' := [.inl x348, .inr (.inr (some a27))]) rfl ?_
              have z353 := q352 l344
              refine k_iconst (m := 1) rfl (fun x354 h355 => ?_)
              refine k_isub (by omega) (by omega) (fun x356 h357 => ?_)
              refine k_p280 H50 t70 (by omega) (by omega) (by rw [c71]; omega) (fun σ358 H359 e360 c361 => ?_)
              refine k_goto ?_
              refine hB _ _ _ _ (kgoC (is := KX7_readSimple_148) rfl ?_)
              refine k_aload_n rfl ?_
              refine k_iconst (m := 4) rfl (fun x362 h363 => ?_)
              have t364 := t59.x e360
              have R365 : RdC p0 none (-6) (2) (-1000) σ0 σ358 := R67.tr ⟨(e360.gw H50.1 (by decide)), (e360.cou (u := 0) H50.1 t59 (by decide) (by rw [e360.cn (by decide)]; omega))⟩ (by omega) (by omega) (by omega) (by omega)
              have c366 := (t59.mi e360 (by decide)).trans c62
              have X367 : ExC [0, 1, 2, 60, 61, 62, 63, 64, 65, 66, 67, 68, 69, 70, 72, 73, 74, 75, 76, 242, 243, 244, 246, 270, 271, 272, 273, 275, 276, 277, 278, 279, 280, 330, 331, 332, 333, 334, 999] σ0 σ48 := X46.tr (e51.mo (by decide))
              have X368 : ExC [0, 1, 2, 60, 61, 62, 63, 64, 65, 66, 67, 68, 69, 70, 72, 73, 74, 75, 76, 242, 243, 244, 246, 270, 271, 272, 273, 275, 276, 277, 278, 279, 280, 330, 331, 332, 333, 334, 999] σ0 σ358 := X367.tr (e360.mo (by decide))
              have c369 := (t59.mi e360 (by decide)).trans c56
              have z370 := congrArg Int32.toInt c369
              have z371 := congrArg Int32.toInt c366
              refine k_inv (P := P_X7_expect) (Q := Q_X7_expect) rfl rfl rfl rfl (Nat.le_of_ble_eq_true rfl) (t364.rc (by decide)) ⟨_, _, rfl, H359, t364, (by omega), (by omega), (rd_cd.st H0 h_0_0 X368 R365.1 (by decide)), (R365.2.2.2.1 rd_at), (rd_bg.st H0 h_0_0 X368 R365 (by decide) (by omega) (by omega) (by omega))⟩ (fun w372 σ373 q374 => ?_)
              obtain ⟨rfl, H375, e376, R377, q378⟩ := q374
              have t384 := t364.x e376
              obtain ⟨x379, e380, c381, h382, h383⟩ := cg242 H375.1 t384
              obtain ⟨x385, e386, c387, h388, h389⟩ := cg243 H375.1 t384
              have z390 := congrArg Int32.toInt c381
              have z391 := congrArg Int32.toInt c387
              refine k_st (st' := []) rfl ?_
              have R392 : RdC p0 none (-14) (2) (-1000) σ0 σ373 := R365.tr ⟨R377.1, R377.2⟩ (by omega) (by omega) (by omega) (by omega)
              have z393 := R392.2.2.1
              have z394 := R392.2.2.2.1 rd_at
              refine k_aload_n rfl ?_
              refine k_areturn ?_
              have X395 : ExC [0, 1, 2, 60, 61, 62, 63, 64, 65, 66, 67, 68, 69, 70, 72, 73, 74, 75, 76, 242, 243, 244, 246, 270, 271, 272, 273, 275, 276, 277, 278, 279, 280, 330, 331, 332, 333, 334, 999] σ0 σ373 := X368.tr (e376.mo (by decide))
              have t396 := t70.x e360
              have t397 := t396.x e376
              have c398 := (h31.mi e51 (by decide)).trans q34
              have c399 := (t70.mi e360 (by decide)).trans c398
              have c400 := (t396.mi e376 (by decide)).trans c399
              have c401 := (t70.mi e360 (by decide)).trans c71
              have c402 := (t396.mi e376 (by decide)).trans c401
              exact ⟨_, rfl, H375, X395, t397, (R392.mo (by omega) (by omega) (by omega)), (by omega), (by rw [c400] <;> omega), (by rw [c402] <;> omega)⟩
          · refine k_nil ?_
            refine hB _ _ _ _ (kgoC (is := KX7_readSimple_58) rfl ?_)
            refine k_aload_n rfl ?_
            have X403 : ExC [0, 1, 2, 60, 61, 62, 63, 64, 65, 66, 67, 68, 69, 70, 72, 73, 74, 75, 76, 242, 243, 244, 246, 270, 271, 272, 273, 275, 276, 277, 278, 279, 280, 330, 331, 332, 333, 334, 999] σ0 σ48 := X46.tr (e51.mo (by decide))
            refine k_inv (P := P_X7_code) (Q := Q_X7_code) rfl rfl rfl rfl (Nat.le_of_ble_eq_true rfl) (t59.rc (by decide)) ⟨_, rfl, H50, t59, (rd_cd.st H0 h_0_0 X403 R67.1 (by decide))⟩ (fun w404 σ405 q406 => ?_)
            obtain ⟨x407, rfl, rfl, q408, q409, q410⟩ := q406
            refine k_st (st' := [.inl x407]) rfl ?_
            refine k_iconst (m := 4) rfl (fun x411 h412 => ?_)
            refine k_ic_eq (fun h413 => ?_) (fun h413 => ?_)
            · have h414 : x60.toInt = 0 := by omega
              refine hB _ _ _ _ (kgoC (is := KX7_readSimple_75) rfl ?_)
              refine k_aload_n rfl ?_
              refine k_get kg270 t70 (congrArg (Sum.inl : Int32 → AvC) c71) ?_
              refine k_bipush (m := 66) rfl (fun x415 h416 => ?_)
              refine k_ic_ne (fun h417 => by exfalso; omega) (fun h417 => ?_)
              refine k_nil ?_
              refine hB _ _ _ _ (kgoC (is := KX7_readSimple_84) rfl ?_)
              refine k_aload_n rfl ?_
              refine k_aload_n rfl ?_
              obtain ⟨a420, e418, c419, t421⟩ := cg240 H50.1 t59
              refine k_get kg240 t59 e418 ?_
              obtain ⟨a424, e422, c423, t425, l426⟩ := cg211 H50.1 t421
              refine k_get kg211 t421 e422 ?_
              refine k_inv (P := P_Jx4a65c_size_8abf5) (Q := Q_Jx4a65c_size_8abf5) rfl rfl rfl rfl (Nat.le_of_ble_eq_true rfl) (t425.rc (by decide)) ⟨_, rfl, H50, t425⟩ (fun w427 σ428 q429 => ?_)
              obtain ⟨x430, rfl, rfl, h431, h432, q433, q434⟩ := q429
              refine k_st (st' := [.inl x430, .inr (.inr (some a27))]) rfl ?_
              have z435 := q434 l426
              refine k_iconst (m := 1) rfl (fun x436 h437 => ?_)
              refine k_isub (by omega) (by omega) (fun x438 h439 => ?_)
              refine k_p280 H50 t70 (by omega) (by omega) (by rw [c71]; omega) (fun σ440 H441 e442 c443 => ?_)
              refine k_goto ?_
              refine hB _ _ _ _ (kgoC (is := KX7_readSimple_148) rfl ?_)
              refine k_aload_n rfl ?_
              refine k_iconst (m := 4) rfl (fun x444 h445 => ?_)
              have t446 := t59.x e442
              have R447 : RdC p0 none (-6) (2) (-1000) σ0 σ440 := R67.tr ⟨(e442.gw H50.1 (by decide)), (e442.cou (u := 0) H50.1 t59 (by decide) (by rw [e442.cn (by decide)]; omega))⟩ (by omega) (by omega) (by omega) (by omega)
              have c448 := (t59.mi e442 (by decide)).trans c62
              have R449 := R447.nf (-1000) (-1000) (by rw [c448]; omega)
              have X450 : ExC [0, 1, 2, 60, 61, 62, 63, 64, 65, 66, 67, 68, 69, 70, 72, 73, 74, 75, 76, 242, 243, 244, 246, 270, 271, 272, 273, 275, 276, 277, 278, 279, 280, 330, 331, 332, 333, 334, 999] σ0 σ440 := X403.tr (e442.mo (by decide))
              have c451 := (t59.mi e442 (by decide)).trans c56
              have z452 := congrArg Int32.toInt c451
              have z453 := congrArg Int32.toInt c448
              refine k_inv (P := P_X7_expect) (Q := Q_X7_expect) rfl rfl rfl rfl (Nat.le_of_ble_eq_true rfl) (t446.rc (by decide)) ⟨_, _, rfl, H441, t446, (by omega), (by omega), (rd_cd.st H0 h_0_0 X450 R449.1 (by decide)), (R449.2.2.2.1 rd_at), (rd_bg.stn H0 h_0_0 X450 R449 (by decide) (by rw [c448]; omega) (by omega))⟩ (fun w454 σ455 q456 => ?_)
              obtain ⟨rfl, H457, e458, R459, q460⟩ := q456
              have t466 := t446.x e458
              obtain ⟨x461, e462, c463, h464, h465⟩ := cg242 H457.1 t466
              obtain ⟨x467, e468, c469, h470, h471⟩ := cg243 H457.1 t466
              have z472 := congrArg Int32.toInt c463
              have z473 := congrArg Int32.toInt c469
              refine k_st (st' := []) rfl ?_
              have R474 : RdC p0 none (-14) (-6) (-1000) σ0 σ455 := R449.tr ⟨R459.1, R459.2⟩ (by omega) (by omega) (by omega) (by omega)
              have z475 := R474.2.2.1
              have z476 := R474.2.2.2.1 rd_at
              refine k_aload_n rfl ?_
              refine k_areturn ?_
              have X477 : ExC [0, 1, 2, 60, 61, 62, 63, 64, 65, 66, 67, 68, 69, 70, 72, 73, 74, 75, 76, 242, 243, 244, 246, 270, 271, 272, 273, 275, 276, 277, 278, 279, 280, 330, 331, 332, 333, 334, 999] σ0 σ455 := X450.tr (e458.mo (by decide))
              have t478 := t70.x e442
              have t479 := t478.x e458
              have c480 := (h31.mi e51 (by decide)).trans q34
              have c481 := (t70.mi e442 (by decide)).trans c480
              have c482 := (t478.mi e458 (by decide)).trans c481
              have c483 := (t70.mi e442 (by decide)).trans c71
              have c484 := (t478.mi e458 (by decide)).trans c483
              exact ⟨_, rfl, H457, X477, t479, (R474.mo (by omega) (by omega) (by omega)), (by omega), (by rw [c482] <;> omega), (by rw [c484] <;> omega)⟩
            · refine k_nil ?_
              refine hB _ _ _ _ (kgoC (is := KX7_readSimple_66) rfl ?_)
              refine k_aload_n rfl ?_
              refine k_aload_n rfl ?_
              refine k_iload_n rfl ?_
              refine k_inv (P := (P_X7_readExp d)) (Q := (Q_X7_readExp d)) rfl rfl rfl rfl (Nat.le_of_ble_eq_true rfl) (t59.rc (by decide)) ⟨_, _, rfl, H50, t59, (by omega), (by omega), (rd_cd.st H0 h_0_0 X403 R67.1 (by decide)), (R67.2.2.2.1 rd_at), (rd_bg.st H0 h_0_0 X403 R67 (by decide) (by omega) (by omega) (by omega)), (by omega)⟩ (fun w485 σ486 q487 => ?_)
              obtain ⟨a488, rfl, H489, e490, h492, R491, q493⟩ := q487
              have t499 := t59.x e490
              obtain ⟨x494, e495, c496, h497, h498⟩ := cg242 H489.1 t499
              obtain ⟨x500, e501, c502, h503, h504⟩ := cg243 H489.1 t499
              have z505 := congrArg Int32.toInt c496
              have z506 := congrArg Int32.toInt c502
              refine k_st (st' := [.inr (.inr (some a488)), .inr (.inr (some a27))]) rfl ?_
              have z507 := R67.1.1
              have R508 : RdC p0 none (-6) (14 + 8 * (d : Int)) (-999) σ0 σ486 := R67.tr ⟨R491.1, R491.2⟩ (by omega) (by omega) (by omega) (by omega)
              have z509 := R508.2.2.1
              have z510 := R508.2.2.2.1 rd_at
              have t511 := t70.x e490
              refine k_putR kp279 H489 t511 fk279 (rf279 h492) (fun σ512 H513 e514 c515 => ?_)
              refine k_nil ?_
              refine hB _ _ _ _ (kgoC (is := KX7_readSimple_75) rfl ?_)
              refine k_aload_n rfl ?_
              have t516 := t511.x e514
              have c517 := (t70.mi e490 (by decide)).trans c71
              have c518 := (t511.mi e514 (by decide)).trans c517
              refine k_get kg270 t516 (congrArg (Sum.inl : Int32 → AvC) c518) ?_
              refine k_bipush (m := 66) rfl (fun x519 h520 => ?_)
              refine k_ic_ne (fun h521 => by exfalso; omega) (fun h521 => ?_)
              refine k_nil ?_
              refine hB _ _ _ _ (kgoC (is := KX7_readSimple_84) rfl ?_)
              refine k_aload_n rfl ?_
              refine k_aload_n rfl ?_
              have t522 := t499.x e514
              obtain ⟨a525, e523, c524, t526⟩ := cg240 H513.1 t522
              refine k_get kg240 t522 e523 ?_
              obtain ⟨a529, e527, c528, t530, l531⟩ := cg211 H513.1 t526
              refine k_get kg211 t526 e527 ?_
              refine k_inv (P := P_Jx4a65c_size_8abf5) (Q := Q_Jx4a65c_size_8abf5) rfl rfl rfl rfl (Nat.le_of_ble_eq_true rfl) (t530.rc (by decide)) ⟨_, rfl, H513, t530⟩ (fun w532 σ533 q534 => ?_)
              obtain ⟨x535, rfl, rfl, h536, h537, q538, q539⟩ := q534
              refine k_st (st' := [.inl x535, .inr (.inr (some a27))]) rfl ?_
              have z540 := q539 l531
              refine k_iconst (m := 1) rfl (fun x541 h542 => ?_)
              refine k_isub (by omega) (by omega) (fun x543 h544 => ?_)
              refine k_p280 H513 t516 (by omega) (by omega) (by rw [c518]; omega) (fun σ545 H546 e547 c548 => ?_)
              refine k_goto ?_
              refine hB _ _ _ _ (kgoC (is := KX7_readSimple_148) rfl ?_)
              refine k_aload_n rfl ?_
              refine k_iconst (m := 4) rfl (fun x549 h550 => ?_)
              have t551 := t522.x e547
              have R552 : RdC p0 none (-6) (14 + 8 * (d : Int)) (-999) σ0 σ512 := R508.tr ⟨(e514.gw H489.1 (by decide)), (e514.cou (u := 0) H489.1 t499 (by decide) (by rw [e514.cn (by decide)]; omega))⟩ (by omega) (by omega) (by omega) (by omega)
              have R553 : RdC p0 none (-6) (14 + 8 * (d : Int)) (-999) σ0 σ545 := R552.tr ⟨(e547.gw H513.1 (by decide)), (e547.cou (u := 0) H513.1 t522 (by decide) (by rw [e547.cn (by decide)]; omega))⟩ (by omega) (by omega) (by omega) (by omega)
              have c554 := (t499.mi e514 (by decide)).trans c502
              have c555 := (t522.mi e547 (by decide)).trans c554
              have X556 : ExC [0, 1, 2, 60, 61, 62, 63, 64, 65, 66, 67, 68, 69, 70, 72, 73, 74, 75, 76, 242, 243, 244, 246, 270, 271, 272, 273, 275, 276, 277, 278, 279, 280, 330, 331, 332, 333, 334, 999] σ0 σ486 := X403.tr (e490.mo (by decide))
              have X557 : ExC [0, 1, 2, 60, 61, 62, 63, 64, 65, 66, 67, 68, 69, 70, 72, 73, 74, 75, 76, 242, 243, 244, 246, 270, 271, 272, 273, 275, 276, 277, 278, 279, 280, 330, 331, 332, 333, 334, 999] σ0 σ512 := X556.tr (e514.mo (by decide))
              have X558 : ExC [0, 1, 2, 60, 61, 62, 63, 64, 65, 66, 67, 68, 69, 70, 72, 73, 74, 75, 76, 242, 243, 244, 246, 270, 271, 272, 273, 275, 276, 277, 278, 279, 280, 330, 331, 332, 333, 334, 999] σ0 σ545 := X557.tr (e547.mo (by decide))
              have c559 := (t499.mi e514 (by decide)).trans c496
              have c560 := (t522.mi e547 (by decide)).trans c559
              have z561 := congrArg Int32.toInt c560
              have z562 := congrArg Int32.toInt c555
              refine k_inv (P := P_X7_expect) (Q := Q_X7_expect) rfl rfl rfl rfl (Nat.le_of_ble_eq_true rfl) (t551.rc (by decide)) ⟨_, _, rfl, H546, t551, (by omega), (by omega), (rd_cd.st H0 h_0_0 X558 R553.1 (by decide)), (R553.2.2.2.1 rd_at), (rd_bg.st H0 h_0_0 X558 R553 (by decide) (by omega) (by omega) (by omega))⟩ (fun w563 σ564 q565 => ?_)
              obtain ⟨rfl, H566, e567, R568, q569⟩ := q565
              have t575 := t551.x e567
              obtain ⟨x570, e571, c572, h573, h574⟩ := cg242 H566.1 t575
              obtain ⟨x576, e577, c578, h579, h580⟩ := cg243 H566.1 t575
              have z581 := congrArg Int32.toInt c572
              have z582 := congrArg Int32.toInt c578
              refine k_st (st' := []) rfl ?_
              have R583 : RdC p0 none (-14) (14 + 8 * (d : Int)) (-999) σ0 σ564 := R553.tr ⟨R568.1, R568.2⟩ (by omega) (by omega) (by omega) (by omega)
              have z584 := R583.2.2.1
              have z585 := R583.2.2.2.1 rd_at
              refine k_aload_n rfl ?_
              refine k_areturn ?_
              have X586 : ExC [0, 1, 2, 60, 61, 62, 63, 64, 65, 66, 67, 68, 69, 70, 72, 73, 74, 75, 76, 242, 243, 244, 246, 270, 271, 272, 273, 275, 276, 277, 278, 279, 280, 330, 331, 332, 333, 334, 999] σ0 σ564 := X558.tr (e567.mo (by decide))
              have t587 := t516.x e547
              have t588 := t587.x e567
              have c589 := (h31.mi e51 (by decide)).trans q34
              have c590 := (t70.mi e490 (by decide)).trans c589
              have c591 := (t511.mi e514 (by decide)).trans c590
              have c592 := (t516.mi e547 (by decide)).trans c591
              have c593 := (t587.mi e567 (by decide)).trans c592
              have c594 := (t516.mi e547 (by decide)).trans c518
              have c595 := (t587.mi e567 (by decide)).trans c594
              exact ⟨_, rfl, H566, X586, t588, (R583.mo (by omega) (by omega) (by omega)), (by omega), (by rw [c593] <;> omega), (by rw [c595] <;> omega)⟩
      · refine k_nil ?_
        refine hB _ _ _ _ (kgoC (is := KX7_readSimple_38) rfl ?_)
        refine k_aload_n rfl ?_
        refine k_areturn ?_
        have X596 : ExC [0, 1, 2, 60, 61, 62, 63, 64, 65, 66, 67, 68, 69, 70, 72, 73, 74, 75, 76, 242, 243, 244, 246, 270, 271, 272, 273, 275, 276, 277, 278, 279, 280, 330, 331, 332, 333, 334, 999] σ0 σ48 := X46.tr (e51.mo (by decide))
        have c597 := (h31.mi e51 (by decide)).trans q34
        exact ⟨_, rfl, H50, X596, t70, (R67.mo (by omega) (by omega) (by omega)), (by omega), (by rw [c597] <;> omega), (by rw [c71] <;> omega)⟩
    · refine k_nil ?_
      refine hB _ _ _ _ (kgoC (is := KX7_readSimple_18) rfl ?_)
      refine k_aload_n rfl ?_
      refine k_aload_n rfl ?_
      refine k_iload_n rfl ?_
      have t598 := h_0_0.x e29
      have R599 : RdC p0 none (2) (2) (-998) σ0 σ25 := R14.tr ⟨R30.1, R30.2⟩ (by omega) (by omega) (by omega) (by omega)
      have R600 := R599.nf (-1000) (-1000) (by rw [c36]; omega)
      have X601 : ExC [0, 1, 2, 60, 61, 62, 63, 64, 65, 66, 67, 68, 69, 70, 72, 73, 74, 75, 76, 242, 243, 244, 246, 270, 271, 272, 273, 275, 276, 277, 278, 279, 280, 330, 331, 332, 333, 334, 999] σ0 σ25 := ExC.rf.tr (e29.mo (by decide))
      refine k_inv (P := (P_X7_readBlock d)) (Q := (Q_X7_readBlock d)) rfl rfl rfl rfl (Nat.le_of_ble_eq_true rfl) (t598.rc (by decide)) ⟨_, _, _, rfl, H28, t598, h31, (by omega), (by omega), (rd_cd.st H0 h_0_0 X601 R600.1 (by decide)), (R600.2.2.2.1 rd_at), (rd_bg.stn H0 h_0_0 X601 R600 (by decide) (by rw [c36]; omega) (by omega)), (by omega), (by rw [q33] <;> omega), (by rw [q34] <;> omega)⟩ (fun w602 σ603 q604 => ?_)
      obtain ⟨rfl, H605, e606, R607⟩ := q604
      have t613 := t598.x e606
      obtain ⟨x608, e609, c610, h611, h612⟩ := cg242 H605.1 t613
      obtain ⟨x614, e615, c616, h617, h618⟩ := cg243 H605.1 t613
      have z619 := congrArg Int32.toInt c610
      have z620 := congrArg Int32.toInt c616
      refine k_st (st' := []) rfl ?_
      have R621 : RdC p0 none (-6) (18 + 8 * (d : Int)) (-1000) σ0 σ603 := R600.tr ⟨R607.1, R607.2⟩ (by omega) (by omega) (by omega) (by omega)
      have z622 := R621.2.2.1
      have z623 := R621.2.2.2.1 rd_at
      refine k_aload_n rfl ?_
      refine k_areturn ?_
      have X624 : ExC [0, 1, 2, 60, 61, 62, 63, 64, 65, 66, 67, 68, 69, 70, 72, 73, 74, 75, 76, 242, 243, 244, 246, 270, 271, 272, 273, 275, 276, 277, 278, 279, 280, 330, 331, 332, 333, 334, 999] σ0 σ603 := X601.tr (e606.mo (by decide))
      have t625 := h31.x e606
      have c626 := (h31.fi e606 (by decide) (by decide)).trans q34
      have c627 := (h31.fi e606 (by decide) (by decide)).trans q33
      exact ⟨_, rfl, H605, X624, t625, (R621.mo (by omega) (by omega) (by omega)), (by omega), (by rw [c626] <;> omega), (by rw [c627] <;> omega)⟩

set_option maxRecDepth 100000 in
set_option maxHeartbeats 4000000 in
theorem s_X7_readLabel (l : Launch) (d : Nat) (h_X7_readInner : CMetC l (13 * d + 37) 148 (P_X7_readInner d) (Q_X7_readInner d)) : CMetC l (13 * d + 38) 151 (P_X7_readLabel d) (Q_X7_readLabel d) := by
  refine CMetC.of KX7_readLabel [(142, P_X7_begin6, Q_X7_begin6), (128, P_X7_accept, Q_X7_accept), (129, P_X7_expect, Q_X7_expect), (148, (P_X7_readInner d), (Q_X7_readInner d))] hX7_readLabel (by decide) (by omega) okX7_readLabel (cc1C (m_X7_begin6 l) (by omega) (cc1C (m_X7_accept l) (by omega) (cc1C (m_X7_expect l) (by omega) (cc1C h_X7_readInner (by omega) cc0C)))) ?_ ?_
  · rintro As σ ⟨p0, p1, rfl, -⟩
    exact Nat.le_of_ble_eq_true rfl
  · rintro As σ0 ⟨p0, p1, rfl, H0, h_0_0, h_1_0, h_1_1, rd_cd, rd_at, rd_bl, rd_lv, rd_tk, rd_dp⟩ hgr G hB hW
    change G 0 [(0, .inr (.inr (some p0))), (1, .inl p1)] [] σ0
    obtain ⟨x1, e2, c3, h4, h5⟩ := cg242 H0.1 h_0_0
    obtain ⟨x6, e7, c8, h9, h10⟩ := cg243 H0.1 h_0_0
    have z11 := congrArg Int32.toInt c3
    have z12 := congrArg Int32.toInt c8
    have h13 : x6.toInt = 0 := by rw [← c8]; exact rd_lv
    have rd_bg : BgC σ0 p0 (24 + 8 * (d : Int)) 1000000 := ⟨fun _ => rd_bl, fun z => absurd rd_lv z⟩
    refine hB _ _ _ _ (kgoC (is := KX7_readLabel_0) rfl ?_)
    refine k_aload_n rfl ?_
    refine k_bipush (m := 6) rfl (fun x14 h15 => ?_)
    refine k_iload_n rfl ?_
    have R16 := (RdC.rf : RdC p0 none 0 0 0 σ0 σ0).nf (-1000) (-1000) (by rw [c8]; omega)
    refine k_inv (P := P_X7_begin6) (Q := Q_X7_begin6) rfl rfl rfl rfl (Nat.le_of_ble_eq_true rfl) (h_0_0.rc (by decide)) ⟨_, _, _, rfl, H0, h_0_0, (by omega), (by omega), (rd_cd.st H0 h_0_0 (ExC.rf : ExC [0, 1, 2, 60, 61, 62, 63, 64, 65, 66, 67, 68, 69, 70, 72, 73, 74, 75, 76, 242, 243, 244, 246, 270, 271, 272, 273, 275, 276, 277, 278, 279, 280, 330, 331, 332, 333, 334, 999] σ0 σ0) R16.1 (by decide)), (R16.2.2.2.1 rd_at), (rd_bg.stn H0 h_0_0 (ExC.rf : ExC [0, 1, 2, 60, 61, 62, 63, 64, 65, 66, 67, 68, 69, 70, 72, 73, 74, 75, 76, 242, 243, 244, 246, 270, 271, 272, 273, 275, 276, 277, 278, 279, 280, 330, 331, 332, 333, 334, 999] σ0 σ0) R16 (by decide) (by rw [c8]; omega) (by omega)), (by omega)⟩ (fun w17 σ18 q19 => ?_)
    obtain ⟨a20, rfl, H21, e22, h24, R23, q25, q26, q27⟩ := q19
    have c28 := (h_0_0.mi e22 (by decide)).trans c3
    have c29 := (h_0_0.mi e22 (by decide)).trans c8
    have z30 := congrArg Int32.toInt c28
    have z31 := congrArg Int32.toInt c29
    refine k_st (st' := [.inr (.inr (some a20))]) rfl ?_
    have z32 := R16.1.1
    refine k_astore_n (ls' := [(2, .inr (.inr (some a20))), (0, .inr (.inr (some p0))), (1, .inl p1)]) rfl ?_
    refine k_aload_n rfl ?_
    refine k_aload_n rfl ?_
    have t33 := h_0_0.x e22
    refine k_get kg242 t33 (congrArg (Sum.inl : Int32 → AvC) c28) ?_
    refine k_p280x H21 h24 (by omega) (by omega) (fun σ34 H35 e36 c37 => ?_)
    refine k_aload_n rfl ?_
    have t38 := t33.x e36
    obtain ⟨a41, e39, c40, t42⟩ := cg241 H35.1 t38
    refine k_get kg241 t38 e39 ?_
    obtain ⟨a45, e43, c44, t46, l47, l48⟩ := cg303 H35.1 t42
    refine k_get kg303 t42 e43 ?_
    refine k_aload_n rfl ?_
    have c49 := (t33.mi e36 (by decide)).trans c28
    refine k_get kg242 t38 (congrArg (Sum.inl : Int32 → AvC) c49) ?_
    refine k_sipush (m := 200) rfl (fun x50 h51 => ?_)
    refine k_iastore H35 t46 l48 (by omega) (by omega) (fun σ52 H53 e54 => ?_)
    refine k_aload_n rfl ?_
    have t55 := t38.x e54
    have R56 : RdC p0 none (2) (2) (-998) σ0 σ18 := R16.tr ⟨R23.1, R23.2⟩ (by omega) (by omega) (by omega) (by omega)
    have R57 : RdC p0 none (2) (2) (-998) σ0 σ34 := R56.tr ⟨(e36.gw H21.1 (by decide)), (e36.cou (u := 0) H21.1 t33 (by decide) (by rw [e36.cn (by decide)]; omega))⟩ (by omega) (by omega) (by omega) (by omega)
    have R58 : RdC p0 none (2) (2) (-998) σ0 σ52 := R57.tr ⟨(e54.gw H35.1 (by decide)), (e54.cou (u := 0) H35.1 t38 (by decide) (by rw [e54.cn (by decide)]; omega))⟩ (by omega) (by omega) (by omega) (by omega)
    have c59 := (t33.mi e36 (by decide)).trans c29
    have c60 := (t38.mi e54 (by decide)).trans c59
    have R61 := R58.nf (-1000) (-1000) (by rw [c60]; omega)
    have X62 : ExC [0, 1, 2, 60, 61, 62, 63, 64, 65, 66, 67, 68, 69, 70, 72, 73, 74, 75, 76, 242, 243, 244, 246, 270, 271, 272, 273, 275, 276, 277, 278, 279, 280, 330, 331, 332, 333, 334, 999] σ0 σ18 := ExC.rf.tr (e22.mo (by decide))
    have X63 : ExC [0, 1, 2, 60, 61, 62, 63, 64, 65, 66, 67, 68, 69, 70, 72, 73, 74, 75, 76, 242, 243, 244, 246, 270, 271, 272, 273, 275, 276, 277, 278, 279, 280, 330, 331, 332, 333, 334, 999] σ0 σ34 := X62.tr (e36.mo (by decide))
    have X64 : ExC [0, 1, 2, 60, 61, 62, 63, 64, 65, 66, 67, 68, 69, 70, 72, 73, 74, 75, 76, 242, 243, 244, 246, 270, 271, 272, 273, 275, 276, 277, 278, 279, 280, 330, 331, 332, 333, 334, 999] σ0 σ52 := X63.tr (e54.mo (by decide))
    have c65 := (t38.mi e54 (by decide)).trans c49
    have z66 := congrArg Int32.toInt c65
    have z67 := congrArg Int32.toInt c60
    refine k_inv (P := P_X7_accept) (Q := Q_X7_accept) rfl rfl rfl rfl (Nat.le_of_ble_eq_true rfl) (t55.rc (by decide)) ⟨_, rfl, H53, t55, (rd_cd.st H0 h_0_0 X64 R61.1 (by decide)), (R61.2.2.2.1 rd_at), (rd_bg.stn H0 h_0_0 X64 R61 (by decide) (by rw [c60]; omega) (by omega)), (by have ct := R61.2.2.1; rw [c60, c65, ct]; omega)⟩ (fun w68 σ69 q70 => ?_)
    obtain ⟨rfl, H71, e72, R73, q74⟩ := q70
    have t80 := t55.x e72
    obtain ⟨x75, e76, c77, h78, h79⟩ := cg242 H71.1 t80
    obtain ⟨x81, e82, c83, h84, h85⟩ := cg243 H71.1 t80
    have z86 := congrArg Int32.toInt c77
    have z87 := congrArg Int32.toInt c83
    refine k_st (st' := []) rfl ?_
    have R88 : RdC p0 none (-6) (2) (-1000) σ0 σ69 := R61.tr ⟨R73.1, R73.2⟩ (by omega) (by omega) (by omega) (by omega)
    have z89 := R88.2.2.1
    have z90 := R88.2.2.2.1 rd_at
    refine k_aload_n rfl ?_
    refine k_bipush (m := 6) rfl (fun x91 h92 => ?_)
    have X93 : ExC [0, 1, 2, 60, 61, 62, 63, 64, 65, 66, 67, 68, 69, 70, 72, 73, 74, 75, 76, 242, 243, 244, 246, 270, 271, 272, 273, 275, 276, 277, 278, 279, 280, 330, 331, 332, 333, 334, 999] σ0 σ69 := X64.tr (e72.mo (by decide))
    refine k_inv (P := P_X7_expect) (Q := Q_X7_expect) rfl rfl rfl rfl (Nat.le_of_ble_eq_true rfl) (t80.rc (by decide)) ⟨_, _, rfl, H71, t80, (by omega), (by omega), (rd_cd.st H0 h_0_0 X93 R88.1 (by decide)), (R88.2.2.2.1 rd_at), (rd_bg.st H0 h_0_0 X93 R88 (by decide) (by omega) (by omega) (by omega))⟩ (fun w94 σ95 q96 => ?_)
    obtain ⟨rfl, H97, e98, R99, q100⟩ := q96
    have t106 := t80.x e98
    obtain ⟨x101, e102, c103, h104, h105⟩ := cg242 H97.1 t106
    obtain ⟨x107, e108, c109, h110, h111⟩ := cg243 H97.1 t106
    have z112 := congrArg Int32.toInt c103
    have z113 := congrArg Int32.toInt c109
    refine k_st (st' := []) rfl ?_
    have R114 : RdC p0 none (-14) (2) (-1000) σ0 σ95 := R88.tr ⟨R99.1, R99.2⟩ (by omega) (by omega) (by omega) (by omega)
    have z115 := R114.2.2.1
    have z116 := R114.2.2.2.1 rd_at
    refine k_aload_n rfl ?_
    refine k_aload_n rfl ?_
    refine k_aload_n rfl ?_
    refine k_iload_n rfl ?_
    have t117 := h24.x e36
    have t118 := t117.x e54
    have t119 := t118.x e72
    have t120 := t119.x e98
    have X121 : ExC [0, 1, 2, 60, 61, 62, 63, 64, 65, 66, 67, 68, 69, 70, 72, 73, 74, 75, 76, 242, 243, 244, 246, 270, 271, 272, 273, 275, 276, 277, 278, 279, 280, 330, 331, 332, 333, 334, 999] σ0 σ95 := X93.tr (e98.mo (by decide))
    refine k_inv (P := (P_X7_readInner d)) (Q := (Q_X7_readInner d)) rfl rfl rfl rfl (Nat.le_of_ble_eq_true rfl) (t106.rc (by decide)) ⟨_, _, _, rfl, H97, t106, t120, (by omega), (by omega), (rd_cd.st H0 h_0_0 X121 R114.1 (by decide)), (R114.2.2.2.1 rd_at), (rd_bg.st H0 h_0_0 X121 R114 (by decide) (by omega) (by omega) (by omega)), (by omega)⟩ (fun w122 σ123 q124 => ?_)
    obtain ⟨a125, rfl, H126, e127, h129, R128, q130, q131, q132⟩ := q124
    have t138 := t106.x e127
    obtain ⟨x133, e134, c135, h136, h137⟩ := cg242 H126.1 t138
    obtain ⟨x139, e140, c141, h142, h143⟩ := cg243 H126.1 t138
    have z144 := congrArg Int32.toInt c135
    have z145 := congrArg Int32.toInt c141
    refine k_st (st' := [.inr (.inr (some a125)), .inr (.inr (some a20))]) rfl ?_
    have z146 := R114.1.1
    obtain ⟨x147, e148, c149, h150, h151⟩ := cg272 H126.1 h129
    rw [c149] at q131
    obtain ⟨x152, e153, c154, h155, h156⟩ := cg270 H126.1 h129
    rw [c154] at q132
    have R157 : RdC p0 none (-14) (5 + 8 * (d : Int)) (-997) σ0 σ123 := R114.tr ⟨R128.1, R128.2⟩ (by omega) (by omega) (by omega) (by omega)
    have z158 := R157.2.2.1
    have z159 := R157.2.2.2.1 rd_at
    have c160 := (h24.mi e36 (by decide)).trans q26
    have c161 := (t117.mi e54 (by decide)).trans c160
    have c162 := (t118.mi e72 (by decide)).trans c161
    have c163 := (t119.mi e98 (by decide)).trans c162
    have c164 := (t120.fi e127 (by decide) (by decide)).trans c163
    have c165 := (h24.mi e36 (by decide)).trans q27
    have c166 := (t117.mi e54 (by decide)).trans c165
    have c167 := (t118.mi e72 (by decide)).trans c166
    have c168 := (t119.mi e98 (by decide)).trans c167
    have c169 := (t120.fi e127 (by decide) (by decide)).trans c168
    have z174 := t120.1
    have t175 := t120.x e127
    refine k_p276 H126 t175 (h129.ot) (fun z hz => by cases hz; exact ⟨by omega, by unfold LvC; rw [c164, c169, c154, c149]; omega⟩) (fun σ170 H171 e172 c173 => ?_)
    refine k_aload_n rfl ?_
    refine k_areturn ?_
    have X176 : ExC [0, 1, 2, 60, 61, 62, 63, 64, 65, 66, 67, 68, 69, 70, 72, 73, 74, 75, 76, 242, 243, 244, 246, 270, 271, 272, 273, 275, 276, 277, 278, 279, 280, 330, 331, 332, 333, 334, 999] σ0 σ123 := X121.tr (e127.mo (by decide))
    have X177 : ExC [0, 1, 2, 60, 61, 62, 63, 64, 65, 66, 67, 68, 69, 70, 72, 73, 74, 75, 76, 242, 243, 244, 246, 270, 271, 272, 273, 275, 276, 277, 278, 279, 280, 330, 331, 332, 333, 334, 999] σ0 σ170 := X176.tr (e172.mo (by decide))
    have t178 := t175.x e172
    have R179 : RdC p0 none (-14) (5 + 8 * (d : Int)) (-997) σ0 σ170 := R157.tr ⟨(e172.gw H126.1 (by decide)), (e172.cou (u := 0) H126.1 t138 (by decide) (by rw [e172.cn (by decide)]; omega))⟩ (by omega) (by omega) (by omega) (by omega)
    have c180 := (t138.mi e172 (by decide)).trans c141
    have c181 := (t138.mi e172 (by decide)).trans c135
    have c182 := (t175.mi e172 (by decide)).trans c169
    have c183 := (t175.mi e172 (by decide)).trans c164
    exact ⟨_, rfl, H171, X177, t178, (R179.mo (by omega) (by omega) (by omega)), (by omega), (by rw [c182] <;> omega), (by rw [c183] <;> omega)⟩
