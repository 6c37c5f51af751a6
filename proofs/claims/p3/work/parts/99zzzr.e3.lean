set_option maxRecDepth 100000 in
set_option maxHeartbeats 4000000 in
theorem s_X7_readOperand (l : Launch) (d : Nat) (h_X7_readBehindOpen : CMetC l (13 * d + 31) 174 (P_X7_readBehindOpen d) (Q_X7_readBehindOpen d)) (h_X7_readAlone : CMetC l (13 * d + 31) 172 (P_X7_readAlone d) (Q_X7_readAlone d)) (h_X7_readName : CMetC l (13 * d + 32) 175 (P_X7_readName d) (Q_X7_readName d)) : CMetC l (13 * d + 33) 170 (P_X7_readOperand d) (Q_X7_readOperand d) := by
  refine CMetC.of KX7_readOperand [(125, P_X7_code, Q_X7_code), (174, (P_X7_readBehindOpen d), (Q_X7_readBehindOpen d)), (172, (P_X7_readAlone d), (Q_X7_readAlone d)), (173, P_X7_readCountAhead, Q_X7_readCountAhead), (177, P_X7_readLiteral, Q_X7_readLiteral), (175, (P_X7_readName d), (Q_X7_readName d)), (127, P_X7_raise, Q_X7_raise), (162, P_X7_opened, Q_X7_opened)] hX7_readOperand (by decide) (by omega) okX7_readOperand (cc1C (m_X7_code l) (by omega) (cc1C h_X7_readBehindOpen (by omega) (cc1C h_X7_readAlone (by omega) (cc1C (m_X7_readCountAhead l) (by omega) (cc1C (m_X7_readLiteral l) (by omega) (cc1C h_X7_readName (by omega) (cc1C (m_X7_raise l) (by omega) (cc1C (m_X7_opened l) (by omega) cc0C)))))))) ?_ ?_
  · rintro As σ ⟨p0, p1, rfl, -⟩
    exact Nat.le_of_ble_eq_true rfl
  · rintro As σ0 ⟨p0, p1, rfl, H0, h_0_0, h_1_0, h_1_1, rd_cd, rd_at, rd_bg, rd_dp⟩ hgr G hB hW
    change G 0 [(0, .inr (.inr (some p0))), (1, .inl p1)] [] σ0
    obtain ⟨x1, e2, c3, h4, h5⟩ := cg242 H0.1 h_0_0
    obtain ⟨x6, e7, c8, h9, h10⟩ := cg243 H0.1 h_0_0
    have z11 := congrArg Int32.toInt c3
    have z12 := congrArg Int32.toInt c8
    refine hB _ _ _ _ (kgoC (is := KX7_readOperand_0) rfl ?_)
    refine k_aload_n rfl ?_
    refine k_inv (P := P_X7_code) (Q := Q_X7_code) rfl rfl rfl rfl (Nat.le_of_ble_eq_true rfl) (h_0_0.rc (by decide)) ⟨_, rfl, H0, h_0_0, (rd_cd.st H0 h_0_0 (ExC.rf : ExC [0, 1, 2, 60, 61, 62, 63, 64, 65, 66, 67, 68, 69, 70, 72, 73, 74, 75, 76, 242, 243, 244, 999] σ0 σ0) (RdC.rf : RdC p0 none 0 0 0 σ0 σ0).1 (by decide))⟩ (fun w13 σ14 q15 => ?_)
    obtain ⟨x16, rfl, rfl, q17, q18, q19⟩ := q15
    refine k_st (st' := [.inl x16]) rfl ?_
    have z20 := (RdC.rf : RdC p0 none 0 0 0 σ0 σ0).2.2.1
    have z21 := (RdC.rf : RdC p0 none 0 0 0 σ0 σ0).2.2.2.1 rd_at
    refine k_lsw ?_
    refine k_swc (fun h22 => ?_) (fun h22 => ?_)
    · have h23 : x6.toInt = 0 := by omega
      refine hB _ _ _ _ (kgoC (is := KX7_readOperand_131) rfl ?_)
      refine k_aload_n rfl ?_
      refine k_iload_n rfl ?_
      have R24 := (RdC.rf : RdC p0 none 0 0 0 σ0 σ0).nf (-1000) (-1000) (by rw [c8]; omega)
      refine k_inv (P := (P_X7_readBehindOpen d)) (Q := (Q_X7_readBehindOpen d)) rfl rfl rfl rfl (Nat.le_of_ble_eq_true rfl) (h_0_0.rc (by decide)) ⟨_, _, rfl, H0, h_0_0, (by omega), (by omega), (rd_cd.st H0 h_0_0 (ExC.rf : ExC [0, 1, 2, 60, 61, 62, 63, 64, 65, 66, 67, 68, 69, 70, 72, 73, 74, 75, 76, 242, 243, 244, 999] σ0 σ0) R24.1 (by decide)), (R24.2.2.2.1 rd_at), ((show BgC σ0 p0 (14 + 8 * (d : Int)) 0 from (rd_bg.stn H0 h_0_0 (ExC.rf : ExC [0, 1, 2, 60, 61, 62, 63, 64, 65, 66, 67, 68, 69, 70, 72, 73, 74, 75, 76, 242, 243, 244, 999] σ0 σ0) R24 (by decide) (by rw [c8]; omega) (by omega))).1 (by rw [c8]; omega)), (by rw [c8]; omega), (by have ct := R24.2.2.1; rw [c8, c3, ct]; omega), (by omega)⟩ (fun w25 σ26 q27 => ?_)
      obtain ⟨a28, rfl, H29, e30, h32, R31, q33⟩ := q27
      have t39 := h_0_0.x e30
      obtain ⟨x34, e35, c36, h37, h38⟩ := cg242 H29.1 t39
      obtain ⟨x40, e41, c42, h43, h44⟩ := cg243 H29.1 t39
      have z45 := congrArg Int32.toInt c36
      have z46 := congrArg Int32.toInt c42
      refine k_st (st' := [.inr (.inr (some a28))]) rfl ?_
      have z47 := R24.1.1
      have R48 : RdC p0 none (0) (14 + 8 * (d : Int)) (-1000) σ0 σ26 := R24.tr ⟨R31.1, R31.2⟩ (by omega) (by omega) (by omega) (by omega)
      have z49 := R48.2.2.1
      have z50 := R48.2.2.2.1 rd_at
      refine k_areturn ?_
      have X51 : ExC [0, 1, 2, 60, 61, 62, 63, 64, 65, 66, 67, 68, 69, 70, 72, 73, 74, 75, 76, 242, 243, 244, 999] σ0 σ26 := ExC.rf.tr (e30.mo (by decide))
      exact ⟨_, rfl, H29, X51, h32, (R48.mo (by omega) (by omega) (by omega)), (by omega)⟩
    refine k_swc (fun h52 => ?_) (fun h52 => ?_)
    · have h53 : x6.toInt = 0 := by omega
      refine hB _ _ _ _ (kgoC (is := KX7_readOperand_120) rfl ?_)
      refine k_aload_n rfl ?_
      refine k_iload_n rfl ?_
      have R54 := (RdC.rf : RdC p0 none 0 0 0 σ0 σ0).nf (-1000) (-1000) (by rw [c8]; omega)
      refine k_inv (P := (P_X7_readAlone d)) (Q := (Q_X7_readAlone d)) rfl rfl rfl rfl (Nat.le_of_ble_eq_true rfl) (h_0_0.rc (by decide)) ⟨_, _, rfl, H0, h_0_0, (by omega), (by omega), (rd_cd.st H0 h_0_0 (ExC.rf : ExC [0, 1, 2, 60, 61, 62, 63, 64, 65, 66, 67, 68, 69, 70, 72, 73, 74, 75, 76, 242, 243, 244, 999] σ0 σ0) R54.1 (by decide)), (R54.2.2.2.1 rd_at), ((show BgC σ0 p0 (14 + 8 * (d : Int)) 0 from (rd_bg.stn H0 h_0_0 (ExC.rf : ExC [0, 1, 2, 60, 61, 62, 63, 64, 65, 66, 67, 68, 69, 70, 72, 73, 74, 75, 76, 242, 243, 244, 999] σ0 σ0) R54 (by decide) (by rw [c8]; omega) (by omega))).1 (by rw [c8]; omega)), (by rw [c8]; omega), (by have ct := R54.2.2.1; rw [c8, c3, ct]; omega), (by omega)⟩ (fun w55 σ56 q57 => ?_)
      obtain ⟨a58, rfl, H59, e60, h62, R61, q63⟩ := q57
      have t69 := h_0_0.x e60
      obtain ⟨x64, e65, c66, h67, h68⟩ := cg242 H59.1 t69
      obtain ⟨x70, e71, c72, h73, h74⟩ := cg243 H59.1 t69
      have z75 := congrArg Int32.toInt c66
      have z76 := congrArg Int32.toInt c72
      refine k_st (st' := [.inr (.inr (some a58))]) rfl ?_
      have z77 := R54.1.1
      have R78 : RdC p0 none (0) (14 + 8 * (d : Int)) (-1000) σ0 σ56 := R54.tr ⟨R61.1, R61.2⟩ (by omega) (by omega) (by omega) (by omega)
      have z79 := R78.2.2.1
      have z80 := R78.2.2.2.1 rd_at
      refine k_areturn ?_
      have X81 : ExC [0, 1, 2, 60, 61, 62, 63, 64, 65, 66, 67, 68, 69, 70, 72, 73, 74, 75, 76, 242, 243, 244, 999] σ0 σ56 := ExC.rf.tr (e60.mo (by decide))
      exact ⟨_, rfl, H59, X81, h62, (R78.mo (by omega) (by omega) (by omega)), (by omega)⟩
    refine k_swc (fun h82 => ?_) (fun h82 => ?_)
    · have h83 : x6.toInt = 0 := by omega
      refine hB _ _ _ _ (kgoC (is := KX7_readOperand_120) rfl ?_)
      refine k_aload_n rfl ?_
      refine k_iload_n rfl ?_
      have R84 := (RdC.rf : RdC p0 none 0 0 0 σ0 σ0).nf (-1000) (-1000) (by rw [c8]; omega)
      refine k_inv (P := (P_X7_readAlone d)) (Q := (Q_X7_readAlone d)) rfl rfl rfl rfl (Nat.le_of_ble_eq_true rfl) (h_0_0.rc (by decide)) ⟨_, _, rfl, H0, h_0_0, (by omega), (by omega), (rd_cd.st H0 h_0_0 (ExC.rf : ExC [0, 1, 2, 60, 61, 62, 63, 64, 65, 66, 67, 68, 69, 70, 72, 73, 74, 75, 76, 242, 243, 244, 999] σ0 σ0) R84.1 (by decide)), (R84.2.2.2.1 rd_at), ((show BgC σ0 p0 (14 + 8 * (d : Int)) 0 from (rd_bg.stn H0 h_0_0 (ExC.rf : ExC [0, 1, 2, 60, 61, 62, 63, 64, 65, 66, 67, 68, 69, 70, 72, 73, 74, 75, 76, 242, 243, 244, 999] σ0 σ0) R84 (by decide) (by rw [c8]; omega) (by omega))).1 (by rw [c8]; omega)), (by rw [c8]; omega), (by have ct := R84.2.2.1; rw [c8, c3, ct]; omega), (by omega)⟩ (fun w85 σ86 q87 => ?_)
      obtain ⟨a88, rfl, H89, e90, h92, R91, q93⟩ := q87
      have t99 := h_0_0.x e90
      obtain ⟨x94, e95, c96, h97, h98⟩ := cg242 H89.1 t99
      obtain ⟨x100, e101, c102, h103, h104⟩ := cg243 H89.1 t99
      have z105 := congrArg Int32.toInt c96
      have z106 := congrArg Int32.toInt c102
      refine k_st (st' := [.inr (.inr (some a88))]) rfl ?_
      have z107 := R84.1.1
      have R108 : RdC p0 none (0) (14 + 8 * (d : Int)) (-1000) σ0 σ86 := R84.tr ⟨R91.1, R91.2⟩ (by omega) (by omega) (by omega) (by omega)
      have z109 := R108.2.2.1
      have z110 := R108.2.2.2.1 rd_at
      refine k_areturn ?_
      have X111 : ExC [0, 1, 2, 60, 61, 62, 63, 64, 65, 66, 67, 68, 69, 70, 72, 73, 74, 75, 76, 242, 243, 244, 999] σ0 σ86 := ExC.rf.tr (e90.mo (by decide))
      exact ⟨_, rfl, H89, X111, h92, (R108.mo (by omega) (by omega) (by omega)), (by omega)⟩
    refine k_swc (fun h112 => ?_) (fun h112 => ?_)
    · have h113 : x6.toInt = 0 := by omega
      refine hB _ _ _ _ (kgoC (is := KX7_readOperand_120) rfl ?_)
      refine k_aload_n rfl ?_
      refine k_iload_n rfl ?_
      have R114 := (RdC.rf : RdC p0 none 0 0 0 σ0 σ0).nf (-1000) (-1000) (by rw [c8]; omega)
      refine k_inv (P := (P_X7_readAlone d)) (Q := (Q_X7_readAlone d)) rfl rfl rfl rfl (Nat.le_of_ble_eq_true rfl) (h_0_0.rc (by decide)) ⟨_, _, rfl, H0, h_0_0, (by omega), (by omega), (rd_cd.st H0 h_0_0 (ExC.rf : ExC [0, 1, 2, 60, 61, 62, 63, 64, 65, 66, 67, 68, 69, 70, 72, 73, 74, 75, 76, 242, 243, 244, 999] σ0 σ0) R114.1 (by decide)), (R114.2.2.2.1 rd_at), ((show BgC σ0 p0 (14 + 8 * (d : Int)) 0 from (rd_bg.stn H0 h_0_0 (ExC.rf : ExC [0, 1, 2, 60, 61, 62, 63, 64, 65, 66, 67, 68, 69, 70, 72, 73, 74, 75, 76, 242, 243, 244, 999] σ0 σ0) R114 (by decide) (by rw [c8]; omega) (by omega))).1 (by rw [c8]; omega)), (by rw [c8]; omega), (by have ct := R114.2.2.1; rw [c8, c3, ct]; omega), (by omega)⟩ (fun w115 σ116 q117 => ?_)
      obtain ⟨a118, rfl, H119, e120, h122, R121, q123⟩ := q117
      have t129 := h_0_0.x e120
      obtain ⟨x124, e125, c126, h127, h128⟩ := cg242 H119.1 t129
      obtain ⟨x130, e131, c132, h133, h134⟩ := cg243 H119.1 t129
      have z135 := congrArg Int32.toInt c126
      have z136 := congrArg Int32.toInt c132
      refine k_st (st' := [.inr (.inr (some a118))]) rfl ?_
      have z137 := R114.1.1
      have R138 : RdC p0 none (0) (14 + 8 * (d : Int)) (-1000) σ0 σ116 := R114.tr ⟨R121.1, R121.2⟩ (by omega) (by omega) (by omega) (by omega)
      have z139 := R138.2.2.1
      have z140 := R138.2.2.2.1 rd_at
      refine k_areturn ?_
      have X141 : ExC [0, 1, 2, 60, 61, 62, 63, 64, 65, 66, 67, 68, 69, 70, 72, 73, 74, 75, 76, 242, 243, 244, 999] σ0 σ116 := ExC.rf.tr (e120.mo (by decide))
      exact ⟨_, rfl, H119, X141, h122, (R138.mo (by omega) (by omega) (by omega)), (by omega)⟩
    refine k_swc (fun h142 => ?_) (fun h142 => ?_)
    · have h143 : x6.toInt = 0 := by omega
      refine hB _ _ _ _ (kgoC (is := KX7_readOperand_120) rfl ?_)
      refine k_aload_n rfl ?_
      refine k_iload_n rfl ?_
      have R144 := (RdC.rf : RdC p0 none 0 0 0 σ0 σ0).nf (-1000) (-1000) (by rw [c8]; omega)
      refine k_inv (P := (P_X7_readAlone d)) (Q := (Q_X7_readAlone d)) rfl rfl rfl rfl (Nat.le_of_ble_eq_true rfl) (h_0_0.rc (by decide)) ⟨_, _, rfl, H0, h_0_0, (by omega), (by omega), (rd_cd.st H0 h_0_0 (ExC.rf : ExC [0, 1, 2, 60, 61, 62, 63, 64, 65, 66, 67, 68, 69, 70, 72, 73, 74, 75, 76, 242, 243, 244, 999] σ0 σ0) R144.1 (by decide)), (R144.2.2.2.1 rd_at), ((show BgC σ0 p0 (14 + 8 * (d : Int)) 0 from (rd_bg.stn H0 h_0_0 (ExC.rf : ExC [0, 1, 2, 60, 61, 62, 63, 64, 65, 66, 67, 68, 69, 70, 72, 73, 74, 75, 76, 242, 243, 244, 999] σ0 σ0) R144 (by decide) (by rw [c8]; omega) (by omega))).1 (by rw [c8]; omega)), (by rw [c8]; omega), (by have ct := R144.2.2.1; rw [c8, c3, ct]; omega), (by omega)⟩ (fun w145 σ146 q147 => ?_)
      obtain ⟨a148, rfl, H149, e150, h152, R151, q153⟩ := q147
      have t159 := h_0_0.x e150
      obtain ⟨x154, e155, c156, h157, h158⟩ := cg242 H149.1 t159
      obtain ⟨x160, e161, c162, h163, h164⟩ := cg243 H149.1 t159
      have z165 := congrArg Int32.toInt c156
      have z166 := congrArg Int32.toInt c162
      refine k_st (st' := [.inr (.inr (some a148))]) rfl ?_
      have z167 := R144.1.1
      have R168 : RdC p0 none (0) (14 + 8 * (d : Int)) (-1000) σ0 σ146 := R144.tr ⟨R151.1, R151.2⟩ (by omega) (by omega) (by omega) (by omega)
      have z169 := R168.2.2.1
      have z170 := R168.2.2.2.1 rd_at
      refine k_areturn ?_
      have X171 : ExC [0, 1, 2, 60, 61, 62, 63, 64, 65, 66, 67, 68, 69, 70, 72, 73, 74, 75, 76, 242, 243, 244, 999] σ0 σ146 := ExC.rf.tr (e150.mo (by decide))
      exact ⟨_, rfl, H149, X171, h152, (R168.mo (by omega) (by omega) (by omega)), (by omega)⟩
    refine k_swc (fun h172 => ?_) (fun h172 => ?_)
    · have h173 : x6.toInt = 0 := by omega
      refine hB _ _ _ _ (kgoC (is := KX7_readOperand_126) rfl ?_)
      refine k_aload_n rfl ?_
      have R174 := (RdC.rf : RdC p0 none 0 0 0 σ0 σ0).nf (-1000) (-1000) (by rw [c8]; omega)
      refine k_inv (P := P_X7_readCountAhead) (Q := Q_X7_readCountAhead) rfl rfl rfl rfl (Nat.le_of_ble_eq_true rfl) (h_0_0.rc (by decide)) ⟨_, rfl, H0, h_0_0, (rd_cd.st H0 h_0_0 (ExC.rf : ExC [0, 1, 2, 60, 61, 62, 63, 64, 65, 66, 67, 68, 69, 70, 72, 73, 74, 75, 76, 242, 243, 244, 999] σ0 σ0) R174.1 (by decide)), (R174.2.2.2.1 rd_at), ((show BgC σ0 p0 (2) 0 from (rd_bg.stn H0 h_0_0 (ExC.rf : ExC [0, 1, 2, 60, 61, 62, 63, 64, 65, 66, 67, 68, 69, 70, 72, 73, 74, 75, 76, 242, 243, 244, 999] σ0 σ0) R174 (by decide) (by rw [c8]; omega) (by omega))).1 (by rw [c8]; omega)), (by rw [c8]; omega), (by have ct := R174.2.2.1; rw [c8, c3, ct]; omega)⟩ (fun w175 σ176 q177 => ?_)
      obtain ⟨a178, rfl, H179, e180, h182, R181, q183⟩ := q177
      have t189 := h_0_0.x e180
      obtain ⟨x184, e185, c186, h187, h188⟩ := cg242 H179.1 t189
      obtain ⟨x190, e191, c192, h193, h194⟩ := cg243 H179.1 t189
      have z195 := congrArg Int32.toInt c186
      have z196 := congrArg Int32.toInt c192
      refine k_st (st' := [.inr (.inr (some a178))]) rfl ?_
      have z197 := R174.1.1
      have R198 : RdC p0 none (0) (2) (-1000) σ0 σ176 := R174.tr ⟨R181.1, R181.2⟩ (by omega) (by omega) (by omega) (by omega)
      have z199 := R198.2.2.1
      have z200 := R198.2.2.2.1 rd_at
      refine k_areturn ?_
      have X201 : ExC [0, 1, 2, 60, 61, 62, 63, 64, 65, 66, 67, 68, 69, 70, 72, 73, 74, 75, 76, 242, 243, 244, 999] σ0 σ176 := ExC.rf.tr (e180.mo (by decide))
      exact ⟨_, rfl, H179, X201, h182, (R198.mo (by omega) (by omega) (by omega)), (by omega)⟩
    refine k_swc (fun h202 => ?_) (fun h202 => ?_)
    · have h203 : x6.toInt = 0 := by omega
      refine hB _ _ _ _ (kgoC (is := KX7_readOperand_126) rfl ?_)
      refine k_aload_n rfl ?_
      have R204 := (RdC.rf : RdC p0 none 0 0 0 σ0 σ0).nf (-1000) (-1000) (by rw [c8]; omega)
      refine k_inv (P := P_X7_readCountAhead) (Q := Q_X7_readCountAhead) rfl rfl rfl rfl (Nat.le_of_ble_eq_true rfl) (h_0_0.rc (by decide)) ⟨_, rfl, H0, h_0_0, (rd_cd.st H0 h_0_0 (ExC.rf : ExC [0, 1, 2, 60, 61, 62, 63, 64, 65, 66, 67, 68, 69, 70, 72, 73, 74, 75, 76, 242, 243, 244, 999] σ0 σ0) R204.1 (by decide)), (R204.2.2.2.1 rd_at), ((show BgC σ0 p0 (2) 0 from (rd_bg.stn H0 h_0_0 (ExC.rf : ExC [0, 1, 2, 60, 61, 62, 63, 64, 65, 66, 67, 68, 69, 70, 72, 73, 74, 75, 76, 242, 243, 244, 999] σ0 σ0) R204 (by decide) (by rw [c8]; omega) (by omega))).1 (by rw [c8]; omega)), (by rw [c8]; omega), (by have ct := R204.2.2.1; rw [c8, c3, ct]; omega)⟩ (fun w205 σ206 q207 => ?_)
      obtain ⟨a208, rfl, H209, e210, h212, R211, q213⟩ := q207
      have t219 := h_0_0.x e210
      obtain ⟨x214, e215, c216, h217, h218⟩ := cg242 H209.1 t219
      obtain ⟨x220, e221, c222, h223, h224⟩ := cg243 H209.1 t219
      have z225 := congrArg Int32.toInt c216
      have z226 := congrArg Int32.toInt c222
      refine k_st (st' := [.inr (.inr (some a208))]) rfl ?_
      have z227 := R204.1.1
      have R228 : RdC p0 none (0) (2) (-1000) σ0 σ206 := R204.tr ⟨R211.1, R211.2⟩ (by omega) (by omega) (by omega) (by omega)
      have z229 := R228.2.2.1
      have z230 := R228.2.2.2.1 rd_at
      refine k_areturn ?_
      have X231 : ExC [0, 1, 2, 60, 61, 62, 63, 64, 65, 66, 67, 68, 69, 70, 72, 73, 74, 75, 76, 242, 243, 244, 999] σ0 σ206 := ExC.rf.tr (e210.mo (by decide))
      exact ⟨_, rfl, H209, X231, h212, (R228.mo (by omega) (by omega) (by omega)), (by omega)⟩
    refine k_swc (fun h232 => ?_) (fun h232 => ?_)
    · have h233 : x6.toInt = 0 := by omega
      refine hB _ _ _ _ (kgoC (is := KX7_readOperand_143) rfl ?_)
      refine k_aload_n rfl ?_
      have R234 := (RdC.rf : RdC p0 none 0 0 0 σ0 σ0).nf (-1000) (-1000) (by rw [c8]; omega)
      refine k_inv (P := P_X7_readLiteral) (Q := Q_X7_readLiteral) rfl rfl rfl rfl (Nat.le_of_ble_eq_true rfl) (h_0_0.rc (by decide)) ⟨_, rfl, H0, h_0_0, (rd_cd.st H0 h_0_0 (ExC.rf : ExC [0, 1, 2, 60, 61, 62, 63, 64, 65, 66, 67, 68, 69, 70, 72, 73, 74, 75, 76, 242, 243, 244, 999] σ0 σ0) R234.1 (by decide)), (R234.2.2.2.1 rd_at), ((show BgC σ0 p0 (2) 0 from (rd_bg.stn H0 h_0_0 (ExC.rf : ExC [0, 1, 2, 60, 61, 62, 63, 64, 65, 66, 67, 68, 69, 70, 72, 73, 74, 75, 76, 242, 243, 244, 999] σ0 σ0) R234 (by decide) (by rw [c8]; omega) (by omega))).1 (by rw [c8]; omega)), (by rw [c8]; omega), (by have ct := R234.2.2.1; rw [c8, c3, ct]; omega)⟩ (fun w235 σ236 q237 => ?_)
      obtain ⟨a238, rfl, H239, e240, h242, R241, q243⟩ := q237
      have t249 := h_0_0.x e240
      obtain ⟨x244, e245, c246, h247, h248⟩ := cg242 H239.1 t249
      obtain ⟨x250, e251, c252, h253, h254⟩ := cg243 H239.1 t249
      have z255 := congrArg Int32.toInt c246
      have z256 := congrArg Int32.toInt c252
      refine k_st (st' := [.inr (.inr (some a238))]) rfl ?_
      have z257 := R234.1.1
      have R258 : RdC p0 none (0) (2) (-1000) σ0 σ236 := R234.tr ⟨R241.1, R241.2⟩ (by omega) (by omega) (by omega) (by omega)
      have z259 := R258.2.2.1
      have z260 := R258.2.2.2.1 rd_at
      refine k_areturn ?_
      have X261 : ExC [0, 1, 2, 60, 61, 62, 63, 64, 65, 66, 67, 68, 69, 70, 72, 73, 74, 75, 76, 242, 243, 244, 999] σ0 σ236 := ExC.rf.tr (e240.mo (by decide))
      exact ⟨_, rfl, H239, X261, h242, (R258.mo (by omega) (by omega) (by omega)), (by omega)⟩
    refine k_swc (fun h262 => ?_) (fun h262 => ?_)
    · have h263 : x6.toInt = 0 := by omega
      refine hB _ _ _ _ (kgoC (is := KX7_readOperand_143) rfl ?_)
      refine k_aload_n rfl ?_
      have R264 := (RdC.rf : RdC p0 none 0 0 0 σ0 σ0).nf (-1000) (-1000) (by rw [c8]; omega)
      refine k_inv (P := P_X7_readLiteral) (Q := Q_X7_readLiteral) rfl rfl rfl rfl (Nat.le_of_ble_eq_true rfl) (h_0_0.rc (by decide)) ⟨_, rfl, H0, h_0_0, (rd_cd.st H0 h_0_0 (ExC.rf : ExC [0, 1, 2, 60, 61, 62, 63, 64, 65, 66, 67, 68, 69, 70, 72, 73, 74, 75, 76, 242, 243, 244, 999] σ0 σ0) R264.1 (by decide)), (R264.2.2.2.1 rd_at), ((show BgC σ0 p0 (2) 0 from (rd_bg.stn H0 h_0_0 (ExC.rf : ExC [0, 1, 2, 60, 61, 62, 63, 64, 65, 66, 67, 68, 69, 70, 72, 73, 74, 75, 76, 242, 243, 244, 999] σ0 σ0) R264 (by decide) (by rw [c8]; omega) (by omega))).1 (by rw [c8]; omega)), (by rw [c8]; omega), (by have ct := R264.2.2.1; rw [c8, c3, ct]; omega)⟩ (fun w265 σ266 q267 => ?_)
      obtain ⟨a268, rfl, H269, e270, h272, R271, q273⟩ := q267
      have t279 := h_0_0.x e270
      obtain ⟨x274, e275, c276, h277, h278⟩ := cg242 H269.1 t279
      obtain ⟨x280, e281, c282, h283, h284⟩ := cg243 H269.1 t279
      have z285 := congrArg Int32.toInt c276
      have z286 := congrArg Int32.toInt c282
      refine k_st (st' := [.inr (.inr (some a268))]) rfl ?_
      have z287 := R264.1.1
      have R288 : RdC p0 none (0) (2) (-1000) σ0 σ266 := R264.tr ⟨R271.1, R271.2⟩ (by omega) (by omega) (by omega) (by omega)
      have z289 := R288.2.2.1
      have z290 := R288.2.2.2.1 rd_at
      refine k_areturn ?_
      have X291 : ExC [0, 1, 2, 60, 61, 62, 63, 64, 65, 66, 67, 68, 69, 70, 72, 73, 74, 75, 76, 242, 243, 244, 999] σ0 σ266 := ExC.rf.tr (e270.mo (by decide))
      exact ⟨_, rfl, H269, X291, h272, (R288.mo (by omega) (by omega) (by omega)), (by omega)⟩
    refine k_swc (fun h292 => ?_) (fun h292 => ?_)
    · have h293 : x6.toInt = 0 := by omega
      refine hB _ _ _ _ (kgoC (is := KX7_readOperand_137) rfl ?_)
      refine k_aload_n rfl ?_
      refine k_iload_n rfl ?_
      have R294 := (RdC.rf : RdC p0 none 0 0 0 σ0 σ0).nf (-1000) (-1000) (by rw [c8]; omega)
      refine k_inv (P := (P_X7_readName d)) (Q := (Q_X7_readName d)) rfl rfl rfl rfl (Nat.le_of_ble_eq_true rfl) (h_0_0.rc (by decide)) ⟨_, _, rfl, H0, h_0_0, (by omega), (by omega), (rd_cd.st H0 h_0_0 (ExC.rf : ExC [0, 1, 2, 60, 61, 62, 63, 64, 65, 66, 67, 68, 69, 70, 72, 73, 74, 75, 76, 242, 243, 244, 999] σ0 σ0) R294.1 (by decide)), (R294.2.2.2.1 rd_at), ((show BgC σ0 p0 (14 + 8 * (d : Int)) 0 from (rd_bg.stn H0 h_0_0 (ExC.rf : ExC [0, 1, 2, 60, 61, 62, 63, 64, 65, 66, 67, 68, 69, 70, 72, 73, 74, 75, 76, 242, 243, 244, 999] σ0 σ0) R294 (by decide) (by rw [c8]; omega) (by omega))).1 (by rw [c8]; omega)), (by rw [c8]; omega), (by have ct := R294.2.2.1; rw [c8, c3, ct]; omega), (by omega)⟩ (fun w295 σ296 q297 => ?_)
      obtain ⟨a298, rfl, H299, e300, h302, R301, q303⟩ := q297
      have t309 := h_0_0.x e300
      obtain ⟨x304, e305, c306, h307, h308⟩ := cg242 H299.1 t309
      obtain ⟨x310, e311, c312, h313, h314⟩ := cg243 H299.1 t309
      have z315 := congrArg Int32.toInt c306
      have z316 := congrArg Int32.toInt c312
      refine k_st (st' := [.inr (.inr (some a298))]) rfl ?_
      have z317 := R294.1.1
      have R318 : RdC p0 none (0) (14 + 8 * (d : Int)) (-1000) σ0 σ296 := R294.tr ⟨R301.1, R301.2⟩ (by omega) (by omega) (by omega) (by omega)
      have z319 := R318.2.2.1
      have z320 := R318.2.2.2.1 rd_at
      refine k_areturn ?_
      have X321 : ExC [0, 1, 2, 60, 61, 62, 63, 64, 65, 66, 67, 68, 69, 70, 72, 73, 74, 75, 76, 242, 243, 244, 999] σ0 σ296 := ExC.rf.tr (e300.mo (by decide))
      exact ⟨_, rfl, H299, X321, h302, (R318.mo (by omega) (by omega) (by omega)), (by omega)⟩
    refine k_swc (fun h322 => ?_) (fun h322 => ?_)
    · have h323 : x6.toInt = 0 := by omega
      refine hB _ _ _ _ (kgoC (is := KX7_readOperand_143) rfl ?_)
      refine k_aload_n rfl ?_
      have R324 := (RdC.rf : RdC p0 none 0 0 0 σ0 σ0).nf (-1000) (-1000) (by rw [c8]; omega)
      refine k_inv (P := P_X7_readLiteral) (Q := Q_X7_readLiteral) rfl rfl rfl rfl (Nat.le_of_ble_eq_true rfl) (h_0_0.rc (by decide)) ⟨_, rfl, H0, h_0_0, (rd_cd.st H0 h_0_0 (ExC.rf : ExC [0, 1, 2, 60, 61, 62, 63, 64, 65, 66, 67, 68, 69, 70, 72, 73, 74, 75, 76, 242, 243, 244, 999] σ0 σ0) R324.1 (by decide)), (R324.2.2.2.1 rd_at), ((show BgC σ0 p0 (2) 0 from (rd_bg.stn H0 h_0_0 (ExC.rf : ExC [0, 1, 2, 60, 61, 62, 63, 64, 65, 66, 67, 68, 69, 70, 72, 73, 74, 75, 76, 242, 243, 244, 999] σ0 σ0) R324 (by decide) (by rw [c8]; omega) (by omega))).1 (by rw [c8]; omega)), (by rw [c8]; omega), (by have ct := R324.2.2.1; rw [c8, c3, ct]; omega)⟩ (fun w325 σ326 q327 => ?_)
      obtain ⟨a328, rfl, H329, e330, h332, R331, q333⟩ := q327
      have t339 := h_0_0.x e330
      obtain ⟨x334, e335, c336, h337, h338⟩ := cg242 H329.1 t339
      obtain ⟨x340, e341, c342, h343, h344⟩ := cg243 H329.1 t339
      have z345 := congrArg Int32.toInt c336
      have z346 := congrArg Int32.toInt c342
      refine k_st (st' := [.inr (.inr (some a328))]) rfl ?_
      have z347 := R324.1.1
      have R348 : RdC p0 none (0) (2) (-1000) σ0 σ326 := R324.tr ⟨R331.1, R331.2⟩ (by omega) (by omega) (by omega) (by omega)
      have z349 := R348.2.2.1
      have z350 := R348.2.2.2.1 rd_at
      refine k_areturn ?_
      have X351 : ExC [0, 1, 2, 60, 61, 62, 63, 64, 65, 66, 67, 68, 69, 70, 72, 73, 74, 75, 76, 242, 243, 244, 999] σ0 σ326 := ExC.rf.tr (e330.mo (by decide))
      exact ⟨_, rfl, H329, X351, h332, (R348.mo (by omega) (by omega) (by omega)), (by omega)⟩
    refine k_swc (fun h352 => ?_) (fun h352 => ?_)
    · have h353 : x6.toInt = 0 := by omega
      refine hB _ _ _ _ (kgoC (is := KX7_readOperand_143) rfl ?_)
      refine k_aload_n rfl ?_
      have R354 := (RdC.rf : RdC p0 none 0 0 0 σ0 σ0).nf (-1000) (-1000) (by rw [c8]; omega)
      refine k_inv (P := P_X7_readLiteral) (Q := Q_X7_readLiteral) rfl rfl rfl rfl (Nat.le_of_ble_eq_true rfl) (h_0_0.rc (by decide)) ⟨_, rfl, H0, h_0_0, (rd_cd.st H0 h_0_0 (ExC.rf : ExC [0, 1, 2, 60, 61, 62, 63, 64, 65, 66, 67, 68, 69, 70, 72, 73, 74, 75, 76, 242, 243, 244, 999] σ0 σ0) R354.1 (by decide)), (R354.2.2.2.1 rd_at), ((show BgC σ0 p0 (2) 0 from (rd_bg.stn H0 h_0_0 (ExC.rf : ExC [0, 1, 2, 60, 61, 62, 63, 64, 65, 66, 67, 68, 69, 70, 72, 73, 74, 75, 76, 242, 243, 244, 999] σ0 σ0) R354 (by decide) (by rw [c8]; omega) (by omega))).1 (by rw [c8]; omega)), (by rw [c8]; omega), (by have ct := R354.2.2.1; rw [c8, c3, ct]; omega)⟩ (fun w355 σ356 q357 => ?_)
      obtain ⟨a358, rfl, H359, e360, h362, R361, q363⟩ := q357
      have t369 := h_0_0.x e360
      obtain ⟨x364, e365, c366, h367, h368⟩ := cg242 H359.1 t369
      obtain ⟨x370, e371, c372, h373, h374⟩ := cg243 H359.1 t369
      have z375 := congrArg Int32.toInt c366
      have z376 := congrArg Int32.toInt c372
      refine k_st (st' := [.inr (.inr (some a358))]) rfl ?_
      have z377 := R354.1.1
      have R378 : RdC p0 none (0) (2) (-1000) σ0 σ356 := R354.tr ⟨R361.1, R361.2⟩ (by omega) (by omega) (by omega) (by omega)
      have z379 := R378.2.2.1
      have z380 := R378.2.2.2.1 rd_at
      refine k_areturn ?_
      have X381 : ExC [0, 1, 2, 60, 61, 62, 63, 64, 65, 66, 67, 68, 69, 70, 72, 73, 74, 75, 76, 242, 243, 244, 999] σ0 σ356 := ExC.rf.tr (e360.mo (by decide))
      exact ⟨_, rfl, H359, X381, h362, (R378.mo (by omega) (by omega) (by omega)), (by omega)⟩
    refine k_swc (fun h382 => ?_) (fun h382 => ?_)
    · have h383 : x6.toInt = 0 := by omega
      refine hB _ _ _ _ (kgoC (is := KX7_readOperand_143) rfl ?_)
      refine k_aload_n rfl ?_
      have R384 := (RdC.rf : RdC p0 none 0 0 0 σ0 σ0).nf (-1000) (-1000) (by rw [c8]; omega)
      refine k_inv (P := P_X7_readLiteral) (Q := Q_X7_readLiteral) rfl rfl rfl rfl (Nat.le_of_ble_eq_true rfl) (h_0_0.rc (by decide)) ⟨_, rfl, H0, h_0_0, (rd_cd.st H0 h_0_0 (ExC.rf : ExC [0, 1, 2, 60, 61, 62, 63, 64, 65, 66, 67, 68, 69, 70, 72, 73, 74, 75, 76, 242, 243, 244, 999] σ0 σ0) R384.1 (by decide)), (R384.2.2.2.1 rd_at), ((show BgC σ0 p0 (2) 0 from (rd_bg.stn H0 h_0_0 (ExC.rf : ExC [0, 1, 2, 60, 61, 62, 63, 64, 65, 66, 67, 68, 69, 70, 72, 73, 74, 75, 76, 242, 243, 244, 999] σ0 σ0) R384 (by decide) (by rw [c8]; omega) (by omega))).1 (by rw [c8]; omega)), (by rw [c8]; omega), (by have ct := R384.2.2.1; rw [c8, c3, ct]; omega)⟩ (fun w385 σ386 q387 => ?_)
      obtain ⟨a388, rfl, H389, e390, h392, R391, q393⟩ := q387
      have t399 := h_0_0.x e390
      obtain ⟨x394, e395, c396, h397, h398⟩ := cg242 H389.1 t399
      obtain ⟨x400, e401, c402, h403, h404⟩ := cg243 H389.1 t399
      have z405 := congrArg Int32.toInt c396
      have z406 := congrArg Int32.toInt c402
      refine k_st (st' := [.inr (.inr (some a388))]) rfl ?_
      have z407 := R384.1.1
      have R408 : RdC p0 none (0) (2) (-1000) σ0 σ386 := R384.tr ⟨R391.1, R391.2⟩ (by omega) (by omega) (by omega) (by omega)
      have z409 := R408.2.2.1
      have z410 := R408.2.2.2.1 rd_at
      refine k_areturn ?_
      have X411 : ExC [0, 1, 2, 60, 61, 62, 63, 64, 65, 66, 67, 68, 69, 70, 72, 73, 74, 75, 76, 242, 243, 244, 999] σ0 σ386 := ExC.rf.tr (e390.mo (by decide))
      exact ⟨_, rfl, H389, X411, h392, (R408.mo (by omega) (by omega) (by omega)), (by omega)⟩
    refine k_swn ?_
    refine hB _ _ _ _ (kgoC (is := KX7_readOperand_148) rfl ?_)
    refine k_aload_n rfl ?_
    refine k_iconst (m := 2) rfl (fun x412 h413 => ?_)
    refine k_inv (P := P_X7_raise) (Q := Q_X7_raise) rfl rfl rfl rfl (Nat.le_of_ble_eq_true rfl) (h_0_0.rc (by decide)) ⟨_, _, rfl, H0, h_0_0, (by omega), (by omega), (rd_cd.st H0 h_0_0 (ExC.rf : ExC [0, 1, 2, 60, 61, 62, 63, 64, 65, 66, 67, 68, 69, 70, 72, 73, 74, 75, 76, 242, 243, 244, 999] σ0 σ0) (RdC.rf : RdC p0 none 0 0 0 σ0 σ0).1 (by decide)), ((RdC.rf : RdC p0 none 0 0 0 σ0 σ0).2.2.2.1 rd_at), (rd_bg.st H0 h_0_0 (ExC.rf : ExC [0, 1, 2, 60, 61, 62, 63, 64, 65, 66, 67, 68, 69, 70, 72, 73, 74, 75, 76, 242, 243, 244, 999] σ0 σ0) (RdC.rf : RdC p0 none 0 0 0 σ0 σ0) (by decide) (by omega) (by omega) (by omega))⟩ (fun w414 σ415 q416 => ?_)
    obtain ⟨rfl, H417, e418, R419, q420⟩ := q416
    have c421 := (h_0_0.mi e418 (by decide)).trans c3
    have t427 := h_0_0.x e418
    obtain ⟨x422, e423, c424, h425, h426⟩ := cg243 H417.1 t427
    have z428 := congrArg Int32.toInt c421
    have z429 := congrArg Int32.toInt c424
    refine k_st (st' := []) rfl ?_
    have h430 : 1 ≤ x422.toInt := by have hq := q420; rw [c424] at hq; omega
    refine k_aload_n rfl ?_
    refine k_iconst (m := 1) rfl (fun x431 h432 => ?_)
    refine k_iconst (m := (-1)) rfl (fun x433 h434 => ?_)
    have R435 : RdC p0 none (0) (0) (0) σ0 σ415 := (RdC.rf : RdC p0 none 0 0 0 σ0 σ0).tr ⟨R419.1, R419.2⟩ (by omega) (by omega) (by omega) (by omega)
    have X436 : ExC [0, 1, 2, 60, 61, 62, 63, 64, 65, 66, 67, 68, 69, 70, 72, 73, 74, 75, 76, 242, 243, 244, 999] σ0 σ415 := ExC.rf.tr (e418.mo (by decide))
    refine k_inv (P := P_X7_opened) (Q := Q_X7_opened) rfl rfl rfl rfl (Nat.le_of_ble_eq_true rfl) (t427.rc (by decide)) ⟨_, _, _, rfl, H417, t427, (rd_cd.st H0 h_0_0 X436 R435.1 (by decide)), (R435.2.2.2.1 rd_at), (rd_bg.st H0 h_0_0 X436 R435 (by decide) (by omega) (by omega) (by omega)), (by omega)⟩ (fun w437 σ438 q439 => ?_)
    obtain ⟨a440, rfl, H441, e442, h444, R443, q445⟩ := q439
    have c446 := (t427.mi e442 (by decide)).trans c421
    have c447 := (t427.mi e442 (by decide)).trans c424
    have z448 := congrArg Int32.toInt c446
    have z449 := congrArg Int32.toInt c447
    refine k_st (st' := [.inr (.inr (some a440))]) rfl ?_
    have z450 := R435.1.1
    have R451 : RdC p0 none (1) (1) (1) σ0 σ438 := R435.tr ⟨R443.1, R443.2⟩ (by omega) (by omega) (by omega) (by omega)
    have z452 := R451.2.2.1
    have z453 := R451.2.2.2.1 rd_at
    refine k_areturn ?_
    have X454 : ExC [0, 1, 2, 60, 61, 62, 63, 64, 65, 66, 67, 68, 69, 70, 72, 73, 74, 75, 76, 242, 243, 244, 999] σ0 σ438 := X436.tr (e442.mo (by decide))
    exact ⟨_, rfl, H441, X454, h444, ((R451.ft (0) (by rw [c447]; omega)).mo (by omega) (by omega) (by omega)), (by omega)⟩

set_option maxRecDepth 100000 in
set_option maxHeartbeats 4000000 in
theorem s_X7_readChoice (l : Launch) (d : Nat) (h_X7_readChain : CMetC l (13 * (d + 1) + 34) 167 (P_X7_readChain (d + 1)) (Q_X7_readChain (d + 1))) (h_X7_readExp : CMetC l (13 * d + 36) 164 (P_X7_readExp d) (Q_X7_readExp d)) (h_X7_readChoice : CMetC l (13 * d + 35) 166 (P_X7_readChoice d) (Q_X7_readChoice d)) : CMetC l (13 * (d + 1) + 35) 166 (P_X7_readChoice (d + 1)) (Q_X7_readChoice (d + 1)) := by
  refine CMetC.of KX7_readChoice [(234, P_Jx4a65c_size_8abf5, Q_Jx4a65c_size_8abf5), (167, (P_X7_readChain (d + 1)), (Q_X7_readChain (d + 1))), (125, P_X7_code, Q_X7_code), (17, P_X1_init, Q_X1_init), (163, P_X7_putMark, Q_X7_putMark), (128, P_X7_accept, Q_X7_accept), (164, (P_X7_readExp d), (Q_X7_readExp d)), (129, P_X7_expect, Q_X7_expect), (131, P_X7_isTooDeep, Q_X7_isTooDeep), (166, (P_X7_readChoice d), (Q_X7_readChoice d)), (161, P_X7_put, Q_X7_put), (162, P_X7_opened, Q_X7_opened)] hX7_readChoice (by decide) (by omega) okX7_readChoice (cc1C (m_Jx4a65c_size_8abf5 l) (by omega) (cc1C h_X7_readChain (by omega) (cc1C (m_X7_code l) (by omega) (cc1C (m_X1_init l) (by omega) (cc1C (m_X7_putMark l) (by omega) (cc1C (m_X7_accept l) (by omega) (cc1C h_X7_readExp (by omega) (cc1C (m_X7_expect l) (by omega) (cc1C (m_X7_isTooDeep l) (by omega) (cc1C h_X7_readChoice (by omega) (cc1C (m_X7_put l) (by omega) (cc1C (m_X7_opened l) (by omega) cc0C)))))))))))) ?_ ?_
  · rintro As σ ⟨p0, p1, rfl, -⟩
    exact Nat.le_of_ble_eq_true rfl
  · rintro As σ0 ⟨p0, p1, rfl, H0, h_0_0, h_1_0, h_1_1, rd_cd, rd_at, rd_bg, rd_dp⟩ hgr G hB hW
    change G 0 [(0, .inr (.inr (some p0))), (1, .inl p1)] [] σ0
    obtain ⟨x1, e2, c3, h4, h5⟩ := cg242 H0.1 h_0_0
    obtain ⟨x6, e7, c8, h9, h10⟩ := cg243 H0.1 h_0_0
    have z11 := congrArg Int32.toInt c3
    have z12 := congrArg Int32.toInt c8
    refine hB _ _ _ _ (kgoC (is := KX7_readChoice_0) rfl ?_)
    refine k_aload_n rfl ?_
    refine k_get kg242 h_0_0 (congrArg (Sum.inl : Int32 → AvC) c3) ?_
    refine k_istore_n (ls' := [(2, .inl x1), (0, .inr (.inr (some p0))), (1, .inl p1)]) rfl ?_
    refine k_aload_n rfl ?_
    obtain ⟨a15, e13, c14, t16⟩ := cg240 H0.1 h_0_0
    refine k_get kg240 h_0_0 e13 ?_
    obtain ⟨a19, e17, c18, t20, l21⟩ := cg213 H0.1 t16
    refine k_get kg213 t16 e17 ?_
    refine k_inv (P := P_Jx4a65c_size_8abf5) (Q := Q_Jx4a65c_size_8abf5) rfl rfl rfl rfl (Nat.le_of_ble_eq_true rfl) (t20.rc (by decide)) ⟨_, rfl, H0, t20⟩ (fun w22 σ23 q24 => ?_)
    obtain ⟨x25, rfl, rfl, h26, h27, q28, q29⟩ := q24
    refine k_st (st' := [.inl x25]) rfl ?_
    refine k_istore_n (ls' := [(3, .inl x25), (2, .inl x1), (0, .inr (.inr (some p0))), (1, .inl p1)]) rfl ?_
    refine k_aload_n rfl ?_
    refine k_iload_n rfl ?_
    refine k_inv (P := (P_X7_readChain (d + 1))) (Q := (Q_X7_readChain (d + 1))) rfl rfl rfl rfl (Nat.le_of_ble_eq_true rfl) (h_0_0.rc (by decide)) ⟨_, _, rfl, H0, h_0_0, (by omega), (by omega), (rd_cd.st H0 h_0_0 (ExC.rf : ExC [0, 1, 2, 60, 61, 62, 63, 64, 65, 66, 67, 68, 69, 70, 72, 73, 74, 75, 76, 242, 243, 244, 999] σ0 σ0) (RdC.rf : RdC p0 none 0 0 0 σ0 σ0).1 (by decide)), ((RdC.rf : RdC p0 none 0 0 0 σ0 σ0).2.2.2.1 rd_at), (rd_bg.st H0 h_0_0 (ExC.rf : ExC [0, 1, 2, 60, 61, 62, 63, 64, 65, 66, 67, 68, 69, 70, 72, 73, 74, 75, 76, 242, 243, 244, 999] σ0 σ0) (RdC.rf : RdC p0 none 0 0 0 σ0 σ0) (by decide) (by omega) (by omega) (by omega)), (by omega)⟩ (fun w30 σ31 q32 => ?_)
    obtain ⟨a33, rfl, H34, e35, h37, R36, q38⟩ := q32
    have t44 := h_0_0.x e35
    obtain ⟨x39, e40, c41, h42, h43⟩ := cg242 H34.1 t44
    obtain ⟨x45, e46, c47, h48, h49⟩ := cg243 H34.1 t44
    have z50 := congrArg Int32.toInt c41
    have z51 := congrArg Int32.toInt c47
    refine k_st (st' := [.inr (.inr (some a33))]) rfl ?_
    have z52 := (RdC.rf : RdC p0 none 0 0 0 σ0 σ0).1.1
    have R53 : RdC p0 none (0) (27 + 8 * (d : Int)) (1) σ0 σ31 := (RdC.rf : RdC p0 none 0 0 0 σ0 σ0).tr ⟨R36.1, R36.2⟩ (by omega) (by omega) (by omega) (by omega)
    have z54 := R53.2.2.1
    have z55 := R53.2.2.2.1 rd_at
    refine k_astore (ls' := [(4, .inr (.inr (some a33))), (3, .inl x25), (2, .inl x1), (0, .inr (.inr (some p0))), (1, .inl p1)]) rfl ?_
    refine k_aload_n rfl ?_
    have X56 : ExC [0, 1, 2, 60, 61, 62, 63, 64, 65, 66, 67, 68, 69, 70, 72, 73, 74, 75, 76, 242, 243, 244, 999] σ0 σ31 := ExC.rf.tr (e35.mo (by decide))
    refine k_inv (P := P_X7_code) (Q := Q_X7_code) rfl rfl rfl rfl (Nat.le_of_ble_eq_true rfl) (t44.rc (by decide)) ⟨_, rfl, H34, t44, (rd_cd.st H0 h_0_0 X56 R53.1 (by decide))⟩ (fun w57 σ58 q59 => ?_)
    obtain ⟨x60, rfl, rfl, q61, q62, q63⟩ := q59
    refine k_st (st' := [.inl x60]) rfl ?_
    refine k_bipush (m := 7) rfl (fun x64 h65 => ?_)
    refine k_ic_eq (fun h66 => ?_) (fun h66 => ?_)
    · have h67 : x45.toInt = 0 := by omega
      refine hB _ _ _ _ (kgoC (is := KX7_readChoice_35) rfl ?_)
      have R68 := R53.nf (-1000) (-1000) (by rw [c47]; omega)
      have B69 : BgC σ31 p0 1 1 := rd_bg.stn H0 h_0_0 X56 R68 (by decide) (by rw [c47]; omega) (by omega)
      obtain ⟨h70, h71⟩ := B69.new H34.1 t44 (u := 1) (by omega) (by omega)
      have z72 := R68.1.1
      refine k_new (c := 2) (g := 0) H34 (by decide) rfl (by omega) (by have hn : nfC 2 = 18 := rfl; omega) (fun a73 σ74 q75 H76 e77 r78 z79 l80 u81 u82 => ?_)
      rw [show nfC 2 = 18 from rfl] at u82
      have u83 : cpC σ74 = cpC σ31 := congrArg Prod.fst e77.2.1.1
      have u84 : spC σ74 = spC σ31 := congrArg Prod.snd e77.2.1.1
      refine k_dupR ?_
      refine k_bipush (m := 8) rfl (fun x85 h86 => ?_)
      refine k_bipush (m := 7) rfl (fun x87 h88 => ?_)
      refine k_iload_n rfl ?_
      refine k_iload_n rfl ?_
      refine k_spec (P := P_X1_init) (Q := Q_X1_init) rfl rfl rfl rfl (Nat.le_of_ble_eq_true rfl) ⟨_, _, _, _, _, rfl, H76, r78, z79, (by omega), (by omega), (by omega), (by omega), (by omega)⟩ (fun w89 σ90 q91 => ?_)
      have t99 := t44.x e77
      obtain ⟨rfl, H92, e93, t94, t94', l95, u96, u97, g98, q101, q102, q103, q104⟩ := q91
      have l100 := l95.trans l80
      have c105 := (t44.mi e77 (by decide)).trans c41
      have c106 := (t99.mit r78 (by decide) e93 (by decide)).trans c105
      have c107 := (t44.mi e77 (by decide)).trans c47
      have c108 := (t99.mit r78 (by decide) e93 (by decide)).trans c107
      have z109 := congrArg Int32.toInt c106
      have z110 := congrArg Int32.toInt c108
      refine k_st (st' := [.inr (.inr (some a73))]) rfl ?_
      have t111 : TyC σ90 a73 2 := ⟨t94, t94', fun _ hz => by have z1 := congrArg Int32.toInt (q101.symm.trans hz.1); have z2 : (7 : Int32).toInt = 7 := rfl; omega⟩
      refine k_astore (ls' := [(5, .inr (.inr (some a73))), (4, .inr (.inr (some a33))), (3, .inl x25), (2, .inl x1), (0, .inr (.inr (some p0))), (1, .inl p1)]) rfl ?_
      refine k_aload rfl ?_
      refine k_aload rfl ?_
      have t116 := h37.x e77
      have t117 := t116.xt r78 (by decide) e93
      refine k_putR kp72 H92 t111 fk72 (rf72 t117) (fun σ112 H113 e114 c115 => ?_)
      refine k_aload_n rfl ?_
      refine k_bipush (m := 12) rfl (fun x118 h119 => ?_)
      refine k_bipush (m := 7) rfl (fun x120 h121 => ?_)
      have t122 := t99.xt r78 (by decide) e93
      have t123 := t122.x e114
      have R124 : RdC p0 none (1) (1) (-999) σ0 σ74 := R68.tr ⟨(e77.gwn H34.1 u81 u82 (by decide) (by rw [← q75]; exact r78.n0)), (e77.cou (u := 1) H34.1 t44 (by decide) (by omega))⟩ (by omega) (by omega) (by omega) (by omega)
      have R125 : RdC p0 none (1) (1) (-999) σ0 σ90 := R124.tr ⟨g98, (e93.co (u := 0) H76.1 t99 r78 (by decide) (by omega))⟩ (by omega) (by omega) (by omega) (by omega)
      have R126 : RdC p0 none (1) (1) (-999) σ0 σ112 := R125.tr ⟨(e114.gw H92.1 (by decide)), (e114.cou (u := 0) H92.1 t122 (by decide) (by rw [e114.cn (by decide)]; omega))⟩ (by omega) (by omega) (by omega) (by omega)
      have c127 := (t122.mi e114 (by decide)).trans c108
      have R128 := R126.nf (-1000) (-1000) (by rw [c127]; omega)
      have X129 : ExC [0, 1, 2, 60, 61, 62, 63, 64, 65, 66, 67, 68, 69, 70, 72, 73, 74, 75, 76, 242, 243, 244, 999] σ31 σ74 := ExC.rf.tr (e77.mo (by decide))
      have X130 : ExC [0, 1, 2, 60, 61, 62, 63, 64, 65, 66, 67, 68, 69, 70, 72, 73, 74, 75, 76, 242, 243, 244, 999] σ31 σ90 := (X129 : ExC [0, 1, 2, 60, 61, 62, 63, 64, 65, 66, 67, 68, 69, 70, 72, 73, 74, 75, 76, 242, 243, 244, 999] σ31 σ74).nt (Nat.le_of_eq q75.symm) (e93.mo (by decide))
      have X131 : ExC [0, 1, 2, 60, 61, 62, 63, 64, 65, 66, 67, 68, 69, 70, 72, 73, 74, 75, 76, 242, 243, 244, 999] σ0 σ90 := X56.tr X130
      have X132 : ExC [0, 1, 2, 60, 61, 62, 63, 64, 65, 66, 67, 68, 69, 70, 72, 73, 74, 75, 76, 242, 243, 244, 999] σ0 σ112 := X131.tr (e114.mo (by decide))
      have c133 := (t122.mi e114 (by decide)).trans c106
      have z134 := congrArg Int32.toInt c133
      have z135 := congrArg Int32.toInt c127
      refine k_inv (P := P_X7_putMark) (Q := Q_X7_putMark) rfl rfl rfl rfl (Nat.le_of_ble_eq_true rfl) (t123.rc (by decide)) ⟨_, _, _, rfl, H113, t123, (rd_cd.st H0 h_0_0 X132 R128.1 (by decide)), (R128.2.2.2.1 rd_at), (rd_bg.stn H0 h_0_0 X132 R128 (by decide) (by rw [c127]; omega) (by omega)), (by omega)⟩ (fun w136 σ137 q138 => ?_)
      obtain ⟨a139, rfl, H140, e141, h143, R142, q144⟩ := q138
      have c145 := (t123.mi e141 (by decide)).trans c133
      have c146 := (t123.mi e141 (by decide)).trans c127
      have z147 := congrArg Int32.toInt c145
      have z148 := congrArg Int32.toInt c146
      refine k_st (st' := [.inr (.inr (some a139))]) rfl ?_
      have z149 := R128.1.1
      have R150 : RdC p0 none (3) (3) (-998) σ0 σ137 := R128.tr ⟨R142.1, R142.2⟩ (by omega) (by omega) (by omega) (by omega)
      have R151 := R150.nf (-1000) (-1000) (by rw [c146]; omega)
      have z152 := R151.2.2.1
      have z153 := R151.2.2.2.1 rd_at
      refine k_astore (ls' := [(6, .inr (.inr (some a139))), (5, .inr (.inr (some a73))), (4, .inr (.inr (some a33))), (3, .inl x25), (2, .inl x1), (0, .inr (.inr (some p0))), (1, .inl p1)]) rfl ?_
      refine k_aload_n rfl ?_
      have t154 := t123.x e141
      have X155 : ExC [0, 1, 2, 60, 61, 62, 63, 64, 65, 66, 67, 68, 69, 70, 72, 73, 74, 75, 76, 242, 243, 244, 999] σ0 σ137 := X132.tr (e141.mo (by decide))
      refine k_inv (P := P_X7_accept) (Q := Q_X7_accept) rfl rfl rfl rfl (Nat.le_of_ble_eq_true rfl) (t154.rc (by decide)) ⟨_, rfl, H140, t154, (rd_cd.st H0 h_0_0 X155 R151.1 (by decide)), (R151.2.2.2.1 rd_at), (rd_bg.stn H0 h_0_0 X155 R151 (by decide) (by rw [c146]; omega) (by omega)), (by have ct := R151.2.2.1; rw [c146, c145, ct]; omega)⟩ (fun w156 σ157 q158 => ?_)
      obtain ⟨rfl, H159, e160, R161, q162⟩ := q158
      have t168 := t154.x e160
      obtain ⟨x163, e164, c165, h166, h167⟩ := cg242 H159.1 t168
      obtain ⟨x169, e170, c171, h172, h173⟩ := cg243 H159.1 t168
      have z174 := congrArg Int32.toInt c165
      have z175 := congrArg Int32.toInt c171
      refine k_st (st' := []) rfl ?_
      have R176 : RdC p0 none (-5) (3) (-1000) σ0 σ157 := R151.tr ⟨R161.1, R161.2⟩ (by omega) (by omega) (by omega) (by omega)
      have z177 := R176.2.2.1
      have z178 := R176.2.2.2.1 rd_at
      refine k_aload rfl ?_
      refine k_aload_n rfl ?_
      refine k_iload_n rfl ?_
      refine k_iconst (m := 1) rfl (fun x179 h180 => ?_)
      refine k_iadd (by omega) (by omega) (fun x181 h182 => ?_)
      have X183 : ExC [0, 1, 2, 60, 61, 62, 63, 64, 65, 66, 67, 68, 69, 70, 72, 73, 74, 75, 76, 242, 243, 244, 999] σ0 σ157 := X155.tr (e160.mo (by decide))
      refine k_inv (P := (P_X7_readExp d)) (Q := (Q_X7_readExp d)) rfl rfl rfl rfl (Nat.le_of_ble_eq_true rfl) (t168.rc (by decide)) ⟨_, _, rfl, H159, t168, (by omega), (by omega), (rd_cd.st H0 h_0_0 X183 R176.1 (by decide)), (R176.2.2.2.1 rd_at), (rd_bg.st H0 h_0_0 X183 R176 (by decide) (by omega) (by omega) (by omega)), (by omega)⟩ (fun w184 σ185 q186 => ?_)
      obtain ⟨a187, rfl, H188, e189, h191, R190, q192⟩ := q186
      have t198 := t168.x e189
      obtain ⟨x193, e194, c195, h196, h197⟩ := cg242 H188.1 t198
      obtain ⟨x199, e200, c201, h202, h203⟩ := cg243 H188.1 t198
      have z204 := congrArg Int32.toInt c195
      have z205 := congrArg Int32.toInt c201
      refine k_st (st' := [.inr (.inr (some a187)), .inr (.inr (some a73))]) rfl ?_
      have z206 := R176.1.1
      have R207 : RdC p0 none (-5) (15 + 8 * (d : Int)) (-999) σ0 σ185 := R176.tr ⟨R190.1, R190.2⟩ (by omega) (by omega) (by omega) (by omega)
      have z208 := R207.2.2.1
      have z209 := R207.2.2.2.1 rd_at
      have t215 := t111.x e114
      have t216 := t215.x e141
      have t217 := t216.x e160
      have t218 := t217.x e189
      refine k_p73 H188 t218 h191 (fun σ210 H211 e212 g213 c214 => ?_)
      refine k_aload rfl ?_
      refine k_aload_n rfl ?_
      refine k_bipush (m := 13) rfl (fun x219 h220 => ?_)
      refine k_bipush (m := 7) rfl (fun x221 h222 => ?_)
      have t223 := t198.x e212
      have R224 : RdC p0 none (-5) (15 + 8 * (d : Int)) (-999) σ0 σ210 := R207.tr ⟨g213, (e212.cou (u := 0) H188.1 t198 (by decide) (by rw [e212.cn (by decide)]; omega))⟩ (by omega) (by omega) (by omega) (by omega)
      have c225 := (t198.mi e212 (by decide)).trans c201
      have X226 : ExC [0, 1, 2, 60, 61, 62, 63, 64, 65, 66, 67, 68, 69, 70, 72, 73, 74, 75, 76, 242, 243, 244, 999] σ0 σ185 := X183.tr (e189.mo (by decide))
      have X227 : ExC [0, 1, 2, 60, 61, 62, 63, 64, 65, 66, 67, 68, 69, 70, 72, 73, 74, 75, 76, 242, 243, 244, 999] σ0 σ210 := X226.tr (e212.mo (by decide))
      have c228 := (t198.mi e212 (by decide)).trans c195
      have z229 := congrArg Int32.toInt c228
      have z230 := congrArg Int32.toInt c225
      refine k_inv (P := P_X7_putMark) (Q := Q_X7_putMark) rfl rfl rfl rfl (Nat.le_of_ble_eq_true rfl) (t223.rc (by decide)) ⟨_, _, _, rfl, H211, t223, (rd_cd.st H0 h_0_0 X227 R224.1 (by decide)), (R224.2.2.2.1 rd_at), (rd_bg.st H0 h_0_0 X227 R224 (by decide) (by omega) (by omega) (by omega)), (by omega)⟩ (fun w231 σ232 q233 => ?_)
      obtain ⟨a234, rfl, H235, e236, h238, R237, q239⟩ := q233
      have c240 := (t223.mi e236 (by decide)).trans c228
      have c241 := (t223.mi e236 (by decide)).trans c225
      have z242 := congrArg Int32.toInt c240
      have z243 := congrArg Int32.toInt c241
      refine k_st (st' := [.inr (.inr (some a234)), .inr (.inr (some a73))]) rfl ?_
      have z244 := R224.1.1
      have R245 : RdC p0 none (-3) (17 + 8 * (d : Int)) (-997) σ0 σ232 := R224.tr ⟨R237.1, R237.2⟩ (by omega) (by omega) (by omega) (by omega)
      have z246 := R245.2.2.1
      have z247 := R245.2.2.2.1 rd_at
      have t248 := t218.x e212
      have t249 := t248.x e236
      refine k_putR kp76 H235 t249 fk76 (rf76 h238) (fun σ250 H251 e252 c253 => ?_)
      refine k_aload rfl ?_
      have t254 := t249.x e252
      refine k_get kg76 t254 (congrArg (fun z : Option Nat => (Sum.inr (Sum.inr z) : AvC)) c253) ?_
      refine k_aload rfl ?_
      have t255 := h238.x e252
      have t260 := h143.x e160
      have t261 := t260.x e189
      have t262 := t261.x e212
      have t263 := t262.x e236
      have t264 := t263.x e252
      refine k_putR kp76 H251 t255 fk76 (rf76 t264) (fun σ256 H257 e258 c259 => ?_)
      refine k_aload_n rfl ?_
      refine k_bipush (m := 6) rfl (fun x265 h266 => ?_)
      have t267 := t223.x e236
      have t268 := t267.x e252
      have t269 := t268.x e258
      have R270 : RdC p0 none (-3) (17 + 8 * (d : Int)) (-997) σ0 σ250 := R245.tr ⟨(e252.gw H235.1 (by decide)), (e252.cou (u := 0) H235.1 t267 (by decide) (by rw [e252.cn (by decide)]; omega))⟩ (by omega) (by omega) (by omega) (by omega)
      have R271 : RdC p0 none (-3) (17 + 8 * (d : Int)) (-997) σ0 σ256 := R270.tr ⟨(e258.gw H251.1 (by decide)), (e258.cou (u := 0) H251.1 t268 (by decide) (by rw [e258.cn (by decide)]; omega))⟩ (by omega) (by omega) (by omega) (by omega)
      have c272 := (t267.mi e252 (by decide)).trans c241
      have c273 := (t268.mi e258 (by decide)).trans c272
      have X274 : ExC [0, 1, 2, 60, 61, 62, 63, 64, 65, 66, 67, 68, 69, 70, 72, 73, 74, 75, 76, 242, 243, 244, 999] σ0 σ232 := X227.tr (e236.mo (by decide))
      have X275 : ExC [0, 1, 2, 60, 61, 62, 63, 64, 65, 66, 67, 68, 69, 70, 72, 73, 74, 75, 76, 242, 243, 244, 999] σ0 σ250 := X274.tr (e252.mo (by decide))
      have X276 : ExC [0, 1, 2, 60, 61, 62, 63, 64, 65, 66, 67, 68, 69, 70, 72, 73, 74, 75, 76, 242, 243, 244, 999] σ0 σ256 := X275.tr (e258.mo (by decide))
      have c277 := (t267.mi e252 (by decide)).trans c240
      have c278 := (t268.mi e258 (by decide)).trans c277
      have z279 := congrArg Int32.toInt c278
      have z280 := congrArg Int32.toInt c273
      refine k_inv (P := P_X7_expect) (Q := Q_X7_expect) rfl rfl rfl rfl (Nat.le_of_ble_eq_true rfl) (t269.rc (by decide)) ⟨_, _, rfl, H257, t269, (by omega), (by omega), (rd_cd.st H0 h_0_0 X276 R271.1 (by decide)), (R271.2.2.2.1 rd_at), (rd_bg.st H0 h_0_0 X276 R271 (by decide) (by omega) (by omega) (by omega))⟩ (fun w281 σ282 q283 => ?_)
      obtain ⟨rfl, H284, e285, R286, q287⟩ := q283
      have t293 := t269.x e285
      obtain ⟨x288, e289, c290, h291, h292⟩ := cg242 H284.1 t293
      obtain ⟨x294, e295, c296, h297, h298⟩ := cg243 H284.1 t293
      have z299 := congrArg Int32.toInt c290
      have z300 := congrArg Int32.toInt c296
      refine k_st (st' := []) rfl ?_
      have R301 : RdC p0 none (-11) (17 + 8 * (d : Int)) (-997) σ0 σ282 := R271.tr ⟨R286.1, R286.2⟩ (by omega) (by omega) (by omega) (by omega)
      have z302 := R301.2.2.1
      have z303 := R301.2.2.2.1 rd_at
      refine k_aload rfl ?_
      refine k_aload_n rfl ?_
      refine k_iload_n rfl ?_
      refine k_iconst (m := 1) rfl (fun x304 h305 => ?_)
      refine k_iadd (by omega) (by omega) (fun x306 h307 => ?_)
      have X308 : ExC [0, 1, 2, 60, 61, 62, 63, 64, 65, 66, 67, 68, 69, 70, 72, 73, 74, 75, 76, 242, 243, 244, 999] σ0 σ282 := X276.tr (e285.mo (by decide))
      refine k_inv (P := P_X7_isTooDeep) (Q := Q_X7_isTooDeep) rfl rfl rfl rfl (Nat.le_of_ble_eq_true rfl) (t293.rc (by decide)) ⟨_, _, rfl, H284, t293, (rd_cd.st H0 h_0_0 X308 R301.1 (by decide)), (R301.2.2.2.1 rd_at), (rd_bg.st H0 h_0_0 X308 R301 (by decide) (by omega) (by omega) (by omega))⟩ (fun w309 σ310 q311 => ?_)
      obtain ⟨x312, rfl, H313, e314, h316, h317, R315, q318, q319⟩ := q311
      have c320 := (t293.mi e314 (by decide)).trans c290
      have t326 := t293.x e314
      obtain ⟨x321, e322, c323, h324, h325⟩ := cg243 H313.1 t326
      have z327 := congrArg Int32.toInt c320
      have z328 := congrArg Int32.toInt c323
      refine k_st (st' := [.inl x312, .inr (.inr (some a73))]) rfl ?_
      rcases (by omega : x312.toInt = 0 ∨ x312.toInt = 1) with g329 | g329
      · have h330 := q319 (by omega)
        refine k_if_eq (fun h331 => ?_) (fun h331 => by exfalso; omega)
        refine hB _ _ _ _ (kgoC (is := KX7_readChoice_133) rfl ?_)
        refine k_aload_n rfl ?_
        refine k_iload_n rfl ?_
        refine k_iconst (m := 1) rfl (fun x332 h333 => ?_)
        refine k_iadd (by omega) (by omega) (fun x334 h335 => ?_)
        have R336 : RdC p0 none (-11) (17 + 8 * (d : Int)) (-997) σ0 σ310 := R301.tr ⟨R315.1, R315.2⟩ (by omega) (by omega) (by omega) (by omega)
        have X337 : ExC [0, 1, 2, 60, 61, 62, 63, 64, 65, 66, 67, 68, 69, 70, 72, 73, 74, 75, 76, 242, 243, 244, 999] σ0 σ310 := X308.tr (e314.mo (by decide))
        refine k_inv (P := (P_X7_readChoice d)) (Q := (Q_X7_readChoice d)) rfl rfl rfl rfl (Nat.le_of_ble_eq_true rfl) (t326.rc (by decide)) ⟨_, _, rfl, H313, t326, (by omega), (by omega), (rd_cd.st H0 h_0_0 X337 R336.1 (by decide)), (R336.2.2.2.1 rd_at), (rd_bg.st H0 h_0_0 X337 R336 (by decide) (by omega) (by omega) (by omega)), (by omega)⟩ (fun w338 σ339 q340 => ?_)
        obtain ⟨a341, rfl, H342, e343, h345, R344, q346⟩ := q340
        have t352 := t326.x e343
        obtain ⟨x347, e348, c349, h350, h351⟩ := cg242 H342.1 t352
        obtain ⟨x353, e354, c355, h356, h357⟩ := cg243 H342.1 t352
        have z358 := congrArg Int32.toInt c349
        have z359 := congrArg Int32.toInt c355
        refine k_st (st' := [.inr (.inr (some a341)), .inr (.inr (some a73))]) rfl ?_
        have z360 := R336.1.1
        have R361 : RdC p0 none (-11) (18 + 8 * (d : Int)) (-996) σ0 σ339 := R336.tr ⟨R344.1, R344.2⟩ (by omega) (by omega) (by omega) (by omega)
        have z362 := R361.2.2.1
        have z363 := R361.2.2.2.1 rd_at
        refine k_nil ?_
        refine hB _ _ _ _ (kgoC (is := KX7_readChoice_140) rfl ?_)
        have t364 := t254.x e258
        have t365 := t364.x e285
        have t366 := t365.x e314
        have t367 := t366.x e343
        refine k_putR kp74 H342 t367 fk74 (rf74 h345) (fun σ368 H369 e370 c371 => ?_)
        refine k_aload_n rfl ?_
        refine k_aload rfl ?_
        have t372 := t352.x e370
        have t373 := t367.x e370
        have R374 : RdC p0 none (-11) (18 + 8 * (d : Int)) (-996) σ0 σ368 := R361.tr ⟨(e370.gw H342.1 (by decide)), (e370.cou (u := 0) H342.1 t352 (by decide) (by rw [e370.cn (by decide)]; omega))⟩ (by omega) (by omega) (by omega) (by omega)
        have c375 := (t352.mi e370 (by decide)).trans c355
        have X376 : ExC [0, 1, 2, 60, 61, 62, 63, 64, 65, 66, 67, 68, 69, 70, 72, 73, 74, 75, 76, 242, 243, 244, 999] σ0 σ339 := X337.tr (e343.mo (by decide))
        have X377 : ExC [0, 1, 2, 60, 61, 62, 63, 64, 65, 66, 67, 68, 69, 70, 72, 73, 74, 75, 76, 242, 243, 244, 999] σ0 σ368 := X376.tr (e370.mo (by decide))
        have c378 := (t352.mi e370 (by decide)).trans c349
        have z379 := congrArg Int32.toInt c378
        have z380 := congrArg Int32.toInt c375
        refine k_inv (P := P_X7_put) (Q := Q_X7_put) rfl rfl rfl rfl (Nat.le_of_ble_eq_true rfl) (t372.rc (by decide)) ⟨_, _, rfl, H369, t372, t373, (rd_cd.st H0 h_0_0 X377 R374.1 (by decide)), (R374.2.2.2.1 rd_at), (rd_bg.st H0 h_0_0 X377 R374 (by decide) (by omega) (by omega) (by omega))⟩ (fun w381 σ382 q383 => ?_)
        obtain ⟨a384, rfl, H385, e386, h388, R387, q389⟩ := q383
        have c390 := (t372.mi e386 (by decide)).trans c378
        have c391 := (t372.mi e386 (by decide)).trans c375
        have z392 := congrArg Int32.toInt c390
        have z393 := congrArg Int32.toInt c391
        refine k_st (st' := [.inr (.inr (some a384))]) rfl ?_
        refine k_areturn ?_
        have X394 : ExC [0, 1, 2, 60, 61, 62, 63, 64, 65, 66, 67, 68, 69, 70, 72, 73, 74, 75, 76, 242, 243, 244, 999] σ0 σ382 := X377.tr (e386.mo (by decide))
        have R395 : RdC p0 none (-10) (19 + 8 * (d : Int)) (-995) σ0 σ382 := R374.tr ⟨R387.1, R387.2⟩ (by omega) (by omega) (by omega) (by omega)
        exact ⟨_, rfl, H385, X394, h388, (R395.mo (by omega) (by omega) (by omega)), (by omega)⟩
      · have h396 : 1 ≤ x321.toInt := by have hq := (q318 (by omega)).2; rw [c323] at hq; omega
        have h397 := (q318 (by omega)).1
        refine k_if_eq (fun h398 => by exfalso; omega) (fun h398 => ?_)
        refine k_nil ?_
        refine hB _ _ _ _ (kgoC (is := KX7_readChoice_124) rfl ?_)
        refine k_aload_n rfl ?_
        refine k_iconst (m := 1) rfl (fun x399 h400 => ?_)
        refine k_iconst (m := (-1)) rfl (fun x401 h402 => ?_)
        have R403 : RdC p0 none (-11) (17 + 8 * (d : Int)) (-997) σ0 σ310 := R301.tr ⟨R315.1, R315.2⟩ (by omega) (by omega) (by omega) (by omega)
        have X404 : ExC [0, 1, 2, 60, 61, 62, 63, 64, 65, 66, 67, 68, 69, 70, 72, 73, 74, 75, 76, 242, 243, 244, 999] σ0 σ310 := X308.tr (e314.mo (by decide))
        refine k_inv (P := P_X7_opened) (Q := Q_X7_opened) rfl rfl rfl rfl (Nat.le_of_ble_eq_true rfl) (t326.rc (by decide)) ⟨_, _, _, rfl, H313, t326, (rd_cd.st H0 h_0_0 X404 R403.1 (by decide)), (R403.2.2.2.1 rd_at), (rd_bg.st H0 h_0_0 X404 R403 (by decide) (by omega) (by omega) (by omega)), (by omega)⟩ (fun w405 σ406 q407 => ?_)
        obtain ⟨a408, rfl, H409, e410, h412, R411, q413⟩ := q407
        have c414 := (t326.mi e410 (by decide)).trans c320
        have c415 := (t326.mi e410 (by decide)).trans c323
        have z416 := congrArg Int32.toInt c414
        have z417 := congrArg Int32.toInt c415
        refine k_st (st' := [.inr (.inr (some a408)), .inr (.inr (some a73))]) rfl ?_
        have z418 := R403.1.1
        have R419 : RdC p0 none (-10) (18 + 8 * (d : Int)) (-996) σ0 σ406 := R403.tr ⟨R411.1, R411.2⟩ (by omega) (by omega) (by omega) (by omega)
        have z420 := R419.2.2.1
        have z421 := R419.2.2.2.1 rd_at
        refine k_goto ?_
        refine hB _ _ _ _ (kgoC (is := KX7_readChoice_140) rfl ?_)
        have t422 := t254.x e258
        have t423 := t422.x e285
        have t424 := t423.x e314
        have t425 := t424.x e410
        refine k_putR kp74 H409 t425 fk74 (rf74 h412) (fun σ426 H427 e428 c429 => ?_)
        refine k_aload_n rfl ?_
        refine k_aload rfl ?_
        have t430 := t326.x e410
        have t431 := t430.x e428
        have t432 := t425.x e428
        have R433 : RdC p0 none (-10) (18 + 8 * (d : Int)) (-996) σ0 σ426 := R419.tr ⟨(e428.gw H409.1 (by decide)), (e428.cou (u := 0) H409.1 t430 (by decide) (by rw [e428.cn (by decide)]; omega))⟩ (by omega) (by omega) (by omega) (by omega)
        have c434 := (t430.mi e428 (by decide)).trans c415
        have X435 : ExC [0, 1, 2, 60, 61, 62, 63, 64, 65, 66, 67, 68, 69, 70, 72, 73, 74, 75, 76, 242, 243, 244, 999] σ0 σ406 := X404.tr (e410.mo (by decide))
        have X436 : ExC [0, 1, 2, 60, 61, 62, 63, 64, 65, 66, 67, 68, 69, 70, 72, 73, 74, 75, 76, 242, 243, 244, 999] σ0 σ426 := X435.tr (e428.mo (by decide))
        have c437 := (t430.mi e428 (by decide)).trans c414
        have z438 := congrArg Int32.toInt c437
        have z439 := congrArg Int32.toInt c434
        refine k_inv (P := P_X7_put) (Q := Q_X7_put) rfl rfl rfl rfl (Nat.le_of_ble_eq_true rfl) (t431.rc (by decide)) ⟨_, _, rfl, H427, t431, t432, (rd_cd.st H0 h_0_0 X436 R433.1 (by decide)), (R433.2.2.2.1 rd_at), (rd_bg.st H0 h_0_0 X436 R433 (by decide) (by omega) (by omega) (by omega))⟩ (fun w440 σ441 q442 => ?_)
        obtain ⟨a443, rfl, H444, e445, h447, R446, q448⟩ := q442
        have c449 := (t431.mi e445 (by decide)).trans c437
        have c450 := (t431.mi e445 (by decide)).trans c434
        have z451 := congrArg Int32.toInt c449
        have z452 := congrArg Int32.toInt c450
        refine k_st (st' := [.inr (.inr (some a443))]) rfl ?_
        refine k_areturn ?_
        have X453 : ExC [0, 1, 2, 60, 61, 62, 63, 64, 65, 66, 67, 68, 69, 70, 72, 73, 74, 75, 76, 242, 243, 244, 999] σ0 σ441 := X436.tr (e445.mo (by decide))
        have R454 : RdC p0 none (-9) (19 + 8 * (d : Int)) (-995) σ0 σ441 := R433.tr ⟨R446.1, R446.2⟩ (by omega) (by omega) (by omega) (by omega)
        exact ⟨_, rfl, H444, X453, h447, ((R454.ft (0) (by rw [c450]; omega)).mo (by omega) (by omega) (by omega)), (by omega)⟩
    · refine k_nil ?_
      refine hB _ _ _ _ (kgoC (is := KX7_readChoice_32) rfl ?_)
      refine k_aload rfl ?_
      refine k_areturn ?_
      exact ⟨_, rfl, H34, X56, h37, (R53.mo (by omega) (by omega) (by omega)), (by omega)⟩

set_option maxRecDepth 100000 in
set_option maxHeartbeats 4000000 in
theorem s_X7_readAssignment (l : Launch) (d : Nat) (h_X7_readExp : CMetC l (13 * d + 36) 164 (P_X7_readExp d) (Q_X7_readExp d)) : CMetC l (13 * (d + 1) + 35) 165 (P_X7_readAssignment (d + 1)) (Q_X7_readAssignment (d + 1)) := by
  refine CMetC.of KX7_readAssignment [(126, P_X7_codeBehind, Q_X7_codeBehind), (226, P_X11_operatorOf, Q_X11_operatorOf), (162, P_X7_opened, Q_X7_opened), (140, P_X7_meant, Q_X7_meant), (128, P_X7_accept, Q_X7_accept), (164, (P_X7_readExp d), (Q_X7_readExp d)), (161, P_X7_put, Q_X7_put), (163, P_X7_putMark, Q_X7_putMark)] hX7_readAssignment (by decide) (by omega) okX7_readAssignment (cc1C (m_X7_codeBehind l) (by omega) (cc1C (m_X11_operatorOf l) (by omega) (cc1C (m_X7_opened l) (by omega) (cc1C (m_X7_meant l) (by omega) (cc1C (m_X7_accept l) (by omega) (cc1C h_X7_readExp (by omega) (cc1C (m_X7_put l) (by omega) (cc1C (m_X7_putMark l) (by omega) cc0C)))))))) ?_ ?_
  · rintro As σ ⟨p0, p1, rfl, -⟩
    exact Nat.le_of_ble_eq_true rfl
  · rintro As σ0 ⟨p0, p1, rfl, H0, h_0_0, h_1_0, h_1_1, rd_cd, rd_at, rd_bl, rd_lv, rd_tk, rd_dp⟩ hgr G hB hW
    change G 0 [(0, .inr (.inr (some p0))), (1, .inl p1)] [] σ0
    obtain ⟨x1, e2, c3, h4, h5⟩ := cg242 H0.1 h_0_0
    obtain ⟨x6, e7, c8, h9, h10⟩ := cg243 H0.1 h_0_0
    have z11 := congrArg Int32.toInt c3
    have z12 := congrArg Int32.toInt c8
    have h13 : x6.toInt = 0 := by rw [← c8]; exact rd_lv
    have rd_bg : BgC σ0 p0 (19 + 8 * (((d + 1) : Nat) : Int)) 1000000 := ⟨fun _ => rd_bl, fun z => absurd rd_lv z⟩
    refine hB _ _ _ _ (kgoC (is := KX7_readAssignment_0) rfl ?_)
    refine k_aload_n rfl ?_
    have R14 := (RdC.rf : RdC p0 none 0 0 0 σ0 σ0).nf (-1000) (-1000) (by rw [c8]; omega)
    refine k_inv (P := P_X7_codeBehind) (Q := Q_X7_codeBehind) rfl rfl rfl rfl (Nat.le_of_ble_eq_true rfl) (h_0_0.rc (by decide)) ⟨_, rfl, H0, h_0_0, (rd_cd.st H0 h_0_0 (ExC.rf : ExC [0, 1, 2, 60, 61, 62, 63, 64, 65, 66, 67, 68, 69, 70, 72, 73, 74, 75, 76, 242, 243, 244, 999] σ0 σ0) R14.1 (by decide))⟩ (fun w15 σ16 q17 => ?_)
    obtain ⟨x18, rfl, rfl, q19, q20⟩ := q17
    refine k_st (st' := [.inl x18]) rfl ?_
    have z21 := R14.2.2.1
    have z22 := R14.2.2.2.1 rd_at
    refine k_istore_n (ls' := [(2, .inl x18), (0, .inr (.inr (some p0))), (1, .inl p1)]) rfl ?_
    refine k_aload_n rfl ?_
    refine k_bipush (m := 9) rfl (fun x23 h24 => ?_)
    refine k_iload_n rfl ?_
    refine k_stat (P := P_X11_operatorOf) (Q := Q_X11_operatorOf) rfl rfl (Nat.le_of_ble_eq_true rfl) rfl rfl (Nat.le_of_ble_eq_true rfl) ⟨_, rfl, H0⟩ (fun w25 σ26 q27 => ?_)
    obtain ⟨x28, rfl, rfl⟩ := q27
    refine k_st (st' := [.inl x28, .inl x23, .inr (.inr (some p0))]) rfl ?_
    refine k_inv (P := P_X7_opened) (Q := Q_X7_opened) rfl rfl rfl rfl (Nat.le_of_ble_eq_true rfl) (h_0_0.rc (by decide)) ⟨_, _, _, rfl, H0, h_0_0, (rd_cd.st H0 h_0_0 (ExC.rf : ExC [0, 1, 2, 60, 61, 62, 63, 64, 65, 66, 67, 68, 69, 70, 72, 73, 74, 75, 76, 242, 243, 244, 999] σ0 σ0) R14.1 (by decide)), (R14.2.2.2.1 rd_at), (rd_bg.stn H0 h_0_0 (ExC.rf : ExC [0, 1, 2, 60, 61, 62, 63, 64, 65, 66, 67, 68, 69, 70, 72, 73, 74, 75, 76, 242, 243, 244, 999] σ0 σ0) R14 (by decide) (by rw [c8]; omega) (by omega)), (by omega)⟩ (fun w29 σ30 q31 => ?_)
    obtain ⟨a32, rfl, H33, e34, h36, R35, q37⟩ := q31
    have c38 := (h_0_0.mi e34 (by decide)).trans c3
    have c39 := (h_0_0.mi e34 (by decide)).trans c8
    have z40 := congrArg Int32.toInt c38
    have z41 := congrArg Int32.toInt c39
    refine k_st (st' := [.inr (.inr (some a32))]) rfl ?_
    have z42 := R14.1.1
    have R43 : RdC p0 none (1) (1) (-999) σ0 σ30 := R14.tr ⟨R35.1, R35.2⟩ (by omega) (by omega) (by omega) (by omega)
    have R44 := R43.nf (-1000) (-1000) (by rw [c39]; omega)
    have z45 := R44.2.2.1
    have z46 := R44.2.2.2.1 rd_at
    refine k_astore_n (ls' := [(3, .inr (.inr (some a32))), (2, .inl x18), (0, .inr (.inr (some p0))), (1, .inl p1)]) rfl ?_
    refine k_aload_n rfl ?_
    refine k_aload_n rfl ?_
    refine k_aload_n rfl ?_
    have t47 := h_0_0.x e34
    refine k_get kg242 t47 (congrArg (Sum.inl : Int32 → AvC) c38) ?_
    refine k_inv (P := P_X7_meant) (Q := Q_X7_meant) rfl rfl rfl rfl (Nat.le_of_ble_eq_true rfl) (t47.rc (by decide)) ⟨_, _, rfl, H33, t47, (by omega), (by omega)⟩ (fun w48 σ49 q50 => ?_)
    obtain ⟨x51, rfl, H52, e53, h54⟩ := q50
    have c55 := (t47.mi e53 (by decide)).trans c38
    have c56 := (t47.mi e53 (by decide)).trans c39
    have z57 := congrArg Int32.toInt c55
    have z58 := congrArg Int32.toInt c56
    refine k_st (st' := [.inl x51, .inr (.inr (some a32))]) rfl ?_
    have t59 := h36.x e53
    refine k_putI kp67 H52 t59 (Or.inl fk67) (tiC x51).1 (tiC x51).2 (fun σ60 H61 e62 c63 => ?_)
    refine k_iload_n rfl ?_
    refine k_bipush (m := 8) rfl (fun x64 h65 => ?_)
    refine k_ic_eq (fun h66 => ?_) (fun h66 => ?_)
    · refine hB _ _ _ _ (kgoC (is := KX7_readAssignment_56) rfl ?_)
      refine k_aload_n rfl ?_
      have t67 := t47.x e53
      have t68 := t67.x e62
      have R69 : RdC p0 none (1) (1) (-1000) σ0 σ49 := R44.tr ⟨(e53.gw H33.1 (by decide)), (e53.cou (u := 0) H33.1 t47 (by decide) (by rw [e53.cn (by decide)]; omega))⟩ (by omega) (by omega) (by omega) (by omega)
      have R70 : RdC p0 none (1) (1) (-1000) σ0 σ60 := R69.tr ⟨(e62.gw H52.1 (by decide)), (e62.cou (u := 0) H52.1 t67 (by decide) (by rw [e62.cn (by decide)]; omega))⟩ (by omega) (by omega) (by omega) (by omega)
      have c71 := (t67.mi e62 (by decide)).trans c56
      have R72 := R70.nf (-1000) (-1000) (by rw [c71]; omega)
      have X73 : ExC [0, 1, 2, 60, 61, 62, 63, 64, 65, 66, 67, 68, 69, 70, 72, 73, 74, 75, 76, 242, 243, 244, 999] σ0 σ30 := ExC.rf.tr (e34.mo (by decide))
      have X74 : ExC [0, 1, 2, 60, 61, 62, 63, 64, 65, 66, 67, 68, 69, 70, 72, 73, 74, 75, 76, 242, 243, 244, 999] σ0 σ49 := X73.tr (e53.mo (by decide))
      have X75 : ExC [0, 1, 2, 60, 61, 62, 63, 64, 65, 66, 67, 68, 69, 70, 72, 73, 74, 75, 76, 242, 243, 244, 999] σ0 σ60 := X74.tr (e62.mo (by decide))
      have c76 := (t67.mi e62 (by decide)).trans c55
      have z77 := congrArg Int32.toInt c76
      have z78 := congrArg Int32.toInt c71
      refine k_inv (P := P_X7_accept) (Q := Q_X7_accept) rfl rfl rfl rfl (Nat.le_of_ble_eq_true rfl) (t68.rc (by decide)) ⟨_, rfl, H61, t68, (rd_cd.st H0 h_0_0 X75 R72.1 (by decide)), (R72.2.2.2.1 rd_at), (rd_bg.stn H0 h_0_0 X75 R72 (by decide) (by rw [c71]; omega) (by omega)), (by have ct := R72.2.2.1; rw [c71, c76, ct]; omega)⟩ (fun w79 σ80 q81 => ?_)
      obtain ⟨rfl, H82, e83, R84, q85⟩ := q81
      have t91 := t68.x e83
      obtain ⟨x86, e87, c88, h89, h90⟩ := cg242 H82.1 t91
      obtain ⟨x92, e93, c94, h95, h96⟩ := cg243 H82.1 t91
      have z97 := congrArg Int32.toInt c88
      have z98 := congrArg Int32.toInt c94
      refine k_st (st' := []) rfl ?_
      have R99 : RdC p0 none (-7) (1) (-1000) σ0 σ80 := R72.tr ⟨R84.1, R84.2⟩ (by omega) (by omega) (by omega) (by omega)
      have z100 := R99.2.2.1
      have z101 := R99.2.2.2.1 rd_at
      refine k_aload_n rfl ?_
      have X102 : ExC [0, 1, 2, 60, 61, 62, 63, 64, 65, 66, 67, 68, 69, 70, 72, 73, 74, 75, 76, 242, 243, 244, 999] σ0 σ80 := X75.tr (e83.mo (by decide))
      refine k_inv (P := P_X7_accept) (Q := Q_X7_accept) rfl rfl rfl rfl (Nat.le_of_ble_eq_true rfl) (t91.rc (by decide)) ⟨_, rfl, H82, t91, (rd_cd.st H0 h_0_0 X102 R99.1 (by decide)), (R99.2.2.2.1 rd_at), (rd_bg.st H0 h_0_0 X102 R99 (by decide) (by omega) (by omega) (by omega)), (by have ct := R99.2.2.1; rw [c94, c88, ct]; omega)⟩ (fun w103 σ104 q105 => ?_)
      obtain ⟨rfl, H106, e107, R108, q109⟩ := q105
      have t115 := t91.x e107
      obtain ⟨x110, e111, c112, h113, h114⟩ := cg242 H106.1 t115
      obtain ⟨x116, e117, c118, h119, h120⟩ := cg243 H106.1 t115
      have z121 := congrArg Int32.toInt c112
      have z122 := congrArg Int32.toInt c118
      refine k_st (st' := []) rfl ?_
      have R123 : RdC p0 none (-15) (1) (-1000) σ0 σ104 := R99.tr ⟨R108.1, R108.2⟩ (by omega) (by omega) (by omega) (by omega)
      have z124 := R123.2.2.1
      have z125 := R123.2.2.2.1 rd_at
      refine k_aload_n rfl ?_
      refine k_aload_n rfl ?_
      refine k_iload_n rfl ?_
      refine k_iconst (m := 1) rfl (fun x126 h127 => ?_)
      refine k_iadd (by omega) (by omega) (fun x128 h129 => ?_)
      have X130 : ExC [0, 1, 2, 60, 61, 62, 63, 64, 65, 66, 67, 68, 69, 70, 72, 73, 74, 75, 76, 242, 243, 244, 999] σ0 σ104 := X102.tr (e107.mo (by decide))
      refine k_inv (P := (P_X7_readExp d)) (Q := (Q_X7_readExp d)) rfl rfl rfl rfl (Nat.le_of_ble_eq_true rfl) (t115.rc (by decide)) ⟨_, _, rfl, H106, t115, (by omega), (by omega), (rd_cd.st H0 h_0_0 X130 R123.1 (by decide)), (R123.2.2.2.1 rd_at), (rd_bg.st H0 h_0_0 X130 R123 (by decide) (by omega) (by omega) (by omega)), (by omega)⟩ (fun w131 σ132 q133 => ?_)
      obtain ⟨a134, rfl, H135, e136, h138, R137, q139⟩ := q133
      have t145 := t115.x e136
      obtain ⟨x140, e141, c142, h143, h144⟩ := cg242 H135.1 t145
      obtain ⟨x146, e147, c148, h149, h150⟩ := cg243 H135.1 t145
      have z151 := congrArg Int32.toInt c142
      have z152 := congrArg Int32.toInt c148
      refine k_st (st' := [.inr (.inr (some a134)), .inr (.inr (some a32))]) rfl ?_
      have z153 := R123.1.1
      have R154 : RdC p0 none (-15) (5 + 8 * (d : Int)) (-999) σ0 σ132 := R123.tr ⟨R137.1, R137.2⟩ (by omega) (by omega) (by omega) (by omega)
      have z155 := R154.2.2.1
      have z156 := R154.2.2.2.1 rd_at
      have t162 := t59.x e62
      have t163 := t162.x e83
      have t164 := t163.x e107
      have t165 := t164.x e136
      refine k_p73 H135 t165 h138 (fun σ157 H158 e159 g160 c161 => ?_)
      refine k_aload_n rfl ?_
      refine k_aload_n rfl ?_
      have t166 := t145.x e159
      have t167 := t165.x e159
      have R168 : RdC p0 none (-15) (5 + 8 * (d : Int)) (-999) σ0 σ157 := R154.tr ⟨g160, (e159.cou (u := 0) H135.1 t145 (by decide) (by rw [e159.cn (by decide)]; omega))⟩ (by omega) (by omega) (by omega) (by omega)
      have c169 := (t145.mi e159 (by decide)).trans c148
      have X170 : ExC [0, 1, 2, 60, 61, 62, 63, 64, 65, 66, 67, 68, 69, 70, 72, 73, 74, 75, 76, 242, 243, 244, 999] σ0 σ132 := X130.tr (e136.mo (by decide))
      have X171 : ExC [0, 1, 2, 60, 61, 62, 63, 64, 65, 66, 67, 68, 69, 70, 72, 73, 74, 75, 76, 242, 243, 244, 999] σ0 σ157 := X170.tr (e159.mo (by decide))
      have c172 := (t145.mi e159 (by decide)).trans c142
      have z173 := congrArg Int32.toInt c172
      have z174 := congrArg Int32.toInt c169
      refine k_inv (P := P_X7_put) (Q := Q_X7_put) rfl rfl rfl rfl (Nat.le_of_ble_eq_true rfl) (t166.rc (by decide)) ⟨_, _, rfl, H158, t166, t167, (rd_cd.st H0 h_0_0 X171 R168.1 (by decide)), (R168.2.2.2.1 rd_at), (rd_bg.st H0 h_0_0 X171 R168 (by decide) (by omega) (by omega) (by omega))⟩ (fun w175 σ176 q177 => ?_)
      obtain ⟨a178, rfl, H179, e180, h182, R181, q183⟩ := q177
      have c184 := (t166.mi e180 (by decide)).trans c172
      have c185 := (t166.mi e180 (by decide)).trans c169
      have z186 := congrArg Int32.toInt c184
      have z187 := congrArg Int32.toInt c185
      refine k_st (st' := [.inr (.inr (some a178))]) rfl ?_
      refine k_areturn ?_
      have X188 : ExC [0, 1, 2, 60, 61, 62, 63, 64, 65, 66, 67, 68, 69, 70, 72, 73, 74, 75, 76, 242, 243, 244, 999] σ0 σ176 := X171.tr (e180.mo (by decide))
      have R189 : RdC p0 none (-14) (6 + 8 * (d : Int)) (-998) σ0 σ176 := R168.tr ⟨R181.1, R181.2⟩ (by omega) (by omega) (by omega) (by omega)
      exact ⟨_, rfl, H179, X188, h182, (R189.mo (by omega) (by omega) (by omega)), (by omega)⟩
    · refine k_nil ?_
      refine hB _ _ _ _ (kgoC (is := KX7_readAssignment_34) rfl ?_)
      refine k_aload_n rfl ?_
      refine k_aload_n rfl ?_
      refine k_bipush (m := 14) rfl (fun x190 h191 => ?_)
      refine k_iload_n rfl ?_
      have t192 := t47.x e53
      have t193 := t192.x e62
      have R194 : RdC p0 none (1) (1) (-1000) σ0 σ49 := R44.tr ⟨(e53.gw H33.1 (by decide)), (e53.cou (u := 0) H33.1 t47 (by decide) (by rw [e53.cn (by decide)]; omega))⟩ (by omega) (by omega) (by omega) (by omega)
      have R195 : RdC p0 none (1) (1) (-1000) σ0 σ60 := R194.tr ⟨(e62.gw H52.1 (by decide)), (e62.cou (u := 0) H52.1 t192 (by decide) (by rw [e62.cn (by decide)]; omega))⟩ (by omega) (by omega) (by omega) (by omega)
      have c196 := (t192.mi e62 (by decide)).trans c56
      have R197 := R195.nf (-1000) (-1000) (by rw [c196]; omega)
      have X198 : ExC [0, 1, 2, 60, 61, 62, 63, 64, 65, 66, 67, 68, 69, 70, 72, 73, 74, 75, 76, 242, 243, 244, 999] σ0 σ30 := ExC.rf.tr (e34.mo (by decide))
      have X199 : ExC [0, 1, 2, 60, 61, 62, 63, 64, 65, 66, 67, 68, 69, 70, 72, 73, 74, 75, 76, 242, 243, 244, 999] σ0 σ49 := X198.tr (e53.mo (by decide))
      have X200 : ExC [0, 1, 2, 60, 61, 62, 63, 64, 65, 66, 67, 68, 69, 70, 72, 73, 74, 75, 76, 242, 243, 244, 999] σ0 σ60 := X199.tr (e62.mo (by decide))
      have c201 := (t192.mi e62 (by decide)).trans c55
      have z202 := congrArg Int32.toInt c201
      have z203 := congrArg Int32.toInt c196
      refine k_inv (P := P_X7_putMark) (Q := Q_X7_putMark) rfl rfl rfl rfl (Nat.le_of_ble_eq_true rfl) (t193.rc (by decide)) ⟨_, _, _, rfl, H61, t193, (rd_cd.st H0 h_0_0 X200 R197.1 (by decide)), (R197.2.2.2.1 rd_at), (rd_bg.stn H0 h_0_0 X200 R197 (by decide) (by rw [c196]; omega) (by omega)), (by omega)⟩ (fun w204 σ205 q206 => ?_)
      obtain ⟨a207, rfl, H208, e209, h211, R210, q212⟩ := q206
      have c213 := (t193.mi e209 (by decide)).trans c201
      have c214 := (t193.mi e209 (by decide)).trans c196
      have z215 := congrArg Int32.toInt c213
      have z216 := congrArg Int32.toInt c214
      refine k_st (st' := [.inr (.inr (some a207)), .inr (.inr (some a32))]) rfl ?_
      have z217 := R197.1.1
      have R218 : RdC p0 none (3) (3) (-998) σ0 σ205 := R197.tr ⟨R210.1, R210.2⟩ (by omega) (by omega) (by omega) (by omega)
      have R219 := R218.nf (-1000) (-1000) (by rw [c214]; omega)
      have z220 := R219.2.2.1
      have z221 := R219.2.2.2.1 rd_at
      have t222 := t59.x e62
      have t223 := t222.x e209
      refine k_putR kp76 H208 t223 fk76 (rf76 h211) (fun σ224 H225 e226 c227 => ?_)
      refine k_aload_n rfl ?_
      have t228 := t223.x e226
      refine k_get kg76 t228 (congrArg (fun z : Option Nat => (Sum.inr (Sum.inr z) : AvC)) c227) ?_
      refine k_aload_n rfl ?_
      obtain ⟨x231, e229, c230, h232, h233⟩ := cg67 H225.1 t228
      refine k_get kg67 t228 e229 ?_
      have t234 := h211.x e226
      refine k_putI kp67 H225 t234 (Or.inl fk67) (tiC x231).1 (tiC x231).2 (fun σ235 H236 e237 c238 => ?_)
      refine k_nil ?_
      refine hB _ _ _ _ (kgoC (is := KX7_readAssignment_56) rfl ?_)
      refine k_aload_n rfl ?_
      have t239 := t193.x e209
      have t240 := t239.x e226
      have t241 := t240.x e237
      have R242 : RdC p0 none (3) (3) (-1000) σ0 σ224 := R219.tr ⟨(e226.gw H208.1 (by decide)), (e226.cou (u := 0) H208.1 t239 (by decide) (by rw [e226.cn (by decide)]; omega))⟩ (by omega) (by omega) (by omega) (by omega)
      have R243 : RdC p0 none (3) (3) (-1000) σ0 σ235 := R242.tr ⟨(e237.gw H225.1 (by decide)), (e237.cou (u := 0) H225.1 t240 (by decide) (by rw [e237.cn (by decide)]; omega))⟩ (by omega) (by omega) (by omega) (by omega)
      have c244 := (t239.mi e226 (by decide)).trans c214
      have c245 := (t240.mi e237 (by decide)).trans c244
      have R246 := R243.nf (-1000) (-1000) (by rw [c245]; omega)
      have X247 : ExC [0, 1, 2, 60, 61, 62, 63, 64, 65, 66, 67, 68, 69, 70, 72, 73, 74, 75, 76, 242, 243, 244, 999] σ0 σ205 := X200.tr (e209.mo (by decide))
      have X248 : ExC [0, 1, 2, 60, 61, 62, 63, 64, 65, 66, 67, 68, 69, 70, 72, 73, 74, 75, 76, 242, 243, 244, 999] σ0 σ224 := X247.tr (e226.mo (by decide))
      have X249 : ExC [0, 1, 2, 60, 61, 62, 63, 64, 65, 66, 67, 68, 69, 70, 72, 73, 74, 75, 76, 242, 243, 244, 999] σ0 σ235 := X248.tr (e237.mo (by decide))
      have c250 := (t239.mi e226 (by decide)).trans c213
      have c251 := (t240.mi e237 (by decide)).trans c250
      have z252 := congrArg Int32.toInt c251
      have z253 := congrArg Int32.toInt c245
      refine k_inv (P := P_X7_accept) (Q := Q_X7_accept) rfl rfl rfl rfl (Nat.le_of_ble_eq_true rfl) (t241.rc (by decide)) ⟨_, rfl, H236, t241, (rd_cd.st H0 h_0_0 X249 R246.1 (by decide)), (R246.2.2.2.1 rd_at), (rd_bg.stn H0 h_0_0 X249 R246 (by decide) (by rw [c245]; omega) (by omega)), (by have ct := R246.2.2.1; rw [c245, c251, ct]; omega)⟩ (fun w254 σ255 q256 => ?_)
      obtain ⟨rfl, H257, e258, R259, q260⟩ := q256
      have t266 := t241.x e258
      obtain ⟨x261, e262, c263, h264, h265⟩ := cg242 H257.1 t266
      obtain ⟨x267, e268, c269, h270, h271⟩ := cg243 H257.1 t266
      have z272 := congrArg Int32.toInt c263
      have z273 := congrArg Int32.toInt c269
      refine k_st (st' := []) rfl ?_
      have R274 : RdC p0 none (-5) (3) (-1000) σ0 σ255 := R246.tr ⟨R259.1, R259.2⟩ (by omega) (by omega) (by omega) (by omega)
      have z275 := R274.2.2.1
      have z276 := R274.2.2.2.1 rd_at
      refine k_aload_n rfl ?_
      have X277 : ExC [0, 1, 2, 60, 61, 62, 63, 64, 65, 66, 67, 68, 69, 70, 72, 73, 74, 75, 76, 242, 243, 244, 999] σ0 σ255 := X249.tr (e258.mo (by decide))
      refine k_inv (P := P_X7_accept) (Q := Q_X7_accept) rfl rfl rfl rfl (Nat.le_of_ble_eq_true rfl) (t266.rc (by decide)) ⟨_, rfl, H257, t266, (rd_cd.st H0 h_0_0 X277 R274.1 (by decide)), (R274.2.2.2.1 rd_at), (rd_bg.st H0 h_0_0 X277 R274 (by decide) (by omega) (by omega) (by omega)), (by have ct := R274.2.2.1; rw [c269, c263, ct]; omega)⟩ (fun w278 σ279 q280 => ?_)
      obtain ⟨rfl, H281, e282, R283, q284⟩ := q280
      have t290 := t266.x e282
      obtain ⟨x285, e286, c287, h288, h289⟩ := cg242 H281.1 t290
      obtain ⟨x291, e292, c293, h294, h295⟩ := cg243 H281.1 t290
      have z296 := congrArg Int32.toInt c287
      have z297 := congrArg Int32.toInt c293
      refine k_st (st' := []) rfl ?_
      have R298 : RdC p0 none (-13) (3) (-1000) σ0 σ279 := R274.tr ⟨R283.1, R283.2⟩ (by omega) (by omega) (by omega) (by omega)
      have z299 := R298.2.2.1
      have z300 := R298.2.2.2.1 rd_at
      refine k_aload_n rfl ?_
      refine k_aload_n rfl ?_
      refine k_iload_n rfl ?_
      refine k_iconst (m := 1) rfl (fun x301 h302 => ?_)
      refine k_iadd (by omega) (by omega) (fun x303 h304 => ?_)
      have X305 : ExC [0, 1, 2, 60, 61, 62, 63, 64, 65, 66, 67, 68, 69, 70, 72, 73, 74, 75, 76, 242, 243, 244, 999] σ0 σ279 := X277.tr (e282.mo (by decide))
      refine k_inv (P := (P_X7_readExp d)) (Q := (Q_X7_readExp d)) rfl rfl rfl rfl (Nat.le_of_ble_eq_true rfl) (t290.rc (by decide)) ⟨_, _, rfl, H281, t290, (by omega), (by omega), (rd_cd.st H0 h_0_0 X305 R298.1 (by decide)), (R298.2.2.2.1 rd_at), (rd_bg.st H0 h_0_0 X305 R298 (by decide) (by omega) (by omega) (by omega)), (by omega)⟩ (fun w306 σ307 q308 => ?_)
      obtain ⟨a309, rfl, H310, e311, h313, R312, q314⟩ := q308
      have t320 := t290.x e311
      obtain ⟨x315, e316, c317, h318, h319⟩ := cg242 H310.1 t320
      obtain ⟨x321, e322, c323, h324, h325⟩ := cg243 H310.1 t320
      have z326 := congrArg Int32.toInt c317
      have z327 := congrArg Int32.toInt c323
      refine k_st (st' := [.inr (.inr (some a309)), .inr (.inr (some a32))]) rfl ?_
      have z328 := R298.1.1
      have R329 : RdC p0 none (-13) (7 + 8 * (d : Int)) (-999) σ0 σ307 := R298.tr ⟨R312.1, R312.2⟩ (by omega) (by omega) (by omega) (by omega)
      have z330 := R329.2.2.1
      have z331 := R329.2.2.2.1 rd_at
      have t337 := t228.x e237
      have t338 := t337.x e258
      have t339 := t338.x e282
      have t340 := t339.x e311
      refine k_p73 H310 t340 h313 (fun σ332 H333 e334 g335 c336 => ?_)
      refine k_aload_n rfl ?_
      refine k_aload_n rfl ?_
      have t341 := t320.x e334
      have t342 := t340.x e334
      have R343 : RdC p0 none (-13) (7 + 8 * (d : Int)) (-999) σ0 σ332 := R329.tr ⟨g335, (e334.cou (u := 0) H310.1 t320 (by decide) (by rw [e334.cn (by decide)]; omega))⟩ (by omega) (by omega) (by omega) (by omega)
      have c344 := (t320.mi e334 (by decide)).trans c323
      have X345 : ExC [0, 1, 2, 60, 61, 62, 63, 64, 65, 66, 67, 68, 69, 70, 72, 73, 74, 75, 76, 242, 243, 244, 999] σ0 σ307 := X305.tr (e311.mo (by decide))
      have X346 : ExC [0, 1, 2, 60, 61, 62, 63, 64, 65, 66, 67, 68, 69, 70, 72, 73, 74, 75, 76, 242, 243, 244, 999] σ0 σ332 := X345.tr (e334.mo (by decide))
      have c347 := (t320.mi e334 (by decide)).trans c317
      have z348 := congrArg Int32.toInt c347
      have z349 := congrArg Int32.toInt c344
      refine k_inv (P := P_X7_put) (Q := Q_X7_put) rfl rfl rfl rfl (Nat.le_of_ble_eq_true rfl) (t341.rc (by decide)) ⟨_, _, rfl, H333, t341, t342, (rd_cd.st H0 h_0_0 X346 R343.1 (by decide)), (R343.2.2.2.1 rd_at), (rd_bg.st H0 h_0_0 X346 R343 (by decide) (by omega) (by omega) (by omega))⟩ (fun w350 σ351 q352 => ?_)
      obtain ⟨a353, rfl, H354, e355, h357, R356, q358⟩ := q352
      have c359 := (t341.mi e355 (by decide)).trans c347
      have c360 := (t341.mi e355 (by decide)).trans c344
      have z361 := congrArg Int32.toInt c359
      have z362 := congrArg Int32.toInt c360
      refine k_st (st' := [.inr (.inr (some a353))]) rfl ?_
      refine k_areturn ?_
      have X363 : ExC [0, 1, 2, 60, 61, 62, 63, 64, 65, 66, 67, 68, 69, 70, 72, 73, 74, 75, 76, 242, 243, 244, 999] σ0 σ351 := X346.tr (e355.mo (by decide))
      have R364 : RdC p0 none (-12) (8 + 8 * (d : Int)) (-998) σ0 σ351 := R343.tr ⟨R356.1, R356.2⟩ (by omega) (by omega) (by omega) (by omega)
      exact ⟨_, rfl, H354, X363, h357, (R364.mo (by omega) (by omega) (by omega)), (by omega)⟩

set_option maxRecDepth 100000 in
set_option maxHeartbeats 4000000 in
theorem s_X7_readExp (l : Launch) (d : Nat) (h_X7_readChoice : CMetC l (13 * d + 35) 166 (P_X7_readChoice d) (Q_X7_readChoice d)) (h_X7_readAssignment : CMetC l (13 * d + 35) 165 (P_X7_readAssignment d) (Q_X7_readAssignment d)) : CMetC l (13 * d + 36) 164 (P_X7_readExp d) (Q_X7_readExp d) := by
  refine CMetC.of KX7_readExp [(131, P_X7_isTooDeep, Q_X7_isTooDeep), (125, P_X7_code, Q_X7_code), (166, (P_X7_readChoice d), (Q_X7_readChoice d)), (126, P_X7_codeBehind, Q_X7_codeBehind), (133, P_X7_isAssign, Q_X7_isAssign), (165, (P_X7_readAssignment d), (Q_X7_readAssignment d)), (162, P_X7_opened, Q_X7_opened)] hX7_readExp (by decide) (by omega) okX7_readExp (cc1C (m_X7_isTooDeep l) (by omega) (cc1C (m_X7_code l) (by omega) (cc1C h_X7_readChoice (by omega) (cc1C (m_X7_codeBehind l) (by omega) (cc1C (m_X7_isAssign l) (by omega) (cc1C h_X7_readAssignment (by omega) (cc1C (m_X7_opened l) (by omega) cc0C))))))) ?_ ?_
  · rintro As σ ⟨p0, p1, rfl, -⟩
    exact Nat.le_of_ble_eq_true rfl
  · rintro As σ0 ⟨p0, p1, rfl, H0, h_0_0, h_1_0, h_1_1, rd_cd, rd_at, rd_bg, rd_dp⟩ hgr G hB hW
    change G 0 [(0, .inr (.inr (some p0))), (1, .inl p1)] [] σ0
    obtain ⟨x1, e2, c3, h4, h5⟩ := cg242 H0.1 h_0_0
    obtain ⟨x6, e7, c8, h9, h10⟩ := cg243 H0.1 h_0_0
    have z11 := congrArg Int32.toInt c3
    have z12 := congrArg Int32.toInt c8
    refine hB _ _ _ _ (kgoC (is := KX7_readExp_0) rfl ?_)
    refine k_aload_n rfl ?_
    refine k_iload_n rfl ?_
    refine k_inv (P := P_X7_isTooDeep) (Q := Q_X7_isTooDeep) rfl rfl rfl rfl (Nat.le_of_ble_eq_true rfl) (h_0_0.rc (by decide)) ⟨_, _, rfl, H0, h_0_0, (rd_cd.st H0 h_0_0 (ExC.rf : ExC [0, 1, 2, 60, 61, 62, 63, 64, 65, 66, 67, 68, 69, 70, 72, 73, 74, 75, 76, 242, 243, 244, 999] σ0 σ0) (RdC.rf : RdC p0 none 0 0 0 σ0 σ0).1 (by decide)), ((RdC.rf : RdC p0 none 0 0 0 σ0 σ0).2.2.2.1 rd_at), (rd_bg.st H0 h_0_0 (ExC.rf : ExC [0, 1, 2, 60, 61, 62, 63, 64, 65, 66, 67, 68, 69, 70, 72, 73, 74, 75, 76, 242, 243, 244, 999] σ0 σ0) (RdC.rf : RdC p0 none 0 0 0 σ0 σ0) (by decide) (by omega) (by omega) (by omega))⟩ (fun w13 σ14 q15 => ?_)
    obtain ⟨x16, rfl, H17, e18, h20, h21, R19, q22, q23⟩ := q15
    have c24 := (h_0_0.mi e18 (by decide)).trans c3
    have t30 := h_0_0.x e18
    obtain ⟨x25, e26, c27, h28, h29⟩ := cg243 H17.1 t30
    have z31 := congrArg Int32.toInt c24
    have z32 := congrArg Int32.toInt c27
    refine k_st (st' := [.inl x16]) rfl ?_
    rcases (by omega : x16.toInt = 0 ∨ x16.toInt = 1) with g33 | g33
    · have h34 := q23 (by omega)
      refine k_if_eq (fun h35 => ?_) (fun h35 => by exfalso; omega)
      refine hB _ _ _ _ (kgoC (is := KX7_readExp_15) rfl ?_)
      refine k_aload_n rfl ?_
      have R36 : RdC p0 none (0) (0) (0) σ0 σ14 := (RdC.rf : RdC p0 none 0 0 0 σ0 σ0).tr ⟨R19.1, R19.2⟩ (by omega) (by omega) (by omega) (by omega)
      have X37 : ExC [0, 1, 2, 60, 61, 62, 63, 64, 65, 66, 67, 68, 69, 70, 72, 73, 74, 75, 76, 242, 243, 244, 999] σ0 σ14 := ExC.rf.tr (e18.mo (by decide))
      refine k_inv (P := P_X7_code) (Q := Q_X7_code) rfl rfl rfl rfl (Nat.le_of_ble_eq_true rfl) (t30.rc (by decide)) ⟨_, rfl, H17, t30, (rd_cd.st H0 h_0_0 X37 R36.1 (by decide))⟩ (fun w38 σ39 q40 => ?_)
      obtain ⟨x41, rfl, rfl, q42, q43, q44⟩ := q40
      refine k_st (st' := [.inl x41]) rfl ?_
      have z45 := R36.2.2.1
      have z46 := R36.2.2.2.1 rd_at
      refine k_bipush (m := 80) rfl (fun x47 h48 => ?_)
      refine k_ic_ne (fun h49 => ?_) (fun h49 => ?_)
      · refine hB _ _ _ _ (kgoC (is := KX7_readExp_42) rfl ?_)
        refine k_aload_n rfl ?_
        refine k_iload_n rfl ?_
        refine k_inv (P := (P_X7_readChoice d)) (Q := (Q_X7_readChoice d)) rfl rfl rfl rfl (Nat.le_of_ble_eq_true rfl) (t30.rc (by decide)) ⟨_, _, rfl, H17, t30, (by omega), (by omega), (rd_cd.st H0 h_0_0 X37 R36.1 (by decide)), (R36.2.2.2.1 rd_at), (rd_bg.st H0 h_0_0 X37 R36 (by decide) (by omega) (by omega) (by omega)), (by omega)⟩ (fun w50 σ51 q52 => ?_)
        obtain ⟨a53, rfl, H54, e55, h57, R56, q58⟩ := q52
        have t64 := t30.x e55
        obtain ⟨x59, e60, c61, h62, h63⟩ := cg242 H54.1 t64
        obtain ⟨x65, e66, c67, h68, h69⟩ := cg243 H54.1 t64
        have z70 := congrArg Int32.toInt c61
        have z71 := congrArg Int32.toInt c67
        refine k_st (st' := [.inr (.inr (some a53))]) rfl ?_
        have z72 := R36.1.1
        have R73 : RdC p0 none (0) (19 + 8 * (d : Int)) (1) σ0 σ51 := R36.tr ⟨R56.1, R56.2⟩ (by omega) (by omega) (by omega) (by omega)
        have z74 := R73.2.2.1
        have z75 := R73.2.2.2.1 rd_at
        refine k_nil ?_
        refine hB _ _ _ _ (kgoC (is := KX7_readExp_47) rfl ?_)
        refine k_areturn ?_
        have X76 : ExC [0, 1, 2, 60, 61, 62, 63, 64, 65, 66, 67, 68, 69, 70, 72, 73, 74, 75, 76, 242, 243, 244, 999] σ0 σ51 := X37.tr (e55.mo (by decide))
        exact ⟨_, rfl, H54, X76, h57, (R73.mo (by omega) (by omega) (by omega)), (by omega)⟩
      · have h77 : x25.toInt = 0 := by omega
        refine k_nil ?_
        refine hB _ _ _ _ (kgoC (is := KX7_readExp_24) rfl ?_)
        refine k_aload_n rfl ?_
        have R78 := R36.nf (-1000) (-1000) (by rw [c27]; omega)
        refine k_inv (P := P_X7_codeBehind) (Q := Q_X7_codeBehind) rfl rfl rfl rfl (Nat.le_of_ble_eq_true rfl) (t30.rc (by decide)) ⟨_, rfl, H17, t30, (rd_cd.st H0 h_0_0 X37 R78.1 (by decide))⟩ (fun w79 σ80 q81 => ?_)
        obtain ⟨x82, rfl, rfl, q83, q84⟩ := q81
        refine k_st (st' := [.inl x82]) rfl ?_
        refine k_stat (P := P_X7_isAssign) (Q := Q_X7_isAssign) rfl rfl (Nat.le_of_ble_eq_true rfl) rfl rfl (Nat.le_of_ble_eq_true rfl) ⟨_, rfl, H17⟩ (fun w85 σ86 q87 => ?_)
        obtain ⟨x88, rfl, rfl, h89, h90, q91⟩ := q87
        refine k_st (st' := [.inl x88]) rfl ?_
        rcases (by omega : x88.toInt = 0 ∨ x88.toInt = 1) with g92 | g92
        · refine k_if_eq (fun h93 => ?_) (fun h93 => by exfalso; omega)
          refine hB _ _ _ _ (kgoC (is := KX7_readExp_42) rfl ?_)
          refine k_aload_n rfl ?_
          refine k_iload_n rfl ?_
          refine k_inv (P := (P_X7_readChoice d)) (Q := (Q_X7_readChoice d)) rfl rfl rfl rfl (Nat.le_of_ble_eq_true rfl) (t30.rc (by decide)) ⟨_, _, rfl, H17, t30, (by omega), (by omega), (rd_cd.st H0 h_0_0 X37 R78.1 (by decide)), (R78.2.2.2.1 rd_at), (rd_bg.stn H0 h_0_0 X37 R78 (by decide) (by rw [c27]; omega) (by omega)), (by omega)⟩ (fun w94 σ95 q96 => ?_)
          obtain ⟨a97, rfl, H98, e99, h101, R100, q102⟩ := q96
          have t108 := t30.x e99
          obtain ⟨x103, e104, c105, h106, h107⟩ := cg242 H98.1 t108
          obtain ⟨x109, e110, c111, h112, h113⟩ := cg243 H98.1 t108
          have z114 := congrArg Int32.toInt c105
          have z115 := congrArg Int32.toInt c111
          refine k_st (st' := [.inr (.inr (some a97))]) rfl ?_
          have z116 := R78.1.1
          have R117 : RdC p0 none (0) (19 + 8 * (d : Int)) (-999) σ0 σ95 := R78.tr ⟨R100.1, R100.2⟩ (by omega) (by omega) (by omega) (by omega)
          have z118 := R117.2.2.1
          have z119 := R117.2.2.2.1 rd_at
          refine k_nil ?_
          refine hB _ _ _ _ (kgoC (is := KX7_readExp_47) rfl ?_)
          refine k_areturn ?_
          have X120 : ExC [0, 1, 2, 60, 61, 62, 63, 64, 65, 66, 67, 68, 69, 70, 72, 73, 74, 75, 76, 242, 243, 244, 999] σ0 σ95 := X37.tr (e99.mo (by decide))
          exact ⟨_, rfl, H98, X120, h101, (R117.mo (by omega) (by omega) (by omega)), (by omega)⟩
        · have h121 := q91 (by omega)
          refine k_if_eq (fun h122 => by exfalso; omega) (fun h122 => ?_)
          refine k_nil ?_
          refine hB _ _ _ _ (kgoC (is := KX7_readExp_34) rfl ?_)
          refine k_aload_n rfl ?_
          refine k_iload_n rfl ?_
          refine k_inv (P := (P_X7_readAssignment d)) (Q := (Q_X7_readAssignment d)) rfl rfl rfl rfl (Nat.le_of_ble_eq_true rfl) (t30.rc (by decide)) ⟨_, _, rfl, H17, t30, (by omega), (by omega), (rd_cd.st H0 h_0_0 X37 R78.1 (by decide)), (R78.2.2.2.1 rd_at), ((show BgC σ14 p0 (19 + 8 * (d : Int)) 0 from (rd_bg.stn H0 h_0_0 X37 R78 (by decide) (by rw [c27]; omega) (by omega))).1 (by rw [c27]; omega)), (by rw [c27]; omega), (by have ct := R78.2.2.1; rw [c27, c24, ct]; omega), (by omega)⟩ (fun w123 σ124 q125 => ?_)
          obtain ⟨a126, rfl, H127, e128, h130, R129, q131⟩ := q125
          have t137 := t30.x e128
          obtain ⟨x132, e133, c134, h135, h136⟩ := cg242 H127.1 t137
          obtain ⟨x138, e139, c140, h141, h142⟩ := cg243 H127.1 t137
          have z143 := congrArg Int32.toInt c134
          have z144 := congrArg Int32.toInt c140
          refine k_st (st' := [.inr (.inr (some a126))]) rfl ?_
          have z145 := R78.1.1
          have R146 : RdC p0 none (0) (19 + 8 * (d : Int)) (-1000) σ0 σ124 := R78.tr ⟨R129.1, R129.2⟩ (by omega) (by omega) (by omega) (by omega)
          have z147 := R146.2.2.1
          have z148 := R146.2.2.2.1 rd_at
          refine k_goto ?_
          refine hB _ _ _ _ (kgoC (is := KX7_readExp_47) rfl ?_)
          refine k_areturn ?_
          have X149 : ExC [0, 1, 2, 60, 61, 62, 63, 64, 65, 66, 67, 68, 69, 70, 72, 73, 74, 75, 76, 242, 243, 244, 999] σ0 σ124 := X37.tr (e128.mo (by decide))
          exact ⟨_, rfl, H127, X149, h130, (R146.mo (by omega) (by omega) (by omega)), (by omega)⟩
    · have h150 : 1 ≤ x25.toInt := by have hq := (q22 (by omega)).2; rw [c27] at hq; omega
      have h151 := (q22 (by omega)).1
      refine k_if_eq (fun h152 => by exfalso; omega) (fun h152 => ?_)
      refine k_nil ?_
      refine hB _ _ _ _ (kgoC (is := KX7_readExp_8) rfl ?_)
      refine k_aload_n rfl ?_
      refine k_iconst (m := 1) rfl (fun x153 h154 => ?_)
      refine k_iconst (m := (-1)) rfl (fun x155 h156 => ?_)
      have R157 : RdC p0 none (0) (0) (0) σ0 σ14 := (RdC.rf : RdC p0 none 0 0 0 σ0 σ0).tr ⟨R19.1, R19.2⟩ (by omega) (by omega) (by omega) (by omega)
      have X158 : ExC [0, 1, 2, 60, 61, 62, 63, 64, 65, 66, 67, 68, 69, 70, 72, 73, 74, 75, 76, 242, 243, 244, 999] σ0 σ14 := ExC.rf.tr (e18.mo (by decide))
      refine k_inv (P := P_X7_opened) (Q := Q_X7_opened) rfl rfl rfl rfl (Nat.le_of_ble_eq_true rfl) (t30.rc (by decide)) ⟨_, _, _, rfl, H17, t30, (rd_cd.st H0 h_0_0 X158 R157.1 (by decide)), (R157.2.2.2.1 rd_at), (rd_bg.st H0 h_0_0 X158 R157 (by decide) (by omega) (by omega) (by omega)), (by omega)⟩ (fun w159 σ160 q161 => ?_)
      obtain ⟨a162, rfl, H163, e164, h166, R165, q167⟩ := q161
      have c168 := (t30.mi e164 (by decide)).trans c24
      have c169 := (t30.mi e164 (by decide)).trans c27
      have z170 := congrArg Int32.toInt c168
      have z171 := congrArg Int32.toInt c169
      refine k_st (st' := [.inr (.inr (some a162))]) rfl ?_
      have z172 := R157.1.1
      have R173 : RdC p0 none (1) (1) (1) σ0 σ160 := R157.tr ⟨R165.1, R165.2⟩ (by omega) (by omega) (by omega) (by omega)
      have z174 := R173.2.2.1
      have z175 := R173.2.2.2.1 rd_at
      refine k_areturn ?_
      have X176 : ExC [0, 1, 2, 60, 61, 62, 63, 64, 65, 66, 67, 68, 69, 70, 72, 73, 74, 75, 76, 242, 243, 244, 999] σ0 σ160 := X158.tr (e164.mo (by decide))
      exact ⟨_, rfl, H163, X176, h166, ((R173.ft (0) (by rw [c169]; omega)).mo (by omega) (by omega) (by omega)), (by omega)⟩

set_option maxRecDepth 100000 in
set_option maxHeartbeats 4000000 in
theorem s_X7_readChain (l : Launch) (d : Nat) (h_X7_readOperand : CMetC l (13 * d + 33) 170 (P_X7_readOperand d) (Q_X7_readOperand d)) : CMetC l (13 * d + 34) 167 (P_X7_readChain d) (Q_X7_readChain d) := by
  refine CMetC.of KX7_readChain [(170, (P_X7_readOperand d), (Q_X7_readOperand d)), (125, P_X7_code, Q_X7_code), (225, P_X11_strength, Q_X11_strength), (168, P_X7_waitingFor, Q_X7_waitingFor), (128, P_X7_accept, Q_X7_accept), (169, P_X7_closed, Q_X7_closed)] hX7_readChain (by decide) (by omega) okX7_readChain (cc1C h_X7_readOperand (by omega) (cc1C (m_X7_code l) (by omega) (cc1C (m_X11_strength l) (by omega) (cc1C (m_X7_waitingFor l) (by omega) (cc1C (m_X7_accept l) (by omega) (cc1C (m_X7_closed l) (by omega) cc0C)))))) ?_ ?_
  · rintro As σ ⟨p0, p1, rfl, -⟩
    exact Nat.le_of_ble_eq_true rfl
  · rintro As σ0 ⟨p0, p1, rfl, H0, h_0_0, h_1_0, h_1_1, rd_cd, rd_at, rd_bg, rd_dp⟩ hgr G hB hW
    change G 0 [(0, .inr (.inr (some p0))), (1, .inl p1)] [] σ0
    obtain ⟨x1, e2, c3, h4, h5⟩ := cg242 H0.1 h_0_0
    obtain ⟨x6, e7, c8, h9, h10⟩ := cg243 H0.1 h_0_0
    have z11 := congrArg Int32.toInt c3
    have z12 := congrArg Int32.toInt c8
    have L98 : ∀ (n98 : Nat), ∀ (σ13 : CsC) (v98_2 : Nat) (v98_3 : Option Nat) (gn98 : Nat), gn98 = n98 → HIC σ13 → ExC [0, 1, 2, 60, 61, 62, 63, 64, 65, 66, 67, 68, 69, 70, 72, 73, 74, 75, 76, 242, 243, 244, 999] σ0 σ13 → RdC p0 none ((0) - ((gn98 : Nat) : Int)) ((19 + 8 * (d : Int)) - ((gn98 : Nat) : Int)) ((1) - ((gn98 : Nat) : Int)) σ0 σ13 → TyC σ13 v98_2 2 → cnC σ0 ≤ v98_2 → WcC σ13 (cnC σ0) gn98 (cnC σ13) v98_3 → G 98 [(0, .inr (.inr (some p0))), (2, .inr (.inr (some v98_2))), (3, .inr (.inr v98_3))] [] σ13 := by
      intro n98
      induction n98 using Nat.strongRecOn with
      | _ n98 ih98 =>
        intro σ13 v98_2 v98_3 gn98 n98_ H14 e15 R16 h17 h18 h19
        have t25 := h_0_0.x e15
        obtain ⟨x20, e21, c22, h23, h24⟩ := cg242 H14.1 t25
        obtain ⟨x26, e27, c28, h29, h30⟩ := cg243 H14.1 t25
        have z31 := congrArg Int32.toInt c22
        have z32 := congrArg Int32.toInt c28
        refine hB _ _ _ _ (kgoC (is := KX7_readChain_98) rfl ?_)
        refine k_aload_n rfl ?_
        refine k_ifnull (fun h34 => ?_) (fun b33 h34 => ?_)
        · subst h34
          cases gn98 with
          | succ m => obtain ⟨_, hz, _⟩ := h19; cases hz
          | zero =>
          refine hB _ _ _ _ (kgoC (is := KX7_readChain_121) rfl ?_)
          refine k_aload_n rfl ?_
          refine k_areturn ?_
          have X35 : ExC [0, 1, 2, 60, 61, 62, 63, 64, 65, 66, 67, 68, 69, 70, 72, 73, 74, 75, 76, 242, 243, 244, 999] σ0 σ13 := ExC.rf.tr (e15.mo (by decide))
          exact ⟨_, rfl, H14, X35, h17, (R16.mo (by omega) (by omega) (by omega)), (by omega)⟩
        · subst h34
          cases gn98 with
          | zero => cases h19
          | succ m36 =>
          obtain ⟨a37, h38, h39, h40, ⟨t41, t42⟩, w43, w44⟩ := id h19
          obtain rfl := Option.some.inj h38
          refine k_nil ?_
          refine hB _ _ _ _ (kgoC (is := KX7_readChain_102) rfl ?_)
          refine k_aload_n rfl ?_
          obtain ⟨o45, c46⟩ : ∃ z, fRC σ13 b33 75 = z := ⟨_, rfl⟩
          refine k_getO (k := 75) (show ObC σ13 b33 2 from ⟨t41, by rw [t42]; decide, by rw [t42]; decide⟩) (congrArg (fun z : Option Nat => (Sum.inr (Sum.inr z) : AvC)) c46) ?_
          refine k_astore (ls' := [(4, .inr (.inr o45)), (0, .inr (.inr (some p0))), (2, .inr (.inr (some v98_2))), (3, .inr (.inr (some b33)))]) rfl ?_
          refine k_aload_n rfl ?_
          refine k_aload_n rfl ?_
          refine k_aload_n rfl ?_
          have X47 : ExC [0, 1, 2, 60, 61, 62, 63, 64, 65, 66, 67, 68, 69, 70, 72, 73, 74, 75, 76, 242, 243, 244, 999] σ0 σ13 := ExC.rf.tr (e15.mo (by decide))
          refine k_inv (P := P_X7_closed) (Q := Q_X7_closed) rfl rfl rfl rfl (Nat.le_of_ble_eq_true rfl) (t25.rc (by decide)) ⟨_, _, _, rfl, H14, t25, t41, t42, h17, (rd_cd.st H0 h_0_0 X47 R16.1 (by decide)), (R16.2.2.2.1 rd_at), (rd_bg.st H0 h_0_0 X47 R16 (by decide) (by omega) (by omega) (by omega))⟩ (fun w48 σ49 q50 => ?_)
          obtain ⟨a51, rfl, H52, e53, h55, R54, q56⟩ := q50
          have c57 := (t25.mi e53 (by decide)).trans c22
          have c58 := (t25.mi e53 (by decide)).trans c28
          have z59 := congrArg Int32.toInt c57
          have z60 := congrArg Int32.toInt c58
          refine k_st (st' := [.inr (.inr (some a51))]) rfl ?_
          have w62 := w44
          rw [c46] at w62
          have w61 : WcC σ49 (cnC σ0) m36 (cnC σ49) o45 := WcC.up _ _ _ _ (Nat.le_of_lt (Nat.lt_of_lt_of_le t41 e53.1)) (WcC.xs R54.1 _ _ _ (Nat.le_refl _) w62)
          have R63 : RdC p0 none ((1) - (((m36 + 1) : Nat) : Int)) ((20 + 8 * (d : Int)) - (((m36 + 1) : Nat) : Int)) ((2) - (((m36 + 1) : Nat) : Int)) σ0 σ49 := R16.trx ⟨R54.1, R54.2⟩ (by omega) (by omega) (by omega) (by omega) (by omega)
          have z64 := R63.2.2.1
          have z65 := R63.2.2.2.1 rd_at
          refine k_astore_n (ls' := [(2, .inr (.inr (some a51))), (4, .inr (.inr o45)), (0, .inr (.inr (some p0))), (3, .inr (.inr (some b33)))]) rfl ?_
          refine k_aload rfl ?_
          refine k_astore_n (ls' := [(3, .inr (.inr o45)), (2, .inr (.inr (some a51))), (4, .inr (.inr o45)), (0, .inr (.inr (some p0)))]) rfl ?_
          refine k_goto ?_
          have X66 : ExC [0, 1, 2, 60, 61, 62, 63, 64, 65, 66, 67, 68, 69, 70, 72, 73, 74, 75, 76, 242, 243, 244, 999] σ0 σ49 := X47.tr (e53.mo (by decide))
          exact hW _ _ _ _ _ (List.forall_mem_cons.2 ⟨List.Mem.tail _ (List.Mem.tail _ (List.Mem.tail _ (List.Mem.head _))), (List.forall_mem_cons.2 ⟨List.Mem.tail _ (List.Mem.head _), (List.forall_mem_cons.2 ⟨List.Mem.head _, fun _ h => absurd h List.not_mem_nil⟩)⟩)⟩) (ih98 (m36) (by omega) σ49 a51 o45 (m36) rfl H52 X66 (R63.mo (by omega) (by omega) (by omega)) h55 (by omega) w61)
    have L11 : ∀ (n11 : Nat), ∀ (σ67 : CsC) (v11_2 : Nat) (v11_3 : Option Nat) (v11_4 : Int32) (gn11 : Nat), (2147483647 - v11_4.toInt).toNat = n11 → HIC σ67 → ExC [0, 1, 2, 60, 61, 62, 63, 64, 65, 66, 67, 68, 69, 70, 72, 73, 74, 75, 76, 242, 243, 244, 999] σ0 σ67 → RdC p0 none ((0) - ((gn11 : Nat) : Int)) ((19 + 8 * (d : Int)) - ((gn11 : Nat) : Int)) ((1) - ((gn11 : Nat) : Int)) σ0 σ67 → TyC σ67 v11_2 2 → 0 ≤ v11_4.toInt → v11_4.toInt ≤ 502 → cnC σ0 ≤ v11_2 → WcC σ67 (cnC σ0) gn11 (cnC σ67) v11_3 → G 11 [(0, .inr (.inr (some p0))), (1, .inl p1), (2, .inr (.inr (some v11_2))), (3, .inr (.inr v11_3)), (4, .inl v11_4)] [] σ67 := by
      intro n11
      induction n11 using Nat.strongRecOn with
      | _ n11 ih11 =>
        intro σ67 v11_2 v11_3 v11_4 gn11 n11_ H68 e69 R70 h71 h72 h73 h74 h75
        have t81 := h_0_0.x e69
        obtain ⟨x76, e77, c78, h79, h80⟩ := cg242 H68.1 t81
        obtain ⟨x82, e83, c84, h85, h86⟩ := cg243 H68.1 t81
        have z87 := congrArg Int32.toInt c78
        have z88 := congrArg Int32.toInt c84
        have L35 : ∀ (n35 : Nat), ∀ (σ89 : CsC) (v35_2 : Nat) (v35_3 : Option Nat) (v35_5 : Int32) (gn35 : Nat), gn35 = n35 → HIC σ89 → ExC [0, 1, 2, 60, 61, 62, 63, 64, 65, 66, 67, 68, 69, 70, 72, 73, 74, 75, 76, 242, 243, 244, 999] σ67 σ89 → RdC p0 none ((0) - ((gn35 : Nat) : Int)) ((-1000) - ((gn35 : Nat) : Int)) ((-1000) - ((gn35 : Nat) : Int)) σ0 σ89 → TyC σ89 v35_2 2 → v11_4.toInt ≤ 500 → (fIC σ89 p0 243).toInt = 0 → (fIC σ89 p0 242).toInt + 1 ≤ CtC σ89 p0 → cnC σ0 ≤ v35_2 → WcC σ89 (cnC σ0) gn35 (cnC σ89) v35_3 → G 35 [(0, .inr (.inr (some p0))), (1, .inl p1), (2, .inr (.inr (some v35_2))), (3, .inr (.inr v35_3)), (4, .inl v11_4), (5, .inl v35_5)] [] σ89 := by
          intro n35
          induction n35 using Nat.strongRecOn with
          | _ n35 ih35 =>
            intro σ89 v35_2 v35_3 v35_5 gn35 n35_ H90 e91 R92 h93 h94 h95 h96 h97 h98
            have t104 := t81.x e91
            obtain ⟨x99, e100, c101, h102, h103⟩ := cg242 H90.1 t104
            obtain ⟨x105, e106, c107, h108, h109⟩ := cg243 H90.1 t104
            have z110 := congrArg Int32.toInt c101
            have z111 := congrArg Int32.toInt c107
            have h112 : x105.toInt = 0 := by omega
            have z113 := R92.2.2.1
            have z114 := R92.2.2.2.1 rd_at
            refine hB _ _ _ _ (kgoC (is := KX7_readChain_35) rfl ?_)
            refine k_aload_n rfl ?_
            refine k_ifnull (fun h116 => ?_) (fun b115 h116 => ?_)
            · subst h116
              cases gn35 with
              | succ m => obtain ⟨_, hz, _⟩ := h98; cases hz
              | zero =>
              refine hB _ _ _ _ (kgoC (is := KX7_readChain_73) rfl ?_)
              refine k_aload_n rfl ?_
              refine k_iload rfl ?_
              refine k_aload_n rfl ?_
              refine k_aload_n rfl ?_
              have X117 : ExC [0, 1, 2, 60, 61, 62, 63, 64, 65, 66, 67, 68, 69, 70, 72, 73, 74, 75, 76, 242, 243, 244, 999] σ0 σ67 := ExC.rf.tr (e69.mo (by decide))
              have X118 : ExC [0, 1, 2, 60, 61, 62, 63, 64, 65, 66, 67, 68, 69, 70, 72, 73, 74, 75, 76, 242, 243, 244, 999] σ0 σ89 := X117.tr (e91.mo (by decide))
              refine k_inv (P := P_X7_waitingFor) (Q := Q_X7_waitingFor) rfl rfl rfl rfl (Nat.le_of_ble_eq_true rfl) (t104.rc (by decide)) ⟨_, _, _, _, rfl, H90, t104, h93, (fun c hc => by cases hc), (rd_cd.st H0 h_0_0 X118 R92.1 (by decide)), (R92.2.2.2.1 rd_at), (rd_bg.stn H0 h_0_0 X118 R92 (by decide) (by rw [c107]; omega) (by omega))⟩ (fun w119 σ120 q121 => ?_)
              obtain ⟨a122, rfl, H123, e124, h126, h127, R125, q128, q129, q130⟩ := q121
              have c131 := (t104.mi e124 (by decide)).trans c101
              have c132 := (t104.mi e124 (by decide)).trans c107
              have z133 := congrArg Int32.toInt c131
              have z134 := congrArg Int32.toInt c132
              refine k_st (st' := [.inr (.inr (some a122))]) rfl ?_
              have z136 := R92.1.1
              have w135 : WcC σ120 (cnC σ0) (0 + 1) (cnC σ120) (some a122) := ⟨_, rfl, by omega, h126, ⟨h126, h127⟩, q128, by rw [q129]; exact WcC.up _ _ _ _ (by omega) (WcC.x R125.1 _ _ _ h98)⟩
              have R137 : RdC p0 none ((3) - ((0 : Nat) : Int)) ((3) - ((0 : Nat) : Int)) ((-997) - ((0 : Nat) : Int)) σ0 σ120 := R92.tr ⟨R125.1, R125.2⟩ (by omega) (by omega) (by omega) (by omega)
              have R138 := R137.nf ((-1000) - ((0 : Nat) : Int)) ((-1000) - ((0 : Nat) : Int)) (by rw [c132]; omega)
              have R139 : RdC p0 none ((4) - (((0 + 1) : Nat) : Int)) ((-999) - (((0 + 1) : Nat) : Int)) ((-999) - (((0 + 1) : Nat) : Int)) σ0 σ120 := R138.mo (by omega) (by omega) (by omega)
              have z140 := R139.2.2.1
              have z141 := R139.2.2.2.1 rd_at
              refine k_astore_n (ls' := [(3, .inr (.inr (some a122))), (0, .inr (.inr (some p0))), (1, .inl p1), (2, .inr (.inr (some v35_2))), (4, .inl v11_4), (5, .inl v35_5)]) rfl ?_
              refine k_aload_n rfl ?_
              have t142 := t104.x e124
              have X143 : ExC [0, 1, 2, 60, 61, 62, 63, 64, 65, 66, 67, 68, 69, 70, 72, 73, 74, 75, 76, 242, 243, 244, 999] σ0 σ120 := X118.tr (e124.mo (by decide))
              refine k_inv (P := P_X7_accept) (Q := Q_X7_accept) rfl rfl rfl rfl (Nat.le_of_ble_eq_true rfl) (t142.rc (by decide)) ⟨_, rfl, H123, t142, (rd_cd.st H0 h_0_0 X143 R139.1 (by decide)), (R139.2.2.2.1 rd_at), (rd_bg.stn H0 h_0_0 X143 R139 (by decide) (by rw [c132]; omega) (by omega)), (by have ct := R139.2.2.1; rw [c132, c131, ct]; omega)⟩ (fun w144 σ145 q146 => ?_)
              obtain ⟨rfl, H147, e148, R149, q150⟩ := q146
              have t156 := t142.x e148
              obtain ⟨x151, e152, c153, h154, h155⟩ := cg242 H147.1 t156
              obtain ⟨x157, e158, c159, h160, h161⟩ := cg243 H147.1 t156
              have z162 := congrArg Int32.toInt c153
              have z163 := congrArg Int32.toInt c159
              refine k_st (st' := []) rfl ?_
              have R164 : RdC p0 none ((-4) - (((0 + 1) : Nat) : Int)) ((4) - (((0 + 1) : Nat) : Int)) ((-999) - (((0 + 1) : Nat) : Int)) σ0 σ145 := R139.tr ⟨R149.1, R149.2⟩ (by omega) (by omega) (by omega) (by omega)
              have z165 := R164.2.2.1
              have z166 := R164.2.2.2.1 rd_at
              refine k_aload_n rfl ?_
              refine k_iload_n rfl ?_
              have X167 : ExC [0, 1, 2, 60, 61, 62, 63, 64, 65, 66, 67, 68, 69, 70, 72, 73, 74, 75, 76, 242, 243, 244, 999] σ0 σ145 := X143.tr (e148.mo (by decide))
              refine k_inv (P := (P_X7_readOperand d)) (Q := (Q_X7_readOperand d)) rfl rfl rfl rfl (Nat.le_of_ble_eq_true rfl) (t156.rc (by decide)) ⟨_, _, rfl, H147, t156, (by omega), (by omega), (rd_cd.st H0 h_0_0 X167 R164.1 (by decide)), (R164.2.2.2.1 rd_at), (rd_bg.st H0 h_0_0 X167 R164 (by decide) (by omega) (by omega) (by omega)), (by omega)⟩ (fun w168 σ169 q170 => ?_)
              obtain ⟨a171, rfl, H172, e173, h175, R174, q176⟩ := q170
              have t182 := t156.x e173
              obtain ⟨x177, e178, c179, h180, h181⟩ := cg242 H172.1 t182
              obtain ⟨x183, e184, c185, h186, h187⟩ := cg243 H172.1 t182
              have z188 := congrArg Int32.toInt c179
              have z189 := congrArg Int32.toInt c185
              refine k_st (st' := [.inr (.inr (some a171))]) rfl ?_
              have z190 := R164.1.1
              have R191 : RdC p0 none ((-4) - (((0 + 1) : Nat) : Int)) ((10 + 8 * (d : Int)) - (((0 + 1) : Nat) : Int)) ((-998) - (((0 + 1) : Nat) : Int)) σ0 σ169 := R164.tr ⟨R174.1, R174.2⟩ (by omega) (by omega) (by omega) (by omega)
              have z192 := R191.2.2.1
              have z193 := R191.2.2.2.1 rd_at
              refine k_astore_n (ls' := [(2, .inr (.inr (some a171))), (3, .inr (.inr (some a122))), (0, .inr (.inr (some p0))), (1, .inl p1), (4, .inl v11_4), (5, .inl v35_5)]) rfl ?_
              obtain ⟨x194, e196, h195⟩ := iincC (n := 1) (m := 1) (v := v11_4) rfl (by omega) (by omega)
              refine k_iinc (ls' := [(4, .inl x194), (2, .inr (.inr (some a171))), (3, .inr (.inr (some a122))), (0, .inr (.inr (some p0))), (1, .inl p1), (5, .inl v35_5)]) rfl e196 rfl ?_
              refine k_goto ?_
              have w197 := WcC.up _ _ (cnC σ145) _ R149.1.1 (WcC.x R149.1 _ _ _ w135)
              have w198 := WcC.up _ _ (cnC σ169) _ R174.1.1 (WcC.x R174.1 _ _ _ w197)
              have X199 : ExC [0, 1, 2, 60, 61, 62, 63, 64, 65, 66, 67, 68, 69, 70, 72, 73, 74, 75, 76, 242, 243, 244, 999] σ0 σ169 := X167.tr (e173.mo (by decide))
              exact hW _ _ _ _ _ (List.forall_mem_cons.2 ⟨List.Mem.tail _ (List.Mem.tail _ (List.Mem.tail _ (List.Mem.head _))), (List.forall_mem_cons.2 ⟨List.Mem.tail _ (List.Mem.tail _ (List.Mem.tail _ (List.Mem.tail _ (List.Mem.head _)))), (List.forall_mem_cons.2 ⟨List.Mem.tail _ (List.Mem.head _), (List.forall_mem_cons.2 ⟨List.Mem.tail _ (List.Mem.tail _ (List.Mem.head _)), (List.forall_mem_cons.2 ⟨List.Mem.head _, fun _ h => absurd h List.not_mem_nil⟩)⟩)⟩)⟩)⟩) (ih11 ((2147483647 - x194.toInt).toNat) (by omega) σ169 a171 (some a122) x194 ((0 + 1)) rfl H172 X199 (R191.mo (by omega) (by omega) (by omega)) h175 (by omega) (by omega) (by omega) w198)
            · subst h116
              cases gn35 with
              | zero => cases h98
              | succ m200 =>
              obtain ⟨a201, h202, h203, h204, ⟨t205, t206⟩, w207, w208⟩ := id h98
              obtain rfl := Option.some.inj h202
              refine k_nil ?_
              refine hB _ _ _ _ (kgoC (is := KX7_readChain_39) rfl ?_)
              refine k_aload_n rfl ?_
              obtain ⟨x209, c210⟩ : ∃ z, fIC σ89 b115 61 = z := ⟨_, rfl⟩
              refine k_getO (k := 61) (show ObC σ89 b115 2 from ⟨t205, by rw [t206]; decide, by rw [t206]; decide⟩) (congrArg (Sum.inl : Int32 → AvC) c210) ?_
              refine k_stat (P := P_X11_strength) (Q := Q_X11_strength) rfl rfl (Nat.le_of_ble_eq_true rfl) rfl rfl (Nat.le_of_ble_eq_true rfl) ⟨_, rfl, H90⟩ (fun w211 σ212 q213 => ?_)
              obtain ⟨x214, rfl, rfl, q215⟩ := q213
              refine k_st (st' := [.inl x214]) rfl ?_
              refine k_iload rfl ?_
              refine k_stat (P := P_X11_strength) (Q := Q_X11_strength) rfl rfl (Nat.le_of_ble_eq_true rfl) rfl rfl (Nat.le_of_ble_eq_true rfl) ⟨_, rfl, H90⟩ (fun w216 σ217 q218 => ?_)
              obtain ⟨x219, rfl, rfl, q220⟩ := q218
              refine k_st (st' := [.inl x219, .inl x214]) rfl ?_
              refine k_ic_lt (fun h221 => ?_) (fun h221 => ?_)
              · refine hB _ _ _ _ (kgoC (is := KX7_readChain_73) rfl ?_)
                refine k_aload_n rfl ?_
                refine k_iload rfl ?_
                refine k_aload_n rfl ?_
                refine k_aload_n rfl ?_
                have X222 : ExC [0, 1, 2, 60, 61, 62, 63, 64, 65, 66, 67, 68, 69, 70, 72, 73, 74, 75, 76, 242, 243, 244, 999] σ0 σ67 := ExC.rf.tr (e69.mo (by decide))
                have X223 : ExC [0, 1, 2, 60, 61, 62, 63, 64, 65, 66, 67, 68, 69, 70, 72, 73, 74, 75, 76, 242, 243, 244, 999] σ0 σ89 := X222.tr (e91.mo (by decide))
                refine k_inv (P := P_X7_waitingFor) (Q := Q_X7_waitingFor) rfl rfl rfl rfl (Nat.le_of_ble_eq_true rfl) (t104.rc (by decide)) ⟨_, _, _, _, rfl, H90, t104, h93, (fun c hc => by cases hc; exact ⟨t205, t206⟩), (rd_cd.st H0 h_0_0 X223 R92.1 (by decide)), (R92.2.2.2.1 rd_at), (rd_bg.stn H0 h_0_0 X223 R92 (by decide) (by rw [c107]; omega) (by omega))⟩ (fun w224 σ225 q226 => ?_)
                obtain ⟨a227, rfl, H228, e229, h231, h232, R230, q233, q234, q235⟩ := q226
                have c236 := (t104.mi e229 (by decide)).trans c101
                have c237 := (t104.mi e229 (by decide)).trans c107
                have z238 := congrArg Int32.toInt c236
                have z239 := congrArg Int32.toInt c237
                refine k_st (st' := [.inr (.inr (some a227))]) rfl ?_
                have z241 := R92.1.1
                have w240 : WcC σ225 (cnC σ0) ((m200 + 1) + 1) (cnC σ225) (some a227) := ⟨_, rfl, by omega, h231, ⟨h231, h232⟩, q233, by rw [q234]; exact WcC.up _ _ _ _ (by omega) (WcC.x R230.1 _ _ _ h98)⟩
                have R242 : RdC p0 none ((3) - (((m200 + 1) : Nat) : Int)) ((3) - (((m200 + 1) : Nat) : Int)) ((-997) - (((m200 + 1) : Nat) : Int)) σ0 σ225 := R92.tr ⟨R230.1, R230.2⟩ (by omega) (by omega) (by omega) (by omega)
                have R243 := R242.nf ((-1000) - (((m200 + 1) : Nat) : Int)) ((-1000) - (((m200 + 1) : Nat) : Int)) (by rw [c237]; omega)
                have R244 : RdC p0 none ((4) - ((((m200 + 1) + 1) : Nat) : Int)) ((-999) - ((((m200 + 1) + 1) : Nat) : Int)) ((-999) - ((((m200 + 1) + 1) : Nat) : Int)) σ0 σ225 := R243.mo (by omega) (by omega) (by omega)
                have z245 := R244.2.2.1
                have z246 := R244.2.2.2.1 rd_at
                refine k_astore_n (ls' := [(3, .inr (.inr (some a227))), (0, .inr (.inr (some p0))), (1, .inl p1), (2, .inr (.inr (some v35_2))), (4, .inl v11_4), (5, .inl v35_5)]) rfl ?_
                refine k_aload_n rfl ?_
                have t247 := t104.x e229
                have X248 : ExC [0, 1, 2, 60, 61, 62, 63, 64, 65, 66, 67, 68, 69, 70, 72, 73, 74, 75, 76, 242, 243, 244, 999] σ0 σ225 := X223.tr (e229.mo (by decide))
                refine k_inv (P := P_X7_accept) (Q := Q_X7_accept) rfl rfl rfl rfl (Nat.le_of_ble_eq_true rfl) (t247.rc (by decide)) ⟨_, rfl, H228, t247, (rd_cd.st H0 h_0_0 X248 R244.1 (by decide)), (R244.2.2.2.1 rd_at), (rd_bg.stn H0 h_0_0 X248 R244 (by decide) (by rw [c237]; omega) (by omega)), (by have ct := R244.2.2.1; rw [c237, c236, ct]; omega)⟩ (fun w249 σ250 q251 => ?_)
                obtain ⟨rfl, H252, e253, R254, q255⟩ := q251
                have t261 := t247.x e253
                obtain ⟨x256, e257, c258, h259, h260⟩ := cg242 H252.1 t261
                obtain ⟨x262, e263, c264, h265, h266⟩ := cg243 H252.1 t261
                have z267 := congrArg Int32.toInt c258
                have z268 := congrArg Int32.toInt c264
                refine k_st (st' := []) rfl ?_
                have R269 : RdC p0 none ((-4) - ((((m200 + 1) + 1) : Nat) : Int)) ((4) - ((((m200 + 1) + 1) : Nat) : Int)) ((-999) - ((((m200 + 1) + 1) : Nat) : Int)) σ0 σ250 := R244.tr ⟨R254.1, R254.2⟩ (by omega) (by omega) (by omega) (by omega)
                have z270 := R269.2.2.1
                have z271 := R269.2.2.2.1 rd_at
                refine k_aload_n rfl ?_
                refine k_iload_n rfl ?_
                have X272 : ExC [0, 1, 2, 60, 61, 62, 63, 64, 65, 66, 67, 68, 69, 70, 72, 73, 74, 75, 76, 242, 243, 244, 999] σ0 σ250 := X248.tr (e253.mo (by decide))
                refine k_inv (P := (P_X7_readOperand d)) (Q := (Q_X7_readOperand d)) rfl rfl rfl rfl (Nat.le_of_ble_eq_true rfl) (t261.rc (by decide)) ⟨_, _, rfl, H252, t261, (by omega), (by omega), (rd_cd.st H0 h_0_0 X272 R269.1 (by decide)), (R269.2.2.2.1 rd_at), (rd_bg.st H0 h_0_0 X272 R269 (by decide) (by omega) (by omega) (by omega)), (by omega)⟩ (fun w273 σ274 q275 => ?_)
                obtain ⟨a276, rfl, H277, e278, h280, R279, q281⟩ := q275
                have t287 := t261.x e278
                obtain ⟨x282, e283, c284, h285, h286⟩ := cg242 H277.1 t287
                obtain ⟨x288, e289, c290, h291, h292⟩ := cg243 H277.1 t287
                have z293 := congrArg Int32.toInt c284
                have z294 := congrArg Int32.toInt c290
                refine k_st (st' := [.inr (.inr (some a276))]) rfl ?_
                have z295 := R269.1.1
                have R296 : RdC p0 none ((-4) - ((((m200 + 1) + 1) : Nat) : Int)) ((10 + 8 * (d : Int)) - ((((m200 + 1) + 1) : Nat) : Int)) ((-998) - ((((m200 + 1) + 1) : Nat) : Int)) σ0 σ274 := R269.tr ⟨R279.1, R279.2⟩ (by omega) (by omega) (by omega) (by omega)
                have z297 := R296.2.2.1
                have z298 := R296.2.2.2.1 rd_at
                refine k_astore_n (ls' := [(2, .inr (.inr (some a276))), (3, .inr (.inr (some a227))), (0, .inr (.inr (some p0))), (1, .inl p1), (4, .inl v11_4), (5, .inl v35_5)]) rfl ?_
                obtain ⟨x299, e301, h300⟩ := iincC (n := 1) (m := 1) (v := v11_4) rfl (by omega) (by omega)
                refine k_iinc (ls' := [(4, .inl x299), (2, .inr (.inr (some a276))), (3, .inr (.inr (some a227))), (0, .inr (.inr (some p0))), (1, .inl p1), (5, .inl v35_5)]) rfl e301 rfl ?_
                refine k_goto ?_
                have w302 := WcC.up _ _ (cnC σ250) _ R254.1.1 (WcC.x R254.1 _ _ _ w240)
                have w303 := WcC.up _ _ (cnC σ274) _ R279.1.1 (WcC.x R279.1 _ _ _ w302)
                have X304 : ExC [0, 1, 2, 60, 61, 62, 63, 64, 65, 66, 67, 68, 69, 70, 72, 73, 74, 75, 76, 242, 243, 244, 999] σ0 σ274 := X272.tr (e278.mo (by decide))
                exact hW _ _ _ _ _ (List.forall_mem_cons.2 ⟨List.Mem.tail _ (List.Mem.tail _ (List.Mem.tail _ (List.Mem.head _))), (List.forall_mem_cons.2 ⟨List.Mem.tail _ (List.Mem.tail _ (List.Mem.tail _ (List.Mem.tail _ (List.Mem.head _)))), (List.forall_mem_cons.2 ⟨List.Mem.tail _ (List.Mem.head _), (List.forall_mem_cons.2 ⟨List.Mem.tail _ (List.Mem.tail _ (List.Mem.head _)), (List.forall_mem_cons.2 ⟨List.Mem.head _, fun _ h => absurd h List.not_mem_nil⟩)⟩)⟩)⟩)⟩) (ih11 ((2147483647 - x299.toInt).toNat) (by omega) σ274 a276 (some a227) x299 (((m200 + 1) + 1)) rfl H277 X304 (R296.mo (by omega) (by omega) (by omega)) h280 (by omega) (by omega) (by omega) w303)
              · refine k_nil ?_
                refine hB _ _ _ _ (kgoC (is := KX7_readChain_54) rfl ?_)
                refine k_aload_n rfl ?_
                obtain ⟨o305, c306⟩ : ∃ z, fRC σ89 b115 75 = z := ⟨_, rfl⟩
                refine k_getO (k := 75) (show ObC σ89 b115 2 from ⟨t205, by rw [t206]; decide, by rw [t206]; decide⟩) (congrArg (fun z : Option Nat => (Sum.inr (Sum.inr z) : AvC)) c306) ?_
                refine k_astore (ls' := [(6, .inr (.inr o305)), (0, .inr (.inr (some p0))), (1, .inl p1), (2, .inr (.inr (some v35_2))), (3, .inr (.inr (some b115))), (4, .inl v11_4), (5, .inl v35_5)]) rfl ?_
                refine k_aload_n rfl ?_
                refine k_aload_n rfl ?_
                refine k_aload_n rfl ?_
                have X307 : ExC [0, 1, 2, 60, 61, 62, 63, 64, 65, 66, 67, 68, 69, 70, 72, 73, 74, 75, 76, 242, 243, 244, 999] σ0 σ67 := ExC.rf.tr (e69.mo (by decide))
                have X308 : ExC [0, 1, 2, 60, 61, 62, 63, 64, 65, 66, 67, 68, 69, 70, 72, 73, 74, 75, 76, 242, 243, 244, 999] σ0 σ89 := X307.tr (e91.mo (by decide))
                refine k_inv (P := P_X7_closed) (Q := Q_X7_closed) rfl rfl rfl rfl (Nat.le_of_ble_eq_true rfl) (t104.rc (by decide)) ⟨_, _, _, rfl, H90, t104, t205, t206, h93, (rd_cd.st H0 h_0_0 X308 R92.1 (by decide)), (R92.2.2.2.1 rd_at), (rd_bg.stn H0 h_0_0 X308 R92 (by decide) (by rw [c107]; omega) (by omega))⟩ (fun w309 σ310 q311 => ?_)
                obtain ⟨a312, rfl, H313, e314, h316, R315, q317⟩ := q311
                have c318 := (t104.mi e314 (by decide)).trans c101
                have c319 := (t104.mi e314 (by decide)).trans c107
                have z320 := congrArg Int32.toInt c318
                have z321 := congrArg Int32.toInt c319
                refine k_st (st' := [.inr (.inr (some a312))]) rfl ?_
                have w323 := w208
                rw [c306] at w323
                have w322 : WcC σ310 (cnC σ0) m200 (cnC σ310) o305 := WcC.up _ _ _ _ (Nat.le_of_lt (Nat.lt_of_lt_of_le t205 e314.1)) (WcC.xs R315.1 _ _ _ (Nat.le_refl _) w323)
                have R324 : RdC p0 none ((1) - (((m200 + 1) : Nat) : Int)) ((1) - (((m200 + 1) : Nat) : Int)) ((-999) - (((m200 + 1) : Nat) : Int)) σ0 σ310 := R92.trx ⟨R315.1, R315.2⟩ (by omega) (by omega) (by omega) (by omega) (by omega)
                have R325 := R324.nf ((-1000) - (((m200 + 1) : Nat) : Int)) ((-1000) - (((m200 + 1) : Nat) : Int)) (by rw [c319]; omega)
                have z326 := R325.2.2.1
                have z327 := R325.2.2.2.1 rd_at
                refine k_astore_n (ls' := [(2, .inr (.inr (some a312))), (6, .inr (.inr o305)), (0, .inr (.inr (some p0))), (1, .inl p1), (3, .inr (.inr (some b115))), (4, .inl v11_4), (5, .inl v35_5)]) rfl ?_
                refine k_aload rfl ?_
                refine k_astore_n (ls' := [(3, .inr (.inr o305)), (2, .inr (.inr (some a312))), (6, .inr (.inr o305)), (0, .inr (.inr (some p0))), (1, .inl p1), (4, .inl v11_4), (5, .inl v35_5)]) rfl ?_
                refine k_goto ?_
                have X328 : ExC [0, 1, 2, 60, 61, 62, 63, 64, 65, 66, 67, 68, 69, 70, 72, 73, 74, 75, 76, 242, 243, 244, 999] σ67 σ89 := ExC.rf.tr (e91.mo (by decide))
                have X329 : ExC [0, 1, 2, 60, 61, 62, 63, 64, 65, 66, 67, 68, 69, 70, 72, 73, 74, 75, 76, 242, 243, 244, 999] σ67 σ310 := X328.tr (e314.mo (by decide))
                exact hW _ _ _ _ _ (List.forall_mem_cons.2 ⟨List.Mem.tail _ (List.Mem.tail _ (List.Mem.tail _ (List.Mem.head _))), (List.forall_mem_cons.2 ⟨List.Mem.tail _ (List.Mem.tail _ (List.Mem.tail _ (List.Mem.tail _ (List.Mem.head _)))), (List.forall_mem_cons.2 ⟨List.Mem.tail _ (List.Mem.head _), (List.forall_mem_cons.2 ⟨List.Mem.head _, (List.forall_mem_cons.2 ⟨List.Mem.tail _ (List.Mem.tail _ (List.Mem.tail _ (List.Mem.tail _ (List.Mem.tail _ (List.Mem.head _))))), (List.forall_mem_cons.2 ⟨List.Mem.tail _ (List.Mem.tail _ (List.Mem.tail _ (List.Mem.tail _ (List.Mem.tail _ (List.Mem.tail _ (List.Mem.head _)))))), fun _ h => absurd h List.not_mem_nil⟩)⟩)⟩)⟩)⟩)⟩) (ih35 (m200) (by omega) σ310 a312 o305 v35_5 (m200) rfl H313 X329 (R325.mo (by omega) (by omega) (by omega)) h316 (by omega) (by rw [c319]; omega) (by have ct := R325.2.2.1; rw [c318, ct]; omega) (by omega) w322)
        refine hB _ _ _ _ (kgoC (is := KX7_readChain_11) rfl ?_)
        refine k_iload rfl ?_
        refine k_sipush (m := 500) rfl (fun x330 h331 => ?_)
        refine k_ic_gt (fun h332 => ?_) (fun h332 => ?_)
        · have X333 : ExC [0, 1, 2, 60, 61, 62, 63, 64, 65, 66, 67, 68, 69, 70, 72, 73, 74, 75, 76, 242, 243, 244, 999] σ0 σ67 := ExC.rf.tr (e69.mo (by decide))
          exact hW _ _ _ _ _ (List.forall_mem_cons.2 ⟨List.Mem.head _, (List.forall_mem_cons.2 ⟨List.Mem.tail _ (List.Mem.tail _ (List.Mem.head _)), (List.forall_mem_cons.2 ⟨List.Mem.tail _ (List.Mem.tail _ (List.Mem.tail _ (List.Mem.head _))), fun _ h => absurd h List.not_mem_nil⟩)⟩)⟩) (L98 _ σ67 v11_2 v11_3 (gn11) rfl H68 X333 (R70.mo (by omega) (by omega) (by omega)) h71 (by omega) h75)
        · refine k_nil ?_
          refine hB _ _ _ _ (kgoC (is := KX7_readChain_19) rfl ?_)
          refine k_aload_n rfl ?_
          have X334 : ExC [0, 1, 2, 60, 61, 62, 63, 64, 65, 66, 67, 68, 69, 70, 72, 73, 74, 75, 76, 242, 243, 244, 999] σ0 σ67 := ExC.rf.tr (e69.mo (by decide))
          refine k_inv (P := P_X7_code) (Q := Q_X7_code) rfl rfl rfl rfl (Nat.le_of_ble_eq_true rfl) (t81.rc (by decide)) ⟨_, rfl, H68, t81, (rd_cd.st H0 h_0_0 X334 R70.1 (by decide))⟩ (fun w335 σ336 q337 => ?_)
          obtain ⟨x338, rfl, rfl, q339, q340, q341⟩ := q337
          refine k_st (st' := [.inl x338]) rfl ?_
          have z342 := R70.2.2.1
          have z343 := R70.2.2.2.1 rd_at
          refine k_stat (P := P_X11_strength) (Q := Q_X11_strength) rfl rfl (Nat.le_of_ble_eq_true rfl) rfl rfl (Nat.le_of_ble_eq_true rfl) ⟨_, rfl, H68⟩ (fun w344 σ345 q346 => ?_)
          obtain ⟨x347, rfl, rfl, q348⟩ := q346
          refine k_st (st' := [.inl x347]) rfl ?_
          refine k_if_le (fun h349 => ?_) (fun h349 => ?_)
          · exact hW _ _ _ _ _ (List.forall_mem_cons.2 ⟨List.Mem.head _, (List.forall_mem_cons.2 ⟨List.Mem.tail _ (List.Mem.tail _ (List.Mem.head _)), (List.forall_mem_cons.2 ⟨List.Mem.tail _ (List.Mem.tail _ (List.Mem.tail _ (List.Mem.head _))), fun _ h => absurd h List.not_mem_nil⟩)⟩)⟩) (L98 _ σ67 v11_2 v11_3 (gn11) rfl H68 X334 (R70.mo (by omega) (by omega) (by omega)) h71 (by omega) h75)
          · have h350 := q348 (by omega)
            have h351 : x82.toInt = 0 := by omega
            refine k_nil ?_
            refine hB _ _ _ _ (kgoC (is := KX7_readChain_29) rfl ?_)
            refine k_aload_n rfl ?_
            have R352 := R70.nf ((-1000) - ((gn11 : Nat) : Int)) ((-1000) - ((gn11 : Nat) : Int)) (by rw [c84]; omega)
            refine k_inv (P := P_X7_code) (Q := Q_X7_code) rfl rfl rfl rfl (Nat.le_of_ble_eq_true rfl) (t81.rc (by decide)) ⟨_, rfl, H68, t81, (rd_cd.st H0 h_0_0 X334 R352.1 (by decide))⟩ (fun w353 σ354 q355 => ?_)
            obtain ⟨x356, rfl, rfl, q357, q358, q359⟩ := q355
            refine k_st (st' := [.inl x356]) rfl ?_
            refine k_istore (ls' := [(5, .inl x356), (0, .inr (.inr (some p0))), (1, .inl p1), (2, .inr (.inr (some v11_2))), (3, .inr (.inr v11_3)), (4, .inl v11_4)]) rfl ?_
            refine k_nil ?_
            exact hW _ _ _ _ _ (List.forall_mem_cons.2 ⟨List.Mem.tail _ (List.Mem.head _), (List.forall_mem_cons.2 ⟨List.Mem.tail _ (List.Mem.tail _ (List.Mem.head _)), (List.forall_mem_cons.2 ⟨List.Mem.tail _ (List.Mem.tail _ (List.Mem.tail _ (List.Mem.head _))), (List.forall_mem_cons.2 ⟨List.Mem.tail _ (List.Mem.tail _ (List.Mem.tail _ (List.Mem.tail _ (List.Mem.head _)))), (List.forall_mem_cons.2 ⟨List.Mem.tail _ (List.Mem.tail _ (List.Mem.tail _ (List.Mem.tail _ (List.Mem.tail _ (List.Mem.head _))))), (List.forall_mem_cons.2 ⟨List.Mem.head _, fun _ h => absurd h List.not_mem_nil⟩)⟩)⟩)⟩)⟩)⟩) (L35 _ σ67 v11_2 v11_3 x356 (gn11) rfl H68 ExC.rf (R352.mo (by omega) (by omega) (by omega)) h71 (by omega) (by rw [c84]; omega) (by have ct := R352.2.2.1; rw [c78, ct]; omega) (by omega) h75)
    refine hB _ _ _ _ (kgoC (is := KX7_readChain_0) rfl ?_)
    refine k_aload_n rfl ?_
    refine k_iload_n rfl ?_
    refine k_inv (P := (P_X7_readOperand d)) (Q := (Q_X7_readOperand d)) rfl rfl rfl rfl (Nat.le_of_ble_eq_true rfl) (h_0_0.rc (by decide)) ⟨_, _, rfl, H0, h_0_0, (by omega), (by omega), (rd_cd.st H0 h_0_0 (ExC.rf : ExC [0, 1, 2, 60, 61, 62, 63, 64, 65, 66, 67, 68, 69, 70, 72, 73, 74, 75, 76, 242, 243, 244, 999] σ0 σ0) (RdC.rf : RdC p0 none 0 0 0 σ0 σ0).1 (by decide)), ((RdC.rf : RdC p0 none 0 0 0 σ0 σ0).2.2.2.1 rd_at), (rd_bg.st H0 h_0_0 (ExC.rf : ExC [0, 1, 2, 60, 61, 62, 63, 64, 65, 66, 67, 68, 69, 70, 72, 73, 74, 75, 76, 242, 243, 244, 999] σ0 σ0) (RdC.rf : RdC p0 none 0 0 0 σ0 σ0) (by decide) (by omega) (by omega) (by omega)), (by omega)⟩ (fun w360 σ361 q362 => ?_)
    obtain ⟨a363, rfl, H364, e365, h367, R366, q368⟩ := q362
    have t374 := h_0_0.x e365
    obtain ⟨x369, e370, c371, h372, h373⟩ := cg242 H364.1 t374
    obtain ⟨x375, e376, c377, h378, h379⟩ := cg243 H364.1 t374
    have z380 := congrArg Int32.toInt c371
    have z381 := congrArg Int32.toInt c377
    refine k_st (st' := [.inr (.inr (some a363))]) rfl ?_
    have z382 := (RdC.rf : RdC p0 none 0 0 0 σ0 σ0).1.1
    have R383 : RdC p0 none (0) (14 + 8 * (d : Int)) (1) σ0 σ361 := (RdC.rf : RdC p0 none 0 0 0 σ0 σ0).tr ⟨R366.1, R366.2⟩ (by omega) (by omega) (by omega) (by omega)
    have z384 := R383.2.2.1
    have z385 := R383.2.2.2.1 rd_at
    refine k_astore_n (ls' := [(2, .inr (.inr (some a363))), (0, .inr (.inr (some p0))), (1, .inl p1)]) rfl ?_
    refine k_aconst_null ?_
    refine k_astore_n (ls' := [(3, .inr (.inr none)), (2, .inr (.inr (some a363))), (0, .inr (.inr (some p0))), (1, .inl p1)]) rfl ?_
    refine k_iconst (m := 0) rfl (fun x386 h387 => ?_)
    refine k_istore (ls' := [(4, .inl x386), (3, .inr (.inr none)), (2, .inr (.inr (some a363))), (0, .inr (.inr (some p0))), (1, .inl p1)]) rfl ?_
    refine k_nil ?_
    have X388 : ExC [0, 1, 2, 60, 61, 62, 63, 64, 65, 66, 67, 68, 69, 70, 72, 73, 74, 75, 76, 242, 243, 244, 999] σ0 σ361 := ExC.rf.tr (e365.mo (by decide))
    exact hW _ _ _ _ _ (List.forall_mem_cons.2 ⟨List.Mem.tail _ (List.Mem.tail _ (List.Mem.tail _ (List.Mem.head _))), (List.forall_mem_cons.2 ⟨List.Mem.tail _ (List.Mem.tail _ (List.Mem.tail _ (List.Mem.tail _ (List.Mem.head _)))), (List.forall_mem_cons.2 ⟨List.Mem.tail _ (List.Mem.tail _ (List.Mem.head _)), (List.forall_mem_cons.2 ⟨List.Mem.tail _ (List.Mem.head _), (List.forall_mem_cons.2 ⟨List.Mem.head _, fun _ h => absurd h List.not_mem_nil⟩)⟩)⟩)⟩)⟩) (L11 _ σ361 a363 none x386 (0) rfl H364 X388 (R383.mo (by omega) (by omega) (by omega)) h367 (by omega) (by omega) (by omega) rfl)
