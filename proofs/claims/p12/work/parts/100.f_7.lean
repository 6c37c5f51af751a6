set_option maxRecDepth 100000 in
set_option maxHeartbeats 4000000 in
theorem b_X7_readStatement (d : Nat) : TbC KX7_readStatement [(131, P_X7_isTooDeep, Q_X7_isTooDeep), (125, P_X7_code, Q_X7_code), (150, (P_X7_readSimple d), (Q_X7_readSimple d)), (154, (P_X7_readIf d), (Q_X7_readIf d)), (155, (P_X7_readWhile d), (Q_X7_readWhile d)), (156, (P_X7_readDo d), (Q_X7_readDo d)), (157, (P_X7_readFor d), (Q_X7_readFor d)), (159, (P_X7_readSwitch d), (Q_X7_readSwitch d)), (160, (P_X7_readTry d), (Q_X7_readTry d)), (152, (P_X7_readExpStatement d), (Q_X7_readExpStatement d)), (126, P_X7_codeBehind, Q_X7_codeBehind), (151, (P_X7_readLabel d), (Q_X7_readLabel d))] (P_X7_readStatement d) (Q_X7_readStatement d) := by
  · rintro As σ0 ⟨p0, p1, rfl, H0, h_0_0, h_1_0, h_1_1, rd_cd, rd_at, rd_bg, rd_dp⟩ hgr G hB hW
    change G 0 [(0, .inr (.inr (some p0))), (1, .inl p1)] [] σ0
    obtain ⟨x1, e2, c3, h4, h5⟩ := cg242 H0.1 h_0_0
    obtain ⟨x6, e7, c8, h9, h10⟩ := cg243 H0.1 h_0_0
    have z11 := congrArg Int32.toInt c3
    have z12 := congrArg Int32.toInt c8
    refine hB _ _ _ _ (kgoC (is := KX7_readStatement_0) rfl ?_)
    refine k_aload_n rfl ?_
    refine k_iload_n rfl ?_
    refine k_inv (P := P_X7_isTooDeep) (Q := Q_X7_isTooDeep) rfl rfl rfl rfl (Nat.le_of_ble_eq_true rfl) (h_0_0.rc (by decide)) ⟨_, _, rfl, H0, h_0_0, (rd_cd.st H0 h_0_0 (ExC.rf : ExC [0, 1, 2, 60, 61, 62, 63, 64, 65, 66, 67, 68, 69, 70, 72, 73, 74, 75, 76, 242, 243, 244, 246, 270, 271, 272, 273, 275, 276, 277, 278, 279, 280, 330, 331, 332, 333, 334, 999] σ0 σ0) (RdC.rf : RdC p0 none 0 0 0 σ0 σ0).1 (by decide)), ((RdC.rf : RdC p0 none 0 0 0 σ0 σ0).2.2.2.1 rd_at), (rd_bg.st H0 h_0_0 (ExC.rf : ExC [0, 1, 2, 60, 61, 62, 63, 64, 65, 66, 67, 68, 69, 70, 72, 73, 74, 75, 76, 242, 243, 244, 246, 270, 271, 272, 273, 275, 276, 277, 278, 279, 280, 330, 331, 332, 333, 334, 999] σ0 σ0) (RdC.rf : RdC p0 none 0 0 0 σ0 σ0) (by decide) (by omega) (by omega) (by omega))⟩ (fun w13 σ14 q15 => ?_)
    obtain ⟨x16, rfl, H17, e18, h20, h21, R19, q22, q23, q24⟩ := q15
    have c25 := (h_0_0.mi e18 (by decide)).trans c3
    have t31 := h_0_0.x e18
    obtain ⟨x26, e27, c28, h29, h30⟩ := cg243 H17.1 t31
    have z32 := congrArg Int32.toInt c25
    have z33 := congrArg Int32.toInt c28
    refine k_st (st' := [.inl x16]) rfl ?_
    rcases (by omega : x16.toInt = 0 ∨ x16.toInt = 1) with g34 | g34
    · have h35 := q23 (by omega)
      refine k_popI ?_
      refine k_aload_n rfl ?_
      have R36 : RdC p0 none (0) (0) (0) σ0 σ14 := (RdC.rf : RdC p0 none 0 0 0 σ0 σ0).tr ⟨R19.1, R19.2⟩ (by omega) (by omega) (by omega) (by omega)
      have X37 : ExC [0, 1, 2, 60, 61, 62, 63, 64, 65, 66, 67, 68, 69, 70, 72, 73, 74, 75, 76, 242, 243, 244, 246, 270, 271, 272, 273, 275, 276, 277, 278, 279, 280, 330, 331, 332, 333, 334, 999] σ0 σ14 := ExC.rf.tr (e18.mo (by decide))
      refine k_inv (P := P_X7_code) (Q := Q_X7_code) rfl rfl rfl rfl (Nat.le_of_ble_eq_true rfl) (t31.rc (by decide)) ⟨_, rfl, H17, t31, (rd_cd.st H0 h_0_0 X37 R36.1 (by decide))⟩ (fun w38 σ39 q40 => ?_)
      obtain ⟨x41, rfl, rfl, q42, q43, q44, q45⟩ := q40
      refine k_st (st' := [.inl x41]) rfl ?_
      have z46 := R36.2.2.1
      have z47 := R36.2.2.2.1 rd_at
      refine k_lsw ?_
      refine k_swc (fun h48 => ?_) (fun h48 => ?_)
      · have h49 : x26.toInt = 0 := by omega
        refine hB _ _ _ _ (kgoC (is := KX7_readStatement_152) rfl ?_)
        refine k_aload_n rfl ?_
        refine k_iload_n rfl ?_
        have R50 := R36.nf (-1000) (-1000) (by rw [c28]; omega)
        refine k_inv (P := (P_X7_readSimple d)) (Q := (Q_X7_readSimple d)) rfl rfl rfl rfl (Nat.le_of_ble_eq_true rfl) (t31.rc (by decide)) ⟨_, _, rfl, H17, t31, (by omega), (by omega), (rd_cd.st H0 h_0_0 X37 R50.1 (by decide)), (R50.2.2.2.1 rd_at), ((show BgC σ14 p0 (24 + 8 * (d : Int)) 0 from (rd_bg.stn H0 h_0_0 X37 R50 (by decide) (by rw [c28]; omega) (by omega))).1 (by rw [c28]; omega)), (by rw [c28]; omega), (by have ct := R50.2.2.1; rw [c28, c25, ct]; omega), (by omega), (by omega)⟩ (fun w51 σ52 q53 => ?_)
        obtain ⟨a54, rfl, H55, e56, h58, R57, q59, q60, q61, q62⟩ := q53
        have t68 := t31.x e56
        obtain ⟨x63, e64, c65, h66, h67⟩ := cg242 H55.1 t68
        obtain ⟨x69, e70, c71, h72, h73⟩ := cg243 H55.1 t68
        have z74 := congrArg Int32.toInt c65
        have z75 := congrArg Int32.toInt c71
        refine k_st (st' := [.inr (.inr (some a54))]) rfl ?_
        have z76 := R50.1.1
        obtain ⟨x77, e78, c79, h80, h81⟩ := cg272 H55.1 h58
        rw [c79] at q60
        obtain ⟨x82, e83, c84, h85, h86⟩ := cg270 H55.1 h58
        rw [c84] at q61
        have R87 : RdC p0 none (0) (24 + 8 * (d : Int)) (-1000) σ0 σ52 := R50.tr ⟨R57.1, R57.2⟩ (by omega) (by omega) (by omega) (by omega)
        have z88 := R87.2.2.1
        have z89 := R87.2.2.2.1 rd_at
        refine k_areturn ?_
        have X90 : ExC [0, 1, 2, 60, 61, 62, 63, 64, 65, 66, 67, 68, 69, 70, 72, 73, 74, 75, 76, 242, 243, 244, 246, 270, 271, 272, 273, 275, 276, 277, 278, 279, 280, 330, 331, 332, 333, 334, 999] σ0 σ52 := X37.tr (e56.mo (by decide))
        have S97 : ∀ s, ReC σ0 p0 s → ReC σ52 p0 (stY d s) := by
          intro s hs
          have y91 := q24 _ hs
          rw [dpY_n (by omega)] at y91
          have f93 := q45 _ y91
          have y94 := q62 _ y91
          have g96 := f93.symm.trans (h48.trans rfl)
          refine y94.eq ?_
          all_goals try first | rw [show d = 0 from by omega] | rw [stY_s (show 1 ≤ d from by omega)]
          all_goals try simp only [stsY, smY, g96, or_false, false_or, or_true, true_or, and_false, false_and, and_true, true_and, not_true, not_false_iff, ↓reduceIte, Int.reduceEq, Int.reduceLE, Int.reduceLT, Int.reduceNeg]
          all_goals first | rfl | exact xst0.symm | (exfalso; omega)
        exact ⟨_, rfl, H55, X90, h58, (R87.mo (by omega) (by omega) (by omega)), (by omega), (by rw [c79] <;> omega), (by rw [c84] <;> omega), S97⟩
      refine k_swc (fun h98 => ?_) (fun h98 => ?_)
      · have h99 : x26.toInt = 0 := by omega
        refine hB _ _ _ _ (kgoC (is := KX7_readStatement_152) rfl ?_)
        refine k_aload_n rfl ?_
        refine k_iload_n rfl ?_
        have R100 := R36.nf (-1000) (-1000) (by rw [c28]; omega)
        refine k_inv (P := (P_X7_readSimple d)) (Q := (Q_X7_readSimple d)) rfl rfl rfl rfl (Nat.le_of_ble_eq_true rfl) (t31.rc (by decide)) ⟨_, _, rfl, H17, t31, (by omega), (by omega), (rd_cd.st H0 h_0_0 X37 R100.1 (by decide)), (R100.2.2.2.1 rd_at), ((show BgC σ14 p0 (24 + 8 * (d : Int)) 0 from (rd_bg.stn H0 h_0_0 X37 R100 (by decide) (by rw [c28]; omega) (by omega))).1 (by rw [c28]; omega)), (by rw [c28]; omega), (by have ct := R100.2.2.1; rw [c28, c25, ct]; omega), (by omega), (by omega)⟩ (fun w101 σ102 q103 => ?_)
        obtain ⟨a104, rfl, H105, e106, h108, R107, q109, q110, q111, q112⟩ := q103
        have t118 := t31.x e106
        obtain ⟨x113, e114, c115, h116, h117⟩ := cg242 H105.1 t118
        obtain ⟨x119, e120, c121, h122, h123⟩ := cg243 H105.1 t118
        have z124 := congrArg Int32.toInt c115
        have z125 := congrArg Int32.toInt c121
        refine k_st (st' := [.inr (.inr (some a104))]) rfl ?_
        have z126 := R100.1.1
        obtain ⟨x127, e128, c129, h130, h131⟩ := cg272 H105.1 h108
        rw [c129] at q110
        obtain ⟨x132, e133, c134, h135, h136⟩ := cg270 H105.1 h108
        rw [c134] at q111
        have R137 : RdC p0 none (0) (24 + 8 * (d : Int)) (-1000) σ0 σ102 := R100.tr ⟨R107.1, R107.2⟩ (by omega) (by omega) (by omega) (by omega)
        have z138 := R137.2.2.1
        have z139 := R137.2.2.2.1 rd_at
        refine k_areturn ?_
        have X140 : ExC [0, 1, 2, 60, 61, 62, 63, 64, 65, 66, 67, 68, 69, 70, 72, 73, 74, 75, 76, 242, 243, 244, 246, 270, 271, 272, 273, 275, 276, 277, 278, 279, 280, 330, 331, 332, 333, 334, 999] σ0 σ102 := X37.tr (e106.mo (by decide))
        have S148 : ∀ s, ReC σ0 p0 s → ReC σ102 p0 (stY d s) := by
          intro s hs
          have y141 := q24 _ hs
          rw [dpY_n (by omega)] at y141
          have f143 := q45 _ y141
          have y144 := q112 _ y141
          have g146 := neY f143 h48 rfl
          have g147 := f143.symm.trans (h98.trans rfl)
          refine y144.eq ?_
          all_goals try first | rw [show d = 0 from by omega] | rw [stY_s (show 1 ≤ d from by omega)]
          all_goals try simp only [stsY, smY, g146, g147, or_false, false_or, or_true, true_or, and_false, false_and, and_true, true_and, not_true, not_false_iff, ↓reduceIte, Int.reduceEq, Int.reduceLE, Int.reduceLT, Int.reduceNeg]
          all_goals first | rfl | exact xst0.symm | (exfalso; omega)
        exact ⟨_, rfl, H105, X140, h108, (R137.mo (by omega) (by omega) (by omega)), (by omega), (by rw [c129] <;> omega), (by rw [c134] <;> omega), S148⟩
      refine k_swc (fun h149 => ?_) (fun h149 => ?_)
      · have h150 : x26.toInt = 0 := by omega
        refine hB _ _ _ _ (kgoC (is := KX7_readStatement_116) rfl ?_)
        refine k_aload_n rfl ?_
        refine k_iload_n rfl ?_
        have R151 := R36.nf (-1000) (-1000) (by rw [c28]; omega)
        refine k_inv (P := (P_X7_readIf d)) (Q := (Q_X7_readIf d)) rfl rfl rfl rfl (Nat.le_of_ble_eq_true rfl) (t31.rc (by decide)) ⟨_, _, rfl, H17, t31, (by omega), (by omega), (rd_cd.st H0 h_0_0 X37 R151.1 (by decide)), (R151.2.2.2.1 rd_at), ((show BgC σ14 p0 (24 + 8 * (d : Int)) 0 from (rd_bg.stn H0 h_0_0 X37 R151 (by decide) (by rw [c28]; omega) (by omega))).1 (by rw [c28]; omega)), (by rw [c28]; omega), (by have ct := R151.2.2.1; rw [c28, c25, ct]; omega), (by omega)⟩ (fun w152 σ153 q154 => ?_)
        obtain ⟨a155, rfl, H156, e157, h159, R158, q160, q161, q162, q163⟩ := q154
        have t169 := t31.x e157
        obtain ⟨x164, e165, c166, h167, h168⟩ := cg242 H156.1 t169
        obtain ⟨x170, e171, c172, h173, h174⟩ := cg243 H156.1 t169
        have z175 := congrArg Int32.toInt c166
        have z176 := congrArg Int32.toInt c172
        refine k_st (st' := [.inr (.inr (some a155))]) rfl ?_
        have z177 := R151.1.1
        obtain ⟨x178, e179, c180, h181, h182⟩ := cg272 H156.1 h159
        rw [c180] at q161
        obtain ⟨x183, e184, c185, h186, h187⟩ := cg270 H156.1 h159
        rw [c185] at q162
        have R188 : RdC p0 none (0) (24 + 8 * (d : Int)) (-1000) σ0 σ153 := R151.tr ⟨R158.1, R158.2⟩ (by omega) (by omega) (by omega) (by omega)
        have z189 := R188.2.2.1
        have z190 := R188.2.2.2.1 rd_at
        refine k_areturn ?_
        have X191 : ExC [0, 1, 2, 60, 61, 62, 63, 64, 65, 66, 67, 68, 69, 70, 72, 73, 74, 75, 76, 242, 243, 244, 246, 270, 271, 272, 273, 275, 276, 277, 278, 279, 280, 330, 331, 332, 333, 334, 999] σ0 σ153 := X37.tr (e157.mo (by decide))
        have S200 : ∀ s, ReC σ0 p0 s → ReC σ153 p0 (stY d s) := by
          intro s hs
          have y192 := q24 _ hs
          rw [dpY_n (by omega)] at y192
          have f194 := q45 _ y192
          have y195 := q163 _ y192
          have g197 := neY f194 h48 rfl
          have g198 := neY f194 h98 rfl
          have g199 := f194.symm.trans (h149.trans rfl)
          refine y195.eq ?_
          all_goals try first | rw [show d = 0 from by omega] | rw [stY_s (show 1 ≤ d from by omega)]
          all_goals try simp only [stsY, smY, g197, g198, g199, or_false, false_or, or_true, true_or, and_false, false_and, and_true, true_and, not_true, not_false_iff, ↓reduceIte, Int.reduceEq, Int.reduceLE, Int.reduceLT, Int.reduceNeg]
          all_goals first | rfl | exact xst0.symm | (exfalso; omega)
        exact ⟨_, rfl, H156, X191, h159, (R188.mo (by omega) (by omega) (by omega)), (by omega), (by rw [c180] <;> omega), (by rw [c185] <;> omega), S200⟩
      refine k_swc (fun h201 => ?_) (fun h201 => ?_)
      · have h202 : x26.toInt = 0 := by omega
        refine hB _ _ _ _ (kgoC (is := KX7_readStatement_122) rfl ?_)
        refine k_aload_n rfl ?_
        refine k_iload_n rfl ?_
        have R203 := R36.nf (-1000) (-1000) (by rw [c28]; omega)
        refine k_inv (P := (P_X7_readWhile d)) (Q := (Q_X7_readWhile d)) rfl rfl rfl rfl (Nat.le_of_ble_eq_true rfl) (t31.rc (by decide)) ⟨_, _, rfl, H17, t31, (by omega), (by omega), (rd_cd.st H0 h_0_0 X37 R203.1 (by decide)), (R203.2.2.2.1 rd_at), ((show BgC σ14 p0 (24 + 8 * (d : Int)) 0 from (rd_bg.stn H0 h_0_0 X37 R203 (by decide) (by rw [c28]; omega) (by omega))).1 (by rw [c28]; omega)), (by rw [c28]; omega), (by have ct := R203.2.2.1; rw [c28, c25, ct]; omega), (by omega)⟩ (fun w204 σ205 q206 => ?_)
        obtain ⟨a207, rfl, H208, e209, h211, R210, q212, q213, q214, q215⟩ := q206
        have t221 := t31.x e209
        obtain ⟨x216, e217, c218, h219, h220⟩ := cg242 H208.1 t221
        obtain ⟨x222, e223, c224, h225, h226⟩ := cg243 H208.1 t221
        have z227 := congrArg Int32.toInt c218
        have z228 := congrArg Int32.toInt c224
        refine k_st (st' := [.inr (.inr (some a207))]) rfl ?_
        have z229 := R203.1.1
        obtain ⟨x230, e231, c232, h233, h234⟩ := cg272 H208.1 h211
        rw [c232] at q213
        obtain ⟨x235, e236, c237, h238, h239⟩ := cg270 H208.1 h211
        rw [c237] at q214
        have R240 : RdC p0 none (0) (24 + 8 * (d : Int)) (-1000) σ0 σ205 := R203.tr ⟨R210.1, R210.2⟩ (by omega) (by omega) (by omega) (by omega)
        have z241 := R240.2.2.1
        have z242 := R240.2.2.2.1 rd_at
        refine k_areturn ?_
        have X243 : ExC [0, 1, 2, 60, 61, 62, 63, 64, 65, 66, 67, 68, 69, 70, 72, 73, 74, 75, 76, 242, 243, 244, 246, 270, 271, 272, 273, 275, 276, 277, 278, 279, 280, 330, 331, 332, 333, 334, 999] σ0 σ205 := X37.tr (e209.mo (by decide))
        have S253 : ∀ s, ReC σ0 p0 s → ReC σ205 p0 (stY d s) := by
          intro s hs
          have y244 := q24 _ hs
          rw [dpY_n (by omega)] at y244
          have f246 := q45 _ y244
          have y247 := q215 _ y244
          have g249 := neY f246 h48 rfl
          have g250 := neY f246 h98 rfl
          have g251 := neY f246 h149 rfl
          have g252 := f246.symm.trans (h201.trans rfl)
          refine y247.eq ?_
          all_goals try first | rw [show d = 0 from by omega] | rw [stY_s (show 1 ≤ d from by omega)]
          all_goals try simp only [stsY, smY, g249, g250, g251, g252, or_false, false_or, or_true, true_or, and_false, false_and, and_true, true_and, not_true, not_false_iff, ↓reduceIte, Int.reduceEq, Int.reduceLE, Int.reduceLT, Int.reduceNeg]
          all_goals first | rfl | exact xst0.symm | (exfalso; omega)
        exact ⟨_, rfl, H208, X243, h211, (R240.mo (by omega) (by omega) (by omega)), (by omega), (by rw [c232] <;> omega), (by rw [c237] <;> omega), S253⟩
      refine k_swc (fun h254 => ?_) (fun h254 => ?_)
      · have h255 : x26.toInt = 0 := by omega
        refine hB _ _ _ _ (kgoC (is := KX7_readStatement_128) rfl ?_)
        refine k_aload_n rfl ?_
        refine k_iload_n rfl ?_
        have R256 := R36.nf (-1000) (-1000) (by rw [c28]; omega)
        refine k_inv (P := (P_X7_readDo d)) (Q := (Q_X7_readDo d)) rfl rfl rfl rfl (Nat.le_of_ble_eq_true rfl) (t31.rc (by decide)) ⟨_, _, rfl, H17, t31, (by omega), (by omega), (rd_cd.st H0 h_0_0 X37 R256.1 (by decide)), (R256.2.2.2.1 rd_at), ((show BgC σ14 p0 (24 + 8 * (d : Int)) 0 from (rd_bg.stn H0 h_0_0 X37 R256 (by decide) (by rw [c28]; omega) (by omega))).1 (by rw [c28]; omega)), (by rw [c28]; omega), (by have ct := R256.2.2.1; rw [c28, c25, ct]; omega), (by omega)⟩ (fun w257 σ258 q259 => ?_)
        obtain ⟨a260, rfl, H261, e262, h264, R263, q265, q266, q267, q268⟩ := q259
        have t274 := t31.x e262
        obtain ⟨x269, e270, c271, h272, h273⟩ := cg242 H261.1 t274
        obtain ⟨x275, e276, c277, h278, h279⟩ := cg243 H261.1 t274
        have z280 := congrArg Int32.toInt c271
        have z281 := congrArg Int32.toInt c277
        refine k_st (st' := [.inr (.inr (some a260))]) rfl ?_
        have z282 := R256.1.1
        obtain ⟨x283, e284, c285, h286, h287⟩ := cg272 H261.1 h264
        rw [c285] at q266
        obtain ⟨x288, e289, c290, h291, h292⟩ := cg270 H261.1 h264
        rw [c290] at q267
        have R293 : RdC p0 none (0) (24 + 8 * (d : Int)) (-1000) σ0 σ258 := R256.tr ⟨R263.1, R263.2⟩ (by omega) (by omega) (by omega) (by omega)
        have z294 := R293.2.2.1
        have z295 := R293.2.2.2.1 rd_at
        refine k_areturn ?_
        have X296 : ExC [0, 1, 2, 60, 61, 62, 63, 64, 65, 66, 67, 68, 69, 70, 72, 73, 74, 75, 76, 242, 243, 244, 246, 270, 271, 272, 273, 275, 276, 277, 278, 279, 280, 330, 331, 332, 333, 334, 999] σ0 σ258 := X37.tr (e262.mo (by decide))
        have S307 : ∀ s, ReC σ0 p0 s → ReC σ258 p0 (stY d s) := by
          intro s hs
          have y297 := q24 _ hs
          rw [dpY_n (by omega)] at y297
          have f299 := q45 _ y297
          have y300 := q268 _ y297
          have g302 := neY f299 h48 rfl
          have g303 := neY f299 h98 rfl
          have g304 := neY f299 h149 rfl
          have g305 := neY f299 h201 rfl
          have g306 := f299.symm.trans (h254.trans rfl)
          refine y300.eq ?_
          all_goals try first | rw [show d = 0 from by omega] | rw [stY_s (show 1 ≤ d from by omega)]
          all_goals try simp only [stsY, smY, g302, g303, g304, g305, g306, or_false, false_or, or_true, true_or, and_false, false_and, and_true, true_and, not_true, not_false_iff, ↓reduceIte, Int.reduceEq, Int.reduceLE, Int.reduceLT, Int.reduceNeg]
          all_goals first | rfl | exact xst0.symm | (exfalso; omega)
        exact ⟨_, rfl, H261, X296, h264, (R293.mo (by omega) (by omega) (by omega)), (by omega), (by rw [c285] <;> omega), (by rw [c290] <;> omega), S307⟩
      refine k_swc (fun h308 => ?_) (fun h308 => ?_)
      · have h309 : x26.toInt = 0 := by omega
        refine hB _ _ _ _ (kgoC (is := KX7_readStatement_134) rfl ?_)
        refine k_aload_n rfl ?_
        refine k_iload_n rfl ?_
        have R310 := R36.nf (-1000) (-1000) (by rw [c28]; omega)
        refine k_inv (P := (P_X7_readFor d)) (Q := (Q_X7_readFor d)) rfl rfl rfl rfl (Nat.le_of_ble_eq_true rfl) (t31.rc (by decide)) ⟨_, _, rfl, H17, t31, (by omega), (by omega), (rd_cd.st H0 h_0_0 X37 R310.1 (by decide)), (R310.2.2.2.1 rd_at), ((show BgC σ14 p0 (24 + 8 * (d : Int)) 0 from (rd_bg.stn H0 h_0_0 X37 R310 (by decide) (by rw [c28]; omega) (by omega))).1 (by rw [c28]; omega)), (by rw [c28]; omega), (by have ct := R310.2.2.1; rw [c28, c25, ct]; omega), (by omega)⟩ (fun w311 σ312 q313 => ?_)
        obtain ⟨a314, rfl, H315, e316, h318, R317, q319, q320, q321, q322⟩ := q313
        have t328 := t31.x e316
        obtain ⟨x323, e324, c325, h326, h327⟩ := cg242 H315.1 t328
        obtain ⟨x329, e330, c331, h332, h333⟩ := cg243 H315.1 t328
        have z334 := congrArg Int32.toInt c325
        have z335 := congrArg Int32.toInt c331
        refine k_st (st' := [.inr (.inr (some a314))]) rfl ?_
        have z336 := R310.1.1
        obtain ⟨x337, e338, c339, h340, h341⟩ := cg272 H315.1 h318
        rw [c339] at q320
        obtain ⟨x342, e343, c344, h345, h346⟩ := cg270 H315.1 h318
        rw [c344] at q321
        have R347 : RdC p0 none (0) (24 + 8 * (d : Int)) (-1000) σ0 σ312 := R310.tr ⟨R317.1, R317.2⟩ (by omega) (by omega) (by omega) (by omega)
        have z348 := R347.2.2.1
        have z349 := R347.2.2.2.1 rd_at
        refine k_areturn ?_
        have X350 : ExC [0, 1, 2, 60, 61, 62, 63, 64, 65, 66, 67, 68, 69, 70, 72, 73, 74, 75, 76, 242, 243, 244, 246, 270, 271, 272, 273, 275, 276, 277, 278, 279, 280, 330, 331, 332, 333, 334, 999] σ0 σ312 := X37.tr (e316.mo (by decide))
        have S362 : ∀ s, ReC σ0 p0 s → ReC σ312 p0 (stY d s) := by
          intro s hs
          have y351 := q24 _ hs
          rw [dpY_n (by omega)] at y351
          have f353 := q45 _ y351
          have y354 := q322 _ y351
          have g356 := neY f353 h48 rfl
          have g357 := neY f353 h98 rfl
          have g358 := neY f353 h149 rfl
          have g359 := neY f353 h201 rfl
          have g360 := neY f353 h254 rfl
          have g361 := f353.symm.trans (h308.trans rfl)
          refine y354.eq ?_
          all_goals try first | rw [show d = 0 from by omega] | rw [stY_s (show 1 ≤ d from by omega)]
          all_goals try simp only [stsY, smY, g356, g357, g358, g359, g360, g361, or_false, false_or, or_true, true_or, and_false, false_and, and_true, true_and, not_true, not_false_iff, ↓reduceIte, Int.reduceEq, Int.reduceLE, Int.reduceLT, Int.reduceNeg]
          all_goals first | rfl | exact xst0.symm | (exfalso; omega)
        exact ⟨_, rfl, H315, X350, h318, (R347.mo (by omega) (by omega) (by omega)), (by omega), (by rw [c339] <;> omega), (by rw [c344] <;> omega), S362⟩
      refine k_swc (fun h363 => ?_) (fun h363 => ?_)
      · have h364 : x26.toInt = 0 := by omega
        refine hB _ _ _ _ (kgoC (is := KX7_readStatement_140) rfl ?_)
        refine k_aload_n rfl ?_
        refine k_iload_n rfl ?_
        have R365 := R36.nf (-1000) (-1000) (by rw [c28]; omega)
        refine k_inv (P := (P_X7_readSwitch d)) (Q := (Q_X7_readSwitch d)) rfl rfl rfl rfl (Nat.le_of_ble_eq_true rfl) (t31.rc (by decide)) ⟨_, _, rfl, H17, t31, (by omega), (by omega), (rd_cd.st H0 h_0_0 X37 R365.1 (by decide)), (R365.2.2.2.1 rd_at), ((show BgC σ14 p0 (24 + 8 * (d : Int)) 0 from (rd_bg.stn H0 h_0_0 X37 R365 (by decide) (by rw [c28]; omega) (by omega))).1 (by rw [c28]; omega)), (by rw [c28]; omega), (by have ct := R365.2.2.1; rw [c28, c25, ct]; omega), (by omega)⟩ (fun w366 σ367 q368 => ?_)
        obtain ⟨a369, rfl, H370, e371, h373, R372, q374, q375, q376, q377⟩ := q368
        have t383 := t31.x e371
        obtain ⟨x378, e379, c380, h381, h382⟩ := cg242 H370.1 t383
        obtain ⟨x384, e385, c386, h387, h388⟩ := cg243 H370.1 t383
        have z389 := congrArg Int32.toInt c380
        have z390 := congrArg Int32.toInt c386
        refine k_st (st' := [.inr (.inr (some a369))]) rfl ?_
        have z391 := R365.1.1
        obtain ⟨x392, e393, c394, h395, h396⟩ := cg272 H370.1 h373
        rw [c394] at q375
        obtain ⟨x397, e398, c399, h400, h401⟩ := cg270 H370.1 h373
        rw [c399] at q376
        have R402 : RdC p0 none (0) (24 + 8 * (d : Int)) (-1000) σ0 σ367 := R365.tr ⟨R372.1, R372.2⟩ (by omega) (by omega) (by omega) (by omega)
        have z403 := R402.2.2.1
        have z404 := R402.2.2.2.1 rd_at
        refine k_areturn ?_
        have X405 : ExC [0, 1, 2, 60, 61, 62, 63, 64, 65, 66, 67, 68, 69, 70, 72, 73, 74, 75, 76, 242, 243, 244, 246, 270, 271, 272, 273, 275, 276, 277, 278, 279, 280, 330, 331, 332, 333, 334, 999] σ0 σ367 := X37.tr (e371.mo (by decide))
        have S418 : ∀ s, ReC σ0 p0 s → ReC σ367 p0 (stY d s) := by
          intro s hs
          have y406 := q24 _ hs
          rw [dpY_n (by omega)] at y406
          have f408 := q45 _ y406
          have y409 := q377 _ y406
          have g411 := neY f408 h48 rfl
          have g412 := neY f408 h98 rfl
          have g413 := neY f408 h149 rfl
          have g414 := neY f408 h201 rfl
          have g415 := neY f408 h254 rfl
          have g416 := neY f408 h308 rfl
          have g417 := f408.symm.trans (h363.trans rfl)
          refine y409.eq ?_
          all_goals try first | rw [show d = 0 from by omega] | rw [stY_s (show 1 ≤ d from by omega)]
          all_goals try simp only [stsY, smY, g411, g412, g413, g414, g415, g416, g417, or_false, false_or, or_true, true_or, and_false, false_and, and_true, true_and, not_true, not_false_iff, ↓reduceIte, Int.reduceEq, Int.reduceLE, Int.reduceLT, Int.reduceNeg]
          all_goals first | rfl | exact xst0.symm | (exfalso; omega)
        exact ⟨_, rfl, H370, X405, h373, (R402.mo (by omega) (by omega) (by omega)), (by omega), (by rw [c394] <;> omega), (by rw [c399] <;> omega), S418⟩
      refine k_swc (fun h419 => ?_) (fun h419 => ?_)
      · have h420 : x26.toInt = 0 := by omega
        refine hB _ _ _ _ (kgoC (is := KX7_readStatement_152) rfl ?_)
        refine k_aload_n rfl ?_
        refine k_iload_n rfl ?_
        have R421 := R36.nf (-1000) (-1000) (by rw [c28]; omega)
        refine k_inv (P := (P_X7_readSimple d)) (Q := (Q_X7_readSimple d)) rfl rfl rfl rfl (Nat.le_of_ble_eq_true rfl) (t31.rc (by decide)) ⟨_, _, rfl, H17, t31, (by omega), (by omega), (rd_cd.st H0 h_0_0 X37 R421.1 (by decide)), (R421.2.2.2.1 rd_at), ((show BgC σ14 p0 (24 + 8 * (d : Int)) 0 from (rd_bg.stn H0 h_0_0 X37 R421 (by decide) (by rw [c28]; omega) (by omega))).1 (by rw [c28]; omega)), (by rw [c28]; omega), (by have ct := R421.2.2.1; rw [c28, c25, ct]; omega), (by omega), (by omega)⟩ (fun w422 σ423 q424 => ?_)
        obtain ⟨a425, rfl, H426, e427, h429, R428, q430, q431, q432, q433⟩ := q424
        have t439 := t31.x e427
        obtain ⟨x434, e435, c436, h437, h438⟩ := cg242 H426.1 t439
        obtain ⟨x440, e441, c442, h443, h444⟩ := cg243 H426.1 t439
        have z445 := congrArg Int32.toInt c436
        have z446 := congrArg Int32.toInt c442
        refine k_st (st' := [.inr (.inr (some a425))]) rfl ?_
        have z447 := R421.1.1
        obtain ⟨x448, e449, c450, h451, h452⟩ := cg272 H426.1 h429
        rw [c450] at q431
        obtain ⟨x453, e454, c455, h456, h457⟩ := cg270 H426.1 h429
        rw [c455] at q432
        have R458 : RdC p0 none (0) (24 + 8 * (d : Int)) (-1000) σ0 σ423 := R421.tr ⟨R428.1, R428.2⟩ (by omega) (by omega) (by omega) (by omega)
        have z459 := R458.2.2.1
        have z460 := R458.2.2.2.1 rd_at
        refine k_areturn ?_
        have X461 : ExC [0, 1, 2, 60, 61, 62, 63, 64, 65, 66, 67, 68, 69, 70, 72, 73, 74, 75, 76, 242, 243, 244, 246, 270, 271, 272, 273, 275, 276, 277, 278, 279, 280, 330, 331, 332, 333, 334, 999] σ0 σ423 := X37.tr (e427.mo (by decide))
        have S475 : ∀ s, ReC σ0 p0 s → ReC σ423 p0 (stY d s) := by
          intro s hs
          have y462 := q24 _ hs
          rw [dpY_n (by omega)] at y462
          have f464 := q45 _ y462
          have y465 := q433 _ y462
          have g467 := neY f464 h48 rfl
          have g468 := neY f464 h98 rfl
          have g469 := neY f464 h149 rfl
          have g470 := neY f464 h201 rfl
          have g471 := neY f464 h254 rfl
          have g472 := neY f464 h308 rfl
          have g473 := neY f464 h363 rfl
          have g474 := f464.symm.trans (h419.trans rfl)
          refine y465.eq ?_
          all_goals try first | rw [show d = 0 from by omega] | rw [stY_s (show 1 ≤ d from by omega)]
          all_goals try simp only [stsY, smY, g467, g468, g469, g470, g471, g472, g473, g474, or_false, false_or, or_true, true_or, and_false, false_and, and_true, true_and, not_true, not_false_iff, ↓reduceIte, Int.reduceEq, Int.reduceLE, Int.reduceLT, Int.reduceNeg]
          all_goals first | rfl | exact xst0.symm | (exfalso; omega)
        exact ⟨_, rfl, H426, X461, h429, (R458.mo (by omega) (by omega) (by omega)), (by omega), (by rw [c450] <;> omega), (by rw [c455] <;> omega), S475⟩
      refine k_swc (fun h476 => ?_) (fun h476 => ?_)
      · have h477 : x26.toInt = 0 := by omega
        refine hB _ _ _ _ (kgoC (is := KX7_readStatement_152) rfl ?_)
        refine k_aload_n rfl ?_
        refine k_iload_n rfl ?_
        have R478 := R36.nf (-1000) (-1000) (by rw [c28]; omega)
        refine k_inv (P := (P_X7_readSimple d)) (Q := (Q_X7_readSimple d)) rfl rfl rfl rfl (Nat.le_of_ble_eq_true rfl) (t31.rc (by decide)) ⟨_, _, rfl, H17, t31, (by omega), (by omega), (rd_cd.st H0 h_0_0 X37 R478.1 (by decide)), (R478.2.2.2.1 rd_at), ((show BgC σ14 p0 (24 + 8 * (d : Int)) 0 from (rd_bg.stn H0 h_0_0 X37 R478 (by decide) (by rw [c28]; omega) (by omega))).1 (by rw [c28]; omega)), (by rw [c28]; omega), (by have ct := R478.2.2.1; rw [c28, c25, ct]; omega), (by omega), (by omega)⟩ (fun w479 σ480 q481 => ?_)
        obtain ⟨a482, rfl, H483, e484, h486, R485, q487, q488, q489, q490⟩ := q481
        have t496 := t31.x e484
        obtain ⟨x491, e492, c493, h494, h495⟩ := cg242 H483.1 t496
        obtain ⟨x497, e498, c499, h500, h501⟩ := cg243 H483.1 t496
        have z502 := congrArg Int32.toInt c493
        have z503 := congrArg Int32.toInt c499
        refine k_st (st' := [.inr (.inr (some a482))]) rfl ?_
        have z504 := R478.1.1
        obtain ⟨x505, e506, c507, h508, h509⟩ := cg272 H483.1 h486
        rw [c507] at q488
        obtain ⟨x510, e511, c512, h513, h514⟩ := cg270 H483.1 h486
        rw [c512] at q489
        have R515 : RdC p0 none (0) (24 + 8 * (d : Int)) (-1000) σ0 σ480 := R478.tr ⟨R485.1, R485.2⟩ (by omega) (by omega) (by omega) (by omega)
        have z516 := R515.2.2.1
        have z517 := R515.2.2.2.1 rd_at
        refine k_areturn ?_
        have X518 : ExC [0, 1, 2, 60, 61, 62, 63, 64, 65, 66, 67, 68, 69, 70, 72, 73, 74, 75, 76, 242, 243, 244, 246, 270, 271, 272, 273, 275, 276, 277, 278, 279, 280, 330, 331, 332, 333, 334, 999] σ0 σ480 := X37.tr (e484.mo (by decide))
        have S533 : ∀ s, ReC σ0 p0 s → ReC σ480 p0 (stY d s) := by
          intro s hs
          have y519 := q24 _ hs
          rw [dpY_n (by omega)] at y519
          have f521 := q45 _ y519
          have y522 := q490 _ y519
          have g524 := neY f521 h48 rfl
          have g525 := neY f521 h98 rfl
          have g526 := neY f521 h149 rfl
          have g527 := neY f521 h201 rfl
          have g528 := neY f521 h254 rfl
          have g529 := neY f521 h308 rfl
          have g530 := neY f521 h363 rfl
          have g531 := neY f521 h419 rfl
          have g532 := f521.symm.trans (h476.trans rfl)
          refine y522.eq ?_
          all_goals try first | rw [show d = 0 from by omega] | rw [stY_s (show 1 ≤ d from by omega)]
          all_goals try simp only [stsY, smY, g524, g525, g526, g527, g528, g529, g530, g531, g532, or_false, false_or, or_true, true_or, and_false, false_and, and_true, true_and, not_true, not_false_iff, ↓reduceIte, Int.reduceEq, Int.reduceLE, Int.reduceLT, Int.reduceNeg]
          all_goals first | rfl | exact xst0.symm | (exfalso; omega)
        exact ⟨_, rfl, H483, X518, h486, (R515.mo (by omega) (by omega) (by omega)), (by omega), (by rw [c507] <;> omega), (by rw [c512] <;> omega), S533⟩
      refine k_swc (fun h534 => ?_) (fun h534 => ?_)
      · have h535 : x26.toInt = 0 := by omega
        refine hB _ _ _ _ (kgoC (is := KX7_readStatement_152) rfl ?_)
        refine k_aload_n rfl ?_
        refine k_iload_n rfl ?_
        have R536 := R36.nf (-1000) (-1000) (by rw [c28]; omega)
        refine k_inv (P := (P_X7_readSimple d)) (Q := (Q_X7_readSimple d)) rfl rfl rfl rfl (Nat.le_of_ble_eq_true rfl) (t31.rc (by decide)) ⟨_, _, rfl, H17, t31, (by omega), (by omega), (rd_cd.st H0 h_0_0 X37 R536.1 (by decide)), (R536.2.2.2.1 rd_at), ((show BgC σ14 p0 (24 + 8 * (d : Int)) 0 from (rd_bg.stn H0 h_0_0 X37 R536 (by decide) (by rw [c28]; omega) (by omega))).1 (by rw [c28]; omega)), (by rw [c28]; omega), (by have ct := R536.2.2.1; rw [c28, c25, ct]; omega), (by omega), (by omega)⟩ (fun w537 σ538 q539 => ?_)
        obtain ⟨a540, rfl, H541, e542, h544, R543, q545, q546, q547, q548⟩ := q539
        have t554 := t31.x e542
        obtain ⟨x549, e550, c551, h552, h553⟩ := cg242 H541.1 t554
        obtain ⟨x555, e556, c557, h558, h559⟩ := cg243 H541.1 t554
        have z560 := congrArg Int32.toInt c551
        have z561 := congrArg Int32.toInt c557
        refine k_st (st' := [.inr (.inr (some a540))]) rfl ?_
        have z562 := R536.1.1
        obtain ⟨x563, e564, c565, h566, h567⟩ := cg272 H541.1 h544
        rw [c565] at q546
        obtain ⟨x568, e569, c570, h571, h572⟩ := cg270 H541.1 h544
        rw [c570] at q547
        have R573 : RdC p0 none (0) (24 + 8 * (d : Int)) (-1000) σ0 σ538 := R536.tr ⟨R543.1, R543.2⟩ (by omega) (by omega) (by omega) (by omega)
        have z574 := R573.2.2.1
        have z575 := R573.2.2.2.1 rd_at
        refine k_areturn ?_
        have X576 : ExC [0, 1, 2, 60, 61, 62, 63, 64, 65, 66, 67, 68, 69, 70, 72, 73, 74, 75, 76, 242, 243, 244, 246, 270, 271, 272, 273, 275, 276, 277, 278, 279, 280, 330, 331, 332, 333, 334, 999] σ0 σ538 := X37.tr (e542.mo (by decide))
        have S592 : ∀ s, ReC σ0 p0 s → ReC σ538 p0 (stY d s) := by
          intro s hs
          have y577 := q24 _ hs
          rw [dpY_n (by omega)] at y577
          have f579 := q45 _ y577
          have y580 := q548 _ y577
          have g582 := neY f579 h48 rfl
          have g583 := neY f579 h98 rfl
          have g584 := neY f579 h149 rfl
          have g585 := neY f579 h201 rfl
          have g586 := neY f579 h254 rfl
          have g587 := neY f579 h308 rfl
          have g588 := neY f579 h363 rfl
          have g589 := neY f579 h419 rfl
          have g590 := neY f579 h476 rfl
          have g591 := f579.symm.trans (h534.trans rfl)
          refine y580.eq ?_
          all_goals try first | rw [show d = 0 from by omega] | rw [stY_s (show 1 ≤ d from by omega)]
          all_goals try simp only [stsY, smY, g582, g583, g584, g585, g586, g587, g588, g589, g590, g591, or_false, false_or, or_true, true_or, and_false, false_and, and_true, true_and, not_true, not_false_iff, ↓reduceIte, Int.reduceEq, Int.reduceLE, Int.reduceLT, Int.reduceNeg]
          all_goals first | rfl | exact xst0.symm | (exfalso; omega)
        exact ⟨_, rfl, H541, X576, h544, (R573.mo (by omega) (by omega) (by omega)), (by omega), (by rw [c565] <;> omega), (by rw [c570] <;> omega), S592⟩
      refine k_swc (fun h593 => ?_) (fun h593 => ?_)
      · have h594 : x26.toInt = 0 := by omega
        refine hB _ _ _ _ (kgoC (is := KX7_readStatement_152) rfl ?_)
        refine k_aload_n rfl ?_
        refine k_iload_n rfl ?_
        have R595 := R36.nf (-1000) (-1000) (by rw [c28]; omega)
        refine k_inv (P := (P_X7_readSimple d)) (Q := (Q_X7_readSimple d)) rfl rfl rfl rfl (Nat.le_of_ble_eq_true rfl) (t31.rc (by decide)) ⟨_, _, rfl, H17, t31, (by omega), (by omega), (rd_cd.st H0 h_0_0 X37 R595.1 (by decide)), (R595.2.2.2.1 rd_at), ((show BgC σ14 p0 (24 + 8 * (d : Int)) 0 from (rd_bg.stn H0 h_0_0 X37 R595 (by decide) (by rw [c28]; omega) (by omega))).1 (by rw [c28]; omega)), (by rw [c28]; omega), (by have ct := R595.2.2.1; rw [c28, c25, ct]; omega), (by omega), (by omega)⟩ (fun w596 σ597 q598 => ?_)
        obtain ⟨a599, rfl, H600, e601, h603, R602, q604, q605, q606, q607⟩ := q598
        have t613 := t31.x e601
        obtain ⟨x608, e609, c610, h611, h612⟩ := cg242 H600.1 t613
        obtain ⟨x614, e615, c616, h617, h618⟩ := cg243 H600.1 t613
        have z619 := congrArg Int32.toInt c610
        have z620 := congrArg Int32.toInt c616
        refine k_st (st' := [.inr (.inr (some a599))]) rfl ?_
        have z621 := R595.1.1
        obtain ⟨x622, e623, c624, h625, h626⟩ := cg272 H600.1 h603
        rw [c624] at q605
        obtain ⟨x627, e628, c629, h630, h631⟩ := cg270 H600.1 h603
        rw [c629] at q606
        have R632 : RdC p0 none (0) (24 + 8 * (d : Int)) (-1000) σ0 σ597 := R595.tr ⟨R602.1, R602.2⟩ (by omega) (by omega) (by omega) (by omega)
        have z633 := R632.2.2.1
        have z634 := R632.2.2.2.1 rd_at
        refine k_areturn ?_
        have X635 : ExC [0, 1, 2, 60, 61, 62, 63, 64, 65, 66, 67, 68, 69, 70, 72, 73, 74, 75, 76, 242, 243, 244, 246, 270, 271, 272, 273, 275, 276, 277, 278, 279, 280, 330, 331, 332, 333, 334, 999] σ0 σ597 := X37.tr (e601.mo (by decide))
        have S652 : ∀ s, ReC σ0 p0 s → ReC σ597 p0 (stY d s) := by
          intro s hs
          have y636 := q24 _ hs
          rw [dpY_n (by omega)] at y636
          have f638 := q45 _ y636
          have y639 := q607 _ y636
          have g641 := neY f638 h48 rfl
          have g642 := neY f638 h98 rfl
          have g643 := neY f638 h149 rfl
          have g644 := neY f638 h201 rfl
          have g645 := neY f638 h254 rfl
          have g646 := neY f638 h308 rfl
          have g647 := neY f638 h363 rfl
          have g648 := neY f638 h419 rfl
          have g649 := neY f638 h476 rfl
          have g650 := neY f638 h534 rfl
          have g651 := f638.symm.trans (h593.trans rfl)
          refine y639.eq ?_
          all_goals try first | rw [show d = 0 from by omega] | rw [stY_s (show 1 ≤ d from by omega)]
          all_goals try simp only [stsY, smY, g641, g642, g643, g644, g645, g646, g647, g648, g649, g650, g651, or_false, false_or, or_true, true_or, and_false, false_and, and_true, true_and, not_true, not_false_iff, ↓reduceIte, Int.reduceEq, Int.reduceLE, Int.reduceLT, Int.reduceNeg]
          all_goals first | rfl | exact xst0.symm | (exfalso; omega)
        exact ⟨_, rfl, H600, X635, h603, (R632.mo (by omega) (by omega) (by omega)), (by omega), (by rw [c624] <;> omega), (by rw [c629] <;> omega), S652⟩
      refine k_swc (fun h653 => ?_) (fun h653 => ?_)
      · have h654 : x26.toInt = 0 := by omega
        refine hB _ _ _ _ (kgoC (is := KX7_readStatement_146) rfl ?_)
        refine k_aload_n rfl ?_
        refine k_iload_n rfl ?_
        have R655 := R36.nf (-1000) (-1000) (by rw [c28]; omega)
        refine k_inv (P := (P_X7_readTry d)) (Q := (Q_X7_readTry d)) rfl rfl rfl rfl (Nat.le_of_ble_eq_true rfl) (t31.rc (by decide)) ⟨_, _, rfl, H17, t31, (by omega), (by omega), (rd_cd.st H0 h_0_0 X37 R655.1 (by decide)), (R655.2.2.2.1 rd_at), ((show BgC σ14 p0 (24 + 8 * (d : Int)) 0 from (rd_bg.stn H0 h_0_0 X37 R655 (by decide) (by rw [c28]; omega) (by omega))).1 (by rw [c28]; omega)), (by rw [c28]; omega), (by have ct := R655.2.2.1; rw [c28, c25, ct]; omega), (by omega)⟩ (fun w656 σ657 q658 => ?_)
        obtain ⟨a659, rfl, H660, e661, h663, R662, q664, q665, q666, q667⟩ := q658
        have t673 := t31.x e661
        obtain ⟨x668, e669, c670, h671, h672⟩ := cg242 H660.1 t673
        obtain ⟨x674, e675, c676, h677, h678⟩ := cg243 H660.1 t673
        have z679 := congrArg Int32.toInt c670
        have z680 := congrArg Int32.toInt c676
        refine k_st (st' := [.inr (.inr (some a659))]) rfl ?_
        have z681 := R655.1.1
        obtain ⟨x682, e683, c684, h685, h686⟩ := cg272 H660.1 h663
        rw [c684] at q665
        obtain ⟨x687, e688, c689, h690, h691⟩ := cg270 H660.1 h663
        rw [c689] at q666
        have R692 : RdC p0 none (0) (24 + 8 * (d : Int)) (-1000) σ0 σ657 := R655.tr ⟨R662.1, R662.2⟩ (by omega) (by omega) (by omega) (by omega)
        have z693 := R692.2.2.1
        have z694 := R692.2.2.2.1 rd_at
        refine k_areturn ?_
        have X695 : ExC [0, 1, 2, 60, 61, 62, 63, 64, 65, 66, 67, 68, 69, 70, 72, 73, 74, 75, 76, 242, 243, 244, 246, 270, 271, 272, 273, 275, 276, 277, 278, 279, 280, 330, 331, 332, 333, 334, 999] σ0 σ657 := X37.tr (e661.mo (by decide))
        have S713 : ∀ s, ReC σ0 p0 s → ReC σ657 p0 (stY d s) := by
          intro s hs
          have y696 := q24 _ hs
          rw [dpY_n (by omega)] at y696
          have f698 := q45 _ y696
          have y699 := q667 _ y696
          have g701 := neY f698 h48 rfl
          have g702 := neY f698 h98 rfl
          have g703 := neY f698 h149 rfl
          have g704 := neY f698 h201 rfl
          have g705 := neY f698 h254 rfl
          have g706 := neY f698 h308 rfl
          have g707 := neY f698 h363 rfl
          have g708 := neY f698 h419 rfl
          have g709 := neY f698 h476 rfl
          have g710 := neY f698 h534 rfl
          have g711 := neY f698 h593 rfl
          have g712 := f698.symm.trans (h653.trans rfl)
          refine y699.eq ?_
          all_goals try first | rw [show d = 0 from by omega] | rw [stY_s (show 1 ≤ d from by omega)]
          all_goals try simp only [stsY, smY, g701, g702, g703, g704, g705, g706, g707, g708, g709, g710, g711, g712, or_false, false_or, or_true, true_or, and_false, false_and, and_true, true_and, not_true, not_false_iff, ↓reduceIte, Int.reduceEq, Int.reduceLE, Int.reduceLT, Int.reduceNeg]
          all_goals first | rfl | exact xst0.symm | (exfalso; omega)
        exact ⟨_, rfl, H660, X695, h663, (R692.mo (by omega) (by omega) (by omega)), (by omega), (by rw [c684] <;> omega), (by rw [c689] <;> omega), S713⟩
      refine k_swn ?_
      refine hB _ _ _ _ (kgoC (is := KX7_readStatement_158) rfl ?_)
      refine k_aload_n rfl ?_
      refine k_inv (P := P_X7_code) (Q := Q_X7_code) rfl rfl rfl rfl (Nat.le_of_ble_eq_true rfl) (t31.rc (by decide)) ⟨_, rfl, H17, t31, (rd_cd.st H0 h_0_0 X37 R36.1 (by decide))⟩ (fun w714 σ715 q716 => ?_)
      obtain ⟨x717, rfl, rfl, q718, q719, q720, q721⟩ := q716
      refine k_st (st' := [.inl x717]) rfl ?_
      refine k_bipush (m := 80) rfl (fun x722 h723 => ?_)
      refine k_ic_ne (fun h724 => ?_) (fun h724 => ?_)
      · refine hB _ _ _ _ (kgoC (is := KX7_readStatement_184) rfl ?_)
        refine k_aload_n rfl ?_
        refine k_iload_n rfl ?_
        refine k_inv (P := (P_X7_readExpStatement d)) (Q := (Q_X7_readExpStatement d)) rfl rfl rfl rfl (Nat.le_of_ble_eq_true rfl) (t31.rc (by decide)) ⟨_, _, rfl, H17, t31, (by omega), (by omega), (rd_cd.st H0 h_0_0 X37 R36.1 (by decide)), (R36.2.2.2.1 rd_at), (rd_bg.st H0 h_0_0 X37 R36 (by decide) (by omega) (by omega) (by omega)), (by omega)⟩ (fun w725 σ726 q727 => ?_)
        obtain ⟨a728, rfl, H729, e730, h732, R731, q733, q734, q735, q736⟩ := q727
        have t742 := t31.x e730
        obtain ⟨x737, e738, c739, h740, h741⟩ := cg242 H729.1 t742
        obtain ⟨x743, e744, c745, h746, h747⟩ := cg243 H729.1 t742
        have z748 := congrArg Int32.toInt c739
        have z749 := congrArg Int32.toInt c745
        refine k_st (st' := [.inr (.inr (some a728))]) rfl ?_
        have z750 := R36.1.1
        obtain ⟨x751, e752, c753, h754, h755⟩ := cg272 H729.1 h732
        rw [c753] at q734
        obtain ⟨x756, e757, c758, h759, h760⟩ := cg270 H729.1 h732
        rw [c758] at q735
        have R761 : RdC p0 none (0) (22 + 8 * (d : Int)) (3) σ0 σ726 := R36.tr ⟨R731.1, R731.2⟩ (by omega) (by omega) (by omega) (by omega)
        have z762 := R761.2.2.1
        have z763 := R761.2.2.2.1 rd_at
        refine k_nil ?_
        refine hB _ _ _ _ (kgoC (is := KX7_readStatement_189) rfl ?_)
        refine k_areturn ?_
        have X764 : ExC [0, 1, 2, 60, 61, 62, 63, 64, 65, 66, 67, 68, 69, 70, 72, 73, 74, 75, 76, 242, 243, 244, 246, 270, 271, 272, 273, 275, 276, 277, 278, 279, 280, 330, 331, 332, 333, 334, 999] σ0 σ726 := X37.tr (e730.mo (by decide))
        have S784 : ∀ s, ReC σ0 p0 s → ReC σ726 p0 (stY d s) := by
          intro s hs
          have y765 := q24 _ hs
          rw [dpY_n (by omega)] at y765
          have f767 := q45 _ y765
          have f768 := q721 _ y765
          have y769 := q736 _ y765
          have g771 := neY f767 h48 rfl
          have g772 := neY f767 h98 rfl
          have g773 := neY f767 h149 rfl
          have g774 := neY f767 h201 rfl
          have g775 := neY f767 h254 rfl
          have g776 := neY f767 h308 rfl
          have g777 := neY f767 h363 rfl
          have g778 := neY f767 h419 rfl
          have g779 := neY f767 h476 rfl
          have g780 := neY f767 h534 rfl
          have g781 := neY f767 h593 rfl
          have g782 := neY f767 h653 rfl
          have g783 := neY f768 h724 h723
          refine y769.eq ?_
          all_goals try first | rw [show d = 0 from by omega] | rw [stY_s (show 1 ≤ d from by omega)]
          all_goals try simp only [stsY, smY, g771, g772, g773, g774, g775, g776, g777, g778, g779, g780, g781, g782, g783, or_false, false_or, or_true, true_or, and_false, false_and, and_true, true_and, not_true, not_false_iff, ↓reduceIte, Int.reduceEq, Int.reduceLE, Int.reduceLT, Int.reduceNeg]
          all_goals first | rfl | exact xst0.symm | (exfalso; omega)
        exact ⟨_, rfl, H729, X764, h732, (R761.mo (by omega) (by omega) (by omega)), (by omega), (by rw [c753] <;> omega), (by rw [c758] <;> omega), S784⟩
      · have h785 : x26.toInt = 0 := by omega
        refine k_nil ?_
        refine hB _ _ _ _ (kgoC (is := KX7_readStatement_167) rfl ?_)
        refine k_aload_n rfl ?_
        have R786 := R36.nf (-1000) (-1000) (by rw [c28]; omega)
        refine k_inv (P := P_X7_codeBehind) (Q := Q_X7_codeBehind) rfl rfl rfl rfl (Nat.le_of_ble_eq_true rfl) (t31.rc (by decide)) ⟨_, rfl, H17, t31, (rd_cd.st H0 h_0_0 X37 R786.1 (by decide))⟩ (fun w787 σ788 q789 => ?_)
        obtain ⟨x790, rfl, rfl, q791, q792, q793⟩ := q789
        refine k_st (st' := [.inl x790]) rfl ?_
        refine k_bipush (m := 6) rfl (fun x794 h795 => ?_)
        refine k_ic_ne (fun h796 => ?_) (fun h796 => ?_)
        · refine hB _ _ _ _ (kgoC (is := KX7_readStatement_184) rfl ?_)
          refine k_aload_n rfl ?_
          refine k_iload_n rfl ?_
          refine k_inv (P := (P_X7_readExpStatement d)) (Q := (Q_X7_readExpStatement d)) rfl rfl rfl rfl (Nat.le_of_ble_eq_true rfl) (t31.rc (by decide)) ⟨_, _, rfl, H17, t31, (by omega), (by omega), (rd_cd.st H0 h_0_0 X37 R786.1 (by decide)), (R786.2.2.2.1 rd_at), (rd_bg.stn H0 h_0_0 X37 R786 (by decide) (by rw [c28]; omega) (by omega)), (by omega)⟩ (fun w797 σ798 q799 => ?_)
          obtain ⟨a800, rfl, H801, e802, h804, R803, q805, q806, q807, q808⟩ := q799
          have t814 := t31.x e802
          obtain ⟨x809, e810, c811, h812, h813⟩ := cg242 H801.1 t814
          obtain ⟨x815, e816, c817, h818, h819⟩ := cg243 H801.1 t814
          have z820 := congrArg Int32.toInt c811
          have z821 := congrArg Int32.toInt c817
          refine k_st (st' := [.inr (.inr (some a800))]) rfl ?_
          have z822 := R786.1.1
          obtain ⟨x823, e824, c825, h826, h827⟩ := cg272 H801.1 h804
          rw [c825] at q806
          obtain ⟨x828, e829, c830, h831, h832⟩ := cg270 H801.1 h804
          rw [c830] at q807
          have R833 : RdC p0 none (0) (22 + 8 * (d : Int)) (-997) σ0 σ798 := R786.tr ⟨R803.1, R803.2⟩ (by omega) (by omega) (by omega) (by omega)
          have z834 := R833.2.2.1
          have z835 := R833.2.2.2.1 rd_at
          refine k_nil ?_
          refine hB _ _ _ _ (kgoC (is := KX7_readStatement_189) rfl ?_)
          refine k_areturn ?_
          have X836 : ExC [0, 1, 2, 60, 61, 62, 63, 64, 65, 66, 67, 68, 69, 70, 72, 73, 74, 75, 76, 242, 243, 244, 246, 270, 271, 272, 273, 275, 276, 277, 278, 279, 280, 330, 331, 332, 333, 334, 999] σ0 σ798 := X37.tr (e802.mo (by decide))
          have S858 : ∀ s, ReC σ0 p0 s → ReC σ798 p0 (stY d s) := by
            intro s hs
            have y837 := q24 _ hs
            rw [dpY_n (by omega)] at y837
            have f839 := q45 _ y837
            have f840 := q721 _ y837
            have f841 := q793 _ y837
            have y842 := q808 _ y837
            have g844 := neY f839 h48 rfl
            have g845 := neY f839 h98 rfl
            have g846 := neY f839 h149 rfl
            have g847 := neY f839 h201 rfl
            have g848 := neY f839 h254 rfl
            have g849 := neY f839 h308 rfl
            have g850 := neY f839 h363 rfl
            have g851 := neY f839 h419 rfl
            have g852 := neY f839 h476 rfl
            have g853 := neY f839 h534 rfl
            have g854 := neY f839 h593 rfl
            have g855 := neY f839 h653 rfl
            have g856 := f840.symm.trans (h724.trans h723)
            have g857 := neY f841 h796 h795
            refine y842.eq ?_
            all_goals try first | rw [show d = 0 from by omega] | rw [stY_s (show 1 ≤ d from by omega)]
            all_goals try simp only [stsY, smY, g844, g845, g846, g847, g848, g849, g850, g851, g852, g853, g854, g855, g856, g857, or_false, false_or, or_true, true_or, and_false, false_and, and_true, true_and, not_true, not_false_iff, ↓reduceIte, Int.reduceEq, Int.reduceLE, Int.reduceLT, Int.reduceNeg]
            all_goals first | rfl | exact xst0.symm | (exfalso; omega)
          exact ⟨_, rfl, H801, X836, h804, (R833.mo (by omega) (by omega) (by omega)), (by omega), (by rw [c825] <;> omega), (by rw [c830] <;> omega), S858⟩
        · refine k_nil ?_
          refine hB _ _ _ _ (kgoC (is := KX7_readStatement_176) rfl ?_)
          refine k_aload_n rfl ?_
          refine k_iload_n rfl ?_
          refine k_inv (P := (P_X7_readLabel d)) (Q := (Q_X7_readLabel d)) rfl rfl rfl rfl (Nat.le_of_ble_eq_true rfl) (t31.rc (by decide)) ⟨_, _, rfl, H17, t31, (by omega), (by omega), (rd_cd.st H0 h_0_0 X37 R786.1 (by decide)), (R786.2.2.2.1 rd_at), ((show BgC σ14 p0 (24 + 8 * (d : Int)) 0 from (rd_bg.stn H0 h_0_0 X37 R786 (by decide) (by rw [c28]; omega) (by omega))).1 (by rw [c28]; omega)), (by rw [c28]; omega), (by have ct := R786.2.2.1; rw [c28, c25, ct]; omega), (by omega)⟩ (fun w859 σ860 q861 => ?_)
          obtain ⟨a862, rfl, H863, e864, h866, R865, q867, q868, q869, q870⟩ := q861
          have t876 := t31.x e864
          obtain ⟨x871, e872, c873, h874, h875⟩ := cg242 H863.1 t876
          obtain ⟨x877, e878, c879, h880, h881⟩ := cg243 H863.1 t876
          have z882 := congrArg Int32.toInt c873
          have z883 := congrArg Int32.toInt c879
          refine k_st (st' := [.inr (.inr (some a862))]) rfl ?_
          have z884 := R786.1.1
          obtain ⟨x885, e886, c887, h888, h889⟩ := cg272 H863.1 h866
          rw [c887] at q868
          obtain ⟨x890, e891, c892, h893, h894⟩ := cg270 H863.1 h866
          rw [c892] at q869
          have R895 : RdC p0 none (0) (24 + 8 * (d : Int)) (-1000) σ0 σ860 := R786.tr ⟨R865.1, R865.2⟩ (by omega) (by omega) (by omega) (by omega)
          have z896 := R895.2.2.1
          have z897 := R895.2.2.2.1 rd_at
          refine k_goto ?_
          refine hB _ _ _ _ (kgoC (is := KX7_readStatement_189) rfl ?_)
          refine k_areturn ?_
          have X898 : ExC [0, 1, 2, 60, 61, 62, 63, 64, 65, 66, 67, 68, 69, 70, 72, 73, 74, 75, 76, 242, 243, 244, 246, 270, 271, 272, 273, 275, 276, 277, 278, 279, 280, 330, 331, 332, 333, 334, 999] σ0 σ860 := X37.tr (e864.mo (by decide))
          have S920 : ∀ s, ReC σ0 p0 s → ReC σ860 p0 (stY d s) := by
            intro s hs
            have y899 := q24 _ hs
            rw [dpY_n (by omega)] at y899
            have f901 := q45 _ y899
            have f902 := q721 _ y899
            have f903 := q793 _ y899
            have y904 := q870 _ y899
            have g906 := neY f901 h48 rfl
            have g907 := neY f901 h98 rfl
            have g908 := neY f901 h149 rfl
            have g909 := neY f901 h201 rfl
            have g910 := neY f901 h254 rfl
            have g911 := neY f901 h308 rfl
            have g912 := neY f901 h363 rfl
            have g913 := neY f901 h419 rfl
            have g914 := neY f901 h476 rfl
            have g915 := neY f901 h534 rfl
            have g916 := neY f901 h593 rfl
            have g917 := neY f901 h653 rfl
            have g918 := f902.symm.trans (h724.trans h723)
            have g919 := f903.symm.trans (h796.trans h795)
            refine y904.eq ?_
            all_goals try first | rw [show d = 0 from by omega] | rw [stY_s (show 1 ≤ d from by omega)]
            all_goals try simp only [stsY, smY, g906, g907, g908, g909, g910, g911, g912, g913, g914, g915, g916, g917, g918, g919, or_false, false_or, or_true, true_or, and_false, false_and, and_true, true_and, not_true, not_false_iff, ↓reduceIte, Int.reduceEq, Int.reduceLE, Int.reduceLT, Int.reduceNeg]
            all_goals first | rfl | exact xst0.symm | (exfalso; omega)
          exact ⟨_, rfl, H863, X898, h866, (R895.mo (by omega) (by omega) (by omega)), (by omega), (by rw [c887] <;> omega), (by rw [c892] <;> omega), S920⟩
    · have h921 : 1 ≤ x26.toInt := by have hq := (q22 (by omega)).2; rw [c28] at hq; omega
      have h922 := (q22 (by omega)).1
      refine k_popI ?_
      refine k_aload_n rfl ?_
      have R923 : RdC p0 none (0) (0) (0) σ0 σ14 := (RdC.rf : RdC p0 none 0 0 0 σ0 σ0).tr ⟨R19.1, R19.2⟩ (by omega) (by omega) (by omega) (by omega)
      have X924 : ExC [0, 1, 2, 60, 61, 62, 63, 64, 65, 66, 67, 68, 69, 70, 72, 73, 74, 75, 76, 242, 243, 244, 246, 270, 271, 272, 273, 275, 276, 277, 278, 279, 280, 330, 331, 332, 333, 334, 999] σ0 σ14 := ExC.rf.tr (e18.mo (by decide))
      refine k_inv (P := P_X7_code) (Q := Q_X7_code) rfl rfl rfl rfl (Nat.le_of_ble_eq_true rfl) (t31.rc (by decide)) ⟨_, rfl, H17, t31, (rd_cd.st H0 h_0_0 X924 R923.1 (by decide))⟩ (fun w925 σ926 q927 => ?_)
      obtain ⟨x928, rfl, rfl, q929, q930, q931, q932⟩ := q927
      refine k_st (st' := [.inl x928]) rfl ?_
      have z933 := R923.2.2.1
      have z934 := R923.2.2.2.1 rd_at
      refine k_lsw ?_
      refine k_swc (fun h935 => ?_) (fun h935 => ?_)
      · exfalso; omega
      refine k_swc (fun h936 => ?_) (fun h936 => ?_)
      · exfalso; omega
      refine k_swc (fun h937 => ?_) (fun h937 => ?_)
      · exfalso; omega
      refine k_swc (fun h938 => ?_) (fun h938 => ?_)
      · exfalso; omega
      refine k_swc (fun h939 => ?_) (fun h939 => ?_)
      · exfalso; omega
      refine k_swc (fun h940 => ?_) (fun h940 => ?_)
      · exfalso; omega
      refine k_swc (fun h941 => ?_) (fun h941 => ?_)
      · exfalso; omega
      refine k_swc (fun h942 => ?_) (fun h942 => ?_)
      · exfalso; omega
      refine k_swc (fun h943 => ?_) (fun h943 => ?_)
      · exfalso; omega
      refine k_swc (fun h944 => ?_) (fun h944 => ?_)
      · exfalso; omega
      refine k_swc (fun h945 => ?_) (fun h945 => ?_)
      · exfalso; omega
      refine k_swc (fun h946 => ?_) (fun h946 => ?_)
      · exfalso; omega
      refine k_swn ?_
      refine hB _ _ _ _ (kgoC (is := KX7_readStatement_158) rfl ?_)
      refine k_aload_n rfl ?_
      refine k_inv (P := P_X7_code) (Q := Q_X7_code) rfl rfl rfl rfl (Nat.le_of_ble_eq_true rfl) (t31.rc (by decide)) ⟨_, rfl, H17, t31, (rd_cd.st H0 h_0_0 X924 R923.1 (by decide))⟩ (fun w947 σ948 q949 => ?_)
      obtain ⟨x950, rfl, rfl, q951, q952, q953, q954⟩ := q949
      refine k_st (st' := [.inl x950]) rfl ?_
      refine k_bipush (m := 80) rfl (fun x955 h956 => ?_)
      refine k_ic_ne (fun h957 => ?_) (fun h957 => ?_)
      · refine hB _ _ _ _ (kgoC (is := KX7_readStatement_184) rfl ?_)
        refine k_aload_n rfl ?_
        refine k_iload_n rfl ?_
        refine k_inv (P := (P_X7_readExpStatement d)) (Q := (Q_X7_readExpStatement d)) rfl rfl rfl rfl (Nat.le_of_ble_eq_true rfl) (t31.rc (by decide)) ⟨_, _, rfl, H17, t31, (by omega), (by omega), (rd_cd.st H0 h_0_0 X924 R923.1 (by decide)), (R923.2.2.2.1 rd_at), (rd_bg.st H0 h_0_0 X924 R923 (by decide) (by omega) (by omega) (by omega)), (by omega)⟩ (fun w958 σ959 q960 => ?_)
        obtain ⟨a961, rfl, H962, e963, h965, R964, q966, q967, q968, q969⟩ := q960
        have t975 := t31.x e963
        obtain ⟨x970, e971, c972, h973, h974⟩ := cg242 H962.1 t975
        obtain ⟨x976, e977, c978, h979, h980⟩ := cg243 H962.1 t975
        have z981 := congrArg Int32.toInt c972
        have z982 := congrArg Int32.toInt c978
        refine k_st (st' := [.inr (.inr (some a961))]) rfl ?_
        have z983 := R923.1.1
        obtain ⟨x984, e985, c986, h987, h988⟩ := cg272 H962.1 h965
        rw [c986] at q967
        obtain ⟨x989, e990, c991, h992, h993⟩ := cg270 H962.1 h965
        rw [c991] at q968
        have R994 : RdC p0 none (0) (22 + 8 * (d : Int)) (3) σ0 σ959 := R923.tr ⟨R964.1, R964.2⟩ (by omega) (by omega) (by omega) (by omega)
        have z995 := R994.2.2.1
        have z996 := R994.2.2.2.1 rd_at
        refine k_nil ?_
        refine hB _ _ _ _ (kgoC (is := KX7_readStatement_189) rfl ?_)
        refine k_areturn ?_
        have X997 : ExC [0, 1, 2, 60, 61, 62, 63, 64, 65, 66, 67, 68, 69, 70, 72, 73, 74, 75, 76, 242, 243, 244, 246, 270, 271, 272, 273, 275, 276, 277, 278, 279, 280, 330, 331, 332, 333, 334, 999] σ0 σ959 := X924.tr (e963.mo (by decide))
        have S1017 : ∀ s, ReC σ0 p0 s → ReC σ959 p0 (stY d s) := by
          intro s hs
          have y998 := q24 _ hs
          rw [show p1.toInt = 21 from by omega] at y998
          rw [dpY_z (by omega)] at y998
          have f1000 := q932 _ y998
          have f1001 := q954 _ y998
          have y1002 := q969 _ y998
          have g1004 := neY f1000 h935 rfl
          have g1005 := neY f1000 h936 rfl
          have g1006 := neY f1000 h937 rfl
          have g1007 := neY f1000 h938 rfl
          have g1008 := neY f1000 h939 rfl
          have g1009 := neY f1000 h940 rfl
          have g1010 := neY f1000 h941 rfl
          have g1011 := neY f1000 h942 rfl
          have g1012 := neY f1000 h943 rfl
          have g1013 := neY f1000 h944 rfl
          have g1014 := neY f1000 h945 rfl
          have g1015 := neY f1000 h946 rfl
          have g1016 := neY f1001 h957 h956
          refine y1002.eq ?_
          all_goals try first | rw [show d = 0 from by omega] | rw [stY_s (show 1 ≤ d from by omega)]
          all_goals try simp only [stsY, smY, g1004, g1005, g1006, g1007, g1008, g1009, g1010, g1011, g1012, g1013, g1014, g1015, g1016, or_false, false_or, or_true, true_or, and_false, false_and, and_true, true_and, not_true, not_false_iff, ↓reduceIte, Int.reduceEq, Int.reduceLE, Int.reduceLT, Int.reduceNeg]
          all_goals first | rfl | exact xst0.symm | (exfalso; omega)
        exact ⟨_, rfl, H962, X997, h965, (R994.mo (by omega) (by omega) (by omega)), (by omega), (by rw [c986] <;> omega), (by rw [c991] <;> omega), S1017⟩
      · exfalso; omega
theorem lg_X7_readStatement (d : Nat) : ∀ (As : List AvC) (σ : CsC), (P_X7_readStatement d) As σ → lgC As ≤ rX7_readStatement.2.2.1 := by
  rintro As σ ⟨p0, p1, rfl, -⟩
  exact Nat.le_of_ble_eq_true rfl
theorem s_X7_readStatement (l : Launch) (d : Nat) (h_X7_readSimple : CMetC l (13 * d + 38) 150 (P_X7_readSimple d) (Q_X7_readSimple d)) (h_X7_readIf : CMetC l (13 * d + 38) 154 (P_X7_readIf d) (Q_X7_readIf d)) (h_X7_readWhile : CMetC l (13 * d + 38) 155 (P_X7_readWhile d) (Q_X7_readWhile d)) (h_X7_readDo : CMetC l (13 * d + 38) 156 (P_X7_readDo d) (Q_X7_readDo d)) (h_X7_readFor : CMetC l (13 * d + 38) 157 (P_X7_readFor d) (Q_X7_readFor d)) (h_X7_readSwitch : CMetC l (13 * d + 38) 159 (P_X7_readSwitch d) (Q_X7_readSwitch d)) (h_X7_readTry : CMetC l (13 * d + 39) 160 (P_X7_readTry d) (Q_X7_readTry d)) (h_X7_readExpStatement : CMetC l (13 * d + 37) 152 (P_X7_readExpStatement d) (Q_X7_readExpStatement d)) (h_X7_readLabel : CMetC l (13 * d + 38) 151 (P_X7_readLabel d) (Q_X7_readLabel d)) : CMetC l (13 * d + 40) 149 (P_X7_readStatement d) (Q_X7_readStatement d) :=
  CMetC.of KX7_readStatement [(131, P_X7_isTooDeep, Q_X7_isTooDeep), (125, P_X7_code, Q_X7_code), (150, (P_X7_readSimple d), (Q_X7_readSimple d)), (154, (P_X7_readIf d), (Q_X7_readIf d)), (155, (P_X7_readWhile d), (Q_X7_readWhile d)), (156, (P_X7_readDo d), (Q_X7_readDo d)), (157, (P_X7_readFor d), (Q_X7_readFor d)), (159, (P_X7_readSwitch d), (Q_X7_readSwitch d)), (160, (P_X7_readTry d), (Q_X7_readTry d)), (152, (P_X7_readExpStatement d), (Q_X7_readExpStatement d)), (126, P_X7_codeBehind, Q_X7_codeBehind), (151, (P_X7_readLabel d), (Q_X7_readLabel d))] hX7_readStatement (by decide) (by omega) okX7_readStatement (cc1C (m_X7_isTooDeep l) (by omega) (cc1C (m_X7_code l) (by omega) (cc1C h_X7_readSimple (by omega) (cc1C h_X7_readIf (by omega) (cc1C h_X7_readWhile (by omega) (cc1C h_X7_readDo (by omega) (cc1C h_X7_readFor (by omega) (cc1C h_X7_readSwitch (by omega) (cc1C h_X7_readTry (by omega) (cc1C h_X7_readExpStatement (by omega) (cc1C (m_X7_codeBehind l) (by omega) (cc1C h_X7_readLabel (by omega) cc0C)))))))))))) (lg_X7_readStatement d) (b_X7_readStatement d)
