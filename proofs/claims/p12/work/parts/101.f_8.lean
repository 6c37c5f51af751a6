set_option maxRecDepth 100000 in
set_option maxHeartbeats 4000000 in
theorem b_X7_readRowPart (d : Nat) : TbC KX7_readRowPart [(125, P_X7_code, Q_X7_code), (141, (P_X7_readVariable d), (Q_X7_readVariable d)), (129, P_X7_expect, Q_X7_expect), (132, P_X7_isType, Q_X7_isType), (149, (P_X7_readStatement d), (Q_X7_readStatement d)), (147, (P_X7_readCase d), (Q_X7_readCase d)), (127, P_X7_raise, Q_X7_raise)] (P_X7_readRowPart d) (Q_X7_readRowPart d) := by
  · rintro As σ0 ⟨p0, p1, p2, p3, rfl, H0, h_0_0, h_1_0, h_1_1, h_2_0, h_2_1, h_3_0, h_3_1, rd_cd, rd_at, rd_bl, rd_lv, rd_dp⟩ hgr G hB hW
    change G 0 [(0, .inr (.inr (some p0))), (1, .inl p1), (2, .inl p2), (3, .inl p3)] [] σ0
    obtain ⟨x1, e2, c3, h4, h5⟩ := cg242 H0.1 h_0_0
    obtain ⟨x6, e7, c8, h9, h10⟩ := cg243 H0.1 h_0_0
    have z11 := congrArg Int32.toInt c3
    have z12 := congrArg Int32.toInt c8
    have h13 : x6.toInt = 0 := by rw [← c8]; exact rd_lv
    have rd_bg : BgC σ0 p0 (24 + 8 * (d : Int)) 1000000 := ⟨fun _ => rd_bl, fun z => absurd rd_lv z⟩
    refine hB _ _ _ _ (kgoC (is := KX7_readRowPart_0) rfl ?_)
    refine k_iload_n rfl ?_
    refine k_if_eq (fun h14 => ?_) (fun h14 => ?_)
    · refine hB _ _ _ _ (kgoC (is := KX7_readRowPart_28) rfl ?_)
      refine k_iload_n rfl ?_
      refine k_if_eq (fun h15 => ?_) (fun h15 => by exfalso; omega)
      refine hB _ _ _ _ (kgoC (is := KX7_readRowPart_41) rfl ?_)
      refine k_aload_n rfl ?_
      have R16 := (RdC.rf : RdC p0 none 0 0 0 σ0 σ0).nf (-1000) (-1000) (by rw [c8]; omega)
      refine k_inv (P := P_X7_code) (Q := Q_X7_code) rfl rfl rfl rfl (Nat.le_of_ble_eq_true rfl) (h_0_0.rc (by decide)) ⟨_, rfl, H0, h_0_0, (rd_cd.st H0 h_0_0 (ExC.rf : ExC [0, 1, 2, 60, 61, 62, 63, 64, 65, 66, 67, 68, 69, 70, 72, 73, 74, 75, 76, 242, 243, 244, 246, 270, 271, 272, 273, 275, 276, 277, 278, 279, 280, 330, 331, 332, 333, 334, 999] σ0 σ0) R16.1 (by decide))⟩ (fun w17 σ18 q19 => ?_)
      obtain ⟨x20, rfl, rfl, q21, q22, q23, q24⟩ := q19
      refine k_st (st' := [.inl x20]) rfl ?_
      have z25 := R16.2.2.1
      have z26 := R16.2.2.2.1 rd_at
      refine k_bipush (m := 71) rfl (fun x27 h28 => ?_)
      refine k_ic_eq (fun h29 => ?_) (fun h29 => ?_)
      · refine hB _ _ _ _ (kgoC (is := KX7_readRowPart_60) rfl ?_)
        refine k_aload_n rfl ?_
        refine k_bipush (m := 91) rfl (fun x30 h31 => ?_)
        refine k_iload_n rfl ?_
        refine k_inv (P := (P_X7_readVariable d)) (Q := (Q_X7_readVariable d)) rfl rfl rfl rfl (Nat.le_of_ble_eq_true rfl) (h_0_0.rc (by decide)) ⟨_, _, _, rfl, H0, h_0_0, (by omega), (by omega), (by omega), (by omega), (rd_cd.st H0 h_0_0 (ExC.rf : ExC [0, 1, 2, 60, 61, 62, 63, 64, 65, 66, 67, 68, 69, 70, 72, 73, 74, 75, 76, 242, 243, 244, 246, 270, 271, 272, 273, 275, 276, 277, 278, 279, 280, 330, 331, 332, 333, 334, 999] σ0 σ0) R16.1 (by decide)), (R16.2.2.2.1 rd_at), ((show BgC σ0 p0 (23 + 8 * (d : Int)) 0 from (rd_bg.stn H0 h_0_0 (ExC.rf : ExC [0, 1, 2, 60, 61, 62, 63, 64, 65, 66, 67, 68, 69, 70, 72, 73, 74, 75, 76, 242, 243, 244, 246, 270, 271, 272, 273, 275, 276, 277, 278, 279, 280, 330, 331, 332, 333, 334, 999] σ0 σ0) R16 (by decide) (by rw [c8]; omega) (by omega))).1 (by rw [c8]; omega)), (by rw [c8]; omega), (by omega)⟩ (fun w32 σ33 q34 => ?_)
        obtain ⟨a35, rfl, H36, e37, h39, R38, q40, q41, q42, q43⟩ := q34
        have t49 := h_0_0.x e37
        obtain ⟨x44, e45, c46, h47, h48⟩ := cg242 H36.1 t49
        obtain ⟨x50, e51, c52, h53, h54⟩ := cg243 H36.1 t49
        have z55 := congrArg Int32.toInt c46
        have z56 := congrArg Int32.toInt c52
        refine k_st (st' := [.inr (.inr (some a35))]) rfl ?_
        have z57 := R16.1.1
        obtain ⟨x58, e59, c60, h61, h62⟩ := cg272 H36.1 h39
        rw [c60] at q41
        obtain ⟨x63, e64, c65, h66, h67⟩ := cg270 H36.1 h39
        rw [c65] at q42
        have R68 : RdC p0 none (0) (23 + 8 * (d : Int)) (-1000) σ0 σ33 := R16.tr ⟨R38.1, R38.2⟩ (by omega) (by omega) (by omega) (by omega)
        have z69 := R68.2.2.1
        have z70 := R68.2.2.2.1 rd_at
        refine k_astore (ls' := [(4, .inr (.inr (some a35))), (0, .inr (.inr (some p0))), (1, .inl p1), (2, .inl p2), (3, .inl p3)]) rfl ?_
        refine k_aload_n rfl ?_
        refine k_iconst (m := 4) rfl (fun x71 h72 => ?_)
        have X73 : ExC [0, 1, 2, 60, 61, 62, 63, 64, 65, 66, 67, 68, 69, 70, 72, 73, 74, 75, 76, 242, 243, 244, 246, 270, 271, 272, 273, 275, 276, 277, 278, 279, 280, 330, 331, 332, 333, 334, 999] σ0 σ33 := ExC.rf.tr (e37.mo (by decide))
        refine k_inv (P := P_X7_expect) (Q := Q_X7_expect) rfl rfl rfl rfl (Nat.le_of_ble_eq_true rfl) (t49.rc (by decide)) ⟨_, _, rfl, H36, t49, (by omega), (by omega), (rd_cd.st H0 h_0_0 X73 R68.1 (by decide)), (R68.2.2.2.1 rd_at), (rd_bg.st H0 h_0_0 X73 R68 (by decide) (by omega) (by omega) (by omega))⟩ (fun w74 σ75 q76 => ?_)
        obtain ⟨rfl, H77, e78, R79, q80, q81⟩ := q76
        have t87 := t49.x e78
        obtain ⟨x82, e83, c84, h85, h86⟩ := cg242 H77.1 t87
        obtain ⟨x88, e89, c90, h91, h92⟩ := cg243 H77.1 t87
        have z93 := congrArg Int32.toInt c84
        have z94 := congrArg Int32.toInt c90
        refine k_st (st' := []) rfl ?_
        have R95 : RdC p0 none (-8) (23 + 8 * (d : Int)) (-1000) σ0 σ75 := R68.tr ⟨R79.1, R79.2⟩ (by omega) (by omega) (by omega) (by omega)
        have z96 := R95.2.2.1
        have z97 := R95.2.2.2.1 rd_at
        refine k_aload rfl ?_
        refine k_areturn ?_
        have X98 : ExC [0, 1, 2, 60, 61, 62, 63, 64, 65, 66, 67, 68, 69, 70, 72, 73, 74, 75, 76, 242, 243, 244, 246, 270, 271, 272, 273, 275, 276, 277, 278, 279, 280, 330, 331, 332, 333, 334, 999] σ0 σ75 := X73.tr (e78.mo (by decide))
        have t99 := h39.x e78
        have c100 := (h39.mi e78 (by decide)).trans c60
        have c101 := (h39.mi e78 (by decide)).trans c65
        have S107 : ∀ s, ReC σ0 p0 s → ReC σ75 p0 (rpaY d (stY d) p2.toInt p3.toInt s) := by
          intro s hs
          have f102 := q24 _ hs
          have y103 := q43 _ hs
          have y105 := q81 _ y103
          rw [h72] at y105
          refine y105.eq ?_
          try unfold rpaY
          repeat (split <;> try (exfalso; omega))
          try unfold rp2Y
          repeat (split <;> try (exfalso; omega))
          try unfold tkY
          repeat (split <;> try (exfalso; omega))
          try unfold dpY
          repeat (split <;> try (exfalso; omega))
          all_goals rfl
        exact ⟨_, rfl, H77, X98, t99, (R95.mo (by omega) (by omega) (by omega)), (by omega), (by rw [c100] <;> omega), (by rw [c101] <;> omega), S107⟩
      · refine k_nil ?_
        refine hB _ _ _ _ (kgoC (is := KX7_readRowPart_50) rfl ?_)
        refine k_aload_n rfl ?_
        refine k_inv (P := P_X7_code) (Q := Q_X7_code) rfl rfl rfl rfl (Nat.le_of_ble_eq_true rfl) (h_0_0.rc (by decide)) ⟨_, rfl, H0, h_0_0, (rd_cd.st H0 h_0_0 (ExC.rf : ExC [0, 1, 2, 60, 61, 62, 63, 64, 65, 66, 67, 68, 69, 70, 72, 73, 74, 75, 76, 242, 243, 244, 246, 270, 271, 272, 273, 275, 276, 277, 278, 279, 280, 330, 331, 332, 333, 334, 999] σ0 σ0) R16.1 (by decide))⟩ (fun w108 σ109 q110 => ?_)
        obtain ⟨x111, rfl, rfl, q112, q113, q114, q115⟩ := q110
        refine k_st (st' := [.inl x111]) rfl ?_
        refine k_stat (P := P_X7_isType) (Q := Q_X7_isType) rfl rfl (Nat.le_of_ble_eq_true rfl) rfl rfl (Nat.le_of_ble_eq_true rfl) ⟨_, rfl, H0⟩ (fun w116 σ117 q118 => ?_)
        obtain ⟨x119, rfl, rfl, h120, h121, q122, q123⟩ := q118
        refine k_st (st' := [.inl x119]) rfl ?_
        rcases (by omega : x119.toInt = 0 ∨ x119.toInt = 1) with g124 | g124
        · refine k_if_eq (fun h125 => ?_) (fun h125 => by exfalso; omega)
          refine hB _ _ _ _ (kgoC (is := KX7_readRowPart_77) rfl ?_)
          refine k_aload_n rfl ?_
          refine k_iload_n rfl ?_
          refine k_inv (P := (P_X7_readStatement d)) (Q := (Q_X7_readStatement d)) rfl rfl rfl rfl (Nat.le_of_ble_eq_true rfl) (h_0_0.rc (by decide)) ⟨_, _, rfl, H0, h_0_0, (by omega), (by omega), (rd_cd.st H0 h_0_0 (ExC.rf : ExC [0, 1, 2, 60, 61, 62, 63, 64, 65, 66, 67, 68, 69, 70, 72, 73, 74, 75, 76, 242, 243, 244, 246, 270, 271, 272, 273, 275, 276, 277, 278, 279, 280, 330, 331, 332, 333, 334, 999] σ0 σ0) R16.1 (by decide)), (R16.2.2.2.1 rd_at), (rd_bg.stn H0 h_0_0 (ExC.rf : ExC [0, 1, 2, 60, 61, 62, 63, 64, 65, 66, 67, 68, 69, 70, 72, 73, 74, 75, 76, 242, 243, 244, 246, 270, 271, 272, 273, 275, 276, 277, 278, 279, 280, 330, 331, 332, 333, 334, 999] σ0 σ0) R16 (by decide) (by rw [c8]; omega) (by omega)), (by omega)⟩ (fun w126 σ127 q128 => ?_)
          obtain ⟨a129, rfl, H130, e131, h133, R132, q134, q135, q136, q137⟩ := q128
          have t143 := h_0_0.x e131
          obtain ⟨x138, e139, c140, h141, h142⟩ := cg242 H130.1 t143
          obtain ⟨x144, e145, c146, h147, h148⟩ := cg243 H130.1 t143
          have z149 := congrArg Int32.toInt c140
          have z150 := congrArg Int32.toInt c146
          refine k_st (st' := [.inr (.inr (some a129))]) rfl ?_
          have z151 := R16.1.1
          obtain ⟨x152, e153, c154, h155, h156⟩ := cg272 H130.1 h133
          rw [c154] at q135
          obtain ⟨x157, e158, c159, h160, h161⟩ := cg270 H130.1 h133
          rw [c159] at q136
          have R162 : RdC p0 none (0) (24 + 8 * (d : Int)) (-997) σ0 σ127 := R16.tr ⟨R132.1, R132.2⟩ (by omega) (by omega) (by omega) (by omega)
          have z163 := R162.2.2.1
          have z164 := R162.2.2.2.1 rd_at
          refine k_areturn ?_
          have X165 : ExC [0, 1, 2, 60, 61, 62, 63, 64, 65, 66, 67, 68, 69, 70, 72, 73, 74, 75, 76, 242, 243, 244, 246, 270, 271, 272, 273, 275, 276, 277, 278, 279, 280, 330, 331, 332, 333, 334, 999] σ0 σ127 := ExC.rf.tr (e131.mo (by decide))
          have S170 : ∀ s, ReC σ0 p0 s → ReC σ127 p0 (rpaY d (stY d) p2.toInt p3.toInt s) := by
            intro s hs
            have f166 := q24 _ hs
            have f167 := q115 _ hs
            have y168 := q137 _ hs
            refine y168.eq ?_
            try unfold rpaY
            repeat (split <;> try (exfalso; omega))
            try unfold rp2Y
            repeat (split <;> try (exfalso; omega))
            try unfold tkY
            repeat (split <;> try (exfalso; omega))
            try unfold dpY
            repeat (split <;> try (exfalso; omega))
            all_goals rfl
          exact ⟨_, rfl, H130, X165, h133, (R162.mo (by omega) (by omega) (by omega)), (by omega), (by rw [c154] <;> omega), (by rw [c159] <;> omega), S170⟩
        · have h171 := q122 (by omega)
          refine k_if_eq (fun h172 => by exfalso; omega) (fun h172 => ?_)
          refine k_nil ?_
          refine hB _ _ _ _ (kgoC (is := KX7_readRowPart_60) rfl ?_)
          refine k_aload_n rfl ?_
          refine k_bipush (m := 91) rfl (fun x173 h174 => ?_)
          refine k_iload_n rfl ?_
          refine k_inv (P := (P_X7_readVariable d)) (Q := (Q_X7_readVariable d)) rfl rfl rfl rfl (Nat.le_of_ble_eq_true rfl) (h_0_0.rc (by decide)) ⟨_, _, _, rfl, H0, h_0_0, (by omega), (by omega), (by omega), (by omega), (rd_cd.st H0 h_0_0 (ExC.rf : ExC [0, 1, 2, 60, 61, 62, 63, 64, 65, 66, 67, 68, 69, 70, 72, 73, 74, 75, 76, 242, 243, 244, 246, 270, 271, 272, 273, 275, 276, 277, 278, 279, 280, 330, 331, 332, 333, 334, 999] σ0 σ0) R16.1 (by decide)), (R16.2.2.2.1 rd_at), ((show BgC σ0 p0 (23 + 8 * (d : Int)) 0 from (rd_bg.stn H0 h_0_0 (ExC.rf : ExC [0, 1, 2, 60, 61, 62, 63, 64, 65, 66, 67, 68, 69, 70, 72, 73, 74, 75, 76, 242, 243, 244, 246, 270, 271, 272, 273, 275, 276, 277, 278, 279, 280, 330, 331, 332, 333, 334, 999] σ0 σ0) R16 (by decide) (by rw [c8]; omega) (by omega))).1 (by rw [c8]; omega)), (by rw [c8]; omega), (by omega)⟩ (fun w175 σ176 q177 => ?_)
          obtain ⟨a178, rfl, H179, e180, h182, R181, q183, q184, q185, q186⟩ := q177
          have t192 := h_0_0.x e180
          obtain ⟨x187, e188, c189, h190, h191⟩ := cg242 H179.1 t192
          obtain ⟨x193, e194, c195, h196, h197⟩ := cg243 H179.1 t192
          have z198 := congrArg Int32.toInt c189
          have z199 := congrArg Int32.toInt c195
          refine k_st (st' := [.inr (.inr (some a178))]) rfl ?_
          have z200 := R16.1.1
          obtain ⟨x201, e202, c203, h204, h205⟩ := cg272 H179.1 h182
          rw [c203] at q184
          obtain ⟨x206, e207, c208, h209, h210⟩ := cg270 H179.1 h182
          rw [c208] at q185
          have R211 : RdC p0 none (0) (23 + 8 * (d : Int)) (-1000) σ0 σ176 := R16.tr ⟨R181.1, R181.2⟩ (by omega) (by omega) (by omega) (by omega)
          have z212 := R211.2.2.1
          have z213 := R211.2.2.2.1 rd_at
          refine k_astore (ls' := [(4, .inr (.inr (some a178))), (0, .inr (.inr (some p0))), (1, .inl p1), (2, .inl p2), (3, .inl p3)]) rfl ?_
          refine k_aload_n rfl ?_
          refine k_iconst (m := 4) rfl (fun x214 h215 => ?_)
          have X216 : ExC [0, 1, 2, 60, 61, 62, 63, 64, 65, 66, 67, 68, 69, 70, 72, 73, 74, 75, 76, 242, 243, 244, 246, 270, 271, 272, 273, 275, 276, 277, 278, 279, 280, 330, 331, 332, 333, 334, 999] σ0 σ176 := ExC.rf.tr (e180.mo (by decide))
          refine k_inv (P := P_X7_expect) (Q := Q_X7_expect) rfl rfl rfl rfl (Nat.le_of_ble_eq_true rfl) (t192.rc (by decide)) ⟨_, _, rfl, H179, t192, (by omega), (by omega), (rd_cd.st H0 h_0_0 X216 R211.1 (by decide)), (R211.2.2.2.1 rd_at), (rd_bg.st H0 h_0_0 X216 R211 (by decide) (by omega) (by omega) (by omega))⟩ (fun w217 σ218 q219 => ?_)
          obtain ⟨rfl, H220, e221, R222, q223, q224⟩ := q219
          have t230 := t192.x e221
          obtain ⟨x225, e226, c227, h228, h229⟩ := cg242 H220.1 t230
          obtain ⟨x231, e232, c233, h234, h235⟩ := cg243 H220.1 t230
          have z236 := congrArg Int32.toInt c227
          have z237 := congrArg Int32.toInt c233
          refine k_st (st' := []) rfl ?_
          have R238 : RdC p0 none (-8) (23 + 8 * (d : Int)) (-1000) σ0 σ218 := R211.tr ⟨R222.1, R222.2⟩ (by omega) (by omega) (by omega) (by omega)
          have z239 := R238.2.2.1
          have z240 := R238.2.2.2.1 rd_at
          refine k_aload rfl ?_
          refine k_areturn ?_
          have X241 : ExC [0, 1, 2, 60, 61, 62, 63, 64, 65, 66, 67, 68, 69, 70, 72, 73, 74, 75, 76, 242, 243, 244, 246, 270, 271, 272, 273, 275, 276, 277, 278, 279, 280, 330, 331, 332, 333, 334, 999] σ0 σ218 := X216.tr (e221.mo (by decide))
          have t242 := h182.x e221
          have c243 := (h182.mi e221 (by decide)).trans c203
          have c244 := (h182.mi e221 (by decide)).trans c208
          have S251 : ∀ s, ReC σ0 p0 s → ReC σ218 p0 (rpaY d (stY d) p2.toInt p3.toInt s) := by
            intro s hs
            have f245 := q24 _ hs
            have f246 := q115 _ hs
            have y247 := q186 _ hs
            have y249 := q224 _ y247
            rw [h215] at y249
            refine y249.eq ?_
            try unfold rpaY
            repeat (split <;> try (exfalso; omega))
            try unfold rp2Y
            repeat (split <;> try (exfalso; omega))
            try unfold tkY
            repeat (split <;> try (exfalso; omega))
            try unfold dpY
            repeat (split <;> try (exfalso; omega))
            all_goals rfl
          exact ⟨_, rfl, H220, X241, t242, (R238.mo (by omega) (by omega) (by omega)), (by omega), (by rw [c243] <;> omega), (by rw [c244] <;> omega), S251⟩
    · refine k_nil ?_
      refine hB _ _ _ _ (kgoC (is := KX7_readRowPart_4) rfl ?_)
      refine k_aload_n rfl ?_
      have R252 := (RdC.rf : RdC p0 none 0 0 0 σ0 σ0).nf (-1000) (-1000) (by rw [c8]; omega)
      refine k_inv (P := P_X7_code) (Q := Q_X7_code) rfl rfl rfl rfl (Nat.le_of_ble_eq_true rfl) (h_0_0.rc (by decide)) ⟨_, rfl, H0, h_0_0, (rd_cd.st H0 h_0_0 (ExC.rf : ExC [0, 1, 2, 60, 61, 62, 63, 64, 65, 66, 67, 68, 69, 70, 72, 73, 74, 75, 76, 242, 243, 244, 246, 270, 271, 272, 273, 275, 276, 277, 278, 279, 280, 330, 331, 332, 333, 334, 999] σ0 σ0) R252.1 (by decide))⟩ (fun w253 σ254 q255 => ?_)
      obtain ⟨x256, rfl, rfl, q257, q258, q259, q260⟩ := q255
      refine k_st (st' := [.inl x256]) rfl ?_
      have z261 := R252.2.2.1
      have z262 := R252.2.2.2.1 rd_at
      refine k_bipush (m := 62) rfl (fun x263 h264 => ?_)
      refine k_ic_eq (fun h265 => ?_) (fun h265 => ?_)
      · refine hB _ _ _ _ (kgoC (is := KX7_readRowPart_22) rfl ?_)
        refine k_aload_n rfl ?_
        refine k_iload_n rfl ?_
        refine k_inv (P := (P_X7_readCase d)) (Q := (Q_X7_readCase d)) rfl rfl rfl rfl (Nat.le_of_ble_eq_true rfl) (h_0_0.rc (by decide)) ⟨_, _, rfl, H0, h_0_0, (by omega), (by omega), (rd_cd.st H0 h_0_0 (ExC.rf : ExC [0, 1, 2, 60, 61, 62, 63, 64, 65, 66, 67, 68, 69, 70, 72, 73, 74, 75, 76, 242, 243, 244, 246, 270, 271, 272, 273, 275, 276, 277, 278, 279, 280, 330, 331, 332, 333, 334, 999] σ0 σ0) R252.1 (by decide)), (R252.2.2.2.1 rd_at), ((show BgC σ0 p0 (24 + 8 * (d : Int)) 0 from (rd_bg.stn H0 h_0_0 (ExC.rf : ExC [0, 1, 2, 60, 61, 62, 63, 64, 65, 66, 67, 68, 69, 70, 72, 73, 74, 75, 76, 242, 243, 244, 246, 270, 271, 272, 273, 275, 276, 277, 278, 279, 280, 330, 331, 332, 333, 334, 999] σ0 σ0) R252 (by decide) (by rw [c8]; omega) (by omega))).1 (by rw [c8]; omega)), (by rw [c8]; omega), (by have ct := R252.2.2.1; rw [c8, c3, ct]; omega), (by omega), (by omega)⟩ (fun w266 σ267 q268 => ?_)
        obtain ⟨a269, rfl, H270, e271, h273, R272, q274, q275, q276, q277⟩ := q268
        have t283 := h_0_0.x e271
        obtain ⟨x278, e279, c280, h281, h282⟩ := cg242 H270.1 t283
        obtain ⟨x284, e285, c286, h287, h288⟩ := cg243 H270.1 t283
        have z289 := congrArg Int32.toInt c280
        have z290 := congrArg Int32.toInt c286
        refine k_st (st' := [.inr (.inr (some a269))]) rfl ?_
        have z291 := R252.1.1
        obtain ⟨x292, e293, c294, h295, h296⟩ := cg272 H270.1 h273
        rw [c294] at q275
        obtain ⟨x297, e298, c299, h300, h301⟩ := cg270 H270.1 h273
        rw [c299] at q276
        have R302 : RdC p0 none (0) (24 + 8 * (d : Int)) (-1000) σ0 σ267 := R252.tr ⟨R272.1, R272.2⟩ (by omega) (by omega) (by omega) (by omega)
        have z303 := R302.2.2.1
        have z304 := R302.2.2.2.1 rd_at
        refine k_areturn ?_
        have X305 : ExC [0, 1, 2, 60, 61, 62, 63, 64, 65, 66, 67, 68, 69, 70, 72, 73, 74, 75, 76, 242, 243, 244, 246, 270, 271, 272, 273, 275, 276, 277, 278, 279, 280, 330, 331, 332, 333, 334, 999] σ0 σ267 := ExC.rf.tr (e271.mo (by decide))
        have S309 : ∀ s, ReC σ0 p0 s → ReC σ267 p0 (rpaY d (stY d) p2.toInt p3.toInt s) := by
          intro s hs
          have f306 := q260 _ hs
          have y307 := q277 _ hs
          refine y307.eq ?_
          try unfold rpaY
          repeat (split <;> try (exfalso; omega))
          try unfold rp2Y
          repeat (split <;> try (exfalso; omega))
          try unfold tkY
          repeat (split <;> try (exfalso; omega))
          try unfold dpY
          repeat (split <;> try (exfalso; omega))
          all_goals rfl
        exact ⟨_, rfl, H270, X305, h273, (R302.mo (by omega) (by omega) (by omega)), (by omega), (by rw [c294] <;> omega), (by rw [c299] <;> omega), S309⟩
      · refine k_nil ?_
        refine hB _ _ _ _ (kgoC (is := KX7_readRowPart_13) rfl ?_)
        refine k_aload_n rfl ?_
        refine k_inv (P := P_X7_code) (Q := Q_X7_code) rfl rfl rfl rfl (Nat.le_of_ble_eq_true rfl) (h_0_0.rc (by decide)) ⟨_, rfl, H0, h_0_0, (rd_cd.st H0 h_0_0 (ExC.rf : ExC [0, 1, 2, 60, 61, 62, 63, 64, 65, 66, 67, 68, 69, 70, 72, 73, 74, 75, 76, 242, 243, 244, 246, 270, 271, 272, 273, 275, 276, 277, 278, 279, 280, 330, 331, 332, 333, 334, 999] σ0 σ0) R252.1 (by decide))⟩ (fun w310 σ311 q312 => ?_)
        obtain ⟨x313, rfl, rfl, q314, q315, q316, q317⟩ := q312
        refine k_st (st' := [.inl x313]) rfl ?_
        refine k_bipush (m := 63) rfl (fun x318 h319 => ?_)
        refine k_ic_ne (fun h320 => ?_) (fun h320 => ?_)
        · refine hB _ _ _ _ (kgoC (is := KX7_readRowPart_28) rfl ?_)
          refine k_iload_n rfl ?_
          refine k_if_eq (fun h321 => by exfalso; omega) (fun h321 => ?_)
          refine k_nil ?_
          refine hB _ _ _ _ (kgoC (is := KX7_readRowPart_32) rfl ?_)
          refine k_iload_n rfl ?_
          refine k_if_eq (fun h322 => ?_) (fun h322 => ?_)
          · refine hB _ _ _ _ (kgoC (is := KX7_readRowPart_41) rfl ?_)
            refine k_aload_n rfl ?_
            refine k_inv (P := P_X7_code) (Q := Q_X7_code) rfl rfl rfl rfl (Nat.le_of_ble_eq_true rfl) (h_0_0.rc (by decide)) ⟨_, rfl, H0, h_0_0, (rd_cd.st H0 h_0_0 (ExC.rf : ExC [0, 1, 2, 60, 61, 62, 63, 64, 65, 66, 67, 68, 69, 70, 72, 73, 74, 75, 76, 242, 243, 244, 246, 270, 271, 272, 273, 275, 276, 277, 278, 279, 280, 330, 331, 332, 333, 334, 999] σ0 σ0) R252.1 (by decide))⟩ (fun w323 σ324 q325 => ?_)
            obtain ⟨x326, rfl, rfl, q327, q328, q329, q330⟩ := q325
            refine k_st (st' := [.inl x326]) rfl ?_
            refine k_bipush (m := 71) rfl (fun x331 h332 => ?_)
            refine k_ic_eq (fun h333 => ?_) (fun h333 => ?_)
            · refine hB _ _ _ _ (kgoC (is := KX7_readRowPart_60) rfl ?_)
              refine k_aload_n rfl ?_
              refine k_bipush (m := 91) rfl (fun x334 h335 => ?_)
              refine k_iload_n rfl ?_
              refine k_inv (P := (P_X7_readVariable d)) (Q := (Q_X7_readVariable d)) rfl rfl rfl rfl (Nat.le_of_ble_eq_true rfl) (h_0_0.rc (by decide)) ⟨_, _, _, rfl, H0, h_0_0, (by omega), (by omega), (by omega), (by omega), (rd_cd.st H0 h_0_0 (ExC.rf : ExC [0, 1, 2, 60, 61, 62, 63, 64, 65, 66, 67, 68, 69, 70, 72, 73, 74, 75, 76, 242, 243, 244, 246, 270, 271, 272, 273, 275, 276, 277, 278, 279, 280, 330, 331, 332, 333, 334, 999] σ0 σ0) R252.1 (by decide)), (R252.2.2.2.1 rd_at), ((show BgC σ0 p0 (23 + 8 * (d : Int)) 0 from (rd_bg.stn H0 h_0_0 (ExC.rf : ExC [0, 1, 2, 60, 61, 62, 63, 64, 65, 66, 67, 68, 69, 70, 72, 73, 74, 75, 76, 242, 243, 244, 246, 270, 271, 272, 273, 275, 276, 277, 278, 279, 280, 330, 331, 332, 333, 334, 999] σ0 σ0) R252 (by decide) (by rw [c8]; omega) (by omega))).1 (by rw [c8]; omega)), (by rw [c8]; omega), (by omega)⟩ (fun w336 σ337 q338 => ?_)
              obtain ⟨a339, rfl, H340, e341, h343, R342, q344, q345, q346, q347⟩ := q338
              have t353 := h_0_0.x e341
              obtain ⟨x348, e349, c350, h351, h352⟩ := cg242 H340.1 t353
              obtain ⟨x354, e355, c356, h357, h358⟩ := cg243 H340.1 t353
              have z359 := congrArg Int32.toInt c350
              have z360 := congrArg Int32.toInt c356
              refine k_st (st' := [.inr (.inr (some a339))]) rfl ?_
              have z361 := R252.1.1
              obtain ⟨x362, e363, c364, h365, h366⟩ := cg272 H340.1 h343
              rw [c364] at q345
              obtain ⟨x367, e368, c369, h370, h371⟩ := cg270 H340.1 h343
              rw [c369] at q346
              have R372 : RdC p0 none (0) (23 + 8 * (d : Int)) (-1000) σ0 σ337 := R252.tr ⟨R342.1, R342.2⟩ (by omega) (by omega) (by omega) (by omega)
              have z373 := R372.2.2.1
              have z374 := R372.2.2.2.1 rd_at
              refine k_astore (ls' := [(4, .inr (.inr (some a339))), (0, .inr (.inr (some p0))), (1, .inl p1), (2, .inl p2), (3, .inl p3)]) rfl ?_
              refine k_aload_n rfl ?_
              refine k_iconst (m := 4) rfl (fun x375 h376 => ?_)
              have X377 : ExC [0, 1, 2, 60, 61, 62, 63, 64, 65, 66, 67, 68, 69, 70, 72, 73, 74, 75, 76, 242, 243, 244, 246, 270, 271, 272, 273, 275, 276, 277, 278, 279, 280, 330, 331, 332, 333, 334, 999] σ0 σ337 := ExC.rf.tr (e341.mo (by decide))
              refine k_inv (P := P_X7_expect) (Q := Q_X7_expect) rfl rfl rfl rfl (Nat.le_of_ble_eq_true rfl) (t353.rc (by decide)) ⟨_, _, rfl, H340, t353, (by omega), (by omega), (rd_cd.st H0 h_0_0 X377 R372.1 (by decide)), (R372.2.2.2.1 rd_at), (rd_bg.st H0 h_0_0 X377 R372 (by decide) (by omega) (by omega) (by omega))⟩ (fun w378 σ379 q380 => ?_)
              obtain ⟨rfl, H381, e382, R383, q384, q385⟩ := q380
              have t391 := t353.x e382
              obtain ⟨x386, e387, c388, h389, h390⟩ := cg242 H381.1 t391
              obtain ⟨x392, e393, c394, h395, h396⟩ := cg243 H381.1 t391
              have z397 := congrArg Int32.toInt c388
              have z398 := congrArg Int32.toInt c394
              refine k_st (st' := []) rfl ?_
              have R399 : RdC p0 none (-8) (23 + 8 * (d : Int)) (-1000) σ0 σ379 := R372.tr ⟨R383.1, R383.2⟩ (by omega) (by omega) (by omega) (by omega)
              have z400 := R399.2.2.1
              have z401 := R399.2.2.2.1 rd_at
              refine k_aload rfl ?_
              refine k_areturn ?_
              have X402 : ExC [0, 1, 2, 60, 61, 62, 63, 64, 65, 66, 67, 68, 69, 70, 72, 73, 74, 75, 76, 242, 243, 244, 246, 270, 271, 272, 273, 275, 276, 277, 278, 279, 280, 330, 331, 332, 333, 334, 999] σ0 σ379 := X377.tr (e382.mo (by decide))
              have t403 := h343.x e382
              have c404 := (h343.mi e382 (by decide)).trans c364
              have c405 := (h343.mi e382 (by decide)).trans c369
              have S413 : ∀ s, ReC σ0 p0 s → ReC σ379 p0 (rpaY d (stY d) p2.toInt p3.toInt s) := by
                intro s hs
                have f406 := q260 _ hs
                have f407 := q317 _ hs
                have f408 := q330 _ hs
                have y409 := q347 _ hs
                have y411 := q385 _ y409
                rw [h376] at y411
                refine y411.eq ?_
                try unfold rpaY
                repeat (split <;> try (exfalso; omega))
                try unfold rp2Y
                repeat (split <;> try (exfalso; omega))
                try unfold tkY
                repeat (split <;> try (exfalso; omega))
                try unfold dpY
                repeat (split <;> try (exfalso; omega))
                all_goals rfl
              exact ⟨_, rfl, H381, X402, t403, (R399.mo (by omega) (by omega) (by omega)), (by omega), (by rw [c404] <;> omega), (by rw [c405] <;> omega), S413⟩
            · refine k_nil ?_
              refine hB _ _ _ _ (kgoC (is := KX7_readRowPart_50) rfl ?_)
              refine k_aload_n rfl ?_
              refine k_inv (P := P_X7_code) (Q := Q_X7_code) rfl rfl rfl rfl (Nat.le_of_ble_eq_true rfl) (h_0_0.rc (by decide)) ⟨_, rfl, H0, h_0_0, (rd_cd.st H0 h_0_0 (ExC.rf : ExC [0, 1, 2, 60, 61, 62, 63, 64, 65, 66, 67, 68, 69, 70, 72, 73, 74, 75, 76, 242, 243, 244, 246, 270, 271, 272, 273, 275, 276, 277, 278, 279, 280, 330, 331, 332, 333, 334, 999] σ0 σ0) R252.1 (by decide))⟩ (fun w414 σ415 q416 => ?_)
              obtain ⟨x417, rfl, rfl, q418, q419, q420, q421⟩ := q416
              refine k_st (st' := [.inl x417]) rfl ?_
              refine k_stat (P := P_X7_isType) (Q := Q_X7_isType) rfl rfl (Nat.le_of_ble_eq_true rfl) rfl rfl (Nat.le_of_ble_eq_true rfl) ⟨_, rfl, H0⟩ (fun w422 σ423 q424 => ?_)
              obtain ⟨x425, rfl, rfl, h426, h427, q428, q429⟩ := q424
              refine k_st (st' := [.inl x425]) rfl ?_
              rcases (by omega : x425.toInt = 0 ∨ x425.toInt = 1) with g430 | g430
              · refine k_if_eq (fun h431 => ?_) (fun h431 => by exfalso; omega)
                refine hB _ _ _ _ (kgoC (is := KX7_readRowPart_77) rfl ?_)
                refine k_aload_n rfl ?_
                refine k_iload_n rfl ?_
                refine k_inv (P := (P_X7_readStatement d)) (Q := (Q_X7_readStatement d)) rfl rfl rfl rfl (Nat.le_of_ble_eq_true rfl) (h_0_0.rc (by decide)) ⟨_, _, rfl, H0, h_0_0, (by omega), (by omega), (rd_cd.st H0 h_0_0 (ExC.rf : ExC [0, 1, 2, 60, 61, 62, 63, 64, 65, 66, 67, 68, 69, 70, 72, 73, 74, 75, 76, 242, 243, 244, 246, 270, 271, 272, 273, 275, 276, 277, 278, 279, 280, 330, 331, 332, 333, 334, 999] σ0 σ0) R252.1 (by decide)), (R252.2.2.2.1 rd_at), (rd_bg.stn H0 h_0_0 (ExC.rf : ExC [0, 1, 2, 60, 61, 62, 63, 64, 65, 66, 67, 68, 69, 70, 72, 73, 74, 75, 76, 242, 243, 244, 246, 270, 271, 272, 273, 275, 276, 277, 278, 279, 280, 330, 331, 332, 333, 334, 999] σ0 σ0) R252 (by decide) (by rw [c8]; omega) (by omega)), (by omega)⟩ (fun w432 σ433 q434 => ?_)
                obtain ⟨a435, rfl, H436, e437, h439, R438, q440, q441, q442, q443⟩ := q434
                have t449 := h_0_0.x e437
                obtain ⟨x444, e445, c446, h447, h448⟩ := cg242 H436.1 t449
                obtain ⟨x450, e451, c452, h453, h454⟩ := cg243 H436.1 t449
                have z455 := congrArg Int32.toInt c446
                have z456 := congrArg Int32.toInt c452
                refine k_st (st' := [.inr (.inr (some a435))]) rfl ?_
                have z457 := R252.1.1
                obtain ⟨x458, e459, c460, h461, h462⟩ := cg272 H436.1 h439
                rw [c460] at q441
                obtain ⟨x463, e464, c465, h466, h467⟩ := cg270 H436.1 h439
                rw [c465] at q442
                have R468 : RdC p0 none (0) (24 + 8 * (d : Int)) (-997) σ0 σ433 := R252.tr ⟨R438.1, R438.2⟩ (by omega) (by omega) (by omega) (by omega)
                have z469 := R468.2.2.1
                have z470 := R468.2.2.2.1 rd_at
                refine k_areturn ?_
                have X471 : ExC [0, 1, 2, 60, 61, 62, 63, 64, 65, 66, 67, 68, 69, 70, 72, 73, 74, 75, 76, 242, 243, 244, 246, 270, 271, 272, 273, 275, 276, 277, 278, 279, 280, 330, 331, 332, 333, 334, 999] σ0 σ433 := ExC.rf.tr (e437.mo (by decide))
                have S478 : ∀ s, ReC σ0 p0 s → ReC σ433 p0 (rpaY d (stY d) p2.toInt p3.toInt s) := by
                  intro s hs
                  have f472 := q260 _ hs
                  have f473 := q317 _ hs
                  have f474 := q330 _ hs
                  have f475 := q421 _ hs
                  have y476 := q443 _ hs
                  refine y476.eq ?_
                  try unfold rpaY
                  repeat (split <;> try (exfalso; omega))
                  try unfold rp2Y
                  repeat (split <;> try (exfalso; omega))
                  try unfold tkY
                  repeat (split <;> try (exfalso; omega))
                  try unfold dpY
                  repeat (split <;> try (exfalso; omega))
                  all_goals rfl
                exact ⟨_, rfl, H436, X471, h439, (R468.mo (by omega) (by omega) (by omega)), (by omega), (by rw [c460] <;> omega), (by rw [c465] <;> omega), S478⟩
              · have h479 := q428 (by omega)
                refine k_if_eq (fun h480 => by exfalso; omega) (fun h480 => ?_)
                refine k_nil ?_
                refine hB _ _ _ _ (kgoC (is := KX7_readRowPart_60) rfl ?_)
                refine k_aload_n rfl ?_
                refine k_bipush (m := 91) rfl (fun x481 h482 => ?_)
                refine k_iload_n rfl ?_
                refine k_inv (P := (P_X7_readVariable d)) (Q := (Q_X7_readVariable d)) rfl rfl rfl rfl (Nat.le_of_ble_eq_true rfl) (h_0_0.rc (by decide)) ⟨_, _, _, rfl, H0, h_0_0, (by omega), (by omega), (by omega), (by omega), (rd_cd.st H0 h_0_0 (ExC.rf : ExC [0, 1, 2, 60, 61, 62, 63, 64, 65, 66, 67, 68, 69, 70, 72, 73, 74, 75, 76, 242, 243, 244, 246, 270, 271, 272, 273, 275, 276, 277, 278, 279, 280, 330, 331, 332, 333, 334, 999] σ0 σ0) R252.1 (by decide)), (R252.2.2.2.1 rd_at), ((show BgC σ0 p0 (23 + 8 * (d : Int)) 0 from (rd_bg.stn H0 h_0_0 (ExC.rf : ExC [0, 1, 2, 60, 61, 62, 63, 64, 65, 66, 67, 68, 69, 70, 72, 73, 74, 75, 76, 242, 243, 244, 246, 270, 271, 272, 273, 275, 276, 277, 278, 279, 280, 330, 331, 332, 333, 334, 999] σ0 σ0) R252 (by decide) (by rw [c8]; omega) (by omega))).1 (by rw [c8]; omega)), (by rw [c8]; omega), (by omega)⟩ (fun w483 σ484 q485 => ?_)
                obtain ⟨a486, rfl, H487, e488, h490, R489, q491, q492, q493, q494⟩ := q485
                have t500 := h_0_0.x e488
                obtain ⟨x495, e496, c497, h498, h499⟩ := cg242 H487.1 t500
                obtain ⟨x501, e502, c503, h504, h505⟩ := cg243 H487.1 t500
                have z506 := congrArg Int32.toInt c497
                have z507 := congrArg Int32.toInt c503
                refine k_st (st' := [.inr (.inr (some a486))]) rfl ?_
                have z508 := R252.1.1
                obtain ⟨x509, e510, c511, h512, h513⟩ := cg272 H487.1 h490
                rw [c511] at q492
                obtain ⟨x514, e515, c516, h517, h518⟩ := cg270 H487.1 h490
                rw [c516] at q493
                have R519 : RdC p0 none (0) (23 + 8 * (d : Int)) (-1000) σ0 σ484 := R252.tr ⟨R489.1, R489.2⟩ (by omega) (by omega) (by omega) (by omega)
                have z520 := R519.2.2.1
                have z521 := R519.2.2.2.1 rd_at
                refine k_astore (ls' := [(4, .inr (.inr (some a486))), (0, .inr (.inr (some p0))), (1, .inl p1), (2, .inl p2), (3, .inl p3)]) rfl ?_
                refine k_aload_n rfl ?_
                refine k_iconst (m := 4) rfl (fun x522 h523 => ?_)
                have X524 : ExC [0, 1, 2, 60, 61, 62, 63, 64, 65, 66, 67, 68, 69, 70, 72, 73, 74, 75, 76, 242, 243, 244, 246, 270, 271, 272, 273, 275, 276, 277, 278, 279, 280, 330, 331, 332, 333, 334, 999] σ0 σ484 := ExC.rf.tr (e488.mo (by decide))
                refine k_inv (P := P_X7_expect) (Q := Q_X7_expect) rfl rfl rfl rfl (Nat.le_of_ble_eq_true rfl) (t500.rc (by decide)) ⟨_, _, rfl, H487, t500, (by omega), (by omega), (rd_cd.st H0 h_0_0 X524 R519.1 (by decide)), (R519.2.2.2.1 rd_at), (rd_bg.st H0 h_0_0 X524 R519 (by decide) (by omega) (by omega) (by omega))⟩ (fun w525 σ526 q527 => ?_)
                obtain ⟨rfl, H528, e529, R530, q531, q532⟩ := q527
                have t538 := t500.x e529
                obtain ⟨x533, e534, c535, h536, h537⟩ := cg242 H528.1 t538
                obtain ⟨x539, e540, c541, h542, h543⟩ := cg243 H528.1 t538
                have z544 := congrArg Int32.toInt c535
                have z545 := congrArg Int32.toInt c541
                refine k_st (st' := []) rfl ?_
                have R546 : RdC p0 none (-8) (23 + 8 * (d : Int)) (-1000) σ0 σ526 := R519.tr ⟨R530.1, R530.2⟩ (by omega) (by omega) (by omega) (by omega)
                have z547 := R546.2.2.1
                have z548 := R546.2.2.2.1 rd_at
                refine k_aload rfl ?_
                refine k_areturn ?_
                have X549 : ExC [0, 1, 2, 60, 61, 62, 63, 64, 65, 66, 67, 68, 69, 70, 72, 73, 74, 75, 76, 242, 243, 244, 246, 270, 271, 272, 273, 275, 276, 277, 278, 279, 280, 330, 331, 332, 333, 334, 999] σ0 σ526 := X524.tr (e529.mo (by decide))
                have t550 := h490.x e529
                have c551 := (h490.mi e529 (by decide)).trans c511
                have c552 := (h490.mi e529 (by decide)).trans c516
                have S561 : ∀ s, ReC σ0 p0 s → ReC σ526 p0 (rpaY d (stY d) p2.toInt p3.toInt s) := by
                  intro s hs
                  have f553 := q260 _ hs
                  have f554 := q317 _ hs
                  have f555 := q330 _ hs
                  have f556 := q421 _ hs
                  have y557 := q494 _ hs
                  have y559 := q532 _ y557
                  rw [h523] at y559
                  refine y559.eq ?_
                  try unfold rpaY
                  repeat (split <;> try (exfalso; omega))
                  try unfold rp2Y
                  repeat (split <;> try (exfalso; omega))
                  try unfold tkY
                  repeat (split <;> try (exfalso; omega))
                  try unfold dpY
                  repeat (split <;> try (exfalso; omega))
                  all_goals rfl
                exact ⟨_, rfl, H528, X549, t550, (R546.mo (by omega) (by omega) (by omega)), (by omega), (by rw [c551] <;> omega), (by rw [c552] <;> omega), S561⟩
          · refine k_nil ?_
            refine hB _ _ _ _ (kgoC (is := KX7_readRowPart_36) rfl ?_)
            refine k_aload_n rfl ?_
            refine k_iconst (m := 2) rfl (fun x562 h563 => ?_)
            refine k_inv (P := P_X7_raise) (Q := Q_X7_raise) rfl rfl rfl rfl (Nat.le_of_ble_eq_true rfl) (h_0_0.rc (by decide)) ⟨_, _, rfl, H0, h_0_0, (by omega), (by omega), (rd_cd.st H0 h_0_0 (ExC.rf : ExC [0, 1, 2, 60, 61, 62, 63, 64, 65, 66, 67, 68, 69, 70, 72, 73, 74, 75, 76, 242, 243, 244, 246, 270, 271, 272, 273, 275, 276, 277, 278, 279, 280, 330, 331, 332, 333, 334, 999] σ0 σ0) R252.1 (by decide)), (R252.2.2.2.1 rd_at), (rd_bg.stn H0 h_0_0 (ExC.rf : ExC [0, 1, 2, 60, 61, 62, 63, 64, 65, 66, 67, 68, 69, 70, 72, 73, 74, 75, 76, 242, 243, 244, 246, 270, 271, 272, 273, 275, 276, 277, 278, 279, 280, 330, 331, 332, 333, 334, 999] σ0 σ0) R252 (by decide) (by rw [c8]; omega) (by omega))⟩ (fun w564 σ565 q566 => ?_)
            obtain ⟨rfl, H567, e568, R569, q570, q571⟩ := q566
            have c572 := (h_0_0.mi e568 (by decide)).trans c3
            have t578 := h_0_0.x e568
            obtain ⟨x573, e574, c575, h576, h577⟩ := cg243 H567.1 t578
            have z579 := congrArg Int32.toInt c572
            have z580 := congrArg Int32.toInt c575
            refine k_st (st' := []) rfl ?_
            have h581 : 1 ≤ x573.toInt := by have hq := q570; rw [c575] at hq; omega
            refine k_nil ?_
            refine hB _ _ _ _ (kgoC (is := KX7_readRowPart_41) rfl ?_)
            refine k_aload_n rfl ?_
            have R582 : RdC p0 none (0) (0) (-1000) σ0 σ565 := R252.tr ⟨R569.1, R569.2⟩ (by omega) (by omega) (by omega) (by omega)
            have X583 : ExC [0, 1, 2, 60, 61, 62, 63, 64, 65, 66, 67, 68, 69, 70, 72, 73, 74, 75, 76, 242, 243, 244, 246, 270, 271, 272, 273, 275, 276, 277, 278, 279, 280, 330, 331, 332, 333, 334, 999] σ0 σ565 := ExC.rf.tr (e568.mo (by decide))
            refine k_inv (P := P_X7_code) (Q := Q_X7_code) rfl rfl rfl rfl (Nat.le_of_ble_eq_true rfl) (t578.rc (by decide)) ⟨_, rfl, H567, t578, (rd_cd.st H0 h_0_0 X583 R582.1 (by decide))⟩ (fun w584 σ585 q586 => ?_)
            obtain ⟨x587, rfl, rfl, q588, q589, q590, q591⟩ := q586
            refine k_st (st' := [.inl x587]) rfl ?_
            have z592 := R582.2.2.1
            have z593 := R582.2.2.2.1 rd_at
            refine k_bipush (m := 71) rfl (fun x594 h595 => ?_)
            refine k_ic_eq (fun h596 => ?_) (fun h596 => ?_)
            · exfalso; omega
            · refine k_nil ?_
              refine hB _ _ _ _ (kgoC (is := KX7_readRowPart_50) rfl ?_)
              refine k_aload_n rfl ?_
              refine k_inv (P := P_X7_code) (Q := Q_X7_code) rfl rfl rfl rfl (Nat.le_of_ble_eq_true rfl) (t578.rc (by decide)) ⟨_, rfl, H567, t578, (rd_cd.st H0 h_0_0 X583 R582.1 (by decide))⟩ (fun w597 σ598 q599 => ?_)
              obtain ⟨x600, rfl, rfl, q601, q602, q603, q604⟩ := q599
              refine k_st (st' := [.inl x600]) rfl ?_
              refine k_stat (P := P_X7_isType) (Q := Q_X7_isType) rfl rfl (Nat.le_of_ble_eq_true rfl) rfl rfl (Nat.le_of_ble_eq_true rfl) ⟨_, rfl, H567⟩ (fun w605 σ606 q607 => ?_)
              obtain ⟨x608, rfl, rfl, h609, h610, q611, q612⟩ := q607
              refine k_st (st' := [.inl x608]) rfl ?_
              rcases (by omega : x608.toInt = 0 ∨ x608.toInt = 1) with g613 | g613
              · refine k_if_eq (fun h614 => ?_) (fun h614 => by exfalso; omega)
                refine hB _ _ _ _ (kgoC (is := KX7_readRowPart_77) rfl ?_)
                refine k_aload_n rfl ?_
                refine k_iload_n rfl ?_
                refine k_inv (P := (P_X7_readStatement d)) (Q := (Q_X7_readStatement d)) rfl rfl rfl rfl (Nat.le_of_ble_eq_true rfl) (t578.rc (by decide)) ⟨_, _, rfl, H567, t578, (by omega), (by omega), (rd_cd.st H0 h_0_0 X583 R582.1 (by decide)), (R582.2.2.2.1 rd_at), (rd_bg.st H0 h_0_0 X583 R582 (by decide) (by omega) (by omega) (by omega)), (by omega)⟩ (fun w615 σ616 q617 => ?_)
                obtain ⟨a618, rfl, H619, e620, h622, R621, q623, q624, q625, q626⟩ := q617
                have t632 := t578.x e620
                obtain ⟨x627, e628, c629, h630, h631⟩ := cg242 H619.1 t632
                obtain ⟨x633, e634, c635, h636, h637⟩ := cg243 H619.1 t632
                have z638 := congrArg Int32.toInt c629
                have z639 := congrArg Int32.toInt c635
                refine k_st (st' := [.inr (.inr (some a618))]) rfl ?_
                have z640 := R582.1.1
                obtain ⟨x641, e642, c643, h644, h645⟩ := cg272 H619.1 h622
                rw [c643] at q624
                obtain ⟨x646, e647, c648, h649, h650⟩ := cg270 H619.1 h622
                rw [c648] at q625
                have R651 : RdC p0 none (0) (24 + 8 * (d : Int)) (-997) σ0 σ616 := R582.tr ⟨R621.1, R621.2⟩ (by omega) (by omega) (by omega) (by omega)
                have z652 := R651.2.2.1
                have z653 := R651.2.2.2.1 rd_at
                refine k_areturn ?_
                have X654 : ExC [0, 1, 2, 60, 61, 62, 63, 64, 65, 66, 67, 68, 69, 70, 72, 73, 74, 75, 76, 242, 243, 244, 246, 270, 271, 272, 273, 275, 276, 277, 278, 279, 280, 330, 331, 332, 333, 334, 999] σ0 σ616 := X583.tr (e620.mo (by decide))
                have S663 : ∀ s, ReC σ0 p0 s → ReC σ616 p0 (rpaY d (stY d) p2.toInt p3.toInt s) := by
                  intro s hs
                  have f655 := q260 _ hs
                  have f656 := q317 _ hs
                  have y657 := q571 _ hs
                  rw [h563] at y657
                  have f659 := q591 _ y657
                  have f660 := q604 _ y657
                  have y661 := q626 _ y657
                  refine y661.eq ?_
                  try unfold rpaY
                  repeat (split <;> try (exfalso; omega))
                  try unfold rp2Y
                  repeat (split <;> try (exfalso; omega))
                  try unfold tkY
                  repeat (split <;> try (exfalso; omega))
                  try unfold dpY
                  repeat (split <;> try (exfalso; omega))
                  all_goals rfl
                exact ⟨_, rfl, H619, X654, h622, (R651.mo (by omega) (by omega) (by omega)), (by omega), (by rw [c643] <;> omega), (by rw [c648] <;> omega), S663⟩
              · have h664 := q611 (by omega)
                exfalso; omega
        · refine k_nil ?_
          refine hB _ _ _ _ (kgoC (is := KX7_readRowPart_22) rfl ?_)
          refine k_aload_n rfl ?_
          refine k_iload_n rfl ?_
          refine k_inv (P := (P_X7_readCase d)) (Q := (Q_X7_readCase d)) rfl rfl rfl rfl (Nat.le_of_ble_eq_true rfl) (h_0_0.rc (by decide)) ⟨_, _, rfl, H0, h_0_0, (by omega), (by omega), (rd_cd.st H0 h_0_0 (ExC.rf : ExC [0, 1, 2, 60, 61, 62, 63, 64, 65, 66, 67, 68, 69, 70, 72, 73, 74, 75, 76, 242, 243, 244, 246, 270, 271, 272, 273, 275, 276, 277, 278, 279, 280, 330, 331, 332, 333, 334, 999] σ0 σ0) R252.1 (by decide)), (R252.2.2.2.1 rd_at), ((show BgC σ0 p0 (24 + 8 * (d : Int)) 0 from (rd_bg.stn H0 h_0_0 (ExC.rf : ExC [0, 1, 2, 60, 61, 62, 63, 64, 65, 66, 67, 68, 69, 70, 72, 73, 74, 75, 76, 242, 243, 244, 246, 270, 271, 272, 273, 275, 276, 277, 278, 279, 280, 330, 331, 332, 333, 334, 999] σ0 σ0) R252 (by decide) (by rw [c8]; omega) (by omega))).1 (by rw [c8]; omega)), (by rw [c8]; omega), (by have ct := R252.2.2.1; rw [c8, c3, ct]; omega), (by omega), (by omega)⟩ (fun w665 σ666 q667 => ?_)
          obtain ⟨a668, rfl, H669, e670, h672, R671, q673, q674, q675, q676⟩ := q667
          have t682 := h_0_0.x e670
          obtain ⟨x677, e678, c679, h680, h681⟩ := cg242 H669.1 t682
          obtain ⟨x683, e684, c685, h686, h687⟩ := cg243 H669.1 t682
          have z688 := congrArg Int32.toInt c679
          have z689 := congrArg Int32.toInt c685
          refine k_st (st' := [.inr (.inr (some a668))]) rfl ?_
          have z690 := R252.1.1
          obtain ⟨x691, e692, c693, h694, h695⟩ := cg272 H669.1 h672
          rw [c693] at q674
          obtain ⟨x696, e697, c698, h699, h700⟩ := cg270 H669.1 h672
          rw [c698] at q675
          have R701 : RdC p0 none (0) (24 + 8 * (d : Int)) (-1000) σ0 σ666 := R252.tr ⟨R671.1, R671.2⟩ (by omega) (by omega) (by omega) (by omega)
          have z702 := R701.2.2.1
          have z703 := R701.2.2.2.1 rd_at
          refine k_areturn ?_
          have X704 : ExC [0, 1, 2, 60, 61, 62, 63, 64, 65, 66, 67, 68, 69, 70, 72, 73, 74, 75, 76, 242, 243, 244, 246, 270, 271, 272, 273, 275, 276, 277, 278, 279, 280, 330, 331, 332, 333, 334, 999] σ0 σ666 := ExC.rf.tr (e670.mo (by decide))
          have S709 : ∀ s, ReC σ0 p0 s → ReC σ666 p0 (rpaY d (stY d) p2.toInt p3.toInt s) := by
            intro s hs
            have f705 := q260 _ hs
            have f706 := q317 _ hs
            have y707 := q676 _ hs
            refine y707.eq ?_
            try unfold rpaY
            repeat (split <;> try (exfalso; omega))
            try unfold rp2Y
            repeat (split <;> try (exfalso; omega))
            try unfold tkY
            repeat (split <;> try (exfalso; omega))
            try unfold dpY
            repeat (split <;> try (exfalso; omega))
            all_goals rfl
          exact ⟨_, rfl, H669, X704, h672, (R701.mo (by omega) (by omega) (by omega)), (by omega), (by rw [c693] <;> omega), (by rw [c698] <;> omega), S709⟩
theorem lg_X7_readRowPart (d : Nat) : ∀ (As : List AvC) (σ : CsC), (P_X7_readRowPart d) As σ → lgC As ≤ rX7_readRowPart.2.2.1 := by
  rintro As σ ⟨p0, p1, p2, p3, rfl, -⟩
  exact Nat.le_of_ble_eq_true rfl
theorem s_X7_readRowPart (l : Launch) (d : Nat) (h_X7_readVariable : CMetC l (13 * d + 37) 141 (P_X7_readVariable d) (Q_X7_readVariable d)) (h_X7_readStatement : CMetC l (13 * d + 40) 149 (P_X7_readStatement d) (Q_X7_readStatement d)) (h_X7_readCase : CMetC l (13 * d + 37) 147 (P_X7_readCase d) (Q_X7_readCase d)) : CMetC l (13 * d + 41) 146 (P_X7_readRowPart d) (Q_X7_readRowPart d) :=
  CMetC.of KX7_readRowPart [(125, P_X7_code, Q_X7_code), (141, (P_X7_readVariable d), (Q_X7_readVariable d)), (129, P_X7_expect, Q_X7_expect), (132, P_X7_isType, Q_X7_isType), (149, (P_X7_readStatement d), (Q_X7_readStatement d)), (147, (P_X7_readCase d), (Q_X7_readCase d)), (127, P_X7_raise, Q_X7_raise)] hX7_readRowPart (by decide) (by omega) okX7_readRowPart (cc1C (m_X7_code l) (by omega) (cc1C h_X7_readVariable (by omega) (cc1C (m_X7_expect l) (by omega) (cc1C (m_X7_isType l) (by omega) (cc1C h_X7_readStatement (by omega) (cc1C h_X7_readCase (by omega) (cc1C (m_X7_raise l) (by omega) cc0C))))))) (lg_X7_readRowPart d) (b_X7_readRowPart d)
