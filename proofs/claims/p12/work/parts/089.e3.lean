set_option maxRecDepth 100000 in
set_option maxHeartbeats 4000000 in
theorem b_X7_readOperand (d : Nat) : TbC KX7_readOperand [(125, P_X7_code, Q_X7_code), (174, (P_X7_readBehindOpen d), (Q_X7_readBehindOpen d)), (172, (P_X7_readAlone d), (Q_X7_readAlone d)), (173, P_X7_readCountAhead, Q_X7_readCountAhead), (177, P_X7_readLiteral, Q_X7_readLiteral), (175, (P_X7_readName d), (Q_X7_readName d)), (127, P_X7_raise, Q_X7_raise), (162, P_X7_opened, Q_X7_opened)] (P_X7_readOperand d) (Q_X7_readOperand d) := by
  · rintro As σ0 ⟨p0, p1, rfl, H0, h_0_0, h_1_0, h_1_1, rd_cd, rd_at, rd_bg, rd_dp⟩ hgr G hB hW
    change G 0 [(0, .inr (.inr (some p0))), (1, .inl p1)] [] σ0
    obtain ⟨x1, e2, c3, h4, h5⟩ := cg242 H0.1 h_0_0
    obtain ⟨x6, e7, c8, h9, h10⟩ := cg243 H0.1 h_0_0
    have z11 := congrArg Int32.toInt c3
    have z12 := congrArg Int32.toInt c8
    refine hB _ _ _ _ (kgoC (is := KX7_readOperand_0) rfl ?_)
    refine k_aload_n rfl ?_
    refine k_inv (P := P_X7_code) (Q := Q_X7_code) rfl rfl rfl rfl (Nat.le_of_ble_eq_true rfl) (h_0_0.rc (by decide)) ⟨_, rfl, H0, h_0_0, (rd_cd.st H0 h_0_0 (ExC.rf : ExC [0, 1, 2, 60, 61, 62, 63, 64, 65, 66, 67, 68, 69, 70, 72, 73, 74, 75, 76, 242, 243, 244, 999] σ0 σ0) (RdC.rf : RdC p0 none 0 0 0 σ0 σ0).1 (by decide))⟩ (fun w13 σ14 q15 => ?_)
    obtain ⟨x16, rfl, rfl, q17, q18, q19, q20⟩ := q15
    refine k_st (st' := [.inl x16]) rfl ?_
    have z21 := (RdC.rf : RdC p0 none 0 0 0 σ0 σ0).2.2.1
    have z22 := (RdC.rf : RdC p0 none 0 0 0 σ0 σ0).2.2.2.1 rd_at
    refine k_lsw ?_
    refine k_swc (fun h23 => ?_) (fun h23 => ?_)
    · have h24 : x6.toInt = 0 := by omega
      refine hB _ _ _ _ (kgoC (is := KX7_readOperand_131) rfl ?_)
      refine k_aload_n rfl ?_
      refine k_iload_n rfl ?_
      have R25 := (RdC.rf : RdC p0 none 0 0 0 σ0 σ0).nf (-1000) (-1000) (by rw [c8]; omega)
      refine k_inv (P := (P_X7_readBehindOpen d)) (Q := (Q_X7_readBehindOpen d)) rfl rfl rfl rfl (Nat.le_of_ble_eq_true rfl) (h_0_0.rc (by decide)) ⟨_, _, rfl, H0, h_0_0, (by omega), (by omega), (rd_cd.st H0 h_0_0 (ExC.rf : ExC [0, 1, 2, 60, 61, 62, 63, 64, 65, 66, 67, 68, 69, 70, 72, 73, 74, 75, 76, 242, 243, 244, 999] σ0 σ0) R25.1 (by decide)), (R25.2.2.2.1 rd_at), ((show BgC σ0 p0 (14 + 8 * (d : Int)) 0 from (rd_bg.stn H0 h_0_0 (ExC.rf : ExC [0, 1, 2, 60, 61, 62, 63, 64, 65, 66, 67, 68, 69, 70, 72, 73, 74, 75, 76, 242, 243, 244, 999] σ0 σ0) R25 (by decide) (by rw [c8]; omega) (by omega))).1 (by rw [c8]; omega)), (by rw [c8]; omega), (by have ct := R25.2.2.1; rw [c8, c3, ct]; omega), (by omega)⟩ (fun w26 σ27 q28 => ?_)
      obtain ⟨a29, rfl, H30, e31, h33, R32, q34, q35⟩ := q28
      have t41 := h_0_0.x e31
      obtain ⟨x36, e37, c38, h39, h40⟩ := cg242 H30.1 t41
      obtain ⟨x42, e43, c44, h45, h46⟩ := cg243 H30.1 t41
      have z47 := congrArg Int32.toInt c38
      have z48 := congrArg Int32.toInt c44
      refine k_st (st' := [.inr (.inr (some a29))]) rfl ?_
      have z49 := R25.1.1
      have R50 : RdC p0 none (0) (14 + 8 * (d : Int)) (-1000) σ0 σ27 := R25.tr ⟨R32.1, R32.2⟩ (by omega) (by omega) (by omega) (by omega)
      have z51 := R50.2.2.1
      have z52 := R50.2.2.2.1 rd_at
      refine k_areturn ?_
      have X53 : ExC [0, 1, 2, 60, 61, 62, 63, 64, 65, 66, 67, 68, 69, 70, 72, 73, 74, 75, 76, 242, 243, 244, 999] σ0 σ27 := ExC.rf.tr (e31.mo (by decide))
      have S57 : ∀ s, ReC σ0 p0 s → ReC σ27 p0 (opY d s) := by
        intro s hs
        have f54 := q20 _ hs
        have y55 := q35 _ hs
        refine y55.eq ?_
        try unfold opY
        repeat (split <;> try (exfalso; omega))
        try unfold oprY
        repeat (split <;> try (exfalso; omega))
        try unfold tkY
        repeat (split <;> try (exfalso; omega))
        try unfold dpY
        repeat (split <;> try (exfalso; omega))
        all_goals rfl
      exact ⟨_, rfl, H30, X53, h33, (R50.mo (by omega) (by omega) (by omega)), (by omega), S57⟩
    refine k_swc (fun h58 => ?_) (fun h58 => ?_)
    · have h59 : x6.toInt = 0 := by omega
      refine hB _ _ _ _ (kgoC (is := KX7_readOperand_120) rfl ?_)
      refine k_aload_n rfl ?_
      refine k_iload_n rfl ?_
      have R60 := (RdC.rf : RdC p0 none 0 0 0 σ0 σ0).nf (-1000) (-1000) (by rw [c8]; omega)
      refine k_inv (P := (P_X7_readAlone d)) (Q := (Q_X7_readAlone d)) rfl rfl rfl rfl (Nat.le_of_ble_eq_true rfl) (h_0_0.rc (by decide)) ⟨_, _, rfl, H0, h_0_0, (by omega), (by omega), (rd_cd.st H0 h_0_0 (ExC.rf : ExC [0, 1, 2, 60, 61, 62, 63, 64, 65, 66, 67, 68, 69, 70, 72, 73, 74, 75, 76, 242, 243, 244, 999] σ0 σ0) R60.1 (by decide)), (R60.2.2.2.1 rd_at), ((show BgC σ0 p0 (14 + 8 * (d : Int)) 0 from (rd_bg.stn H0 h_0_0 (ExC.rf : ExC [0, 1, 2, 60, 61, 62, 63, 64, 65, 66, 67, 68, 69, 70, 72, 73, 74, 75, 76, 242, 243, 244, 999] σ0 σ0) R60 (by decide) (by rw [c8]; omega) (by omega))).1 (by rw [c8]; omega)), (by rw [c8]; omega), (by have ct := R60.2.2.1; rw [c8, c3, ct]; omega), (by omega)⟩ (fun w61 σ62 q63 => ?_)
      obtain ⟨a64, rfl, H65, e66, h68, R67, q69, q70⟩ := q63
      have t76 := h_0_0.x e66
      obtain ⟨x71, e72, c73, h74, h75⟩ := cg242 H65.1 t76
      obtain ⟨x77, e78, c79, h80, h81⟩ := cg243 H65.1 t76
      have z82 := congrArg Int32.toInt c73
      have z83 := congrArg Int32.toInt c79
      refine k_st (st' := [.inr (.inr (some a64))]) rfl ?_
      have z84 := R60.1.1
      have R85 : RdC p0 none (0) (14 + 8 * (d : Int)) (-1000) σ0 σ62 := R60.tr ⟨R67.1, R67.2⟩ (by omega) (by omega) (by omega) (by omega)
      have z86 := R85.2.2.1
      have z87 := R85.2.2.2.1 rd_at
      refine k_areturn ?_
      have X88 : ExC [0, 1, 2, 60, 61, 62, 63, 64, 65, 66, 67, 68, 69, 70, 72, 73, 74, 75, 76, 242, 243, 244, 999] σ0 σ62 := ExC.rf.tr (e66.mo (by decide))
      have S92 : ∀ s, ReC σ0 p0 s → ReC σ62 p0 (opY d s) := by
        intro s hs
        have f89 := q20 _ hs
        have y90 := q70 _ hs
        refine y90.eq ?_
        try unfold opY
        repeat (split <;> try (exfalso; omega))
        try unfold oprY
        repeat (split <;> try (exfalso; omega))
        try unfold tkY
        repeat (split <;> try (exfalso; omega))
        try unfold dpY
        repeat (split <;> try (exfalso; omega))
        all_goals rfl
      exact ⟨_, rfl, H65, X88, h68, (R85.mo (by omega) (by omega) (by omega)), (by omega), S92⟩
    refine k_swc (fun h93 => ?_) (fun h93 => ?_)
    · have h94 : x6.toInt = 0 := by omega
      refine hB _ _ _ _ (kgoC (is := KX7_readOperand_120) rfl ?_)
      refine k_aload_n rfl ?_
      refine k_iload_n rfl ?_
      have R95 := (RdC.rf : RdC p0 none 0 0 0 σ0 σ0).nf (-1000) (-1000) (by rw [c8]; omega)
      refine k_inv (P := (P_X7_readAlone d)) (Q := (Q_X7_readAlone d)) rfl rfl rfl rfl (Nat.le_of_ble_eq_true rfl) (h_0_0.rc (by decide)) ⟨_, _, rfl, H0, h_0_0, (by omega), (by omega), (rd_cd.st H0 h_0_0 (ExC.rf : ExC [0, 1, 2, 60, 61, 62, 63, 64, 65, 66, 67, 68, 69, 70, 72, 73, 74, 75, 76, 242, 243, 244, 999] σ0 σ0) R95.1 (by decide)), (R95.2.2.2.1 rd_at), ((show BgC σ0 p0 (14 + 8 * (d : Int)) 0 from (rd_bg.stn H0 h_0_0 (ExC.rf : ExC [0, 1, 2, 60, 61, 62, 63, 64, 65, 66, 67, 68, 69, 70, 72, 73, 74, 75, 76, 242, 243, 244, 999] σ0 σ0) R95 (by decide) (by rw [c8]; omega) (by omega))).1 (by rw [c8]; omega)), (by rw [c8]; omega), (by have ct := R95.2.2.1; rw [c8, c3, ct]; omega), (by omega)⟩ (fun w96 σ97 q98 => ?_)
      obtain ⟨a99, rfl, H100, e101, h103, R102, q104, q105⟩ := q98
      have t111 := h_0_0.x e101
      obtain ⟨x106, e107, c108, h109, h110⟩ := cg242 H100.1 t111
      obtain ⟨x112, e113, c114, h115, h116⟩ := cg243 H100.1 t111
      have z117 := congrArg Int32.toInt c108
      have z118 := congrArg Int32.toInt c114
      refine k_st (st' := [.inr (.inr (some a99))]) rfl ?_
      have z119 := R95.1.1
      have R120 : RdC p0 none (0) (14 + 8 * (d : Int)) (-1000) σ0 σ97 := R95.tr ⟨R102.1, R102.2⟩ (by omega) (by omega) (by omega) (by omega)
      have z121 := R120.2.2.1
      have z122 := R120.2.2.2.1 rd_at
      refine k_areturn ?_
      have X123 : ExC [0, 1, 2, 60, 61, 62, 63, 64, 65, 66, 67, 68, 69, 70, 72, 73, 74, 75, 76, 242, 243, 244, 999] σ0 σ97 := ExC.rf.tr (e101.mo (by decide))
      have S127 : ∀ s, ReC σ0 p0 s → ReC σ97 p0 (opY d s) := by
        intro s hs
        have f124 := q20 _ hs
        have y125 := q105 _ hs
        refine y125.eq ?_
        try unfold opY
        repeat (split <;> try (exfalso; omega))
        try unfold oprY
        repeat (split <;> try (exfalso; omega))
        try unfold tkY
        repeat (split <;> try (exfalso; omega))
        try unfold dpY
        repeat (split <;> try (exfalso; omega))
        all_goals rfl
      exact ⟨_, rfl, H100, X123, h103, (R120.mo (by omega) (by omega) (by omega)), (by omega), S127⟩
    refine k_swc (fun h128 => ?_) (fun h128 => ?_)
    · have h129 : x6.toInt = 0 := by omega
      refine hB _ _ _ _ (kgoC (is := KX7_readOperand_120) rfl ?_)
      refine k_aload_n rfl ?_
      refine k_iload_n rfl ?_
      have R130 := (RdC.rf : RdC p0 none 0 0 0 σ0 σ0).nf (-1000) (-1000) (by rw [c8]; omega)
      refine k_inv (P := (P_X7_readAlone d)) (Q := (Q_X7_readAlone d)) rfl rfl rfl rfl (Nat.le_of_ble_eq_true rfl) (h_0_0.rc (by decide)) ⟨_, _, rfl, H0, h_0_0, (by omega), (by omega), (rd_cd.st H0 h_0_0 (ExC.rf : ExC [0, 1, 2, 60, 61, 62, 63, 64, 65, 66, 67, 68, 69, 70, 72, 73, 74, 75, 76, 242, 243, 244, 999] σ0 σ0) R130.1 (by decide)), (R130.2.2.2.1 rd_at), ((show BgC σ0 p0 (14 + 8 * (d : Int)) 0 from (rd_bg.stn H0 h_0_0 (ExC.rf : ExC [0, 1, 2, 60, 61, 62, 63, 64, 65, 66, 67, 68, 69, 70, 72, 73, 74, 75, 76, 242, 243, 244, 999] σ0 σ0) R130 (by decide) (by rw [c8]; omega) (by omega))).1 (by rw [c8]; omega)), (by rw [c8]; omega), (by have ct := R130.2.2.1; rw [c8, c3, ct]; omega), (by omega)⟩ (fun w131 σ132 q133 => ?_)
      obtain ⟨a134, rfl, H135, e136, h138, R137, q139, q140⟩ := q133
      have t146 := h_0_0.x e136
      obtain ⟨x141, e142, c143, h144, h145⟩ := cg242 H135.1 t146
      obtain ⟨x147, e148, c149, h150, h151⟩ := cg243 H135.1 t146
      have z152 := congrArg Int32.toInt c143
      have z153 := congrArg Int32.toInt c149
      refine k_st (st' := [.inr (.inr (some a134))]) rfl ?_
      have z154 := R130.1.1
      have R155 : RdC p0 none (0) (14 + 8 * (d : Int)) (-1000) σ0 σ132 := R130.tr ⟨R137.1, R137.2⟩ (by omega) (by omega) (by omega) (by omega)
      have z156 := R155.2.2.1
      have z157 := R155.2.2.2.1 rd_at
      refine k_areturn ?_
      have X158 : ExC [0, 1, 2, 60, 61, 62, 63, 64, 65, 66, 67, 68, 69, 70, 72, 73, 74, 75, 76, 242, 243, 244, 999] σ0 σ132 := ExC.rf.tr (e136.mo (by decide))
      have S162 : ∀ s, ReC σ0 p0 s → ReC σ132 p0 (opY d s) := by
        intro s hs
        have f159 := q20 _ hs
        have y160 := q140 _ hs
        refine y160.eq ?_
        try unfold opY
        repeat (split <;> try (exfalso; omega))
        try unfold oprY
        repeat (split <;> try (exfalso; omega))
        try unfold tkY
        repeat (split <;> try (exfalso; omega))
        try unfold dpY
        repeat (split <;> try (exfalso; omega))
        all_goals rfl
      exact ⟨_, rfl, H135, X158, h138, (R155.mo (by omega) (by omega) (by omega)), (by omega), S162⟩
    refine k_swc (fun h163 => ?_) (fun h163 => ?_)
    · have h164 : x6.toInt = 0 := by omega
      refine hB _ _ _ _ (kgoC (is := KX7_readOperand_120) rfl ?_)
      refine k_aload_n rfl ?_
      refine k_iload_n rfl ?_
      have R165 := (RdC.rf : RdC p0 none 0 0 0 σ0 σ0).nf (-1000) (-1000) (by rw [c8]; omega)
      refine k_inv (P := (P_X7_readAlone d)) (Q := (Q_X7_readAlone d)) rfl rfl rfl rfl (Nat.le_of_ble_eq_true rfl) (h_0_0.rc (by decide)) ⟨_, _, rfl, H0, h_0_0, (by omega), (by omega), (rd_cd.st H0 h_0_0 (ExC.rf : ExC [0, 1, 2, 60, 61, 62, 63, 64, 65, 66, 67, 68, 69, 70, 72, 73, 74, 75, 76, 242, 243, 244, 999] σ0 σ0) R165.1 (by decide)), (R165.2.2.2.1 rd_at), ((show BgC σ0 p0 (14 + 8 * (d : Int)) 0 from (rd_bg.stn H0 h_0_0 (ExC.rf : ExC [0, 1, 2, 60, 61, 62, 63, 64, 65, 66, 67, 68, 69, 70, 72, 73, 74, 75, 76, 242, 243, 244, 999] σ0 σ0) R165 (by decide) (by rw [c8]; omega) (by omega))).1 (by rw [c8]; omega)), (by rw [c8]; omega), (by have ct := R165.2.2.1; rw [c8, c3, ct]; omega), (by omega)⟩ (fun w166 σ167 q168 => ?_)
      obtain ⟨a169, rfl, H170, e171, h173, R172, q174, q175⟩ := q168
      have t181 := h_0_0.x e171
      obtain ⟨x176, e177, c178, h179, h180⟩ := cg242 H170.1 t181
      obtain ⟨x182, e183, c184, h185, h186⟩ := cg243 H170.1 t181
      have z187 := congrArg Int32.toInt c178
      have z188 := congrArg Int32.toInt c184
      refine k_st (st' := [.inr (.inr (some a169))]) rfl ?_
      have z189 := R165.1.1
      have R190 : RdC p0 none (0) (14 + 8 * (d : Int)) (-1000) σ0 σ167 := R165.tr ⟨R172.1, R172.2⟩ (by omega) (by omega) (by omega) (by omega)
      have z191 := R190.2.2.1
      have z192 := R190.2.2.2.1 rd_at
      refine k_areturn ?_
      have X193 : ExC [0, 1, 2, 60, 61, 62, 63, 64, 65, 66, 67, 68, 69, 70, 72, 73, 74, 75, 76, 242, 243, 244, 999] σ0 σ167 := ExC.rf.tr (e171.mo (by decide))
      have S197 : ∀ s, ReC σ0 p0 s → ReC σ167 p0 (opY d s) := by
        intro s hs
        have f194 := q20 _ hs
        have y195 := q175 _ hs
        refine y195.eq ?_
        try unfold opY
        repeat (split <;> try (exfalso; omega))
        try unfold oprY
        repeat (split <;> try (exfalso; omega))
        try unfold tkY
        repeat (split <;> try (exfalso; omega))
        try unfold dpY
        repeat (split <;> try (exfalso; omega))
        all_goals rfl
      exact ⟨_, rfl, H170, X193, h173, (R190.mo (by omega) (by omega) (by omega)), (by omega), S197⟩
    refine k_swc (fun h198 => ?_) (fun h198 => ?_)
    · have h199 : x6.toInt = 0 := by omega
      refine hB _ _ _ _ (kgoC (is := KX7_readOperand_126) rfl ?_)
      refine k_aload_n rfl ?_
      have R200 := (RdC.rf : RdC p0 none 0 0 0 σ0 σ0).nf (-1000) (-1000) (by rw [c8]; omega)
      refine k_inv (P := P_X7_readCountAhead) (Q := Q_X7_readCountAhead) rfl rfl rfl rfl (Nat.le_of_ble_eq_true rfl) (h_0_0.rc (by decide)) ⟨_, rfl, H0, h_0_0, (rd_cd.st H0 h_0_0 (ExC.rf : ExC [0, 1, 2, 60, 61, 62, 63, 64, 65, 66, 67, 68, 69, 70, 72, 73, 74, 75, 76, 242, 243, 244, 999] σ0 σ0) R200.1 (by decide)), (R200.2.2.2.1 rd_at), ((show BgC σ0 p0 (2) 0 from (rd_bg.stn H0 h_0_0 (ExC.rf : ExC [0, 1, 2, 60, 61, 62, 63, 64, 65, 66, 67, 68, 69, 70, 72, 73, 74, 75, 76, 242, 243, 244, 999] σ0 σ0) R200 (by decide) (by rw [c8]; omega) (by omega))).1 (by rw [c8]; omega)), (by rw [c8]; omega), (by have ct := R200.2.2.1; rw [c8, c3, ct]; omega)⟩ (fun w201 σ202 q203 => ?_)
      obtain ⟨a204, rfl, H205, e206, h208, R207, q209, q210⟩ := q203
      have t216 := h_0_0.x e206
      obtain ⟨x211, e212, c213, h214, h215⟩ := cg242 H205.1 t216
      obtain ⟨x217, e218, c219, h220, h221⟩ := cg243 H205.1 t216
      have z222 := congrArg Int32.toInt c213
      have z223 := congrArg Int32.toInt c219
      refine k_st (st' := [.inr (.inr (some a204))]) rfl ?_
      have z224 := R200.1.1
      have R225 : RdC p0 none (0) (2) (-1000) σ0 σ202 := R200.tr ⟨R207.1, R207.2⟩ (by omega) (by omega) (by omega) (by omega)
      have z226 := R225.2.2.1
      have z227 := R225.2.2.2.1 rd_at
      refine k_areturn ?_
      have X228 : ExC [0, 1, 2, 60, 61, 62, 63, 64, 65, 66, 67, 68, 69, 70, 72, 73, 74, 75, 76, 242, 243, 244, 999] σ0 σ202 := ExC.rf.tr (e206.mo (by decide))
      have S232 : ∀ s, ReC σ0 p0 s → ReC σ202 p0 (opY d s) := by
        intro s hs
        have f229 := q20 _ hs
        have y230 := q210 _ hs
        refine y230.eq ?_
        try unfold opY
        repeat (split <;> try (exfalso; omega))
        try unfold oprY
        repeat (split <;> try (exfalso; omega))
        try unfold tkY
        repeat (split <;> try (exfalso; omega))
        try unfold dpY
        repeat (split <;> try (exfalso; omega))
        all_goals rfl
      exact ⟨_, rfl, H205, X228, h208, (R225.mo (by omega) (by omega) (by omega)), (by omega), S232⟩
    refine k_swc (fun h233 => ?_) (fun h233 => ?_)
    · have h234 : x6.toInt = 0 := by omega
      refine hB _ _ _ _ (kgoC (is := KX7_readOperand_126) rfl ?_)
      refine k_aload_n rfl ?_
      have R235 := (RdC.rf : RdC p0 none 0 0 0 σ0 σ0).nf (-1000) (-1000) (by rw [c8]; omega)
      refine k_inv (P := P_X7_readCountAhead) (Q := Q_X7_readCountAhead) rfl rfl rfl rfl (Nat.le_of_ble_eq_true rfl) (h_0_0.rc (by decide)) ⟨_, rfl, H0, h_0_0, (rd_cd.st H0 h_0_0 (ExC.rf : ExC [0, 1, 2, 60, 61, 62, 63, 64, 65, 66, 67, 68, 69, 70, 72, 73, 74, 75, 76, 242, 243, 244, 999] σ0 σ0) R235.1 (by decide)), (R235.2.2.2.1 rd_at), ((show BgC σ0 p0 (2) 0 from (rd_bg.stn H0 h_0_0 (ExC.rf : ExC [0, 1, 2, 60, 61, 62, 63, 64, 65, 66, 67, 68, 69, 70, 72, 73, 74, 75, 76, 242, 243, 244, 999] σ0 σ0) R235 (by decide) (by rw [c8]; omega) (by omega))).1 (by rw [c8]; omega)), (by rw [c8]; omega), (by have ct := R235.2.2.1; rw [c8, c3, ct]; omega)⟩ (fun w236 σ237 q238 => ?_)
      obtain ⟨a239, rfl, H240, e241, h243, R242, q244, q245⟩ := q238
      have t251 := h_0_0.x e241
      obtain ⟨x246, e247, c248, h249, h250⟩ := cg242 H240.1 t251
      obtain ⟨x252, e253, c254, h255, h256⟩ := cg243 H240.1 t251
      have z257 := congrArg Int32.toInt c248
      have z258 := congrArg Int32.toInt c254
      refine k_st (st' := [.inr (.inr (some a239))]) rfl ?_
      have z259 := R235.1.1
      have R260 : RdC p0 none (0) (2) (-1000) σ0 σ237 := R235.tr ⟨R242.1, R242.2⟩ (by omega) (by omega) (by omega) (by omega)
      have z261 := R260.2.2.1
      have z262 := R260.2.2.2.1 rd_at
      refine k_areturn ?_
      have X263 : ExC [0, 1, 2, 60, 61, 62, 63, 64, 65, 66, 67, 68, 69, 70, 72, 73, 74, 75, 76, 242, 243, 244, 999] σ0 σ237 := ExC.rf.tr (e241.mo (by decide))
      have S267 : ∀ s, ReC σ0 p0 s → ReC σ237 p0 (opY d s) := by
        intro s hs
        have f264 := q20 _ hs
        have y265 := q245 _ hs
        refine y265.eq ?_
        try unfold opY
        repeat (split <;> try (exfalso; omega))
        try unfold oprY
        repeat (split <;> try (exfalso; omega))
        try unfold tkY
        repeat (split <;> try (exfalso; omega))
        try unfold dpY
        repeat (split <;> try (exfalso; omega))
        all_goals rfl
      exact ⟨_, rfl, H240, X263, h243, (R260.mo (by omega) (by omega) (by omega)), (by omega), S267⟩
    refine k_swc (fun h268 => ?_) (fun h268 => ?_)
    · have h269 : x6.toInt = 0 := by omega
      refine hB _ _ _ _ (kgoC (is := KX7_readOperand_143) rfl ?_)
      refine k_aload_n rfl ?_
      have R270 := (RdC.rf : RdC p0 none 0 0 0 σ0 σ0).nf (-1000) (-1000) (by rw [c8]; omega)
      refine k_inv (P := P_X7_readLiteral) (Q := Q_X7_readLiteral) rfl rfl rfl rfl (Nat.le_of_ble_eq_true rfl) (h_0_0.rc (by decide)) ⟨_, rfl, H0, h_0_0, (rd_cd.st H0 h_0_0 (ExC.rf : ExC [0, 1, 2, 60, 61, 62, 63, 64, 65, 66, 67, 68, 69, 70, 72, 73, 74, 75, 76, 242, 243, 244, 999] σ0 σ0) R270.1 (by decide)), (R270.2.2.2.1 rd_at), ((show BgC σ0 p0 (2) 0 from (rd_bg.stn H0 h_0_0 (ExC.rf : ExC [0, 1, 2, 60, 61, 62, 63, 64, 65, 66, 67, 68, 69, 70, 72, 73, 74, 75, 76, 242, 243, 244, 999] σ0 σ0) R270 (by decide) (by rw [c8]; omega) (by omega))).1 (by rw [c8]; omega)), (by rw [c8]; omega), (by have ct := R270.2.2.1; rw [c8, c3, ct]; omega)⟩ (fun w271 σ272 q273 => ?_)
      obtain ⟨a274, rfl, H275, e276, h278, R277, q279, q280⟩ := q273
      have t286 := h_0_0.x e276
      obtain ⟨x281, e282, c283, h284, h285⟩ := cg242 H275.1 t286
      obtain ⟨x287, e288, c289, h290, h291⟩ := cg243 H275.1 t286
      have z292 := congrArg Int32.toInt c283
      have z293 := congrArg Int32.toInt c289
      refine k_st (st' := [.inr (.inr (some a274))]) rfl ?_
      have z294 := R270.1.1
      have R295 : RdC p0 none (0) (2) (-1000) σ0 σ272 := R270.tr ⟨R277.1, R277.2⟩ (by omega) (by omega) (by omega) (by omega)
      have z296 := R295.2.2.1
      have z297 := R295.2.2.2.1 rd_at
      refine k_areturn ?_
      have X298 : ExC [0, 1, 2, 60, 61, 62, 63, 64, 65, 66, 67, 68, 69, 70, 72, 73, 74, 75, 76, 242, 243, 244, 999] σ0 σ272 := ExC.rf.tr (e276.mo (by decide))
      have S302 : ∀ s, ReC σ0 p0 s → ReC σ272 p0 (opY d s) := by
        intro s hs
        have f299 := q20 _ hs
        have y300 := q280 _ hs
        refine y300.eq ?_
        try unfold opY
        repeat (split <;> try (exfalso; omega))
        try unfold oprY
        repeat (split <;> try (exfalso; omega))
        try unfold tkY
        repeat (split <;> try (exfalso; omega))
        try unfold dpY
        repeat (split <;> try (exfalso; omega))
        all_goals rfl
      exact ⟨_, rfl, H275, X298, h278, (R295.mo (by omega) (by omega) (by omega)), (by omega), S302⟩
    refine k_swc (fun h303 => ?_) (fun h303 => ?_)
    · have h304 : x6.toInt = 0 := by omega
      refine hB _ _ _ _ (kgoC (is := KX7_readOperand_143) rfl ?_)
      refine k_aload_n rfl ?_
      have R305 := (RdC.rf : RdC p0 none 0 0 0 σ0 σ0).nf (-1000) (-1000) (by rw [c8]; omega)
      refine k_inv (P := P_X7_readLiteral) (Q := Q_X7_readLiteral) rfl rfl rfl rfl (Nat.le_of_ble_eq_true rfl) (h_0_0.rc (by decide)) ⟨_, rfl, H0, h_0_0, (rd_cd.st H0 h_0_0 (ExC.rf : ExC [0, 1, 2, 60, 61, 62, 63, 64, 65, 66, 67, 68, 69, 70, 72, 73, 74, 75, 76, 242, 243, 244, 999] σ0 σ0) R305.1 (by decide)), (R305.2.2.2.1 rd_at), ((show BgC σ0 p0 (2) 0 from (rd_bg.stn H0 h_0_0 (ExC.rf : ExC [0, 1, 2, 60, 61, 62, 63, 64, 65, 66, 67, 68, 69, 70, 72, 73, 74, 75, 76, 242, 243, 244, 999] σ0 σ0) R305 (by decide) (by rw [c8]; omega) (by omega))).1 (by rw [c8]; omega)), (by rw [c8]; omega), (by have ct := R305.2.2.1; rw [c8, c3, ct]; omega)⟩ (fun w306 σ307 q308 => ?_)
      obtain ⟨a309, rfl, H310, e311, h313, R312, q314, q315⟩ := q308
      have t321 := h_0_0.x e311
      obtain ⟨x316, e317, c318, h319, h320⟩ := cg242 H310.1 t321
      obtain ⟨x322, e323, c324, h325, h326⟩ := cg243 H310.1 t321
      have z327 := congrArg Int32.toInt c318
      have z328 := congrArg Int32.toInt c324
      refine k_st (st' := [.inr (.inr (some a309))]) rfl ?_
      have z329 := R305.1.1
      have R330 : RdC p0 none (0) (2) (-1000) σ0 σ307 := R305.tr ⟨R312.1, R312.2⟩ (by omega) (by omega) (by omega) (by omega)
      have z331 := R330.2.2.1
      have z332 := R330.2.2.2.1 rd_at
      refine k_areturn ?_
      have X333 : ExC [0, 1, 2, 60, 61, 62, 63, 64, 65, 66, 67, 68, 69, 70, 72, 73, 74, 75, 76, 242, 243, 244, 999] σ0 σ307 := ExC.rf.tr (e311.mo (by decide))
      have S337 : ∀ s, ReC σ0 p0 s → ReC σ307 p0 (opY d s) := by
        intro s hs
        have f334 := q20 _ hs
        have y335 := q315 _ hs
        refine y335.eq ?_
        try unfold opY
        repeat (split <;> try (exfalso; omega))
        try unfold oprY
        repeat (split <;> try (exfalso; omega))
        try unfold tkY
        repeat (split <;> try (exfalso; omega))
        try unfold dpY
        repeat (split <;> try (exfalso; omega))
        all_goals rfl
      exact ⟨_, rfl, H310, X333, h313, (R330.mo (by omega) (by omega) (by omega)), (by omega), S337⟩
    refine k_swc (fun h338 => ?_) (fun h338 => ?_)
    · have h339 : x6.toInt = 0 := by omega
      refine hB _ _ _ _ (kgoC (is := KX7_readOperand_137) rfl ?_)
      refine k_aload_n rfl ?_
      refine k_iload_n rfl ?_
      have R340 := (RdC.rf : RdC p0 none 0 0 0 σ0 σ0).nf (-1000) (-1000) (by rw [c8]; omega)
      refine k_inv (P := (P_X7_readName d)) (Q := (Q_X7_readName d)) rfl rfl rfl rfl (Nat.le_of_ble_eq_true rfl) (h_0_0.rc (by decide)) ⟨_, _, rfl, H0, h_0_0, (by omega), (by omega), (rd_cd.st H0 h_0_0 (ExC.rf : ExC [0, 1, 2, 60, 61, 62, 63, 64, 65, 66, 67, 68, 69, 70, 72, 73, 74, 75, 76, 242, 243, 244, 999] σ0 σ0) R340.1 (by decide)), (R340.2.2.2.1 rd_at), ((show BgC σ0 p0 (14 + 8 * (d : Int)) 0 from (rd_bg.stn H0 h_0_0 (ExC.rf : ExC [0, 1, 2, 60, 61, 62, 63, 64, 65, 66, 67, 68, 69, 70, 72, 73, 74, 75, 76, 242, 243, 244, 999] σ0 σ0) R340 (by decide) (by rw [c8]; omega) (by omega))).1 (by rw [c8]; omega)), (by rw [c8]; omega), (by have ct := R340.2.2.1; rw [c8, c3, ct]; omega), (by omega)⟩ (fun w341 σ342 q343 => ?_)
      obtain ⟨a344, rfl, H345, e346, h348, R347, q349, q350⟩ := q343
      have t356 := h_0_0.x e346
      obtain ⟨x351, e352, c353, h354, h355⟩ := cg242 H345.1 t356
      obtain ⟨x357, e358, c359, h360, h361⟩ := cg243 H345.1 t356
      have z362 := congrArg Int32.toInt c353
      have z363 := congrArg Int32.toInt c359
      refine k_st (st' := [.inr (.inr (some a344))]) rfl ?_
      have z364 := R340.1.1
      have R365 : RdC p0 none (0) (14 + 8 * (d : Int)) (-1000) σ0 σ342 := R340.tr ⟨R347.1, R347.2⟩ (by omega) (by omega) (by omega) (by omega)
      have z366 := R365.2.2.1
      have z367 := R365.2.2.2.1 rd_at
      refine k_areturn ?_
      have X368 : ExC [0, 1, 2, 60, 61, 62, 63, 64, 65, 66, 67, 68, 69, 70, 72, 73, 74, 75, 76, 242, 243, 244, 999] σ0 σ342 := ExC.rf.tr (e346.mo (by decide))
      have S372 : ∀ s, ReC σ0 p0 s → ReC σ342 p0 (opY d s) := by
        intro s hs
        have f369 := q20 _ hs
        have y370 := q350 _ hs
        refine y370.eq ?_
        try unfold opY
        repeat (split <;> try (exfalso; omega))
        try unfold oprY
        repeat (split <;> try (exfalso; omega))
        try unfold tkY
        repeat (split <;> try (exfalso; omega))
        try unfold dpY
        repeat (split <;> try (exfalso; omega))
        all_goals rfl
      exact ⟨_, rfl, H345, X368, h348, (R365.mo (by omega) (by omega) (by omega)), (by omega), S372⟩
    refine k_swc (fun h373 => ?_) (fun h373 => ?_)
    · have h374 : x6.toInt = 0 := by omega
      refine hB _ _ _ _ (kgoC (is := KX7_readOperand_143) rfl ?_)
      refine k_aload_n rfl ?_
      have R375 := (RdC.rf : RdC p0 none 0 0 0 σ0 σ0).nf (-1000) (-1000) (by rw [c8]; omega)
      refine k_inv (P := P_X7_readLiteral) (Q := Q_X7_readLiteral) rfl rfl rfl rfl (Nat.le_of_ble_eq_true rfl) (h_0_0.rc (by decide)) ⟨_, rfl, H0, h_0_0, (rd_cd.st H0 h_0_0 (ExC.rf : ExC [0, 1, 2, 60, 61, 62, 63, 64, 65, 66, 67, 68, 69, 70, 72, 73, 74, 75, 76, 242, 243, 244, 999] σ0 σ0) R375.1 (by decide)), (R375.2.2.2.1 rd_at), ((show BgC σ0 p0 (2) 0 from (rd_bg.stn H0 h_0_0 (ExC.rf : ExC [0, 1, 2, 60, 61, 62, 63, 64, 65, 66, 67, 68, 69, 70, 72, 73, 74, 75, 76, 242, 243, 244, 999] σ0 σ0) R375 (by decide) (by rw [c8]; omega) (by omega))).1 (by rw [c8]; omega)), (by rw [c8]; omega), (by have ct := R375.2.2.1; rw [c8, c3, ct]; omega)⟩ (fun w376 σ377 q378 => ?_)
      obtain ⟨a379, rfl, H380, e381, h383, R382, q384, q385⟩ := q378
      have t391 := h_0_0.x e381
      obtain ⟨x386, e387, c388, h389, h390⟩ := cg242 H380.1 t391
      obtain ⟨x392, e393, c394, h395, h396⟩ := cg243 H380.1 t391
      have z397 := congrArg Int32.toInt c388
      have z398 := congrArg Int32.toInt c394
      refine k_st (st' := [.inr (.inr (some a379))]) rfl ?_
      have z399 := R375.1.1
      have R400 : RdC p0 none (0) (2) (-1000) σ0 σ377 := R375.tr ⟨R382.1, R382.2⟩ (by omega) (by omega) (by omega) (by omega)
      have z401 := R400.2.2.1
      have z402 := R400.2.2.2.1 rd_at
      refine k_areturn ?_
      have X403 : ExC [0, 1, 2, 60, 61, 62, 63, 64, 65, 66, 67, 68, 69, 70, 72, 73, 74, 75, 76, 242, 243, 244, 999] σ0 σ377 := ExC.rf.tr (e381.mo (by decide))
      have S407 : ∀ s, ReC σ0 p0 s → ReC σ377 p0 (opY d s) := by
        intro s hs
        have f404 := q20 _ hs
        have y405 := q385 _ hs
        refine y405.eq ?_
        try unfold opY
        repeat (split <;> try (exfalso; omega))
        try unfold oprY
        repeat (split <;> try (exfalso; omega))
        try unfold tkY
        repeat (split <;> try (exfalso; omega))
        try unfold dpY
        repeat (split <;> try (exfalso; omega))
        all_goals rfl
      exact ⟨_, rfl, H380, X403, h383, (R400.mo (by omega) (by omega) (by omega)), (by omega), S407⟩
    refine k_swc (fun h408 => ?_) (fun h408 => ?_)
    · have h409 : x6.toInt = 0 := by omega
      refine hB _ _ _ _ (kgoC (is := KX7_readOperand_143) rfl ?_)
      refine k_aload_n rfl ?_
      have R410 := (RdC.rf : RdC p0 none 0 0 0 σ0 σ0).nf (-1000) (-1000) (by rw [c8]; omega)
      refine k_inv (P := P_X7_readLiteral) (Q := Q_X7_readLiteral) rfl rfl rfl rfl (Nat.le_of_ble_eq_true rfl) (h_0_0.rc (by decide)) ⟨_, rfl, H0, h_0_0, (rd_cd.st H0 h_0_0 (ExC.rf : ExC [0, 1, 2, 60, 61, 62, 63, 64, 65, 66, 67, 68, 69, 70, 72, 73, 74, 75, 76, 242, 243, 244, 999] σ0 σ0) R410.1 (by decide)), (R410.2.2.2.1 rd_at), ((show BgC σ0 p0 (2) 0 from (rd_bg.stn H0 h_0_0 (ExC.rf : ExC [0, 1, 2, 60, 61, 62, 63, 64, 65, 66, 67, 68, 69, 70, 72, 73, 74, 75, 76, 242, 243, 244, 999] σ0 σ0) R410 (by decide) (by rw [c8]; omega) (by omega))).1 (by rw [c8]; omega)), (by rw [c8]; omega), (by have ct := R410.2.2.1; rw [c8, c3, ct]; omega)⟩ (fun w411 σ412 q413 => ?_)
      obtain ⟨a414, rfl, H415, e416, h418, R417, q419, q420⟩ := q413
      have t426 := h_0_0.x e416
      obtain ⟨x421, e422, c423, h424, h425⟩ := cg242 H415.1 t426
      obtain ⟨x427, e428, c429, h430, h431⟩ := cg243 H415.1 t426
      have z432 := congrArg Int32.toInt c423
      have z433 := congrArg Int32.toInt c429
      refine k_st (st' := [.inr (.inr (some a414))]) rfl ?_
      have z434 := R410.1.1
      have R435 : RdC p0 none (0) (2) (-1000) σ0 σ412 := R410.tr ⟨R417.1, R417.2⟩ (by omega) (by omega) (by omega) (by omega)
      have z436 := R435.2.2.1
      have z437 := R435.2.2.2.1 rd_at
      refine k_areturn ?_
      have X438 : ExC [0, 1, 2, 60, 61, 62, 63, 64, 65, 66, 67, 68, 69, 70, 72, 73, 74, 75, 76, 242, 243, 244, 999] σ0 σ412 := ExC.rf.tr (e416.mo (by decide))
      have S442 : ∀ s, ReC σ0 p0 s → ReC σ412 p0 (opY d s) := by
        intro s hs
        have f439 := q20 _ hs
        have y440 := q420 _ hs
        refine y440.eq ?_
        try unfold opY
        repeat (split <;> try (exfalso; omega))
        try unfold oprY
        repeat (split <;> try (exfalso; omega))
        try unfold tkY
        repeat (split <;> try (exfalso; omega))
        try unfold dpY
        repeat (split <;> try (exfalso; omega))
        all_goals rfl
      exact ⟨_, rfl, H415, X438, h418, (R435.mo (by omega) (by omega) (by omega)), (by omega), S442⟩
    refine k_swc (fun h443 => ?_) (fun h443 => ?_)
    · have h444 : x6.toInt = 0 := by omega
      refine hB _ _ _ _ (kgoC (is := KX7_readOperand_143) rfl ?_)
      refine k_aload_n rfl ?_
      have R445 := (RdC.rf : RdC p0 none 0 0 0 σ0 σ0).nf (-1000) (-1000) (by rw [c8]; omega)
      refine k_inv (P := P_X7_readLiteral) (Q := Q_X7_readLiteral) rfl rfl rfl rfl (Nat.le_of_ble_eq_true rfl) (h_0_0.rc (by decide)) ⟨_, rfl, H0, h_0_0, (rd_cd.st H0 h_0_0 (ExC.rf : ExC [0, 1, 2, 60, 61, 62, 63, 64, 65, 66, 67, 68, 69, 70, 72, 73, 74, 75, 76, 242, 243, 244, 999] σ0 σ0) R445.1 (by decide)), (R445.2.2.2.1 rd_at), ((show BgC σ0 p0 (2) 0 from (rd_bg.stn H0 h_0_0 (ExC.rf : ExC [0, 1, 2, 60, 61, 62, 63, 64, 65, 66, 67, 68, 69, 70, 72, 73, 74, 75, 76, 242, 243, 244, 999] σ0 σ0) R445 (by decide) (by rw [c8]; omega) (by omega))).1 (by rw [c8]; omega)), (by rw [c8]; omega), (by have ct := R445.2.2.1; rw [c8, c3, ct]; omega)⟩ (fun w446 σ447 q448 => ?_)
      obtain ⟨a449, rfl, H450, e451, h453, R452, q454, q455⟩ := q448
      have t461 := h_0_0.x e451
      obtain ⟨x456, e457, c458, h459, h460⟩ := cg242 H450.1 t461
      obtain ⟨x462, e463, c464, h465, h466⟩ := cg243 H450.1 t461
      have z467 := congrArg Int32.toInt c458
      have z468 := congrArg Int32.toInt c464
      refine k_st (st' := [.inr (.inr (some a449))]) rfl ?_
      have z469 := R445.1.1
      have R470 : RdC p0 none (0) (2) (-1000) σ0 σ447 := R445.tr ⟨R452.1, R452.2⟩ (by omega) (by omega) (by omega) (by omega)
      have z471 := R470.2.2.1
      have z472 := R470.2.2.2.1 rd_at
      refine k_areturn ?_
      have X473 : ExC [0, 1, 2, 60, 61, 62, 63, 64, 65, 66, 67, 68, 69, 70, 72, 73, 74, 75, 76, 242, 243, 244, 999] σ0 σ447 := ExC.rf.tr (e451.mo (by decide))
      have S477 : ∀ s, ReC σ0 p0 s → ReC σ447 p0 (opY d s) := by
        intro s hs
        have f474 := q20 _ hs
        have y475 := q455 _ hs
        refine y475.eq ?_
        try unfold opY
        repeat (split <;> try (exfalso; omega))
        try unfold oprY
        repeat (split <;> try (exfalso; omega))
        try unfold tkY
        repeat (split <;> try (exfalso; omega))
        try unfold dpY
        repeat (split <;> try (exfalso; omega))
        all_goals rfl
      exact ⟨_, rfl, H450, X473, h453, (R470.mo (by omega) (by omega) (by omega)), (by omega), S477⟩
    refine k_swn ?_
    refine hB _ _ _ _ (kgoC (is := KX7_readOperand_148) rfl ?_)
    refine k_aload_n rfl ?_
    refine k_iconst (m := 2) rfl (fun x478 h479 => ?_)
    refine k_inv (P := P_X7_raise) (Q := Q_X7_raise) rfl rfl rfl rfl (Nat.le_of_ble_eq_true rfl) (h_0_0.rc (by decide)) ⟨_, _, rfl, H0, h_0_0, (by omega), (by omega), (rd_cd.st H0 h_0_0 (ExC.rf : ExC [0, 1, 2, 60, 61, 62, 63, 64, 65, 66, 67, 68, 69, 70, 72, 73, 74, 75, 76, 242, 243, 244, 999] σ0 σ0) (RdC.rf : RdC p0 none 0 0 0 σ0 σ0).1 (by decide)), ((RdC.rf : RdC p0 none 0 0 0 σ0 σ0).2.2.2.1 rd_at), (rd_bg.st H0 h_0_0 (ExC.rf : ExC [0, 1, 2, 60, 61, 62, 63, 64, 65, 66, 67, 68, 69, 70, 72, 73, 74, 75, 76, 242, 243, 244, 999] σ0 σ0) (RdC.rf : RdC p0 none 0 0 0 σ0 σ0) (by decide) (by omega) (by omega) (by omega))⟩ (fun w480 σ481 q482 => ?_)
    obtain ⟨rfl, H483, e484, R485, q486, q487⟩ := q482
    have c488 := (h_0_0.mi e484 (by decide)).trans c3
    have t494 := h_0_0.x e484
    obtain ⟨x489, e490, c491, h492, h493⟩ := cg243 H483.1 t494
    have z495 := congrArg Int32.toInt c488
    have z496 := congrArg Int32.toInt c491
    refine k_st (st' := []) rfl ?_
    have h497 : 1 ≤ x489.toInt := by have hq := q486; rw [c491] at hq; omega
    refine k_aload_n rfl ?_
    refine k_iconst (m := 1) rfl (fun x498 h499 => ?_)
    refine k_iconst (m := (-1)) rfl (fun x500 h501 => ?_)
    have R502 : RdC p0 none (0) (0) (0) σ0 σ481 := (RdC.rf : RdC p0 none 0 0 0 σ0 σ0).tr ⟨R485.1, R485.2⟩ (by omega) (by omega) (by omega) (by omega)
    have X503 : ExC [0, 1, 2, 60, 61, 62, 63, 64, 65, 66, 67, 68, 69, 70, 72, 73, 74, 75, 76, 242, 243, 244, 999] σ0 σ481 := ExC.rf.tr (e484.mo (by decide))
    refine k_inv (P := P_X7_opened) (Q := Q_X7_opened) rfl rfl rfl rfl (Nat.le_of_ble_eq_true rfl) (t494.rc (by decide)) ⟨_, _, _, rfl, H483, t494, (rd_cd.st H0 h_0_0 X503 R502.1 (by decide)), (R502.2.2.2.1 rd_at), (rd_bg.st H0 h_0_0 X503 R502 (by decide) (by omega) (by omega) (by omega)), (by omega)⟩ (fun w504 σ505 q506 => ?_)
    obtain ⟨a507, rfl, H508, e509, h511, R510, q512, q513⟩ := q506
    have c514 := (t494.mi e509 (by decide)).trans c488
    have c515 := (t494.mi e509 (by decide)).trans c491
    have z516 := congrArg Int32.toInt c514
    have z517 := congrArg Int32.toInt c515
    refine k_st (st' := [.inr (.inr (some a507))]) rfl ?_
    have z518 := R502.1.1
    have R519 : RdC p0 none (1) (1) (1) σ0 σ505 := R502.tr ⟨R510.1, R510.2⟩ (by omega) (by omega) (by omega) (by omega)
    have z520 := R519.2.2.1
    have z521 := R519.2.2.2.1 rd_at
    refine k_areturn ?_
    have X522 : ExC [0, 1, 2, 60, 61, 62, 63, 64, 65, 66, 67, 68, 69, 70, 72, 73, 74, 75, 76, 242, 243, 244, 999] σ0 σ505 := X503.tr (e509.mo (by decide))
    have S528 : ∀ s, ReC σ0 p0 s → ReC σ505 p0 (opY d s) := by
      intro s hs
      have f523 := q20 _ hs
      have y524 := q487 _ hs
      rw [h479] at y524
      have y526 := q513 _ y524
      refine y526.eq ?_
      try unfold opY
      repeat (split <;> try (exfalso; omega))
      try unfold oprY
      repeat (split <;> try (exfalso; omega))
      try unfold tkY
      repeat (split <;> try (exfalso; omega))
      try unfold dpY
      repeat (split <;> try (exfalso; omega))
      all_goals rfl
    exact ⟨_, rfl, H508, X522, h511, ((R519.ft (0) (by rw [c515]; omega)).mo (by omega) (by omega) (by omega)), (by omega), S528⟩
theorem lg_X7_readOperand (d : Nat) : ∀ (As : List AvC) (σ : CsC), (P_X7_readOperand d) As σ → lgC As ≤ rX7_readOperand.2.2.1 := by
  rintro As σ ⟨p0, p1, rfl, -⟩
  exact Nat.le_of_ble_eq_true rfl
theorem s_X7_readOperand (l : Launch) (d : Nat) (h_X7_readBehindOpen : CMetC l (13 * d + 31) 174 (P_X7_readBehindOpen d) (Q_X7_readBehindOpen d)) (h_X7_readAlone : CMetC l (13 * d + 31) 172 (P_X7_readAlone d) (Q_X7_readAlone d)) (h_X7_readName : CMetC l (13 * d + 32) 175 (P_X7_readName d) (Q_X7_readName d)) : CMetC l (13 * d + 33) 170 (P_X7_readOperand d) (Q_X7_readOperand d) :=
  CMetC.of KX7_readOperand [(125, P_X7_code, Q_X7_code), (174, (P_X7_readBehindOpen d), (Q_X7_readBehindOpen d)), (172, (P_X7_readAlone d), (Q_X7_readAlone d)), (173, P_X7_readCountAhead, Q_X7_readCountAhead), (177, P_X7_readLiteral, Q_X7_readLiteral), (175, (P_X7_readName d), (Q_X7_readName d)), (127, P_X7_raise, Q_X7_raise), (162, P_X7_opened, Q_X7_opened)] hX7_readOperand (by decide) (by omega) okX7_readOperand (cc1C (m_X7_code l) (by omega) (cc1C h_X7_readBehindOpen (by omega) (cc1C h_X7_readAlone (by omega) (cc1C (m_X7_readCountAhead l) (by omega) (cc1C (m_X7_readLiteral l) (by omega) (cc1C h_X7_readName (by omega) (cc1C (m_X7_raise l) (by omega) (cc1C (m_X7_opened l) (by omega) cc0C)))))))) (lg_X7_readOperand d) (b_X7_readOperand d)

set_option maxRecDepth 100000 in
set_option maxHeartbeats 4000000 in
theorem b_X7_readChoice (d : Nat) : TbC KX7_readChoice [(234, P_Jx4a65c_size_8abf5, Q_Jx4a65c_size_8abf5), (167, (P_X7_readChain (d + 1)), (Q_X7_readChain (d + 1))), (125, P_X7_code, Q_X7_code), (17, P_X1_init, Q_X1_init), (163, P_X7_putMark, Q_X7_putMark), (128, P_X7_accept, Q_X7_accept), (164, (P_X7_readExp d), (Q_X7_readExp d)), (129, P_X7_expect, Q_X7_expect), (131, P_X7_isTooDeep, Q_X7_isTooDeep), (166, (P_X7_readChoice d), (Q_X7_readChoice d)), (161, P_X7_put, Q_X7_put), (162, P_X7_opened, Q_X7_opened)] (P_X7_readChoice (d + 1)) (Q_X7_readChoice (d + 1)) := by
  · rintro As σ0 ⟨p0, p1, rfl, H0, h_0_0, h_1_0, h_1_1, rd_cd, rd_at, rd_bg, rd_dp⟩ hgr G hB hW
    change G 0 [(0, .inr (.inr (some p0))), (1, .inl p1)] [] σ0
    obtain ⟨x1, e2, c3, h4, h5⟩ := cg242 H0.1 h_0_0
    obtain ⟨x6, e7, c8, h9, h10⟩ := cg243 H0.1 h_0_0
    have z11 := congrArg Int32.toInt c3
    have z12 := congrArg Int32.toInt c8
    refine hB _ _ _ _ (kgoC (is := KX7_readChoice_0) rfl ?_)
    refine k_aload_n rfl ?_
    refine k_get kg242 h_0_0 (congrArg (Sum.inl : Int32 → AvC) c3) ?_
    refine k_istore_n (ls' := [(2, .inl x1), (0, .inr (.inr (some p0))), (1, .inl p1)]) rfl ?_
    refine k_aload_n rfl ?_
    obtain ⟨a15, e13, c14, t16⟩ := cg240 H0.1 h_0_0
    refine k_get kg240 h_0_0 e13 ?_
    obtain ⟨a19, e17, c18, t20, l21⟩ := cg213 H0.1 t16
    refine k_get kg213 t16 e17 ?_
    refine k_inv (P := P_Jx4a65c_size_8abf5) (Q := Q_Jx4a65c_size_8abf5) rfl rfl rfl rfl (Nat.le_of_ble_eq_true rfl) (t20.rc (by decide)) ⟨_, rfl, H0, t20⟩ (fun w22 σ23 q24 => ?_)
    obtain ⟨x25, rfl, rfl, h26, h27, q28, q29⟩ := q24
    refine k_st (st' := [.inl x25]) rfl ?_
    refine k_istore_n (ls' := [(3, .inl x25), (2, .inl x1), (0, .inr (.inr (some p0))), (1, .inl p1)]) rfl ?_
    refine k_aload_n rfl ?_
    refine k_iload_n rfl ?_
    refine k_inv (P := (P_X7_readChain (d + 1))) (Q := (Q_X7_readChain (d + 1))) rfl rfl rfl rfl (Nat.le_of_ble_eq_true rfl) (h_0_0.rc (by decide)) ⟨_, _, rfl, H0, h_0_0, (by omega), (by omega), (rd_cd.st H0 h_0_0 (ExC.rf : ExC [0, 1, 2, 60, 61, 62, 63, 64, 65, 66, 67, 68, 69, 70, 72, 73, 74, 75, 76, 242, 243, 244, 999] σ0 σ0) (RdC.rf : RdC p0 none 0 0 0 σ0 σ0).1 (by decide)), ((RdC.rf : RdC p0 none 0 0 0 σ0 σ0).2.2.2.1 rd_at), (rd_bg.st H0 h_0_0 (ExC.rf : ExC [0, 1, 2, 60, 61, 62, 63, 64, 65, 66, 67, 68, 69, 70, 72, 73, 74, 75, 76, 242, 243, 244, 999] σ0 σ0) (RdC.rf : RdC p0 none 0 0 0 σ0 σ0) (by decide) (by omega) (by omega) (by omega)), (by omega)⟩ (fun w30 σ31 q32 => ?_)
    obtain ⟨a33, rfl, H34, e35, h37, R36, q38, q39⟩ := q32
    have t45 := h_0_0.x e35
    obtain ⟨x40, e41, c42, h43, h44⟩ := cg242 H34.1 t45
    obtain ⟨x46, e47, c48, h49, h50⟩ := cg243 H34.1 t45
    have z51 := congrArg Int32.toInt c42
    have z52 := congrArg Int32.toInt c48
    refine k_st (st' := [.inr (.inr (some a33))]) rfl ?_
    have z53 := (RdC.rf : RdC p0 none 0 0 0 σ0 σ0).1.1
    have R54 : RdC p0 none (0) (27 + 8 * (d : Int)) (1) σ0 σ31 := (RdC.rf : RdC p0 none 0 0 0 σ0 σ0).tr ⟨R36.1, R36.2⟩ (by omega) (by omega) (by omega) (by omega)
    have z55 := R54.2.2.1
    have z56 := R54.2.2.2.1 rd_at
    refine k_astore (ls' := [(4, .inr (.inr (some a33))), (3, .inl x25), (2, .inl x1), (0, .inr (.inr (some p0))), (1, .inl p1)]) rfl ?_
    refine k_aload_n rfl ?_
    have X57 : ExC [0, 1, 2, 60, 61, 62, 63, 64, 65, 66, 67, 68, 69, 70, 72, 73, 74, 75, 76, 242, 243, 244, 999] σ0 σ31 := ExC.rf.tr (e35.mo (by decide))
    refine k_inv (P := P_X7_code) (Q := Q_X7_code) rfl rfl rfl rfl (Nat.le_of_ble_eq_true rfl) (t45.rc (by decide)) ⟨_, rfl, H34, t45, (rd_cd.st H0 h_0_0 X57 R54.1 (by decide))⟩ (fun w58 σ59 q60 => ?_)
    obtain ⟨x61, rfl, rfl, q62, q63, q64, q65⟩ := q60
    refine k_st (st' := [.inl x61]) rfl ?_
    refine k_bipush (m := 7) rfl (fun x66 h67 => ?_)
    refine k_ic_eq (fun h68 => ?_) (fun h68 => ?_)
    · have h69 : x46.toInt = 0 := by omega
      refine hB _ _ _ _ (kgoC (is := KX7_readChoice_35) rfl ?_)
      have R70 := R54.nf (-1000) (-1000) (by rw [c48]; omega)
      have B71 : BgC σ31 p0 1 1 := rd_bg.stn H0 h_0_0 X57 R70 (by decide) (by rw [c48]; omega) (by omega)
      obtain ⟨h72, h73⟩ := B71.new H34.1 t45 (u := 1) (by omega) (by omega)
      have z74 := R70.1.1
      refine k_new (c := 2) (g := 0) H34 (by decide) rfl (by omega) (by have hn : nfC 2 = 18 := rfl; omega) (fun a75 σ76 q77 H78 e79 r80 z81 l82 u83 u84 => ?_)
      rw [show nfC 2 = 18 from rfl] at u84
      have u85 : cpC σ76 = cpC σ31 := congrArg Prod.fst e79.2.1.1
      have u86 : spC σ76 = spC σ31 := congrArg Prod.snd e79.2.1.1
      refine k_dupR ?_
      refine k_bipush (m := 8) rfl (fun x87 h88 => ?_)
      refine k_bipush (m := 7) rfl (fun x89 h90 => ?_)
      refine k_iload_n rfl ?_
      refine k_iload_n rfl ?_
      refine k_spec (P := P_X1_init) (Q := Q_X1_init) rfl rfl rfl rfl (Nat.le_of_ble_eq_true rfl) ⟨_, _, _, _, _, rfl, H78, r80, z81, (by omega), (by omega), (by omega), (by omega), (by omega)⟩ (fun w91 σ92 q93 => ?_)
      have t101 := t45.x e79
      obtain ⟨rfl, H94, e95, t96, t96', l97, u98, u99, g100, q103, q104, q105, q106⟩ := q93
      have l102 := l97.trans l82
      have c107 := (t45.mi e79 (by decide)).trans c42
      have c108 := (t101.mit r80 (by decide) e95 (by decide)).trans c107
      have c109 := (t45.mi e79 (by decide)).trans c48
      have c110 := (t101.mit r80 (by decide) e95 (by decide)).trans c109
      have z111 := congrArg Int32.toInt c108
      have z112 := congrArg Int32.toInt c110
      refine k_st (st' := [.inr (.inr (some a75))]) rfl ?_
      have t113 : TyC σ92 a75 2 := ⟨t96, t96', fun _ hz => by have z1 := congrArg Int32.toInt (q103.symm.trans hz.1); have z2 : (7 : Int32).toInt = 7 := rfl; omega⟩
      refine k_astore (ls' := [(5, .inr (.inr (some a75))), (4, .inr (.inr (some a33))), (3, .inl x25), (2, .inl x1), (0, .inr (.inr (some p0))), (1, .inl p1)]) rfl ?_
      refine k_aload rfl ?_
      refine k_aload rfl ?_
      have t118 := h37.x e79
      have t119 := t118.xt r80 (by decide) e95
      refine k_putR kp72 H94 t113 fk72 (rf72 t119) (fun σ114 H115 e116 c117 => ?_)
      refine k_aload_n rfl ?_
      refine k_bipush (m := 12) rfl (fun x120 h121 => ?_)
      refine k_bipush (m := 7) rfl (fun x122 h123 => ?_)
      have t124 := t101.xt r80 (by decide) e95
      have t125 := t124.x e116
      have R126 : RdC p0 none (1) (1) (-999) σ0 σ76 := R70.tr ⟨(e79.gwn H34.1 u83 u84 (by decide) (by rw [← q77]; exact r80.n0)), (e79.cou (u := 1) H34.1 t45 (by decide) (by omega))⟩ (by omega) (by omega) (by omega) (by omega)
      have R127 : RdC p0 none (1) (1) (-999) σ0 σ92 := R126.tr ⟨g100, (e95.co (u := 0) H78.1 t101 r80 (by decide) (by omega))⟩ (by omega) (by omega) (by omega) (by omega)
      have R128 : RdC p0 none (1) (1) (-999) σ0 σ114 := R127.tr ⟨(e116.gw H94.1 (by decide)), (e116.cou (u := 0) H94.1 t124 (by decide) (by rw [e116.cn (by decide)]; omega))⟩ (by omega) (by omega) (by omega) (by omega)
      have c129 := (t124.mi e116 (by decide)).trans c110
      have R130 := R128.nf (-1000) (-1000) (by rw [c129]; omega)
      have X131 : ExC [0, 1, 2, 60, 61, 62, 63, 64, 65, 66, 67, 68, 69, 70, 72, 73, 74, 75, 76, 242, 243, 244, 999] σ31 σ76 := ExC.rf.tr (e79.mo (by decide))
      have X132 : ExC [0, 1, 2, 60, 61, 62, 63, 64, 65, 66, 67, 68, 69, 70, 72, 73, 74, 75, 76, 242, 243, 244, 999] σ31 σ92 := (X131 : ExC [0, 1, 2, 60, 61, 62, 63, 64, 65, 66, 67, 68, 69, 70, 72, 73, 74, 75, 76, 242, 243, 244, 999] σ31 σ76).nt (Nat.le_of_eq q77.symm) (e95.mo (by decide))
      have X133 : ExC [0, 1, 2, 60, 61, 62, 63, 64, 65, 66, 67, 68, 69, 70, 72, 73, 74, 75, 76, 242, 243, 244, 999] σ0 σ92 := X57.tr X132
      have X134 : ExC [0, 1, 2, 60, 61, 62, 63, 64, 65, 66, 67, 68, 69, 70, 72, 73, 74, 75, 76, 242, 243, 244, 999] σ0 σ114 := X133.tr (e116.mo (by decide))
      have c135 := (t124.mi e116 (by decide)).trans c108
      have z136 := congrArg Int32.toInt c135
      have z137 := congrArg Int32.toInt c129
      refine k_inv (P := P_X7_putMark) (Q := Q_X7_putMark) rfl rfl rfl rfl (Nat.le_of_ble_eq_true rfl) (t125.rc (by decide)) ⟨_, _, _, rfl, H115, t125, (rd_cd.st H0 h_0_0 X134 R130.1 (by decide)), (R130.2.2.2.1 rd_at), (rd_bg.stn H0 h_0_0 X134 R130 (by decide) (by rw [c129]; omega) (by omega)), (by omega)⟩ (fun w138 σ139 q140 => ?_)
      obtain ⟨a141, rfl, H142, e143, h145, R144, q146, q147⟩ := q140
      have c148 := (t125.mi e143 (by decide)).trans c135
      have c149 := (t125.mi e143 (by decide)).trans c129
      have z150 := congrArg Int32.toInt c148
      have z151 := congrArg Int32.toInt c149
      refine k_st (st' := [.inr (.inr (some a141))]) rfl ?_
      have z152 := R130.1.1
      have R153 : RdC p0 none (3) (3) (-998) σ0 σ139 := R130.tr ⟨R144.1, R144.2⟩ (by omega) (by omega) (by omega) (by omega)
      have R154 := R153.nf (-1000) (-1000) (by rw [c149]; omega)
      have z155 := R154.2.2.1
      have z156 := R154.2.2.2.1 rd_at
      refine k_astore (ls' := [(6, .inr (.inr (some a141))), (5, .inr (.inr (some a75))), (4, .inr (.inr (some a33))), (3, .inl x25), (2, .inl x1), (0, .inr (.inr (some p0))), (1, .inl p1)]) rfl ?_
      refine k_aload_n rfl ?_
      have t157 := t125.x e143
      have X158 : ExC [0, 1, 2, 60, 61, 62, 63, 64, 65, 66, 67, 68, 69, 70, 72, 73, 74, 75, 76, 242, 243, 244, 999] σ0 σ139 := X134.tr (e143.mo (by decide))
      refine k_inv (P := P_X7_accept) (Q := Q_X7_accept) rfl rfl rfl rfl (Nat.le_of_ble_eq_true rfl) (t157.rc (by decide)) ⟨_, rfl, H142, t157, (rd_cd.st H0 h_0_0 X158 R154.1 (by decide)), (R154.2.2.2.1 rd_at), (rd_bg.stn H0 h_0_0 X158 R154 (by decide) (by rw [c149]; omega) (by omega)), (by have ct := R154.2.2.1; rw [c149, c148, ct]; omega)⟩ (fun w159 σ160 q161 => ?_)
      obtain ⟨rfl, H162, e163, R164, q165, q166⟩ := q161
      have t172 := t157.x e163
      obtain ⟨x167, e168, c169, h170, h171⟩ := cg242 H162.1 t172
      obtain ⟨x173, e174, c175, h176, h177⟩ := cg243 H162.1 t172
      have z178 := congrArg Int32.toInt c169
      have z179 := congrArg Int32.toInt c175
      refine k_st (st' := []) rfl ?_
      have R180 : RdC p0 none (-5) (3) (-1000) σ0 σ160 := R154.tr ⟨R164.1, R164.2⟩ (by omega) (by omega) (by omega) (by omega)
      have z181 := R180.2.2.1
      have z182 := R180.2.2.2.1 rd_at
      refine k_aload rfl ?_
      refine k_aload_n rfl ?_
      refine k_iload_n rfl ?_
      refine k_iconst (m := 1) rfl (fun x183 h184 => ?_)
      refine k_iadd (by omega) (by omega) (fun x185 h186 => ?_)
      have X187 : ExC [0, 1, 2, 60, 61, 62, 63, 64, 65, 66, 67, 68, 69, 70, 72, 73, 74, 75, 76, 242, 243, 244, 999] σ0 σ160 := X158.tr (e163.mo (by decide))
      refine k_inv (P := (P_X7_readExp d)) (Q := (Q_X7_readExp d)) rfl rfl rfl rfl (Nat.le_of_ble_eq_true rfl) (t172.rc (by decide)) ⟨_, _, rfl, H162, t172, (by omega), (by omega), (rd_cd.st H0 h_0_0 X187 R180.1 (by decide)), (R180.2.2.2.1 rd_at), (rd_bg.st H0 h_0_0 X187 R180 (by decide) (by omega) (by omega) (by omega)), (by omega)⟩ (fun w188 σ189 q190 => ?_)
      obtain ⟨a191, rfl, H192, e193, h195, R194, q196, q197⟩ := q190
      have t203 := t172.x e193
      obtain ⟨x198, e199, c200, h201, h202⟩ := cg242 H192.1 t203
      obtain ⟨x204, e205, c206, h207, h208⟩ := cg243 H192.1 t203
      have z209 := congrArg Int32.toInt c200
      have z210 := congrArg Int32.toInt c206
      refine k_st (st' := [.inr (.inr (some a191)), .inr (.inr (some a75))]) rfl ?_
      have z211 := R180.1.1
      have R212 : RdC p0 none (-5) (15 + 8 * (d : Int)) (-999) σ0 σ189 := R180.tr ⟨R194.1, R194.2⟩ (by omega) (by omega) (by omega) (by omega)
      have z213 := R212.2.2.1
      have z214 := R212.2.2.2.1 rd_at
      have t220 := t113.x e116
      have t221 := t220.x e143
      have t222 := t221.x e163
      have t223 := t222.x e193
      refine k_p73 H192 t223 h195 (fun σ215 H216 e217 g218 c219 => ?_)
      refine k_aload rfl ?_
      refine k_aload_n rfl ?_
      refine k_bipush (m := 13) rfl (fun x224 h225 => ?_)
      refine k_bipush (m := 7) rfl (fun x226 h227 => ?_)
      have t228 := t203.x e217
      have R229 : RdC p0 none (-5) (15 + 8 * (d : Int)) (-999) σ0 σ215 := R212.tr ⟨g218, (e217.cou (u := 0) H192.1 t203 (by decide) (by rw [e217.cn (by decide)]; omega))⟩ (by omega) (by omega) (by omega) (by omega)
      have c230 := (t203.mi e217 (by decide)).trans c206
      have X231 : ExC [0, 1, 2, 60, 61, 62, 63, 64, 65, 66, 67, 68, 69, 70, 72, 73, 74, 75, 76, 242, 243, 244, 999] σ0 σ189 := X187.tr (e193.mo (by decide))
      have X232 : ExC [0, 1, 2, 60, 61, 62, 63, 64, 65, 66, 67, 68, 69, 70, 72, 73, 74, 75, 76, 242, 243, 244, 999] σ0 σ215 := X231.tr (e217.mo (by decide))
      have c233 := (t203.mi e217 (by decide)).trans c200
      have z234 := congrArg Int32.toInt c233
      have z235 := congrArg Int32.toInt c230
      refine k_inv (P := P_X7_putMark) (Q := Q_X7_putMark) rfl rfl rfl rfl (Nat.le_of_ble_eq_true rfl) (t228.rc (by decide)) ⟨_, _, _, rfl, H216, t228, (rd_cd.st H0 h_0_0 X232 R229.1 (by decide)), (R229.2.2.2.1 rd_at), (rd_bg.st H0 h_0_0 X232 R229 (by decide) (by omega) (by omega) (by omega)), (by omega)⟩ (fun w236 σ237 q238 => ?_)
      obtain ⟨a239, rfl, H240, e241, h243, R242, q244, q245⟩ := q238
      have c246 := (t228.mi e241 (by decide)).trans c233
      have c247 := (t228.mi e241 (by decide)).trans c230
      have z248 := congrArg Int32.toInt c246
      have z249 := congrArg Int32.toInt c247
      refine k_st (st' := [.inr (.inr (some a239)), .inr (.inr (some a75))]) rfl ?_
      have z250 := R229.1.1
      have R251 : RdC p0 none (-3) (17 + 8 * (d : Int)) (-997) σ0 σ237 := R229.tr ⟨R242.1, R242.2⟩ (by omega) (by omega) (by omega) (by omega)
      have z252 := R251.2.2.1
      have z253 := R251.2.2.2.1 rd_at
      have t254 := t223.x e217
      have t255 := t254.x e241
      refine k_putR kp76 H240 t255 fk76 (rf76 h243) (fun σ256 H257 e258 c259 => ?_)
      refine k_aload rfl ?_
      have t260 := t255.x e258
      refine k_get kg76 t260 (congrArg (fun z : Option Nat => (Sum.inr (Sum.inr z) : AvC)) c259) ?_
      refine k_aload rfl ?_
      have t261 := h243.x e258
      have t266 := h145.x e163
      have t267 := t266.x e193
      have t268 := t267.x e217
      have t269 := t268.x e241
      have t270 := t269.x e258
      refine k_putR kp76 H257 t261 fk76 (rf76 t270) (fun σ262 H263 e264 c265 => ?_)
      refine k_aload_n rfl ?_
      refine k_bipush (m := 6) rfl (fun x271 h272 => ?_)
      have t273 := t228.x e241
      have t274 := t273.x e258
      have t275 := t274.x e264
      have R276 : RdC p0 none (-3) (17 + 8 * (d : Int)) (-997) σ0 σ256 := R251.tr ⟨(e258.gw H240.1 (by decide)), (e258.cou (u := 0) H240.1 t273 (by decide) (by rw [e258.cn (by decide)]; omega))⟩ (by omega) (by omega) (by omega) (by omega)
      have R277 : RdC p0 none (-3) (17 + 8 * (d : Int)) (-997) σ0 σ262 := R276.tr ⟨(e264.gw H257.1 (by decide)), (e264.cou (u := 0) H257.1 t274 (by decide) (by rw [e264.cn (by decide)]; omega))⟩ (by omega) (by omega) (by omega) (by omega)
      have c278 := (t273.mi e258 (by decide)).trans c247
      have c279 := (t274.mi e264 (by decide)).trans c278
      have X280 : ExC [0, 1, 2, 60, 61, 62, 63, 64, 65, 66, 67, 68, 69, 70, 72, 73, 74, 75, 76, 242, 243, 244, 999] σ0 σ237 := X232.tr (e241.mo (by decide))
      have X281 : ExC [0, 1, 2, 60, 61, 62, 63, 64, 65, 66, 67, 68, 69, 70, 72, 73, 74, 75, 76, 242, 243, 244, 999] σ0 σ256 := X280.tr (e258.mo (by decide))
      have X282 : ExC [0, 1, 2, 60, 61, 62, 63, 64, 65, 66, 67, 68, 69, 70, 72, 73, 74, 75, 76, 242, 243, 244, 999] σ0 σ262 := X281.tr (e264.mo (by decide))
      have c283 := (t273.mi e258 (by decide)).trans c246
      have c284 := (t274.mi e264 (by decide)).trans c283
      have z285 := congrArg Int32.toInt c284
      have z286 := congrArg Int32.toInt c279
      refine k_inv (P := P_X7_expect) (Q := Q_X7_expect) rfl rfl rfl rfl (Nat.le_of_ble_eq_true rfl) (t275.rc (by decide)) ⟨_, _, rfl, H263, t275, (by omega), (by omega), (rd_cd.st H0 h_0_0 X282 R277.1 (by decide)), (R277.2.2.2.1 rd_at), (rd_bg.st H0 h_0_0 X282 R277 (by decide) (by omega) (by omega) (by omega))⟩ (fun w287 σ288 q289 => ?_)
      obtain ⟨rfl, H290, e291, R292, q293, q294⟩ := q289
      have t300 := t275.x e291
      obtain ⟨x295, e296, c297, h298, h299⟩ := cg242 H290.1 t300
      obtain ⟨x301, e302, c303, h304, h305⟩ := cg243 H290.1 t300
      have z306 := congrArg Int32.toInt c297
      have z307 := congrArg Int32.toInt c303
      refine k_st (st' := []) rfl ?_
      have R308 : RdC p0 none (-11) (17 + 8 * (d : Int)) (-997) σ0 σ288 := R277.tr ⟨R292.1, R292.2⟩ (by omega) (by omega) (by omega) (by omega)
      have z309 := R308.2.2.1
      have z310 := R308.2.2.2.1 rd_at
      refine k_aload rfl ?_
      refine k_aload_n rfl ?_
      refine k_iload_n rfl ?_
      refine k_iconst (m := 1) rfl (fun x311 h312 => ?_)
      refine k_iadd (by omega) (by omega) (fun x313 h314 => ?_)
      have X315 : ExC [0, 1, 2, 60, 61, 62, 63, 64, 65, 66, 67, 68, 69, 70, 72, 73, 74, 75, 76, 242, 243, 244, 999] σ0 σ288 := X282.tr (e291.mo (by decide))
      refine k_inv (P := P_X7_isTooDeep) (Q := Q_X7_isTooDeep) rfl rfl rfl rfl (Nat.le_of_ble_eq_true rfl) (t300.rc (by decide)) ⟨_, _, rfl, H290, t300, (rd_cd.st H0 h_0_0 X315 R308.1 (by decide)), (R308.2.2.2.1 rd_at), (rd_bg.st H0 h_0_0 X315 R308 (by decide) (by omega) (by omega) (by omega))⟩ (fun w316 σ317 q318 => ?_)
      obtain ⟨x319, rfl, H320, e321, h323, h324, R322, q325, q326, q327⟩ := q318
      have c328 := (t300.mi e321 (by decide)).trans c297
      have t334 := t300.x e321
      obtain ⟨x329, e330, c331, h332, h333⟩ := cg243 H320.1 t334
      have z335 := congrArg Int32.toInt c328
      have z336 := congrArg Int32.toInt c331
      refine k_st (st' := [.inl x319, .inr (.inr (some a75))]) rfl ?_
      rcases (by omega : x319.toInt = 0 ∨ x319.toInt = 1) with g337 | g337
      · have h338 := q326 (by omega)
        refine k_if_eq (fun h339 => ?_) (fun h339 => by exfalso; omega)
        refine hB _ _ _ _ (kgoC (is := KX7_readChoice_133) rfl ?_)
        refine k_aload_n rfl ?_
        refine k_iload_n rfl ?_
        refine k_iconst (m := 1) rfl (fun x340 h341 => ?_)
        refine k_iadd (by omega) (by omega) (fun x342 h343 => ?_)
        have R344 : RdC p0 none (-11) (17 + 8 * (d : Int)) (-997) σ0 σ317 := R308.tr ⟨R322.1, R322.2⟩ (by omega) (by omega) (by omega) (by omega)
        have X345 : ExC [0, 1, 2, 60, 61, 62, 63, 64, 65, 66, 67, 68, 69, 70, 72, 73, 74, 75, 76, 242, 243, 244, 999] σ0 σ317 := X315.tr (e321.mo (by decide))
        refine k_inv (P := (P_X7_readChoice d)) (Q := (Q_X7_readChoice d)) rfl rfl rfl rfl (Nat.le_of_ble_eq_true rfl) (t334.rc (by decide)) ⟨_, _, rfl, H320, t334, (by omega), (by omega), (rd_cd.st H0 h_0_0 X345 R344.1 (by decide)), (R344.2.2.2.1 rd_at), (rd_bg.st H0 h_0_0 X345 R344 (by decide) (by omega) (by omega) (by omega)), (by omega)⟩ (fun w346 σ347 q348 => ?_)
        obtain ⟨a349, rfl, H350, e351, h353, R352, q354, q355⟩ := q348
        have t361 := t334.x e351
        obtain ⟨x356, e357, c358, h359, h360⟩ := cg242 H350.1 t361
        obtain ⟨x362, e363, c364, h365, h366⟩ := cg243 H350.1 t361
        have z367 := congrArg Int32.toInt c358
        have z368 := congrArg Int32.toInt c364
        refine k_st (st' := [.inr (.inr (some a349)), .inr (.inr (some a75))]) rfl ?_
        have z369 := R344.1.1
        have R370 : RdC p0 none (-11) (18 + 8 * (d : Int)) (-996) σ0 σ347 := R344.tr ⟨R352.1, R352.2⟩ (by omega) (by omega) (by omega) (by omega)
        have z371 := R370.2.2.1
        have z372 := R370.2.2.2.1 rd_at
        refine k_nil ?_
        refine hB _ _ _ _ (kgoC (is := KX7_readChoice_140) rfl ?_)
        have t373 := t260.x e264
        have t374 := t373.x e291
        have t375 := t374.x e321
        have t376 := t375.x e351
        refine k_putR kp74 H350 t376 fk74 (rf74 h353) (fun σ377 H378 e379 c380 => ?_)
        refine k_aload_n rfl ?_
        refine k_aload rfl ?_
        have t381 := t361.x e379
        have t382 := t376.x e379
        have R383 : RdC p0 none (-11) (18 + 8 * (d : Int)) (-996) σ0 σ377 := R370.tr ⟨(e379.gw H350.1 (by decide)), (e379.cou (u := 0) H350.1 t361 (by decide) (by rw [e379.cn (by decide)]; omega))⟩ (by omega) (by omega) (by omega) (by omega)
        have c384 := (t361.mi e379 (by decide)).trans c364
        have X385 : ExC [0, 1, 2, 60, 61, 62, 63, 64, 65, 66, 67, 68, 69, 70, 72, 73, 74, 75, 76, 242, 243, 244, 999] σ0 σ347 := X345.tr (e351.mo (by decide))
        have X386 : ExC [0, 1, 2, 60, 61, 62, 63, 64, 65, 66, 67, 68, 69, 70, 72, 73, 74, 75, 76, 242, 243, 244, 999] σ0 σ377 := X385.tr (e379.mo (by decide))
        have c387 := (t361.mi e379 (by decide)).trans c358
        have z388 := congrArg Int32.toInt c387
        have z389 := congrArg Int32.toInt c384
        refine k_inv (P := P_X7_put) (Q := Q_X7_put) rfl rfl rfl rfl (Nat.le_of_ble_eq_true rfl) (t381.rc (by decide)) ⟨_, _, rfl, H378, t381, t382, (rd_cd.st H0 h_0_0 X386 R383.1 (by decide)), (R383.2.2.2.1 rd_at), (rd_bg.st H0 h_0_0 X386 R383 (by decide) (by omega) (by omega) (by omega))⟩ (fun w390 σ391 q392 => ?_)
        obtain ⟨a393, rfl, H394, e395, h397, R396, q398, q399⟩ := q392
        have c400 := (t381.mi e395 (by decide)).trans c387
        have c401 := (t381.mi e395 (by decide)).trans c384
        have z402 := congrArg Int32.toInt c400
        have z403 := congrArg Int32.toInt c401
        refine k_st (st' := [.inr (.inr (some a393))]) rfl ?_
        refine k_areturn ?_
        have X404 : ExC [0, 1, 2, 60, 61, 62, 63, 64, 65, 66, 67, 68, 69, 70, 72, 73, 74, 75, 76, 242, 243, 244, 999] σ0 σ391 := X386.tr (e395.mo (by decide))
        have R405 : RdC p0 none (-10) (19 + 8 * (d : Int)) (-995) σ0 σ391 := R383.tr ⟨R396.1, R396.2⟩ (by omega) (by omega) (by omega) (by omega)
        have S433 : ∀ s, ReC σ0 p0 s → ReC σ391 p0 (chY (d + 1) s) := by
          intro s hs
          have f406 := hs.at_ c3
          have y407 := q39 _ hs
          have f409 := q65 _ y407
          have y410 := y407.x H34.1 t45 e79 (by decide)
          have y411 := y410.xt H78.1 t101 r80 e95 (by decide)
          have y412 := y411.x H94.1 t124 e116 (by decide)
          have y413 := q147 _ y412
          have y415 := q166 _ y413
          have y417 := q197 _ y415
          have y419 := y417.x H192.1 t203 e217 (by decide)
          have y420 := q245 _ y419
          have y422 := y420.x H240.1 t273 e258 (by decide)
          have y423 := y422.x H257.1 t274 e264 (by decide)
          have y424 := q294 _ y423
          rw [h272] at y424
          have y426 := q327 _ y424
          rw [dpY_n (by omega)] at y426
          have y428 := q355 _ y426
          have y430 := y428.x H350.1 t361 e379 (by decide)
          have y431 := q399 _ y430
          refine y431.eq ?_
          all_goals try rw [show chY (d + 1) s = ch2Y (eY d) (cY d) (chnY (opY (d + 1)) s) from rfl]
          all_goals try first | rw [cY_z (show d = 0 from by omega)] | rw [cY_s (show 1 ≤ d from by omega)]
          try unfold ch2Y
          repeat (split <;> try (exfalso; omega))
          try unfold tkY
          repeat (split <;> try (exfalso; omega))
          try unfold dpY
          repeat (split <;> try (exfalso; omega))
          all_goals rfl
        exact ⟨_, rfl, H394, X404, h397, (R405.mo (by omega) (by omega) (by omega)), (by omega), S433⟩
      · have h434 : 1 ≤ x329.toInt := by have hq := (q325 (by omega)).2; rw [c331] at hq; omega
        have h435 := (q325 (by omega)).1
        refine k_if_eq (fun h436 => by exfalso; omega) (fun h436 => ?_)
        refine k_nil ?_
        refine hB _ _ _ _ (kgoC (is := KX7_readChoice_124) rfl ?_)
        refine k_aload_n rfl ?_
        refine k_iconst (m := 1) rfl (fun x437 h438 => ?_)
        refine k_iconst (m := (-1)) rfl (fun x439 h440 => ?_)
        have R441 : RdC p0 none (-11) (17 + 8 * (d : Int)) (-997) σ0 σ317 := R308.tr ⟨R322.1, R322.2⟩ (by omega) (by omega) (by omega) (by omega)
        have X442 : ExC [0, 1, 2, 60, 61, 62, 63, 64, 65, 66, 67, 68, 69, 70, 72, 73, 74, 75, 76, 242, 243, 244, 999] σ0 σ317 := X315.tr (e321.mo (by decide))
        refine k_inv (P := P_X7_opened) (Q := Q_X7_opened) rfl rfl rfl rfl (Nat.le_of_ble_eq_true rfl) (t334.rc (by decide)) ⟨_, _, _, rfl, H320, t334, (rd_cd.st H0 h_0_0 X442 R441.1 (by decide)), (R441.2.2.2.1 rd_at), (rd_bg.st H0 h_0_0 X442 R441 (by decide) (by omega) (by omega) (by omega)), (by omega)⟩ (fun w443 σ444 q445 => ?_)
        obtain ⟨a446, rfl, H447, e448, h450, R449, q451, q452⟩ := q445
        have c453 := (t334.mi e448 (by decide)).trans c328
        have c454 := (t334.mi e448 (by decide)).trans c331
        have z455 := congrArg Int32.toInt c453
        have z456 := congrArg Int32.toInt c454
        refine k_st (st' := [.inr (.inr (some a446)), .inr (.inr (some a75))]) rfl ?_
        have z457 := R441.1.1
        have R458 : RdC p0 none (-10) (18 + 8 * (d : Int)) (-996) σ0 σ444 := R441.tr ⟨R449.1, R449.2⟩ (by omega) (by omega) (by omega) (by omega)
        have z459 := R458.2.2.1
        have z460 := R458.2.2.2.1 rd_at
        refine k_goto ?_
        refine hB _ _ _ _ (kgoC (is := KX7_readChoice_140) rfl ?_)
        have t461 := t260.x e264
        have t462 := t461.x e291
        have t463 := t462.x e321
        have t464 := t463.x e448
        refine k_putR kp74 H447 t464 fk74 (rf74 h450) (fun σ465 H466 e467 c468 => ?_)
        refine k_aload_n rfl ?_
        refine k_aload rfl ?_
        have t469 := t334.x e448
        have t470 := t469.x e467
        have t471 := t464.x e467
        have R472 : RdC p0 none (-10) (18 + 8 * (d : Int)) (-996) σ0 σ465 := R458.tr ⟨(e467.gw H447.1 (by decide)), (e467.cou (u := 0) H447.1 t469 (by decide) (by rw [e467.cn (by decide)]; omega))⟩ (by omega) (by omega) (by omega) (by omega)
        have c473 := (t469.mi e467 (by decide)).trans c454
        have X474 : ExC [0, 1, 2, 60, 61, 62, 63, 64, 65, 66, 67, 68, 69, 70, 72, 73, 74, 75, 76, 242, 243, 244, 999] σ0 σ444 := X442.tr (e448.mo (by decide))
        have X475 : ExC [0, 1, 2, 60, 61, 62, 63, 64, 65, 66, 67, 68, 69, 70, 72, 73, 74, 75, 76, 242, 243, 244, 999] σ0 σ465 := X474.tr (e467.mo (by decide))
        have c476 := (t469.mi e467 (by decide)).trans c453
        have z477 := congrArg Int32.toInt c476
        have z478 := congrArg Int32.toInt c473
        refine k_inv (P := P_X7_put) (Q := Q_X7_put) rfl rfl rfl rfl (Nat.le_of_ble_eq_true rfl) (t470.rc (by decide)) ⟨_, _, rfl, H466, t470, t471, (rd_cd.st H0 h_0_0 X475 R472.1 (by decide)), (R472.2.2.2.1 rd_at), (rd_bg.st H0 h_0_0 X475 R472 (by decide) (by omega) (by omega) (by omega))⟩ (fun w479 σ480 q481 => ?_)
        obtain ⟨a482, rfl, H483, e484, h486, R485, q487, q488⟩ := q481
        have c489 := (t470.mi e484 (by decide)).trans c476
        have c490 := (t470.mi e484 (by decide)).trans c473
        have z491 := congrArg Int32.toInt c489
        have z492 := congrArg Int32.toInt c490
        refine k_st (st' := [.inr (.inr (some a482))]) rfl ?_
        refine k_areturn ?_
        have X493 : ExC [0, 1, 2, 60, 61, 62, 63, 64, 65, 66, 67, 68, 69, 70, 72, 73, 74, 75, 76, 242, 243, 244, 999] σ0 σ480 := X475.tr (e484.mo (by decide))
        have R494 : RdC p0 none (-9) (19 + 8 * (d : Int)) (-995) σ0 σ480 := R472.tr ⟨R485.1, R485.2⟩ (by omega) (by omega) (by omega) (by omega)
        have S522 : ∀ s, ReC σ0 p0 s → ReC σ480 p0 (chY (d + 1) s) := by
          intro s hs
          have f495 := hs.at_ c3
          have y496 := q39 _ hs
          have f498 := q65 _ y496
          have y499 := y496.x H34.1 t45 e79 (by decide)
          have y500 := y499.xt H78.1 t101 r80 e95 (by decide)
          have y501 := y500.x H94.1 t124 e116 (by decide)
          have y502 := q147 _ y501
          have y504 := q166 _ y502
          have y506 := q197 _ y504
          have y508 := y506.x H192.1 t203 e217 (by decide)
          have y509 := q245 _ y508
          have y511 := y509.x H240.1 t273 e258 (by decide)
          have y512 := y511.x H257.1 t274 e264 (by decide)
          have y513 := q294 _ y512
          rw [h272] at y513
          have y515 := q327 _ y513
          rw [show x313.toInt = 21 from by omega] at y515
          rw [dpY_z (by omega)] at y515
          have y517 := q452 _ y515
          have y519 := y517.x H447.1 t469 e467 (by decide)
          have y520 := q488 _ y519
          refine y520.eq ?_
          all_goals try rw [show chY (d + 1) s = ch2Y (eY d) (cY d) (chnY (opY (d + 1)) s) from rfl]
          all_goals try first | rw [cY_z (show d = 0 from by omega)] | rw [cY_s (show 1 ≤ d from by omega)]
          try unfold ch2Y
          repeat (split <;> try (exfalso; omega))
          try unfold tkY
          repeat (split <;> try (exfalso; omega))
          try unfold dpY
          repeat (split <;> try (exfalso; omega))
          all_goals rfl
        exact ⟨_, rfl, H483, X493, h486, ((R494.ft (0) (by rw [c490]; omega)).mo (by omega) (by omega) (by omega)), (by omega), S522⟩
    · refine k_nil ?_
      refine hB _ _ _ _ (kgoC (is := KX7_readChoice_32) rfl ?_)
      refine k_aload rfl ?_
      refine k_areturn ?_
      have S527 : ∀ s, ReC σ0 p0 s → ReC σ31 p0 (chY (d + 1) s) := by
        intro s hs
        have f523 := hs.at_ c3
        have y524 := q39 _ hs
        have f526 := q65 _ y524
        refine y524.eq ?_
        all_goals try rw [show chY (d + 1) s = ch2Y (eY d) (cY d) (chnY (opY (d + 1)) s) from rfl]
        all_goals try first | rw [cY_z (show d = 0 from by omega)] | rw [cY_s (show 1 ≤ d from by omega)]
        try unfold ch2Y
        repeat (split <;> try (exfalso; omega))
        try unfold tkY
        repeat (split <;> try (exfalso; omega))
        try unfold dpY
        repeat (split <;> try (exfalso; omega))
        all_goals rfl
      exact ⟨_, rfl, H34, X57, h37, (R54.mo (by omega) (by omega) (by omega)), (by omega), S527⟩
theorem lg_X7_readChoice (d : Nat) : ∀ (As : List AvC) (σ : CsC), (P_X7_readChoice (d + 1)) As σ → lgC As ≤ rX7_readChoice.2.2.1 := by
  rintro As σ ⟨p0, p1, rfl, -⟩
  exact Nat.le_of_ble_eq_true rfl
theorem s_X7_readChoice (l : Launch) (d : Nat) (h_X7_readChain : CMetC l (13 * (d + 1) + 34) 167 (P_X7_readChain (d + 1)) (Q_X7_readChain (d + 1))) (h_X7_readExp : CMetC l (13 * d + 36) 164 (P_X7_readExp d) (Q_X7_readExp d)) (h_X7_readChoice : CMetC l (13 * d + 35) 166 (P_X7_readChoice d) (Q_X7_readChoice d)) : CMetC l (13 * (d + 1) + 35) 166 (P_X7_readChoice (d + 1)) (Q_X7_readChoice (d + 1)) :=
  CMetC.of KX7_readChoice [(234, P_Jx4a65c_size_8abf5, Q_Jx4a65c_size_8abf5), (167, (P_X7_readChain (d + 1)), (Q_X7_readChain (d + 1))), (125, P_X7_code, Q_X7_code), (17, P_X1_init, Q_X1_init), (163, P_X7_putMark, Q_X7_putMark), (128, P_X7_accept, Q_X7_accept), (164, (P_X7_readExp d), (Q_X7_readExp d)), (129, P_X7_expect, Q_X7_expect), (131, P_X7_isTooDeep, Q_X7_isTooDeep), (166, (P_X7_readChoice d), (Q_X7_readChoice d)), (161, P_X7_put, Q_X7_put), (162, P_X7_opened, Q_X7_opened)] hX7_readChoice (by decide) (by omega) okX7_readChoice (cc1C (m_Jx4a65c_size_8abf5 l) (by omega) (cc1C h_X7_readChain (by omega) (cc1C (m_X7_code l) (by omega) (cc1C (m_X1_init l) (by omega) (cc1C (m_X7_putMark l) (by omega) (cc1C (m_X7_accept l) (by omega) (cc1C h_X7_readExp (by omega) (cc1C (m_X7_expect l) (by omega) (cc1C (m_X7_isTooDeep l) (by omega) (cc1C h_X7_readChoice (by omega) (cc1C (m_X7_put l) (by omega) (cc1C (m_X7_opened l) (by omega) cc0C)))))))))))) (lg_X7_readChoice d) (b_X7_readChoice d)

set_option maxRecDepth 100000 in
set_option maxHeartbeats 4000000 in
theorem b_X7_readAssignment (d : Nat) : TbC KX7_readAssignment [(126, P_X7_codeBehind, Q_X7_codeBehind), (226, P_X11_operatorOf, Q_X11_operatorOf), (162, P_X7_opened, Q_X7_opened), (140, P_X7_meant, Q_X7_meant), (128, P_X7_accept, Q_X7_accept), (164, (P_X7_readExp d), (Q_X7_readExp d)), (161, P_X7_put, Q_X7_put), (163, P_X7_putMark, Q_X7_putMark)] (P_X7_readAssignment (d + 1)) (Q_X7_readAssignment (d + 1)) := by
  · rintro As σ0 ⟨p0, p1, rfl, H0, h_0_0, h_1_0, h_1_1, rd_cd, rd_at, rd_bl, rd_lv, rd_tk, rd_dp⟩ hgr G hB hW
    change G 0 [(0, .inr (.inr (some p0))), (1, .inl p1)] [] σ0
    obtain ⟨x1, e2, c3, h4, h5⟩ := cg242 H0.1 h_0_0
    obtain ⟨x6, e7, c8, h9, h10⟩ := cg243 H0.1 h_0_0
    have z11 := congrArg Int32.toInt c3
    have z12 := congrArg Int32.toInt c8
    have h13 : x6.toInt = 0 := by rw [← c8]; exact rd_lv
    have rd_bg : BgC σ0 p0 (19 + 8 * (((d + 1) : Nat) : Int)) 1000000 := ⟨fun _ => rd_bl, fun z => absurd rd_lv z⟩
    refine hB _ _ _ _ (kgoC (is := KX7_readAssignment_0) rfl ?_)
    refine k_aload_n rfl ?_
    have R14 := (RdC.rf : RdC p0 none 0 0 0 σ0 σ0).nf (-1000) (-1000) (by rw [c8]; omega)
    refine k_inv (P := P_X7_codeBehind) (Q := Q_X7_codeBehind) rfl rfl rfl rfl (Nat.le_of_ble_eq_true rfl) (h_0_0.rc (by decide)) ⟨_, rfl, H0, h_0_0, (rd_cd.st H0 h_0_0 (ExC.rf : ExC [0, 1, 2, 60, 61, 62, 63, 64, 65, 66, 67, 68, 69, 70, 72, 73, 74, 75, 76, 242, 243, 244, 999] σ0 σ0) R14.1 (by decide))⟩ (fun w15 σ16 q17 => ?_)
    obtain ⟨x18, rfl, rfl, q19, q20, q21⟩ := q17
    refine k_st (st' := [.inl x18]) rfl ?_
    have z22 := R14.2.2.1
    have z23 := R14.2.2.2.1 rd_at
    refine k_istore_n (ls' := [(2, .inl x18), (0, .inr (.inr (some p0))), (1, .inl p1)]) rfl ?_
    refine k_aload_n rfl ?_
    refine k_bipush (m := 9) rfl (fun x24 h25 => ?_)
    refine k_iload_n rfl ?_
    refine k_stat (P := P_X11_operatorOf) (Q := Q_X11_operatorOf) rfl rfl (Nat.le_of_ble_eq_true rfl) rfl rfl (Nat.le_of_ble_eq_true rfl) ⟨_, rfl, H0⟩ (fun w26 σ27 q28 => ?_)
    obtain ⟨x29, rfl, rfl⟩ := q28
    refine k_st (st' := [.inl x29, .inl x24, .inr (.inr (some p0))]) rfl ?_
    refine k_inv (P := P_X7_opened) (Q := Q_X7_opened) rfl rfl rfl rfl (Nat.le_of_ble_eq_true rfl) (h_0_0.rc (by decide)) ⟨_, _, _, rfl, H0, h_0_0, (rd_cd.st H0 h_0_0 (ExC.rf : ExC [0, 1, 2, 60, 61, 62, 63, 64, 65, 66, 67, 68, 69, 70, 72, 73, 74, 75, 76, 242, 243, 244, 999] σ0 σ0) R14.1 (by decide)), (R14.2.2.2.1 rd_at), (rd_bg.stn H0 h_0_0 (ExC.rf : ExC [0, 1, 2, 60, 61, 62, 63, 64, 65, 66, 67, 68, 69, 70, 72, 73, 74, 75, 76, 242, 243, 244, 999] σ0 σ0) R14 (by decide) (by rw [c8]; omega) (by omega)), (by omega)⟩ (fun w30 σ31 q32 => ?_)
    obtain ⟨a33, rfl, H34, e35, h37, R36, q38, q39⟩ := q32
    have c40 := (h_0_0.mi e35 (by decide)).trans c3
    have c41 := (h_0_0.mi e35 (by decide)).trans c8
    have z42 := congrArg Int32.toInt c40
    have z43 := congrArg Int32.toInt c41
    refine k_st (st' := [.inr (.inr (some a33))]) rfl ?_
    have z44 := R14.1.1
    have R45 : RdC p0 none (1) (1) (-999) σ0 σ31 := R14.tr ⟨R36.1, R36.2⟩ (by omega) (by omega) (by omega) (by omega)
    have R46 := R45.nf (-1000) (-1000) (by rw [c41]; omega)
    have z47 := R46.2.2.1
    have z48 := R46.2.2.2.1 rd_at
    refine k_astore_n (ls' := [(3, .inr (.inr (some a33))), (2, .inl x18), (0, .inr (.inr (some p0))), (1, .inl p1)]) rfl ?_
    refine k_aload_n rfl ?_
    refine k_aload_n rfl ?_
    refine k_aload_n rfl ?_
    have t49 := h_0_0.x e35
    refine k_get kg242 t49 (congrArg (Sum.inl : Int32 → AvC) c40) ?_
    refine k_inv (P := P_X7_meant) (Q := Q_X7_meant) rfl rfl rfl rfl (Nat.le_of_ble_eq_true rfl) (t49.rc (by decide)) ⟨_, _, rfl, H34, t49, (by omega), (by omega)⟩ (fun w50 σ51 q52 => ?_)
    obtain ⟨x53, rfl, H54, e55, h56⟩ := q52
    have c57 := (t49.mi e55 (by decide)).trans c40
    have c58 := (t49.mi e55 (by decide)).trans c41
    have z59 := congrArg Int32.toInt c57
    have z60 := congrArg Int32.toInt c58
    refine k_st (st' := [.inl x53, .inr (.inr (some a33))]) rfl ?_
    have t61 := h37.x e55
    refine k_putI kp67 H54 t61 (Or.inl fk67) (tiC x53).1 (tiC x53).2 (fun σ62 H63 e64 c65 => ?_)
    refine k_iload_n rfl ?_
    refine k_bipush (m := 8) rfl (fun x66 h67 => ?_)
    refine k_ic_eq (fun h68 => ?_) (fun h68 => ?_)
    · refine hB _ _ _ _ (kgoC (is := KX7_readAssignment_56) rfl ?_)
      refine k_aload_n rfl ?_
      have t69 := t49.x e55
      have t70 := t69.x e64
      have R71 : RdC p0 none (1) (1) (-1000) σ0 σ51 := R46.tr ⟨(e55.gw H34.1 (by decide)), (e55.cou (u := 0) H34.1 t49 (by decide) (by rw [e55.cn (by decide)]; omega))⟩ (by omega) (by omega) (by omega) (by omega)
      have R72 : RdC p0 none (1) (1) (-1000) σ0 σ62 := R71.tr ⟨(e64.gw H54.1 (by decide)), (e64.cou (u := 0) H54.1 t69 (by decide) (by rw [e64.cn (by decide)]; omega))⟩ (by omega) (by omega) (by omega) (by omega)
      have c73 := (t69.mi e64 (by decide)).trans c58
      have R74 := R72.nf (-1000) (-1000) (by rw [c73]; omega)
      have X75 : ExC [0, 1, 2, 60, 61, 62, 63, 64, 65, 66, 67, 68, 69, 70, 72, 73, 74, 75, 76, 242, 243, 244, 999] σ0 σ31 := ExC.rf.tr (e35.mo (by decide))
      have X76 : ExC [0, 1, 2, 60, 61, 62, 63, 64, 65, 66, 67, 68, 69, 70, 72, 73, 74, 75, 76, 242, 243, 244, 999] σ0 σ51 := X75.tr (e55.mo (by decide))
      have X77 : ExC [0, 1, 2, 60, 61, 62, 63, 64, 65, 66, 67, 68, 69, 70, 72, 73, 74, 75, 76, 242, 243, 244, 999] σ0 σ62 := X76.tr (e64.mo (by decide))
      have c78 := (t69.mi e64 (by decide)).trans c57
      have z79 := congrArg Int32.toInt c78
      have z80 := congrArg Int32.toInt c73
      refine k_inv (P := P_X7_accept) (Q := Q_X7_accept) rfl rfl rfl rfl (Nat.le_of_ble_eq_true rfl) (t70.rc (by decide)) ⟨_, rfl, H63, t70, (rd_cd.st H0 h_0_0 X77 R74.1 (by decide)), (R74.2.2.2.1 rd_at), (rd_bg.stn H0 h_0_0 X77 R74 (by decide) (by rw [c73]; omega) (by omega)), (by have ct := R74.2.2.1; rw [c73, c78, ct]; omega)⟩ (fun w81 σ82 q83 => ?_)
      obtain ⟨rfl, H84, e85, R86, q87, q88⟩ := q83
      have t94 := t70.x e85
      obtain ⟨x89, e90, c91, h92, h93⟩ := cg242 H84.1 t94
      obtain ⟨x95, e96, c97, h98, h99⟩ := cg243 H84.1 t94
      have z100 := congrArg Int32.toInt c91
      have z101 := congrArg Int32.toInt c97
      refine k_st (st' := []) rfl ?_
      have R102 : RdC p0 none (-7) (1) (-1000) σ0 σ82 := R74.tr ⟨R86.1, R86.2⟩ (by omega) (by omega) (by omega) (by omega)
      have z103 := R102.2.2.1
      have z104 := R102.2.2.2.1 rd_at
      refine k_aload_n rfl ?_
      have X105 : ExC [0, 1, 2, 60, 61, 62, 63, 64, 65, 66, 67, 68, 69, 70, 72, 73, 74, 75, 76, 242, 243, 244, 999] σ0 σ82 := X77.tr (e85.mo (by decide))
      refine k_inv (P := P_X7_accept) (Q := Q_X7_accept) rfl rfl rfl rfl (Nat.le_of_ble_eq_true rfl) (t94.rc (by decide)) ⟨_, rfl, H84, t94, (rd_cd.st H0 h_0_0 X105 R102.1 (by decide)), (R102.2.2.2.1 rd_at), (rd_bg.st H0 h_0_0 X105 R102 (by decide) (by omega) (by omega) (by omega)), (by have ct := R102.2.2.1; rw [c97, c91, ct]; omega)⟩ (fun w106 σ107 q108 => ?_)
      obtain ⟨rfl, H109, e110, R111, q112, q113⟩ := q108
      have t119 := t94.x e110
      obtain ⟨x114, e115, c116, h117, h118⟩ := cg242 H109.1 t119
      obtain ⟨x120, e121, c122, h123, h124⟩ := cg243 H109.1 t119
      have z125 := congrArg Int32.toInt c116
      have z126 := congrArg Int32.toInt c122
      refine k_st (st' := []) rfl ?_
      have R127 : RdC p0 none (-15) (1) (-1000) σ0 σ107 := R102.tr ⟨R111.1, R111.2⟩ (by omega) (by omega) (by omega) (by omega)
      have z128 := R127.2.2.1
      have z129 := R127.2.2.2.1 rd_at
      refine k_aload_n rfl ?_
      refine k_aload_n rfl ?_
      refine k_iload_n rfl ?_
      refine k_iconst (m := 1) rfl (fun x130 h131 => ?_)
      refine k_iadd (by omega) (by omega) (fun x132 h133 => ?_)
      have X134 : ExC [0, 1, 2, 60, 61, 62, 63, 64, 65, 66, 67, 68, 69, 70, 72, 73, 74, 75, 76, 242, 243, 244, 999] σ0 σ107 := X105.tr (e110.mo (by decide))
      refine k_inv (P := (P_X7_readExp d)) (Q := (Q_X7_readExp d)) rfl rfl rfl rfl (Nat.le_of_ble_eq_true rfl) (t119.rc (by decide)) ⟨_, _, rfl, H109, t119, (by omega), (by omega), (rd_cd.st H0 h_0_0 X134 R127.1 (by decide)), (R127.2.2.2.1 rd_at), (rd_bg.st H0 h_0_0 X134 R127 (by decide) (by omega) (by omega) (by omega)), (by omega)⟩ (fun w135 σ136 q137 => ?_)
      obtain ⟨a138, rfl, H139, e140, h142, R141, q143, q144⟩ := q137
      have t150 := t119.x e140
      obtain ⟨x145, e146, c147, h148, h149⟩ := cg242 H139.1 t150
      obtain ⟨x151, e152, c153, h154, h155⟩ := cg243 H139.1 t150
      have z156 := congrArg Int32.toInt c147
      have z157 := congrArg Int32.toInt c153
      refine k_st (st' := [.inr (.inr (some a138)), .inr (.inr (some a33))]) rfl ?_
      have z158 := R127.1.1
      have R159 : RdC p0 none (-15) (5 + 8 * (d : Int)) (-999) σ0 σ136 := R127.tr ⟨R141.1, R141.2⟩ (by omega) (by omega) (by omega) (by omega)
      have z160 := R159.2.2.1
      have z161 := R159.2.2.2.1 rd_at
      have t167 := t61.x e64
      have t168 := t167.x e85
      have t169 := t168.x e110
      have t170 := t169.x e140
      refine k_p73 H139 t170 h142 (fun σ162 H163 e164 g165 c166 => ?_)
      refine k_aload_n rfl ?_
      refine k_aload_n rfl ?_
      have t171 := t150.x e164
      have t172 := t170.x e164
      have R173 : RdC p0 none (-15) (5 + 8 * (d : Int)) (-999) σ0 σ162 := R159.tr ⟨g165, (e164.cou (u := 0) H139.1 t150 (by decide) (by rw [e164.cn (by decide)]; omega))⟩ (by omega) (by omega) (by omega) (by omega)
      have c174 := (t150.mi e164 (by decide)).trans c153
      have X175 : ExC [0, 1, 2, 60, 61, 62, 63, 64, 65, 66, 67, 68, 69, 70, 72, 73, 74, 75, 76, 242, 243, 244, 999] σ0 σ136 := X134.tr (e140.mo (by decide))
      have X176 : ExC [0, 1, 2, 60, 61, 62, 63, 64, 65, 66, 67, 68, 69, 70, 72, 73, 74, 75, 76, 242, 243, 244, 999] σ0 σ162 := X175.tr (e164.mo (by decide))
      have c177 := (t150.mi e164 (by decide)).trans c147
      have z178 := congrArg Int32.toInt c177
      have z179 := congrArg Int32.toInt c174
      refine k_inv (P := P_X7_put) (Q := Q_X7_put) rfl rfl rfl rfl (Nat.le_of_ble_eq_true rfl) (t171.rc (by decide)) ⟨_, _, rfl, H163, t171, t172, (rd_cd.st H0 h_0_0 X176 R173.1 (by decide)), (R173.2.2.2.1 rd_at), (rd_bg.st H0 h_0_0 X176 R173 (by decide) (by omega) (by omega) (by omega))⟩ (fun w180 σ181 q182 => ?_)
      obtain ⟨a183, rfl, H184, e185, h187, R186, q188, q189⟩ := q182
      have c190 := (t171.mi e185 (by decide)).trans c177
      have c191 := (t171.mi e185 (by decide)).trans c174
      have z192 := congrArg Int32.toInt c190
      have z193 := congrArg Int32.toInt c191
      refine k_st (st' := [.inr (.inr (some a183))]) rfl ?_
      refine k_areturn ?_
      have X194 : ExC [0, 1, 2, 60, 61, 62, 63, 64, 65, 66, 67, 68, 69, 70, 72, 73, 74, 75, 76, 242, 243, 244, 999] σ0 σ181 := X176.tr (e185.mo (by decide))
      have R195 : RdC p0 none (-14) (6 + 8 * (d : Int)) (-998) σ0 σ181 := R173.tr ⟨R186.1, R186.2⟩ (by omega) (by omega) (by omega) (by omega)
      have S211 : ∀ s, ReC σ0 p0 s → ReC σ181 p0 (asgY (eY ((d + 1) - 1)) s) := by
        intro s hs
        have f196 := q21 _ hs
        have y197 := q39 _ hs
        have f199 := y197.at_ c40
        have y200 := y197.x H34.1 t49 e55 (by decide)
        have y201 := y200.x H54.1 t69 e64 (by decide)
        have y202 := q88 _ y201
        have y204 := q113 _ y202
        have y206 := q144 _ y204
        have y208 := y206.x H139.1 t150 e164 (by decide)
        have y209 := q189 _ y208
        refine y209.eq ?_
        try unfold asgY
        repeat (split <;> try (exfalso; omega))
        try unfold tkY
        repeat (split <;> try (exfalso; omega))
        try unfold dpY
        repeat (split <;> try (exfalso; omega))
        all_goals rfl
      exact ⟨_, rfl, H184, X194, h187, (R195.mo (by omega) (by omega) (by omega)), (by omega), S211⟩
    · refine k_nil ?_
      refine hB _ _ _ _ (kgoC (is := KX7_readAssignment_34) rfl ?_)
      refine k_aload_n rfl ?_
      refine k_aload_n rfl ?_
      refine k_bipush (m := 14) rfl (fun x212 h213 => ?_)
      refine k_iload_n rfl ?_
      have t214 := t49.x e55
      have t215 := t214.x e64
      have R216 : RdC p0 none (1) (1) (-1000) σ0 σ51 := R46.tr ⟨(e55.gw H34.1 (by decide)), (e55.cou (u := 0) H34.1 t49 (by decide) (by rw [e55.cn (by decide)]; omega))⟩ (by omega) (by omega) (by omega) (by omega)
      have R217 : RdC p0 none (1) (1) (-1000) σ0 σ62 := R216.tr ⟨(e64.gw H54.1 (by decide)), (e64.cou (u := 0) H54.1 t214 (by decide) (by rw [e64.cn (by decide)]; omega))⟩ (by omega) (by omega) (by omega) (by omega)
      have c218 := (t214.mi e64 (by decide)).trans c58
      have R219 := R217.nf (-1000) (-1000) (by rw [c218]; omega)
      have X220 : ExC [0, 1, 2, 60, 61, 62, 63, 64, 65, 66, 67, 68, 69, 70, 72, 73, 74, 75, 76, 242, 243, 244, 999] σ0 σ31 := ExC.rf.tr (e35.mo (by decide))
      have X221 : ExC [0, 1, 2, 60, 61, 62, 63, 64, 65, 66, 67, 68, 69, 70, 72, 73, 74, 75, 76, 242, 243, 244, 999] σ0 σ51 := X220.tr (e55.mo (by decide))
      have X222 : ExC [0, 1, 2, 60, 61, 62, 63, 64, 65, 66, 67, 68, 69, 70, 72, 73, 74, 75, 76, 242, 243, 244, 999] σ0 σ62 := X221.tr (e64.mo (by decide))
      have c223 := (t214.mi e64 (by decide)).trans c57
      have z224 := congrArg Int32.toInt c223
      have z225 := congrArg Int32.toInt c218
      refine k_inv (P := P_X7_putMark) (Q := Q_X7_putMark) rfl rfl rfl rfl (Nat.le_of_ble_eq_true rfl) (t215.rc (by decide)) ⟨_, _, _, rfl, H63, t215, (rd_cd.st H0 h_0_0 X222 R219.1 (by decide)), (R219.2.2.2.1 rd_at), (rd_bg.stn H0 h_0_0 X222 R219 (by decide) (by rw [c218]; omega) (by omega)), (by omega)⟩ (fun w226 σ227 q228 => ?_)
      obtain ⟨a229, rfl, H230, e231, h233, R232, q234, q235⟩ := q228
      have c236 := (t215.mi e231 (by decide)).trans c223
      have c237 := (t215.mi e231 (by decide)).trans c218
      have z238 := congrArg Int32.toInt c236
      have z239 := congrArg Int32.toInt c237
      refine k_st (st' := [.inr (.inr (some a229)), .inr (.inr (some a33))]) rfl ?_
      have z240 := R219.1.1
      have R241 : RdC p0 none (3) (3) (-998) σ0 σ227 := R219.tr ⟨R232.1, R232.2⟩ (by omega) (by omega) (by omega) (by omega)
      have R242 := R241.nf (-1000) (-1000) (by rw [c237]; omega)
      have z243 := R242.2.2.1
      have z244 := R242.2.2.2.1 rd_at
      have t245 := t61.x e64
      have t246 := t245.x e231
      refine k_putR kp76 H230 t246 fk76 (rf76 h233) (fun σ247 H248 e249 c250 => ?_)
      refine k_aload_n rfl ?_
      have t251 := t246.x e249
      refine k_get kg76 t251 (congrArg (fun z : Option Nat => (Sum.inr (Sum.inr z) : AvC)) c250) ?_
      refine k_aload_n rfl ?_
      obtain ⟨x254, e252, c253, h255, h256⟩ := cg67 H248.1 t251
      refine k_get kg67 t251 e252 ?_
      have t257 := h233.x e249
      refine k_putI kp67 H248 t257 (Or.inl fk67) (tiC x254).1 (tiC x254).2 (fun σ258 H259 e260 c261 => ?_)
      refine k_nil ?_
      refine hB _ _ _ _ (kgoC (is := KX7_readAssignment_56) rfl ?_)
      refine k_aload_n rfl ?_
      have t262 := t215.x e231
      have t263 := t262.x e249
      have t264 := t263.x e260
      have R265 : RdC p0 none (3) (3) (-1000) σ0 σ247 := R242.tr ⟨(e249.gw H230.1 (by decide)), (e249.cou (u := 0) H230.1 t262 (by decide) (by rw [e249.cn (by decide)]; omega))⟩ (by omega) (by omega) (by omega) (by omega)
      have R266 : RdC p0 none (3) (3) (-1000) σ0 σ258 := R265.tr ⟨(e260.gw H248.1 (by decide)), (e260.cou (u := 0) H248.1 t263 (by decide) (by rw [e260.cn (by decide)]; omega))⟩ (by omega) (by omega) (by omega) (by omega)
      have c267 := (t262.mi e249 (by decide)).trans c237
      have c268 := (t263.mi e260 (by decide)).trans c267
      have R269 := R266.nf (-1000) (-1000) (by rw [c268]; omega)
      have X270 : ExC [0, 1, 2, 60, 61, 62, 63, 64, 65, 66, 67, 68, 69, 70, 72, 73, 74, 75, 76, 242, 243, 244, 999] σ0 σ227 := X222.tr (e231.mo (by decide))
      have X271 : ExC [0, 1, 2, 60, 61, 62, 63, 64, 65, 66, 67, 68, 69, 70, 72, 73, 74, 75, 76, 242, 243, 244, 999] σ0 σ247 := X270.tr (e249.mo (by decide))
      have X272 : ExC [0, 1, 2, 60, 61, 62, 63, 64, 65, 66, 67, 68, 69, 70, 72, 73, 74, 75, 76, 242, 243, 244, 999] σ0 σ258 := X271.tr (e260.mo (by decide))
      have c273 := (t262.mi e249 (by decide)).trans c236
      have c274 := (t263.mi e260 (by decide)).trans c273
      have z275 := congrArg Int32.toInt c274
      have z276 := congrArg Int32.toInt c268
      refine k_inv (P := P_X7_accept) (Q := Q_X7_accept) rfl rfl rfl rfl (Nat.le_of_ble_eq_true rfl) (t264.rc (by decide)) ⟨_, rfl, H259, t264, (rd_cd.st H0 h_0_0 X272 R269.1 (by decide)), (R269.2.2.2.1 rd_at), (rd_bg.stn H0 h_0_0 X272 R269 (by decide) (by rw [c268]; omega) (by omega)), (by have ct := R269.2.2.1; rw [c268, c274, ct]; omega)⟩ (fun w277 σ278 q279 => ?_)
      obtain ⟨rfl, H280, e281, R282, q283, q284⟩ := q279
      have t290 := t264.x e281
      obtain ⟨x285, e286, c287, h288, h289⟩ := cg242 H280.1 t290
      obtain ⟨x291, e292, c293, h294, h295⟩ := cg243 H280.1 t290
      have z296 := congrArg Int32.toInt c287
      have z297 := congrArg Int32.toInt c293
      refine k_st (st' := []) rfl ?_
      have R298 : RdC p0 none (-5) (3) (-1000) σ0 σ278 := R269.tr ⟨R282.1, R282.2⟩ (by omega) (by omega) (by omega) (by omega)
      have z299 := R298.2.2.1
      have z300 := R298.2.2.2.1 rd_at
      refine k_aload_n rfl ?_
      have X301 : ExC [0, 1, 2, 60, 61, 62, 63, 64, 65, 66, 67, 68, 69, 70, 72, 73, 74, 75, 76, 242, 243, 244, 999] σ0 σ278 := X272.tr (e281.mo (by decide))
      refine k_inv (P := P_X7_accept) (Q := Q_X7_accept) rfl rfl rfl rfl (Nat.le_of_ble_eq_true rfl) (t290.rc (by decide)) ⟨_, rfl, H280, t290, (rd_cd.st H0 h_0_0 X301 R298.1 (by decide)), (R298.2.2.2.1 rd_at), (rd_bg.st H0 h_0_0 X301 R298 (by decide) (by omega) (by omega) (by omega)), (by have ct := R298.2.2.1; rw [c293, c287, ct]; omega)⟩ (fun w302 σ303 q304 => ?_)
      obtain ⟨rfl, H305, e306, R307, q308, q309⟩ := q304
      have t315 := t290.x e306
      obtain ⟨x310, e311, c312, h313, h314⟩ := cg242 H305.1 t315
      obtain ⟨x316, e317, c318, h319, h320⟩ := cg243 H305.1 t315
      have z321 := congrArg Int32.toInt c312
      have z322 := congrArg Int32.toInt c318
      refine k_st (st' := []) rfl ?_
      have R323 : RdC p0 none (-13) (3) (-1000) σ0 σ303 := R298.tr ⟨R307.1, R307.2⟩ (by omega) (by omega) (by omega) (by omega)
      have z324 := R323.2.2.1
      have z325 := R323.2.2.2.1 rd_at
      refine k_aload_n rfl ?_
      refine k_aload_n rfl ?_
      refine k_iload_n rfl ?_
      refine k_iconst (m := 1) rfl (fun x326 h327 => ?_)
      refine k_iadd (by omega) (by omega) (fun x328 h329 => ?_)
      have X330 : ExC [0, 1, 2, 60, 61, 62, 63, 64, 65, 66, 67, 68, 69, 70, 72, 73, 74, 75, 76, 242, 243, 244, 999] σ0 σ303 := X301.tr (e306.mo (by decide))
      refine k_inv (P := (P_X7_readExp d)) (Q := (Q_X7_readExp d)) rfl rfl rfl rfl (Nat.le_of_ble_eq_true rfl) (t315.rc (by decide)) ⟨_, _, rfl, H305, t315, (by omega), (by omega), (rd_cd.st H0 h_0_0 X330 R323.1 (by decide)), (R323.2.2.2.1 rd_at), (rd_bg.st H0 h_0_0 X330 R323 (by decide) (by omega) (by omega) (by omega)), (by omega)⟩ (fun w331 σ332 q333 => ?_)
      obtain ⟨a334, rfl, H335, e336, h338, R337, q339, q340⟩ := q333
      have t346 := t315.x e336
      obtain ⟨x341, e342, c343, h344, h345⟩ := cg242 H335.1 t346
      obtain ⟨x347, e348, c349, h350, h351⟩ := cg243 H335.1 t346
      have z352 := congrArg Int32.toInt c343
      have z353 := congrArg Int32.toInt c349
      refine k_st (st' := [.inr (.inr (some a334)), .inr (.inr (some a33))]) rfl ?_
      have z354 := R323.1.1
      have R355 : RdC p0 none (-13) (7 + 8 * (d : Int)) (-999) σ0 σ332 := R323.tr ⟨R337.1, R337.2⟩ (by omega) (by omega) (by omega) (by omega)
      have z356 := R355.2.2.1
      have z357 := R355.2.2.2.1 rd_at
      have t363 := t251.x e260
      have t364 := t363.x e281
      have t365 := t364.x e306
      have t366 := t365.x e336
      refine k_p73 H335 t366 h338 (fun σ358 H359 e360 g361 c362 => ?_)
      refine k_aload_n rfl ?_
      refine k_aload_n rfl ?_
      have t367 := t346.x e360
      have t368 := t366.x e360
      have R369 : RdC p0 none (-13) (7 + 8 * (d : Int)) (-999) σ0 σ358 := R355.tr ⟨g361, (e360.cou (u := 0) H335.1 t346 (by decide) (by rw [e360.cn (by decide)]; omega))⟩ (by omega) (by omega) (by omega) (by omega)
      have c370 := (t346.mi e360 (by decide)).trans c349
      have X371 : ExC [0, 1, 2, 60, 61, 62, 63, 64, 65, 66, 67, 68, 69, 70, 72, 73, 74, 75, 76, 242, 243, 244, 999] σ0 σ332 := X330.tr (e336.mo (by decide))
      have X372 : ExC [0, 1, 2, 60, 61, 62, 63, 64, 65, 66, 67, 68, 69, 70, 72, 73, 74, 75, 76, 242, 243, 244, 999] σ0 σ358 := X371.tr (e360.mo (by decide))
      have c373 := (t346.mi e360 (by decide)).trans c343
      have z374 := congrArg Int32.toInt c373
      have z375 := congrArg Int32.toInt c370
      refine k_inv (P := P_X7_put) (Q := Q_X7_put) rfl rfl rfl rfl (Nat.le_of_ble_eq_true rfl) (t367.rc (by decide)) ⟨_, _, rfl, H359, t367, t368, (rd_cd.st H0 h_0_0 X372 R369.1 (by decide)), (R369.2.2.2.1 rd_at), (rd_bg.st H0 h_0_0 X372 R369 (by decide) (by omega) (by omega) (by omega))⟩ (fun w376 σ377 q378 => ?_)
      obtain ⟨a379, rfl, H380, e381, h383, R382, q384, q385⟩ := q378
      have c386 := (t367.mi e381 (by decide)).trans c373
      have c387 := (t367.mi e381 (by decide)).trans c370
      have z388 := congrArg Int32.toInt c386
      have z389 := congrArg Int32.toInt c387
      refine k_st (st' := [.inr (.inr (some a379))]) rfl ?_
      refine k_areturn ?_
      have X390 : ExC [0, 1, 2, 60, 61, 62, 63, 64, 65, 66, 67, 68, 69, 70, 72, 73, 74, 75, 76, 242, 243, 244, 999] σ0 σ377 := X372.tr (e381.mo (by decide))
      have R391 : RdC p0 none (-12) (8 + 8 * (d : Int)) (-998) σ0 σ377 := R369.tr ⟨R382.1, R382.2⟩ (by omega) (by omega) (by omega) (by omega)
      have S411 : ∀ s, ReC σ0 p0 s → ReC σ377 p0 (asgY (eY ((d + 1) - 1)) s) := by
        intro s hs
        have f392 := q21 _ hs
        have y393 := q39 _ hs
        have f395 := y393.at_ c40
        have y396 := y393.x H34.1 t49 e55 (by decide)
        have y397 := y396.x H54.1 t214 e64 (by decide)
        have y398 := q235 _ y397
        have y400 := y398.x H230.1 t262 e249 (by decide)
        have y401 := y400.x H248.1 t263 e260 (by decide)
        have y402 := q284 _ y401
        have y404 := q309 _ y402
        have y406 := q340 _ y404
        have y408 := y406.x H335.1 t346 e360 (by decide)
        have y409 := q385 _ y408
        refine y409.eq ?_
        try unfold asgY
        repeat (split <;> try (exfalso; omega))
        try unfold tkY
        repeat (split <;> try (exfalso; omega))
        try unfold dpY
        repeat (split <;> try (exfalso; omega))
        all_goals rfl
      exact ⟨_, rfl, H380, X390, h383, (R391.mo (by omega) (by omega) (by omega)), (by omega), S411⟩
theorem lg_X7_readAssignment (d : Nat) : ∀ (As : List AvC) (σ : CsC), (P_X7_readAssignment (d + 1)) As σ → lgC As ≤ rX7_readAssignment.2.2.1 := by
  rintro As σ ⟨p0, p1, rfl, -⟩
  exact Nat.le_of_ble_eq_true rfl
theorem s_X7_readAssignment (l : Launch) (d : Nat) (h_X7_readExp : CMetC l (13 * d + 36) 164 (P_X7_readExp d) (Q_X7_readExp d)) : CMetC l (13 * (d + 1) + 35) 165 (P_X7_readAssignment (d + 1)) (Q_X7_readAssignment (d + 1)) :=
  CMetC.of KX7_readAssignment [(126, P_X7_codeBehind, Q_X7_codeBehind), (226, P_X11_operatorOf, Q_X11_operatorOf), (162, P_X7_opened, Q_X7_opened), (140, P_X7_meant, Q_X7_meant), (128, P_X7_accept, Q_X7_accept), (164, (P_X7_readExp d), (Q_X7_readExp d)), (161, P_X7_put, Q_X7_put), (163, P_X7_putMark, Q_X7_putMark)] hX7_readAssignment (by decide) (by omega) okX7_readAssignment (cc1C (m_X7_codeBehind l) (by omega) (cc1C (m_X11_operatorOf l) (by omega) (cc1C (m_X7_opened l) (by omega) (cc1C (m_X7_meant l) (by omega) (cc1C (m_X7_accept l) (by omega) (cc1C h_X7_readExp (by omega) (cc1C (m_X7_put l) (by omega) (cc1C (m_X7_putMark l) (by omega) cc0C)))))))) (lg_X7_readAssignment d) (b_X7_readAssignment d)

set_option maxRecDepth 100000 in
set_option maxHeartbeats 4000000 in
theorem b_X7_readExp (d : Nat) : TbC KX7_readExp [(131, P_X7_isTooDeep, Q_X7_isTooDeep), (125, P_X7_code, Q_X7_code), (166, (P_X7_readChoice d), (Q_X7_readChoice d)), (126, P_X7_codeBehind, Q_X7_codeBehind), (133, P_X7_isAssign, Q_X7_isAssign), (165, (P_X7_readAssignment d), (Q_X7_readAssignment d)), (162, P_X7_opened, Q_X7_opened)] (P_X7_readExp d) (Q_X7_readExp d) := by
  · rintro As σ0 ⟨p0, p1, rfl, H0, h_0_0, h_1_0, h_1_1, rd_cd, rd_at, rd_bg, rd_dp⟩ hgr G hB hW
    change G 0 [(0, .inr (.inr (some p0))), (1, .inl p1)] [] σ0
    obtain ⟨x1, e2, c3, h4, h5⟩ := cg242 H0.1 h_0_0
    obtain ⟨x6, e7, c8, h9, h10⟩ := cg243 H0.1 h_0_0
    have z11 := congrArg Int32.toInt c3
    have z12 := congrArg Int32.toInt c8
    refine hB _ _ _ _ (kgoC (is := KX7_readExp_0) rfl ?_)
    refine k_aload_n rfl ?_
    refine k_iload_n rfl ?_
    refine k_inv (P := P_X7_isTooDeep) (Q := Q_X7_isTooDeep) rfl rfl rfl rfl (Nat.le_of_ble_eq_true rfl) (h_0_0.rc (by decide)) ⟨_, _, rfl, H0, h_0_0, (rd_cd.st H0 h_0_0 (ExC.rf : ExC [0, 1, 2, 60, 61, 62, 63, 64, 65, 66, 67, 68, 69, 70, 72, 73, 74, 75, 76, 242, 243, 244, 999] σ0 σ0) (RdC.rf : RdC p0 none 0 0 0 σ0 σ0).1 (by decide)), ((RdC.rf : RdC p0 none 0 0 0 σ0 σ0).2.2.2.1 rd_at), (rd_bg.st H0 h_0_0 (ExC.rf : ExC [0, 1, 2, 60, 61, 62, 63, 64, 65, 66, 67, 68, 69, 70, 72, 73, 74, 75, 76, 242, 243, 244, 999] σ0 σ0) (RdC.rf : RdC p0 none 0 0 0 σ0 σ0) (by decide) (by omega) (by omega) (by omega))⟩ (fun w13 σ14 q15 => ?_)
    obtain ⟨x16, rfl, H17, e18, h20, h21, R19, q22, q23, q24⟩ := q15
    have c25 := (h_0_0.mi e18 (by decide)).trans c3
    have t31 := h_0_0.x e18
    obtain ⟨x26, e27, c28, h29, h30⟩ := cg243 H17.1 t31
    have z32 := congrArg Int32.toInt c25
    have z33 := congrArg Int32.toInt c28
    refine k_st (st' := [.inl x16]) rfl ?_
    rcases (by omega : x16.toInt = 0 ∨ x16.toInt = 1) with g34 | g34
    · have h35 := q23 (by omega)
      refine k_if_eq (fun h36 => ?_) (fun h36 => by exfalso; omega)
      refine hB _ _ _ _ (kgoC (is := KX7_readExp_15) rfl ?_)
      refine k_aload_n rfl ?_
      have R37 : RdC p0 none (0) (0) (0) σ0 σ14 := (RdC.rf : RdC p0 none 0 0 0 σ0 σ0).tr ⟨R19.1, R19.2⟩ (by omega) (by omega) (by omega) (by omega)
      have X38 : ExC [0, 1, 2, 60, 61, 62, 63, 64, 65, 66, 67, 68, 69, 70, 72, 73, 74, 75, 76, 242, 243, 244, 999] σ0 σ14 := ExC.rf.tr (e18.mo (by decide))
      refine k_inv (P := P_X7_code) (Q := Q_X7_code) rfl rfl rfl rfl (Nat.le_of_ble_eq_true rfl) (t31.rc (by decide)) ⟨_, rfl, H17, t31, (rd_cd.st H0 h_0_0 X38 R37.1 (by decide))⟩ (fun w39 σ40 q41 => ?_)
      obtain ⟨x42, rfl, rfl, q43, q44, q45, q46⟩ := q41
      refine k_st (st' := [.inl x42]) rfl ?_
      have z47 := R37.2.2.1
      have z48 := R37.2.2.2.1 rd_at
      refine k_bipush (m := 80) rfl (fun x49 h50 => ?_)
      refine k_ic_ne (fun h51 => ?_) (fun h51 => ?_)
      · refine hB _ _ _ _ (kgoC (is := KX7_readExp_42) rfl ?_)
        refine k_aload_n rfl ?_
        refine k_iload_n rfl ?_
        refine k_inv (P := (P_X7_readChoice d)) (Q := (Q_X7_readChoice d)) rfl rfl rfl rfl (Nat.le_of_ble_eq_true rfl) (t31.rc (by decide)) ⟨_, _, rfl, H17, t31, (by omega), (by omega), (rd_cd.st H0 h_0_0 X38 R37.1 (by decide)), (R37.2.2.2.1 rd_at), (rd_bg.st H0 h_0_0 X38 R37 (by decide) (by omega) (by omega) (by omega)), (by omega)⟩ (fun w52 σ53 q54 => ?_)
        obtain ⟨a55, rfl, H56, e57, h59, R58, q60, q61⟩ := q54
        have t67 := t31.x e57
        obtain ⟨x62, e63, c64, h65, h66⟩ := cg242 H56.1 t67
        obtain ⟨x68, e69, c70, h71, h72⟩ := cg243 H56.1 t67
        have z73 := congrArg Int32.toInt c64
        have z74 := congrArg Int32.toInt c70
        refine k_st (st' := [.inr (.inr (some a55))]) rfl ?_
        have z75 := R37.1.1
        have R76 : RdC p0 none (0) (19 + 8 * (d : Int)) (1) σ0 σ53 := R37.tr ⟨R58.1, R58.2⟩ (by omega) (by omega) (by omega) (by omega)
        have z77 := R76.2.2.1
        have z78 := R76.2.2.2.1 rd_at
        refine k_nil ?_
        refine hB _ _ _ _ (kgoC (is := KX7_readExp_47) rfl ?_)
        refine k_areturn ?_
        have X79 : ExC [0, 1, 2, 60, 61, 62, 63, 64, 65, 66, 67, 68, 69, 70, 72, 73, 74, 75, 76, 242, 243, 244, 999] σ0 σ53 := X38.tr (e57.mo (by decide))
        have S85 : ∀ s, ReC σ0 p0 s → ReC σ53 p0 (eY d s) := by
          intro s hs
          have y80 := q24 _ hs
          rw [dpY_n (by omega)] at y80
          have f82 := q46 _ y80
          have y83 := q61 _ y80
          refine y83.eq ?_
          all_goals try first | rw [eY_z (show d = 0 from by omega)] | rw [eY_s (show 1 ≤ d from by omega)]
          try unfold exY
          repeat (split <;> try (exfalso; omega))
          try unfold xpsY
          repeat (split <;> try (exfalso; omega))
          try unfold tkY
          repeat (split <;> try (exfalso; omega))
          try unfold dpY
          repeat (split <;> try (exfalso; omega))
          all_goals rfl
        exact ⟨_, rfl, H56, X79, h59, (R76.mo (by omega) (by omega) (by omega)), (by omega), S85⟩
      · have h86 : x26.toInt = 0 := by omega
        refine k_nil ?_
        refine hB _ _ _ _ (kgoC (is := KX7_readExp_24) rfl ?_)
        refine k_aload_n rfl ?_
        have R87 := R37.nf (-1000) (-1000) (by rw [c28]; omega)
        refine k_inv (P := P_X7_codeBehind) (Q := Q_X7_codeBehind) rfl rfl rfl rfl (Nat.le_of_ble_eq_true rfl) (t31.rc (by decide)) ⟨_, rfl, H17, t31, (rd_cd.st H0 h_0_0 X38 R87.1 (by decide))⟩ (fun w88 σ89 q90 => ?_)
        obtain ⟨x91, rfl, rfl, q92, q93, q94⟩ := q90
        refine k_st (st' := [.inl x91]) rfl ?_
        refine k_stat (P := P_X7_isAssign) (Q := Q_X7_isAssign) rfl rfl (Nat.le_of_ble_eq_true rfl) rfl rfl (Nat.le_of_ble_eq_true rfl) ⟨_, rfl, H17⟩ (fun w95 σ96 q97 => ?_)
        obtain ⟨x98, rfl, rfl, h99, h100, q101, q102⟩ := q97
        refine k_st (st' := [.inl x98]) rfl ?_
        rcases (by omega : x98.toInt = 0 ∨ x98.toInt = 1) with g103 | g103
        · refine k_if_eq (fun h104 => ?_) (fun h104 => by exfalso; omega)
          refine hB _ _ _ _ (kgoC (is := KX7_readExp_42) rfl ?_)
          refine k_aload_n rfl ?_
          refine k_iload_n rfl ?_
          refine k_inv (P := (P_X7_readChoice d)) (Q := (Q_X7_readChoice d)) rfl rfl rfl rfl (Nat.le_of_ble_eq_true rfl) (t31.rc (by decide)) ⟨_, _, rfl, H17, t31, (by omega), (by omega), (rd_cd.st H0 h_0_0 X38 R87.1 (by decide)), (R87.2.2.2.1 rd_at), (rd_bg.stn H0 h_0_0 X38 R87 (by decide) (by rw [c28]; omega) (by omega)), (by omega)⟩ (fun w105 σ106 q107 => ?_)
          obtain ⟨a108, rfl, H109, e110, h112, R111, q113, q114⟩ := q107
          have t120 := t31.x e110
          obtain ⟨x115, e116, c117, h118, h119⟩ := cg242 H109.1 t120
          obtain ⟨x121, e122, c123, h124, h125⟩ := cg243 H109.1 t120
          have z126 := congrArg Int32.toInt c117
          have z127 := congrArg Int32.toInt c123
          refine k_st (st' := [.inr (.inr (some a108))]) rfl ?_
          have z128 := R87.1.1
          have R129 : RdC p0 none (0) (19 + 8 * (d : Int)) (-999) σ0 σ106 := R87.tr ⟨R111.1, R111.2⟩ (by omega) (by omega) (by omega) (by omega)
          have z130 := R129.2.2.1
          have z131 := R129.2.2.2.1 rd_at
          refine k_nil ?_
          refine hB _ _ _ _ (kgoC (is := KX7_readExp_47) rfl ?_)
          refine k_areturn ?_
          have X132 : ExC [0, 1, 2, 60, 61, 62, 63, 64, 65, 66, 67, 68, 69, 70, 72, 73, 74, 75, 76, 242, 243, 244, 999] σ0 σ106 := X38.tr (e110.mo (by decide))
          have S139 : ∀ s, ReC σ0 p0 s → ReC σ106 p0 (eY d s) := by
            intro s hs
            have y133 := q24 _ hs
            rw [dpY_n (by omega)] at y133
            have f135 := q46 _ y133
            have f136 := q94 _ y133
            have y137 := q114 _ y133
            refine y137.eq ?_
            all_goals try first | rw [eY_z (show d = 0 from by omega)] | rw [eY_s (show 1 ≤ d from by omega)]
            try unfold exY
            repeat (split <;> try (exfalso; omega))
            try unfold xpsY
            repeat (split <;> try (exfalso; omega))
            try unfold tkY
            repeat (split <;> try (exfalso; omega))
            try unfold dpY
            repeat (split <;> try (exfalso; omega))
            all_goals rfl
          exact ⟨_, rfl, H109, X132, h112, (R129.mo (by omega) (by omega) (by omega)), (by omega), S139⟩
        · have h140 := q101 (by omega)
          refine k_if_eq (fun h141 => by exfalso; omega) (fun h141 => ?_)
          refine k_nil ?_
          refine hB _ _ _ _ (kgoC (is := KX7_readExp_34) rfl ?_)
          refine k_aload_n rfl ?_
          refine k_iload_n rfl ?_
          refine k_inv (P := (P_X7_readAssignment d)) (Q := (Q_X7_readAssignment d)) rfl rfl rfl rfl (Nat.le_of_ble_eq_true rfl) (t31.rc (by decide)) ⟨_, _, rfl, H17, t31, (by omega), (by omega), (rd_cd.st H0 h_0_0 X38 R87.1 (by decide)), (R87.2.2.2.1 rd_at), ((show BgC σ14 p0 (19 + 8 * (d : Int)) 0 from (rd_bg.stn H0 h_0_0 X38 R87 (by decide) (by rw [c28]; omega) (by omega))).1 (by rw [c28]; omega)), (by rw [c28]; omega), (by have ct := R87.2.2.1; rw [c28, c25, ct]; omega), (by omega)⟩ (fun w142 σ143 q144 => ?_)
          obtain ⟨a145, rfl, H146, e147, h149, R148, q150, q151⟩ := q144
          have t157 := t31.x e147
          obtain ⟨x152, e153, c154, h155, h156⟩ := cg242 H146.1 t157
          obtain ⟨x158, e159, c160, h161, h162⟩ := cg243 H146.1 t157
          have z163 := congrArg Int32.toInt c154
          have z164 := congrArg Int32.toInt c160
          refine k_st (st' := [.inr (.inr (some a145))]) rfl ?_
          have z165 := R87.1.1
          have R166 : RdC p0 none (0) (19 + 8 * (d : Int)) (-1000) σ0 σ143 := R87.tr ⟨R148.1, R148.2⟩ (by omega) (by omega) (by omega) (by omega)
          have z167 := R166.2.2.1
          have z168 := R166.2.2.2.1 rd_at
          refine k_goto ?_
          refine hB _ _ _ _ (kgoC (is := KX7_readExp_47) rfl ?_)
          refine k_areturn ?_
          have X169 : ExC [0, 1, 2, 60, 61, 62, 63, 64, 65, 66, 67, 68, 69, 70, 72, 73, 74, 75, 76, 242, 243, 244, 999] σ0 σ143 := X38.tr (e147.mo (by decide))
          have S176 : ∀ s, ReC σ0 p0 s → ReC σ143 p0 (eY d s) := by
            intro s hs
            have y170 := q24 _ hs
            rw [dpY_n (by omega)] at y170
            have f172 := q46 _ y170
            have f173 := q94 _ y170
            have y174 := q151 _ y170
            refine y174.eq ?_
            all_goals try first | rw [eY_z (show d = 0 from by omega)] | rw [eY_s (show 1 ≤ d from by omega)]
            try unfold exY
            repeat (split <;> try (exfalso; omega))
            try unfold xpsY
            repeat (split <;> try (exfalso; omega))
            try unfold tkY
            repeat (split <;> try (exfalso; omega))
            try unfold dpY
            repeat (split <;> try (exfalso; omega))
            all_goals rfl
          exact ⟨_, rfl, H146, X169, h149, (R166.mo (by omega) (by omega) (by omega)), (by omega), S176⟩
    · have h177 : 1 ≤ x26.toInt := by have hq := (q22 (by omega)).2; rw [c28] at hq; omega
      have h178 := (q22 (by omega)).1
      refine k_if_eq (fun h179 => by exfalso; omega) (fun h179 => ?_)
      refine k_nil ?_
      refine hB _ _ _ _ (kgoC (is := KX7_readExp_8) rfl ?_)
      refine k_aload_n rfl ?_
      refine k_iconst (m := 1) rfl (fun x180 h181 => ?_)
      refine k_iconst (m := (-1)) rfl (fun x182 h183 => ?_)
      have R184 : RdC p0 none (0) (0) (0) σ0 σ14 := (RdC.rf : RdC p0 none 0 0 0 σ0 σ0).tr ⟨R19.1, R19.2⟩ (by omega) (by omega) (by omega) (by omega)
      have X185 : ExC [0, 1, 2, 60, 61, 62, 63, 64, 65, 66, 67, 68, 69, 70, 72, 73, 74, 75, 76, 242, 243, 244, 999] σ0 σ14 := ExC.rf.tr (e18.mo (by decide))
      refine k_inv (P := P_X7_opened) (Q := Q_X7_opened) rfl rfl rfl rfl (Nat.le_of_ble_eq_true rfl) (t31.rc (by decide)) ⟨_, _, _, rfl, H17, t31, (rd_cd.st H0 h_0_0 X185 R184.1 (by decide)), (R184.2.2.2.1 rd_at), (rd_bg.st H0 h_0_0 X185 R184 (by decide) (by omega) (by omega) (by omega)), (by omega)⟩ (fun w186 σ187 q188 => ?_)
      obtain ⟨a189, rfl, H190, e191, h193, R192, q194, q195⟩ := q188
      have c196 := (t31.mi e191 (by decide)).trans c25
      have c197 := (t31.mi e191 (by decide)).trans c28
      have z198 := congrArg Int32.toInt c196
      have z199 := congrArg Int32.toInt c197
      refine k_st (st' := [.inr (.inr (some a189))]) rfl ?_
      have z200 := R184.1.1
      have R201 : RdC p0 none (1) (1) (1) σ0 σ187 := R184.tr ⟨R192.1, R192.2⟩ (by omega) (by omega) (by omega) (by omega)
      have z202 := R201.2.2.1
      have z203 := R201.2.2.2.1 rd_at
      refine k_areturn ?_
      have X204 : ExC [0, 1, 2, 60, 61, 62, 63, 64, 65, 66, 67, 68, 69, 70, 72, 73, 74, 75, 76, 242, 243, 244, 999] σ0 σ187 := X185.tr (e191.mo (by decide))
      have S209 : ∀ s, ReC σ0 p0 s → ReC σ187 p0 (eY d s) := by
        intro s hs
        have y205 := q24 _ hs
        rw [show p1.toInt = 21 from by omega] at y205
        rw [dpY_z (by omega)] at y205
        have y207 := q195 _ y205
        refine y207.eq ?_
        all_goals try first | rw [eY_z (show d = 0 from by omega)] | rw [eY_s (show 1 ≤ d from by omega)]
        try unfold exY
        repeat (split <;> try (exfalso; omega))
        try unfold xpsY
        repeat (split <;> try (exfalso; omega))
        try unfold tkY
        repeat (split <;> try (exfalso; omega))
        try unfold dpY
        repeat (split <;> try (exfalso; omega))
        all_goals rfl
      exact ⟨_, rfl, H190, X204, h193, ((R201.ft (0) (by rw [c197]; omega)).mo (by omega) (by omega) (by omega)), (by omega), S209⟩
theorem lg_X7_readExp (d : Nat) : ∀ (As : List AvC) (σ : CsC), (P_X7_readExp d) As σ → lgC As ≤ rX7_readExp.2.2.1 := by
  rintro As σ ⟨p0, p1, rfl, -⟩
  exact Nat.le_of_ble_eq_true rfl
theorem s_X7_readExp (l : Launch) (d : Nat) (h_X7_readChoice : CMetC l (13 * d + 35) 166 (P_X7_readChoice d) (Q_X7_readChoice d)) (h_X7_readAssignment : CMetC l (13 * d + 35) 165 (P_X7_readAssignment d) (Q_X7_readAssignment d)) : CMetC l (13 * d + 36) 164 (P_X7_readExp d) (Q_X7_readExp d) :=
  CMetC.of KX7_readExp [(131, P_X7_isTooDeep, Q_X7_isTooDeep), (125, P_X7_code, Q_X7_code), (166, (P_X7_readChoice d), (Q_X7_readChoice d)), (126, P_X7_codeBehind, Q_X7_codeBehind), (133, P_X7_isAssign, Q_X7_isAssign), (165, (P_X7_readAssignment d), (Q_X7_readAssignment d)), (162, P_X7_opened, Q_X7_opened)] hX7_readExp (by decide) (by omega) okX7_readExp (cc1C (m_X7_isTooDeep l) (by omega) (cc1C (m_X7_code l) (by omega) (cc1C h_X7_readChoice (by omega) (cc1C (m_X7_codeBehind l) (by omega) (cc1C (m_X7_isAssign l) (by omega) (cc1C h_X7_readAssignment (by omega) (cc1C (m_X7_opened l) (by omega) cc0C))))))) (lg_X7_readExp d) (b_X7_readExp d)

set_option maxRecDepth 100000 in
set_option maxHeartbeats 4000000 in
theorem b_X7_readChain (d : Nat) : TbC KX7_readChain [(170, (P_X7_readOperand d), (Q_X7_readOperand d)), (125, P_X7_code, Q_X7_code), (225, P_X11_strength, Q_X11_strength), (168, P_X7_waitingFor, Q_X7_waitingFor), (128, P_X7_accept, Q_X7_accept), (169, P_X7_closed, Q_X7_closed)] (P_X7_readChain d) (Q_X7_readChain d) := by
  · rintro As σ0 ⟨p0, p1, rfl, H0, h_0_0, h_1_0, h_1_1, rd_cd, rd_at, rd_bg, rd_dp⟩ hgr G hB hW
    change G 0 [(0, .inr (.inr (some p0))), (1, .inl p1)] [] σ0
    obtain ⟨x1, e2, c3, h4, h5⟩ := cg242 H0.1 h_0_0
    obtain ⟨x6, e7, c8, h9, h10⟩ := cg243 H0.1 h_0_0
    have z11 := congrArg Int32.toInt c3
    have z12 := congrArg Int32.toInt c8
    have L98 : ∀ (n98 : Nat), ∀ (σ13 : CsC) (v98_2 : Nat) (v98_3 : Option Nat) (gn98 : Nat), gn98 = n98 → HIC σ13 → ExC [0, 1, 2, 60, 61, 62, 63, 64, 65, 66, 67, 68, 69, 70, 72, 73, 74, 75, 76, 242, 243, 244, 999] σ0 σ13 → RdC p0 none ((0) - ((gn98 : Nat) : Int)) ((19 + 8 * (d : Int)) - ((gn98 : Nat) : Int)) ((1) - ((gn98 : Nat) : Int)) σ0 σ13 → TyC σ13 v98_2 2 → (∀ s, ReC σ0 p0 s → ∃ s', ReC σ13 p0 s' ∧ s' = chnY (opY d) s) → cnC σ0 ≤ v98_2 → WcC σ13 (cnC σ0) gn98 (cnC σ13) v98_3 → G 98 [(0, .inr (.inr (some p0))), (2, .inr (.inr (some v98_2))), (3, .inr (.inr v98_3))] [] σ13 := by
      intro n98
      induction n98 using Nat.strongRecOn with
      | _ n98 ih98 =>
        intro σ13 v98_2 v98_3 gn98 n98_ H14 e15 R16 h17 h18 h19 h20
        have t26 := h_0_0.x e15
        obtain ⟨x21, e22, c23, h24, h25⟩ := cg242 H14.1 t26
        obtain ⟨x27, e28, c29, h30, h31⟩ := cg243 H14.1 t26
        have z32 := congrArg Int32.toInt c23
        have z33 := congrArg Int32.toInt c29
        refine hB _ _ _ _ (kgoC (is := KX7_readChain_98) rfl ?_)
        refine k_aload_n rfl ?_
        refine k_ifnull (fun h35 => ?_) (fun b34 h35 => ?_)
        · subst h35
          cases gn98 with
          | succ m => obtain ⟨_, hz, _⟩ := h20; cases hz
          | zero =>
          refine hB _ _ _ _ (kgoC (is := KX7_readChain_121) rfl ?_)
          refine k_aload_n rfl ?_
          refine k_areturn ?_
          have X36 : ExC [0, 1, 2, 60, 61, 62, 63, 64, 65, 66, 67, 68, 69, 70, 72, 73, 74, 75, 76, 242, 243, 244, 999] σ0 σ13 := ExC.rf.tr (e15.mo (by decide))
          have S37 : ∀ s, ReC σ0 p0 s → ReC σ13 p0 (chnY (opY d) s) := by
            intro s hs
            obtain ⟨s', hs', hp⟩ := h18 s hs
            refine hs'.eq ?_
            rw [← hp]
            try unfold chnY
            repeat (split <;> try (exfalso; omega))
            try unfold tkY
            repeat (split <;> try (exfalso; omega))
            try unfold dpY
            repeat (split <;> try (exfalso; omega))
            all_goals rfl
          exact ⟨_, rfl, H14, X36, h17, (R16.mo (by omega) (by omega) (by omega)), (by omega), S37⟩
        · subst h35
          cases gn98 with
          | zero => cases h20
          | succ m38 =>
          obtain ⟨a39, h40, h41, h42, ⟨t43, t44⟩, w45, w46⟩ := id h20
          obtain rfl := Option.some.inj h40
          refine k_nil ?_
          refine hB _ _ _ _ (kgoC (is := KX7_readChain_102) rfl ?_)
          refine k_aload_n rfl ?_
          obtain ⟨o47, c48⟩ : ∃ z, fRC σ13 b34 75 = z := ⟨_, rfl⟩
          refine k_getO (k := 75) (show ObC σ13 b34 2 from ⟨t43, by rw [t44]; decide, by rw [t44]; decide⟩) (congrArg (fun z : Option Nat => (Sum.inr (Sum.inr z) : AvC)) c48) ?_
          refine k_astore (ls' := [(4, .inr (.inr o47)), (0, .inr (.inr (some p0))), (2, .inr (.inr (some v98_2))), (3, .inr (.inr (some b34)))]) rfl ?_
          refine k_aload_n rfl ?_
          refine k_aload_n rfl ?_
          refine k_aload_n rfl ?_
          have X49 : ExC [0, 1, 2, 60, 61, 62, 63, 64, 65, 66, 67, 68, 69, 70, 72, 73, 74, 75, 76, 242, 243, 244, 999] σ0 σ13 := ExC.rf.tr (e15.mo (by decide))
          refine k_inv (P := P_X7_closed) (Q := Q_X7_closed) rfl rfl rfl rfl (Nat.le_of_ble_eq_true rfl) (t26.rc (by decide)) ⟨_, _, _, rfl, H14, t26, t43, t44, h17, (rd_cd.st H0 h_0_0 X49 R16.1 (by decide)), (R16.2.2.2.1 rd_at), (rd_bg.st H0 h_0_0 X49 R16 (by decide) (by omega) (by omega) (by omega))⟩ (fun w50 σ51 q52 => ?_)
          obtain ⟨a53, rfl, H54, e55, h57, R56, q58, q59⟩ := q52
          have c60 := (t26.mi e55 (by decide)).trans c23
          have c61 := (t26.mi e55 (by decide)).trans c29
          have z62 := congrArg Int32.toInt c60
          have z63 := congrArg Int32.toInt c61
          refine k_st (st' := [.inr (.inr (some a53))]) rfl ?_
          have w65 := w46
          rw [c48] at w65
          have w64 : WcC σ51 (cnC σ0) m38 (cnC σ51) o47 := WcC.up _ _ _ _ (Nat.le_of_lt (Nat.lt_of_lt_of_le t43 e55.1)) (WcC.xs R56.1 _ _ _ (Nat.le_refl _) w65)
          have R66 : RdC p0 none ((1) - (((m38 + 1) : Nat) : Int)) ((20 + 8 * (d : Int)) - (((m38 + 1) : Nat) : Int)) ((2) - (((m38 + 1) : Nat) : Int)) σ0 σ51 := R16.trx ⟨R56.1, R56.2⟩ (by omega) (by omega) (by omega) (by omega) (by omega)
          have z67 := R66.2.2.1
          have z68 := R66.2.2.2.1 rd_at
          refine k_astore_n (ls' := [(2, .inr (.inr (some a53))), (4, .inr (.inr o47)), (0, .inr (.inr (some p0))), (3, .inr (.inr (some b34)))]) rfl ?_
          refine k_aload rfl ?_
          refine k_astore_n (ls' := [(3, .inr (.inr o47)), (2, .inr (.inr (some a53))), (4, .inr (.inr o47)), (0, .inr (.inr (some p0)))]) rfl ?_
          refine k_goto ?_
          have S71 : (∀ s, ReC σ0 p0 s → ∃ s', ReC σ51 p0 s' ∧ s' = chnY (opY d) s) := by
            intro s hs
            obtain ⟨s', hs', hp⟩ := h18 s hs
            have y69 := q59 _ hs'
            refine ⟨_, y69, ?_⟩
            rw [← hp]
            try unfold chnY
            repeat (split <;> try (exfalso; omega))
            try unfold tkY
            repeat (split <;> try (exfalso; omega))
            try unfold dpY
            repeat (split <;> try (exfalso; omega))
            all_goals rfl
          have X72 : ExC [0, 1, 2, 60, 61, 62, 63, 64, 65, 66, 67, 68, 69, 70, 72, 73, 74, 75, 76, 242, 243, 244, 999] σ0 σ51 := X49.tr (e55.mo (by decide))
          exact hW _ _ _ _ _ (List.forall_mem_cons.2 ⟨List.Mem.tail _ (List.Mem.tail _ (List.Mem.tail _ (List.Mem.head _))), (List.forall_mem_cons.2 ⟨List.Mem.tail _ (List.Mem.head _), (List.forall_mem_cons.2 ⟨List.Mem.head _, fun _ h => absurd h List.not_mem_nil⟩)⟩)⟩) (ih98 (m38) (by omega) σ51 a53 o47 (m38) rfl H54 X72 (R66.mo (by omega) (by omega) (by omega)) h57 S71 (by omega) w64)
    have L11 : ∀ (n11 : Nat), ∀ (σ73 : CsC) (v11_2 : Nat) (v11_3 : Option Nat) (v11_4 : Int32) (gn11 : Nat), (2147483647 - v11_4.toInt).toNat = n11 → HIC σ73 → ExC [0, 1, 2, 60, 61, 62, 63, 64, 65, 66, 67, 68, 69, 70, 72, 73, 74, 75, 76, 242, 243, 244, 999] σ0 σ73 → RdC p0 none ((0) - ((gn11 : Nat) : Int)) ((19 + 8 * (d : Int)) - ((gn11 : Nat) : Int)) ((1) - ((gn11 : Nat) : Int)) σ0 σ73 → TyC σ73 v11_2 2 → 0 ≤ v11_4.toInt → v11_4.toInt ≤ 502 → (∀ s, ReC σ0 p0 s → ∃ s', ReC σ73 p0 s' ∧ chlY (opY d) (501 - v11_4.toInt).toNat s' = chnY (opY d) s) → cnC σ0 ≤ v11_2 → WcC σ73 (cnC σ0) gn11 (cnC σ73) v11_3 → G 11 [(0, .inr (.inr (some p0))), (1, .inl p1), (2, .inr (.inr (some v11_2))), (3, .inr (.inr v11_3)), (4, .inl v11_4)] [] σ73 := by
      intro n11
      induction n11 using Nat.strongRecOn with
      | _ n11 ih11 =>
        intro σ73 v11_2 v11_3 v11_4 gn11 n11_ H74 e75 R76 h77 h78 h79 h80 h81 h82
        have t88 := h_0_0.x e75
        obtain ⟨x83, e84, c85, h86, h87⟩ := cg242 H74.1 t88
        obtain ⟨x89, e90, c91, h92, h93⟩ := cg243 H74.1 t88
        have z94 := congrArg Int32.toInt c85
        have z95 := congrArg Int32.toInt c91
        have L35 : ∀ (n35 : Nat), ∀ (σ96 : CsC) (v35_2 : Nat) (v35_3 : Option Nat) (v35_5 : Int32) (gn35 : Nat), gn35 = n35 → HIC σ96 → ExC [0, 1, 2, 60, 61, 62, 63, 64, 65, 66, 67, 68, 69, 70, 72, 73, 74, 75, 76, 242, 243, 244, 999] σ73 σ96 → RdC p0 none ((0) - ((gn35 : Nat) : Int)) ((-1000) - ((gn35 : Nat) : Int)) ((-1000) - ((gn35 : Nat) : Int)) σ0 σ96 → TyC σ96 v35_2 2 → (∀ s, ReC σ0 p0 s → ∃ s', ReC σ96 p0 s' ∧ chlY (opY d) (500 - v11_4.toInt).toNat (opY d (accY s')) = chnY (opY d) s) → v11_4.toInt ≤ 500 → (fIC σ96 p0 243).toInt = 0 → (fIC σ96 p0 242).toInt + 1 ≤ CtC σ96 p0 → cnC σ0 ≤ v35_2 → WcC σ96 (cnC σ0) gn35 (cnC σ96) v35_3 → G 35 [(0, .inr (.inr (some p0))), (1, .inl p1), (2, .inr (.inr (some v35_2))), (3, .inr (.inr v35_3)), (4, .inl v11_4), (5, .inl v35_5)] [] σ96 := by
          intro n35
          induction n35 using Nat.strongRecOn with
          | _ n35 ih35 =>
            intro σ96 v35_2 v35_3 v35_5 gn35 n35_ H97 e98 R99 h100 h101 h102 h103 h104 h105 h106
            have t112 := t88.x e98
            obtain ⟨x107, e108, c109, h110, h111⟩ := cg242 H97.1 t112
            obtain ⟨x113, e114, c115, h116, h117⟩ := cg243 H97.1 t112
            have z118 := congrArg Int32.toInt c109
            have z119 := congrArg Int32.toInt c115
            have h120 : x113.toInt = 0 := by omega
            have z121 := R99.2.2.1
            have z122 := R99.2.2.2.1 rd_at
            refine hB _ _ _ _ (kgoC (is := KX7_readChain_35) rfl ?_)
            refine k_aload_n rfl ?_
            refine k_ifnull (fun h124 => ?_) (fun b123 h124 => ?_)
            · subst h124
              cases gn35 with
              | succ m => obtain ⟨_, hz, _⟩ := h106; cases hz
              | zero =>
              refine hB _ _ _ _ (kgoC (is := KX7_readChain_73) rfl ?_)
              refine k_aload_n rfl ?_
              refine k_iload rfl ?_
              refine k_aload_n rfl ?_
              refine k_aload_n rfl ?_
              have X125 : ExC [0, 1, 2, 60, 61, 62, 63, 64, 65, 66, 67, 68, 69, 70, 72, 73, 74, 75, 76, 242, 243, 244, 999] σ0 σ73 := ExC.rf.tr (e75.mo (by decide))
              have X126 : ExC [0, 1, 2, 60, 61, 62, 63, 64, 65, 66, 67, 68, 69, 70, 72, 73, 74, 75, 76, 242, 243, 244, 999] σ0 σ96 := X125.tr (e98.mo (by decide))
              refine k_inv (P := P_X7_waitingFor) (Q := Q_X7_waitingFor) rfl rfl rfl rfl (Nat.le_of_ble_eq_true rfl) (t112.rc (by decide)) ⟨_, _, _, _, rfl, H97, t112, h100, (fun c hc => by cases hc), (rd_cd.st H0 h_0_0 X126 R99.1 (by decide)), (R99.2.2.2.1 rd_at), (rd_bg.stn H0 h_0_0 X126 R99 (by decide) (by rw [c115]; omega) (by omega))⟩ (fun w127 σ128 q129 => ?_)
              obtain ⟨a130, rfl, H131, e132, h134, h135, R133, q136, q137, q138, q139⟩ := q129
              have c140 := (t112.mi e132 (by decide)).trans c109
              have c141 := (t112.mi e132 (by decide)).trans c115
              have z142 := congrArg Int32.toInt c140
              have z143 := congrArg Int32.toInt c141
              refine k_st (st' := [.inr (.inr (some a130))]) rfl ?_
              have z145 := R99.1.1
              have w144 : WcC σ128 (cnC σ0) (0 + 1) (cnC σ128) (some a130) := ⟨_, rfl, by omega, h134, ⟨h134, h135⟩, q136, by rw [q137]; exact WcC.up _ _ _ _ (by omega) (WcC.x R133.1 _ _ _ h106)⟩
              have R146 : RdC p0 none ((3) - ((0 : Nat) : Int)) ((3) - ((0 : Nat) : Int)) ((-997) - ((0 : Nat) : Int)) σ0 σ128 := R99.tr ⟨R133.1, R133.2⟩ (by omega) (by omega) (by omega) (by omega)
              have R147 := R146.nf ((-1000) - ((0 : Nat) : Int)) ((-1000) - ((0 : Nat) : Int)) (by rw [c141]; omega)
              have R148 : RdC p0 none ((4) - (((0 + 1) : Nat) : Int)) ((-999) - (((0 + 1) : Nat) : Int)) ((-999) - (((0 + 1) : Nat) : Int)) σ0 σ128 := R147.mo (by omega) (by omega) (by omega)
              have z149 := R148.2.2.1
              have z150 := R148.2.2.2.1 rd_at
              refine k_astore_n (ls' := [(3, .inr (.inr (some a130))), (0, .inr (.inr (some p0))), (1, .inl p1), (2, .inr (.inr (some v35_2))), (4, .inl v11_4), (5, .inl v35_5)]) rfl ?_
              refine k_aload_n rfl ?_
              have t151 := t112.x e132
              have X152 : ExC [0, 1, 2, 60, 61, 62, 63, 64, 65, 66, 67, 68, 69, 70, 72, 73, 74, 75, 76, 242, 243, 244, 999] σ0 σ128 := X126.tr (e132.mo (by decide))
              refine k_inv (P := P_X7_accept) (Q := Q_X7_accept) rfl rfl rfl rfl (Nat.le_of_ble_eq_true rfl) (t151.rc (by decide)) ⟨_, rfl, H131, t151, (rd_cd.st H0 h_0_0 X152 R148.1 (by decide)), (R148.2.2.2.1 rd_at), (rd_bg.stn H0 h_0_0 X152 R148 (by decide) (by rw [c141]; omega) (by omega)), (by have ct := R148.2.2.1; rw [c141, c140, ct]; omega)⟩ (fun w153 σ154 q155 => ?_)
              obtain ⟨rfl, H156, e157, R158, q159, q160⟩ := q155
              have t166 := t151.x e157
              obtain ⟨x161, e162, c163, h164, h165⟩ := cg242 H156.1 t166
              obtain ⟨x167, e168, c169, h170, h171⟩ := cg243 H156.1 t166
              have z172 := congrArg Int32.toInt c163
              have z173 := congrArg Int32.toInt c169
              refine k_st (st' := []) rfl ?_
              have R174 : RdC p0 none ((-4) - (((0 + 1) : Nat) : Int)) ((4) - (((0 + 1) : Nat) : Int)) ((-999) - (((0 + 1) : Nat) : Int)) σ0 σ154 := R148.tr ⟨R158.1, R158.2⟩ (by omega) (by omega) (by omega) (by omega)
              have z175 := R174.2.2.1
              have z176 := R174.2.2.2.1 rd_at
              refine k_aload_n rfl ?_
              refine k_iload_n rfl ?_
              have X177 : ExC [0, 1, 2, 60, 61, 62, 63, 64, 65, 66, 67, 68, 69, 70, 72, 73, 74, 75, 76, 242, 243, 244, 999] σ0 σ154 := X152.tr (e157.mo (by decide))
              refine k_inv (P := (P_X7_readOperand d)) (Q := (Q_X7_readOperand d)) rfl rfl rfl rfl (Nat.le_of_ble_eq_true rfl) (t166.rc (by decide)) ⟨_, _, rfl, H156, t166, (by omega), (by omega), (rd_cd.st H0 h_0_0 X177 R174.1 (by decide)), (R174.2.2.2.1 rd_at), (rd_bg.st H0 h_0_0 X177 R174 (by decide) (by omega) (by omega) (by omega)), (by omega)⟩ (fun w178 σ179 q180 => ?_)
              obtain ⟨a181, rfl, H182, e183, h185, R184, q186, q187⟩ := q180
              have t193 := t166.x e183
              obtain ⟨x188, e189, c190, h191, h192⟩ := cg242 H182.1 t193
              obtain ⟨x194, e195, c196, h197, h198⟩ := cg243 H182.1 t193
              have z199 := congrArg Int32.toInt c190
              have z200 := congrArg Int32.toInt c196
              refine k_st (st' := [.inr (.inr (some a181))]) rfl ?_
              have z201 := R174.1.1
              have R202 : RdC p0 none ((-4) - (((0 + 1) : Nat) : Int)) ((10 + 8 * (d : Int)) - (((0 + 1) : Nat) : Int)) ((-998) - (((0 + 1) : Nat) : Int)) σ0 σ179 := R174.tr ⟨R184.1, R184.2⟩ (by omega) (by omega) (by omega) (by omega)
              have z203 := R202.2.2.1
              have z204 := R202.2.2.2.1 rd_at
              refine k_astore_n (ls' := [(2, .inr (.inr (some a181))), (3, .inr (.inr (some a130))), (0, .inr (.inr (some p0))), (1, .inl p1), (4, .inl v11_4), (5, .inl v35_5)]) rfl ?_
              obtain ⟨x205, e207, h206⟩ := iincC (n := 1) (m := 1) (v := v11_4) rfl (by omega) (by omega)
              refine k_iinc (ls' := [(4, .inl x205), (2, .inr (.inr (some a181))), (3, .inr (.inr (some a130))), (0, .inr (.inr (some p0))), (1, .inl p1), (5, .inl v35_5)]) rfl e207 rfl ?_
              refine k_goto ?_
              have S214 : (∀ s, ReC σ0 p0 s → ∃ s', ReC σ179 p0 s' ∧ chlY (opY d) (501 - x205.toInt).toNat s' = chnY (opY d) s) := by
                intro s hs
                obtain ⟨s', hs', hp⟩ := h101 s hs
                have y208 := q139 _ hs'
                have y210 := q160 _ y208
                have y212 := q187 _ y210
                refine ⟨_, y212, ?_⟩
                rw [← hp]
                all_goals try rw [show (501 - x205.toInt).toNat = (500 - v11_4.toInt).toNat from by omega]
                try unfold chnY
                repeat (split <;> try (exfalso; omega))
                try unfold tkY
                repeat (split <;> try (exfalso; omega))
                try unfold dpY
                repeat (split <;> try (exfalso; omega))
                all_goals rfl
              have w215 := WcC.up _ _ (cnC σ154) _ R158.1.1 (WcC.x R158.1 _ _ _ w144)
              have w216 := WcC.up _ _ (cnC σ179) _ R184.1.1 (WcC.x R184.1 _ _ _ w215)
              have X217 : ExC [0, 1, 2, 60, 61, 62, 63, 64, 65, 66, 67, 68, 69, 70, 72, 73, 74, 75, 76, 242, 243, 244, 999] σ0 σ179 := X177.tr (e183.mo (by decide))
              exact hW _ _ _ _ _ (List.forall_mem_cons.2 ⟨List.Mem.tail _ (List.Mem.tail _ (List.Mem.tail _ (List.Mem.head _))), (List.forall_mem_cons.2 ⟨List.Mem.tail _ (List.Mem.tail _ (List.Mem.tail _ (List.Mem.tail _ (List.Mem.head _)))), (List.forall_mem_cons.2 ⟨List.Mem.tail _ (List.Mem.head _), (List.forall_mem_cons.2 ⟨List.Mem.tail _ (List.Mem.tail _ (List.Mem.head _)), (List.forall_mem_cons.2 ⟨List.Mem.head _, fun _ h => absurd h List.not_mem_nil⟩)⟩)⟩)⟩)⟩) (ih11 ((2147483647 - x205.toInt).toNat) (by omega) σ179 a181 (some a130) x205 ((0 + 1)) rfl H182 X217 (R202.mo (by omega) (by omega) (by omega)) h185 (by omega) (by omega) S214 (by omega) w216)
            · subst h124
              cases gn35 with
              | zero => cases h106
              | succ m218 =>
              obtain ⟨a219, h220, h221, h222, ⟨t223, t224⟩, w225, w226⟩ := id h106
              obtain rfl := Option.some.inj h220
              refine k_nil ?_
              refine hB _ _ _ _ (kgoC (is := KX7_readChain_39) rfl ?_)
              refine k_aload_n rfl ?_
              obtain ⟨x227, c228⟩ : ∃ z, fIC σ96 b123 61 = z := ⟨_, rfl⟩
              refine k_getO (k := 61) (show ObC σ96 b123 2 from ⟨t223, by rw [t224]; decide, by rw [t224]; decide⟩) (congrArg (Sum.inl : Int32 → AvC) c228) ?_
              refine k_stat (P := P_X11_strength) (Q := Q_X11_strength) rfl rfl (Nat.le_of_ble_eq_true rfl) rfl rfl (Nat.le_of_ble_eq_true rfl) ⟨_, rfl, H97⟩ (fun w229 σ230 q231 => ?_)
              obtain ⟨x232, rfl, rfl, q233, q234⟩ := q231
              refine k_st (st' := [.inl x232]) rfl ?_
              refine k_iload rfl ?_
              refine k_stat (P := P_X11_strength) (Q := Q_X11_strength) rfl rfl (Nat.le_of_ble_eq_true rfl) rfl rfl (Nat.le_of_ble_eq_true rfl) ⟨_, rfl, H97⟩ (fun w235 σ236 q237 => ?_)
              obtain ⟨x238, rfl, rfl, q239, q240⟩ := q237
              refine k_st (st' := [.inl x238, .inl x232]) rfl ?_
              refine k_ic_lt (fun h241 => ?_) (fun h241 => ?_)
              · refine hB _ _ _ _ (kgoC (is := KX7_readChain_73) rfl ?_)
                refine k_aload_n rfl ?_
                refine k_iload rfl ?_
                refine k_aload_n rfl ?_
                refine k_aload_n rfl ?_
                have X242 : ExC [0, 1, 2, 60, 61, 62, 63, 64, 65, 66, 67, 68, 69, 70, 72, 73, 74, 75, 76, 242, 243, 244, 999] σ0 σ73 := ExC.rf.tr (e75.mo (by decide))
                have X243 : ExC [0, 1, 2, 60, 61, 62, 63, 64, 65, 66, 67, 68, 69, 70, 72, 73, 74, 75, 76, 242, 243, 244, 999] σ0 σ96 := X242.tr (e98.mo (by decide))
                refine k_inv (P := P_X7_waitingFor) (Q := Q_X7_waitingFor) rfl rfl rfl rfl (Nat.le_of_ble_eq_true rfl) (t112.rc (by decide)) ⟨_, _, _, _, rfl, H97, t112, h100, (fun c hc => by cases hc; exact ⟨t223, t224⟩), (rd_cd.st H0 h_0_0 X243 R99.1 (by decide)), (R99.2.2.2.1 rd_at), (rd_bg.stn H0 h_0_0 X243 R99 (by decide) (by rw [c115]; omega) (by omega))⟩ (fun w244 σ245 q246 => ?_)
                obtain ⟨a247, rfl, H248, e249, h251, h252, R250, q253, q254, q255, q256⟩ := q246
                have c257 := (t112.mi e249 (by decide)).trans c109
                have c258 := (t112.mi e249 (by decide)).trans c115
                have z259 := congrArg Int32.toInt c257
                have z260 := congrArg Int32.toInt c258
                refine k_st (st' := [.inr (.inr (some a247))]) rfl ?_
                have z262 := R99.1.1
                have w261 : WcC σ245 (cnC σ0) ((m218 + 1) + 1) (cnC σ245) (some a247) := ⟨_, rfl, by omega, h251, ⟨h251, h252⟩, q253, by rw [q254]; exact WcC.up _ _ _ _ (by omega) (WcC.x R250.1 _ _ _ h106)⟩
                have R263 : RdC p0 none ((3) - (((m218 + 1) : Nat) : Int)) ((3) - (((m218 + 1) : Nat) : Int)) ((-997) - (((m218 + 1) : Nat) : Int)) σ0 σ245 := R99.tr ⟨R250.1, R250.2⟩ (by omega) (by omega) (by omega) (by omega)
                have R264 := R263.nf ((-1000) - (((m218 + 1) : Nat) : Int)) ((-1000) - (((m218 + 1) : Nat) : Int)) (by rw [c258]; omega)
                have R265 : RdC p0 none ((4) - ((((m218 + 1) + 1) : Nat) : Int)) ((-999) - ((((m218 + 1) + 1) : Nat) : Int)) ((-999) - ((((m218 + 1) + 1) : Nat) : Int)) σ0 σ245 := R264.mo (by omega) (by omega) (by omega)
                have z266 := R265.2.2.1
                have z267 := R265.2.2.2.1 rd_at
                refine k_astore_n (ls' := [(3, .inr (.inr (some a247))), (0, .inr (.inr (some p0))), (1, .inl p1), (2, .inr (.inr (some v35_2))), (4, .inl v11_4), (5, .inl v35_5)]) rfl ?_
                refine k_aload_n rfl ?_
                have t268 := t112.x e249
                have X269 : ExC [0, 1, 2, 60, 61, 62, 63, 64, 65, 66, 67, 68, 69, 70, 72, 73, 74, 75, 76, 242, 243, 244, 999] σ0 σ245 := X243.tr (e249.mo (by decide))
                refine k_inv (P := P_X7_accept) (Q := Q_X7_accept) rfl rfl rfl rfl (Nat.le_of_ble_eq_true rfl) (t268.rc (by decide)) ⟨_, rfl, H248, t268, (rd_cd.st H0 h_0_0 X269 R265.1 (by decide)), (R265.2.2.2.1 rd_at), (rd_bg.stn H0 h_0_0 X269 R265 (by decide) (by rw [c258]; omega) (by omega)), (by have ct := R265.2.2.1; rw [c258, c257, ct]; omega)⟩ (fun w270 σ271 q272 => ?_)
                obtain ⟨rfl, H273, e274, R275, q276, q277⟩ := q272
                have t283 := t268.x e274
                obtain ⟨x278, e279, c280, h281, h282⟩ := cg242 H273.1 t283
                obtain ⟨x284, e285, c286, h287, h288⟩ := cg243 H273.1 t283
                have z289 := congrArg Int32.toInt c280
                have z290 := congrArg Int32.toInt c286
                refine k_st (st' := []) rfl ?_
                have R291 : RdC p0 none ((-4) - ((((m218 + 1) + 1) : Nat) : Int)) ((4) - ((((m218 + 1) + 1) : Nat) : Int)) ((-999) - ((((m218 + 1) + 1) : Nat) : Int)) σ0 σ271 := R265.tr ⟨R275.1, R275.2⟩ (by omega) (by omega) (by omega) (by omega)
                have z292 := R291.2.2.1
                have z293 := R291.2.2.2.1 rd_at
                refine k_aload_n rfl ?_
                refine k_iload_n rfl ?_
                have X294 : ExC [0, 1, 2, 60, 61, 62, 63, 64, 65, 66, 67, 68, 69, 70, 72, 73, 74, 75, 76, 242, 243, 244, 999] σ0 σ271 := X269.tr (e274.mo (by decide))
                refine k_inv (P := (P_X7_readOperand d)) (Q := (Q_X7_readOperand d)) rfl rfl rfl rfl (Nat.le_of_ble_eq_true rfl) (t283.rc (by decide)) ⟨_, _, rfl, H273, t283, (by omega), (by omega), (rd_cd.st H0 h_0_0 X294 R291.1 (by decide)), (R291.2.2.2.1 rd_at), (rd_bg.st H0 h_0_0 X294 R291 (by decide) (by omega) (by omega) (by omega)), (by omega)⟩ (fun w295 σ296 q297 => ?_)
                obtain ⟨a298, rfl, H299, e300, h302, R301, q303, q304⟩ := q297
                have t310 := t283.x e300
                obtain ⟨x305, e306, c307, h308, h309⟩ := cg242 H299.1 t310
                obtain ⟨x311, e312, c313, h314, h315⟩ := cg243 H299.1 t310
                have z316 := congrArg Int32.toInt c307
                have z317 := congrArg Int32.toInt c313
                refine k_st (st' := [.inr (.inr (some a298))]) rfl ?_
                have z318 := R291.1.1
                have R319 : RdC p0 none ((-4) - ((((m218 + 1) + 1) : Nat) : Int)) ((10 + 8 * (d : Int)) - ((((m218 + 1) + 1) : Nat) : Int)) ((-998) - ((((m218 + 1) + 1) : Nat) : Int)) σ0 σ296 := R291.tr ⟨R301.1, R301.2⟩ (by omega) (by omega) (by omega) (by omega)
                have z320 := R319.2.2.1
                have z321 := R319.2.2.2.1 rd_at
                refine k_astore_n (ls' := [(2, .inr (.inr (some a298))), (3, .inr (.inr (some a247))), (0, .inr (.inr (some p0))), (1, .inl p1), (4, .inl v11_4), (5, .inl v35_5)]) rfl ?_
                obtain ⟨x322, e324, h323⟩ := iincC (n := 1) (m := 1) (v := v11_4) rfl (by omega) (by omega)
                refine k_iinc (ls' := [(4, .inl x322), (2, .inr (.inr (some a298))), (3, .inr (.inr (some a247))), (0, .inr (.inr (some p0))), (1, .inl p1), (5, .inl v35_5)]) rfl e324 rfl ?_
                refine k_goto ?_
                have S331 : (∀ s, ReC σ0 p0 s → ∃ s', ReC σ296 p0 s' ∧ chlY (opY d) (501 - x322.toInt).toNat s' = chnY (opY d) s) := by
                  intro s hs
                  obtain ⟨s', hs', hp⟩ := h101 s hs
                  have y325 := q256 _ hs'
                  have y327 := q277 _ y325
                  have y329 := q304 _ y327
                  refine ⟨_, y329, ?_⟩
                  rw [← hp]
                  all_goals try rw [show (501 - x322.toInt).toNat = (500 - v11_4.toInt).toNat from by omega]
                  try unfold chnY
                  repeat (split <;> try (exfalso; omega))
                  try unfold tkY
                  repeat (split <;> try (exfalso; omega))
                  try unfold dpY
                  repeat (split <;> try (exfalso; omega))
                  all_goals rfl
                have w332 := WcC.up _ _ (cnC σ271) _ R275.1.1 (WcC.x R275.1 _ _ _ w261)
                have w333 := WcC.up _ _ (cnC σ296) _ R301.1.1 (WcC.x R301.1 _ _ _ w332)
                have X334 : ExC [0, 1, 2, 60, 61, 62, 63, 64, 65, 66, 67, 68, 69, 70, 72, 73, 74, 75, 76, 242, 243, 244, 999] σ0 σ296 := X294.tr (e300.mo (by decide))
                exact hW _ _ _ _ _ (List.forall_mem_cons.2 ⟨List.Mem.tail _ (List.Mem.tail _ (List.Mem.tail _ (List.Mem.head _))), (List.forall_mem_cons.2 ⟨List.Mem.tail _ (List.Mem.tail _ (List.Mem.tail _ (List.Mem.tail _ (List.Mem.head _)))), (List.forall_mem_cons.2 ⟨List.Mem.tail _ (List.Mem.head _), (List.forall_mem_cons.2 ⟨List.Mem.tail _ (List.Mem.tail _ (List.Mem.head _)), (List.forall_mem_cons.2 ⟨List.Mem.head _, fun _ h => absurd h List.not_mem_nil⟩)⟩)⟩)⟩)⟩) (ih11 ((2147483647 - x322.toInt).toNat) (by omega) σ296 a298 (some a247) x322 (((m218 + 1) + 1)) rfl H299 X334 (R319.mo (by omega) (by omega) (by omega)) h302 (by omega) (by omega) S331 (by omega) w333)
              · refine k_nil ?_
                refine hB _ _ _ _ (kgoC (is := KX7_readChain_54) rfl ?_)
                refine k_aload_n rfl ?_
                obtain ⟨o335, c336⟩ : ∃ z, fRC σ96 b123 75 = z := ⟨_, rfl⟩
                refine k_getO (k := 75) (show ObC σ96 b123 2 from ⟨t223, by rw [t224]; decide, by rw [t224]; decide⟩) (congrArg (fun z : Option Nat => (Sum.inr (Sum.inr z) : AvC)) c336) ?_
                refine k_astore (ls' := [(6, .inr (.inr o335)), (0, .inr (.inr (some p0))), (1, .inl p1), (2, .inr (.inr (some v35_2))), (3, .inr (.inr (some b123))), (4, .inl v11_4), (5, .inl v35_5)]) rfl ?_
                refine k_aload_n rfl ?_
                refine k_aload_n rfl ?_
                refine k_aload_n rfl ?_
                have X337 : ExC [0, 1, 2, 60, 61, 62, 63, 64, 65, 66, 67, 68, 69, 70, 72, 73, 74, 75, 76, 242, 243, 244, 999] σ0 σ73 := ExC.rf.tr (e75.mo (by decide))
                have X338 : ExC [0, 1, 2, 60, 61, 62, 63, 64, 65, 66, 67, 68, 69, 70, 72, 73, 74, 75, 76, 242, 243, 244, 999] σ0 σ96 := X337.tr (e98.mo (by decide))
                refine k_inv (P := P_X7_closed) (Q := Q_X7_closed) rfl rfl rfl rfl (Nat.le_of_ble_eq_true rfl) (t112.rc (by decide)) ⟨_, _, _, rfl, H97, t112, t223, t224, h100, (rd_cd.st H0 h_0_0 X338 R99.1 (by decide)), (R99.2.2.2.1 rd_at), (rd_bg.stn H0 h_0_0 X338 R99 (by decide) (by rw [c115]; omega) (by omega))⟩ (fun w339 σ340 q341 => ?_)
                obtain ⟨a342, rfl, H343, e344, h346, R345, q347, q348⟩ := q341
                have c349 := (t112.mi e344 (by decide)).trans c109
                have c350 := (t112.mi e344 (by decide)).trans c115
                have z351 := congrArg Int32.toInt c349
                have z352 := congrArg Int32.toInt c350
                refine k_st (st' := [.inr (.inr (some a342))]) rfl ?_
                have w354 := w226
                rw [c336] at w354
                have w353 : WcC σ340 (cnC σ0) m218 (cnC σ340) o335 := WcC.up _ _ _ _ (Nat.le_of_lt (Nat.lt_of_lt_of_le t223 e344.1)) (WcC.xs R345.1 _ _ _ (Nat.le_refl _) w354)
                have R355 : RdC p0 none ((1) - (((m218 + 1) : Nat) : Int)) ((1) - (((m218 + 1) : Nat) : Int)) ((-999) - (((m218 + 1) : Nat) : Int)) σ0 σ340 := R99.trx ⟨R345.1, R345.2⟩ (by omega) (by omega) (by omega) (by omega) (by omega)
                have R356 := R355.nf ((-1000) - (((m218 + 1) : Nat) : Int)) ((-1000) - (((m218 + 1) : Nat) : Int)) (by rw [c350]; omega)
                have z357 := R356.2.2.1
                have z358 := R356.2.2.2.1 rd_at
                refine k_astore_n (ls' := [(2, .inr (.inr (some a342))), (6, .inr (.inr o335)), (0, .inr (.inr (some p0))), (1, .inl p1), (3, .inr (.inr (some b123))), (4, .inl v11_4), (5, .inl v35_5)]) rfl ?_
                refine k_aload rfl ?_
                refine k_astore_n (ls' := [(3, .inr (.inr o335)), (2, .inr (.inr (some a342))), (6, .inr (.inr o335)), (0, .inr (.inr (some p0))), (1, .inl p1), (4, .inl v11_4), (5, .inl v35_5)]) rfl ?_
                refine k_goto ?_
                have S361 : (∀ s, ReC σ0 p0 s → ∃ s', ReC σ340 p0 s' ∧ chlY (opY d) (500 - v11_4.toInt).toNat (opY d (accY s')) = chnY (opY d) s) := by
                  intro s hs
                  obtain ⟨s', hs', hp⟩ := h101 s hs
                  have y359 := q348 _ hs'
                  refine ⟨_, y359, ?_⟩
                  rw [← hp]
                  all_goals try rw [show (500 - v11_4.toInt).toNat = (500 - v11_4.toInt).toNat from by omega]
                  try unfold chnY
                  repeat (split <;> try (exfalso; omega))
                  try unfold tkY
                  repeat (split <;> try (exfalso; omega))
                  try unfold dpY
                  repeat (split <;> try (exfalso; omega))
                  all_goals rfl
                have X362 : ExC [0, 1, 2, 60, 61, 62, 63, 64, 65, 66, 67, 68, 69, 70, 72, 73, 74, 75, 76, 242, 243, 244, 999] σ73 σ96 := ExC.rf.tr (e98.mo (by decide))
                have X363 : ExC [0, 1, 2, 60, 61, 62, 63, 64, 65, 66, 67, 68, 69, 70, 72, 73, 74, 75, 76, 242, 243, 244, 999] σ73 σ340 := X362.tr (e344.mo (by decide))
                exact hW _ _ _ _ _ (List.forall_mem_cons.2 ⟨List.Mem.tail _ (List.Mem.tail _ (List.Mem.tail _ (List.Mem.head _))), (List.forall_mem_cons.2 ⟨List.Mem.tail _ (List.Mem.tail _ (List.Mem.tail _ (List.Mem.tail _ (List.Mem.head _)))), (List.forall_mem_cons.2 ⟨List.Mem.tail _ (List.Mem.head _), (List.forall_mem_cons.2 ⟨List.Mem.head _, (List.forall_mem_cons.2 ⟨List.Mem.tail _ (List.Mem.tail _ (List.Mem.tail _ (List.Mem.tail _ (List.Mem.tail _ (List.Mem.head _))))), (List.forall_mem_cons.2 ⟨List.Mem.tail _ (List.Mem.tail _ (List.Mem.tail _ (List.Mem.tail _ (List.Mem.tail _ (List.Mem.tail _ (List.Mem.head _)))))), fun _ h => absurd h List.not_mem_nil⟩)⟩)⟩)⟩)⟩)⟩) (ih35 (m218) (by omega) σ340 a342 o335 v35_5 (m218) rfl H343 X363 (R356.mo (by omega) (by omega) (by omega)) h346 S361 (by omega) (by rw [c350]; omega) (by have ct := R356.2.2.1; rw [c349, ct]; omega) (by omega) w353)
        refine hB _ _ _ _ (kgoC (is := KX7_readChain_11) rfl ?_)
        refine k_iload rfl ?_
        refine k_sipush (m := 500) rfl (fun x364 h365 => ?_)
        refine k_ic_gt (fun h366 => ?_) (fun h366 => ?_)
        · have S367 : (∀ s, ReC σ0 p0 s → ∃ s', ReC σ73 p0 s' ∧ s' = chnY (opY d) s) := by
            intro s hs
            obtain ⟨s', hs', hp⟩ := h80 s hs
            first | rw [show (501 - v11_4.toInt).toNat = 0 from by omega] at hp | rw [show (501 - v11_4.toInt).toNat = (500 - v11_4.toInt).toNat + 1 from by omega] at hp
            rw [chlY] at hp
            refine ⟨_, hs', ?_⟩
            rw [← hp]
            try unfold chnY
            repeat (split <;> try (exfalso; omega))
            try unfold tkY
            repeat (split <;> try (exfalso; omega))
            try unfold dpY
            repeat (split <;> try (exfalso; omega))
            all_goals rfl
          have X368 : ExC [0, 1, 2, 60, 61, 62, 63, 64, 65, 66, 67, 68, 69, 70, 72, 73, 74, 75, 76, 242, 243, 244, 999] σ0 σ73 := ExC.rf.tr (e75.mo (by decide))
          exact hW _ _ _ _ _ (List.forall_mem_cons.2 ⟨List.Mem.head _, (List.forall_mem_cons.2 ⟨List.Mem.tail _ (List.Mem.tail _ (List.Mem.head _)), (List.forall_mem_cons.2 ⟨List.Mem.tail _ (List.Mem.tail _ (List.Mem.tail _ (List.Mem.head _))), fun _ h => absurd h List.not_mem_nil⟩)⟩)⟩) (L98 _ σ73 v11_2 v11_3 (gn11) rfl H74 X368 (R76.mo (by omega) (by omega) (by omega)) h77 S367 (by omega) h82)
        · refine k_nil ?_
          refine hB _ _ _ _ (kgoC (is := KX7_readChain_19) rfl ?_)
          refine k_aload_n rfl ?_
          have X369 : ExC [0, 1, 2, 60, 61, 62, 63, 64, 65, 66, 67, 68, 69, 70, 72, 73, 74, 75, 76, 242, 243, 244, 999] σ0 σ73 := ExC.rf.tr (e75.mo (by decide))
          refine k_inv (P := P_X7_code) (Q := Q_X7_code) rfl rfl rfl rfl (Nat.le_of_ble_eq_true rfl) (t88.rc (by decide)) ⟨_, rfl, H74, t88, (rd_cd.st H0 h_0_0 X369 R76.1 (by decide))⟩ (fun w370 σ371 q372 => ?_)
          obtain ⟨x373, rfl, rfl, q374, q375, q376, q377⟩ := q372
          refine k_st (st' := [.inl x373]) rfl ?_
          have z378 := R76.2.2.1
          have z379 := R76.2.2.2.1 rd_at
          refine k_stat (P := P_X11_strength) (Q := Q_X11_strength) rfl rfl (Nat.le_of_ble_eq_true rfl) rfl rfl (Nat.le_of_ble_eq_true rfl) ⟨_, rfl, H74⟩ (fun w380 σ381 q382 => ?_)
          obtain ⟨x383, rfl, rfl, q384, q385⟩ := q382
          refine k_st (st' := [.inl x383]) rfl ?_
          refine k_if_le (fun h386 => ?_) (fun h386 => ?_)
          · have S388 : (∀ s, ReC σ0 p0 s → ∃ s', ReC σ73 p0 s' ∧ s' = chnY (opY d) s) := by
              intro s hs
              obtain ⟨s', hs', hp⟩ := h80 s hs
              first | rw [show (501 - v11_4.toInt).toNat = 0 from by omega] at hp | rw [show (501 - v11_4.toInt).toNat = (500 - v11_4.toInt).toNat + 1 from by omega] at hp
              rw [chlY] at hp
              have f387 := q377 _ hs'
              refine ⟨_, hs', ?_⟩
              rw [← hp]
              try unfold chnY
              repeat (split <;> try (exfalso; omega))
              try unfold tkY
              repeat (split <;> try (exfalso; omega))
              try unfold dpY
              repeat (split <;> try (exfalso; omega))
              all_goals rfl
            exact hW _ _ _ _ _ (List.forall_mem_cons.2 ⟨List.Mem.head _, (List.forall_mem_cons.2 ⟨List.Mem.tail _ (List.Mem.tail _ (List.Mem.head _)), (List.forall_mem_cons.2 ⟨List.Mem.tail _ (List.Mem.tail _ (List.Mem.tail _ (List.Mem.head _))), fun _ h => absurd h List.not_mem_nil⟩)⟩)⟩) (L98 _ σ73 v11_2 v11_3 (gn11) rfl H74 X369 (R76.mo (by omega) (by omega) (by omega)) h77 S388 (by omega) h82)
          · have h389 := q384 (by omega)
            have h390 : x89.toInt = 0 := by omega
            refine k_nil ?_
            refine hB _ _ _ _ (kgoC (is := KX7_readChain_29) rfl ?_)
            refine k_aload_n rfl ?_
            have R391 := R76.nf ((-1000) - ((gn11 : Nat) : Int)) ((-1000) - ((gn11 : Nat) : Int)) (by rw [c91]; omega)
            refine k_inv (P := P_X7_code) (Q := Q_X7_code) rfl rfl rfl rfl (Nat.le_of_ble_eq_true rfl) (t88.rc (by decide)) ⟨_, rfl, H74, t88, (rd_cd.st H0 h_0_0 X369 R391.1 (by decide))⟩ (fun w392 σ393 q394 => ?_)
            obtain ⟨x395, rfl, rfl, q396, q397, q398, q399⟩ := q394
            refine k_st (st' := [.inl x395]) rfl ?_
            refine k_istore (ls' := [(5, .inl x395), (0, .inr (.inr (some p0))), (1, .inl p1), (2, .inr (.inr (some v11_2))), (3, .inr (.inr v11_3)), (4, .inl v11_4)]) rfl ?_
            refine k_nil ?_
            have S402 : (∀ s, ReC σ0 p0 s → ∃ s', ReC σ73 p0 s' ∧ chlY (opY d) (500 - v11_4.toInt).toNat (opY d (accY s')) = chnY (opY d) s) := by
              intro s hs
              obtain ⟨s', hs', hp⟩ := h80 s hs
              first | rw [show (501 - v11_4.toInt).toNat = 0 from by omega] at hp | rw [show (501 - v11_4.toInt).toNat = (500 - v11_4.toInt).toNat + 1 from by omega] at hp
              rw [chlY] at hp
              have f400 := q377 _ hs'
              have f401 := q399 _ hs'
              refine ⟨_, hs', ?_⟩
              rw [← hp]
              all_goals try rw [show (500 - v11_4.toInt).toNat = (500 - v11_4.toInt).toNat from by omega]
              try unfold chnY
              repeat (split <;> try (exfalso; omega))
              try unfold tkY
              repeat (split <;> try (exfalso; omega))
              try unfold dpY
              repeat (split <;> try (exfalso; omega))
              all_goals rfl
            exact hW _ _ _ _ _ (List.forall_mem_cons.2 ⟨List.Mem.tail _ (List.Mem.head _), (List.forall_mem_cons.2 ⟨List.Mem.tail _ (List.Mem.tail _ (List.Mem.head _)), (List.forall_mem_cons.2 ⟨List.Mem.tail _ (List.Mem.tail _ (List.Mem.tail _ (List.Mem.head _))), (List.forall_mem_cons.2 ⟨List.Mem.tail _ (List.Mem.tail _ (List.Mem.tail _ (List.Mem.tail _ (List.Mem.head _)))), (List.forall_mem_cons.2 ⟨List.Mem.tail _ (List.Mem.tail _ (List.Mem.tail _ (List.Mem.tail _ (List.Mem.tail _ (List.Mem.head _))))), (List.forall_mem_cons.2 ⟨List.Mem.head _, fun _ h => absurd h List.not_mem_nil⟩)⟩)⟩)⟩)⟩)⟩) (L35 _ σ73 v11_2 v11_3 x395 (gn11) rfl H74 ExC.rf (R391.mo (by omega) (by omega) (by omega)) h77 S402 (by omega) (by rw [c91]; omega) (by have ct := R391.2.2.1; rw [c85, ct]; omega) (by omega) h82)
    refine hB _ _ _ _ (kgoC (is := KX7_readChain_0) rfl ?_)
    refine k_aload_n rfl ?_
    refine k_iload_n rfl ?_
    refine k_inv (P := (P_X7_readOperand d)) (Q := (Q_X7_readOperand d)) rfl rfl rfl rfl (Nat.le_of_ble_eq_true rfl) (h_0_0.rc (by decide)) ⟨_, _, rfl, H0, h_0_0, (by omega), (by omega), (rd_cd.st H0 h_0_0 (ExC.rf : ExC [0, 1, 2, 60, 61, 62, 63, 64, 65, 66, 67, 68, 69, 70, 72, 73, 74, 75, 76, 242, 243, 244, 999] σ0 σ0) (RdC.rf : RdC p0 none 0 0 0 σ0 σ0).1 (by decide)), ((RdC.rf : RdC p0 none 0 0 0 σ0 σ0).2.2.2.1 rd_at), (rd_bg.st H0 h_0_0 (ExC.rf : ExC [0, 1, 2, 60, 61, 62, 63, 64, 65, 66, 67, 68, 69, 70, 72, 73, 74, 75, 76, 242, 243, 244, 999] σ0 σ0) (RdC.rf : RdC p0 none 0 0 0 σ0 σ0) (by decide) (by omega) (by omega) (by omega)), (by omega)⟩ (fun w403 σ404 q405 => ?_)
    obtain ⟨a406, rfl, H407, e408, h410, R409, q411, q412⟩ := q405
    have t418 := h_0_0.x e408
    obtain ⟨x413, e414, c415, h416, h417⟩ := cg242 H407.1 t418
    obtain ⟨x419, e420, c421, h422, h423⟩ := cg243 H407.1 t418
    have z424 := congrArg Int32.toInt c415
    have z425 := congrArg Int32.toInt c421
    refine k_st (st' := [.inr (.inr (some a406))]) rfl ?_
    have z426 := (RdC.rf : RdC p0 none 0 0 0 σ0 σ0).1.1
    have R427 : RdC p0 none (0) (14 + 8 * (d : Int)) (1) σ0 σ404 := (RdC.rf : RdC p0 none 0 0 0 σ0 σ0).tr ⟨R409.1, R409.2⟩ (by omega) (by omega) (by omega) (by omega)
    have z428 := R427.2.2.1
    have z429 := R427.2.2.2.1 rd_at
    refine k_astore_n (ls' := [(2, .inr (.inr (some a406))), (0, .inr (.inr (some p0))), (1, .inl p1)]) rfl ?_
    refine k_aconst_null ?_
    refine k_astore_n (ls' := [(3, .inr (.inr none)), (2, .inr (.inr (some a406))), (0, .inr (.inr (some p0))), (1, .inl p1)]) rfl ?_
    refine k_iconst (m := 0) rfl (fun x430 h431 => ?_)
    refine k_istore (ls' := [(4, .inl x430), (3, .inr (.inr none)), (2, .inr (.inr (some a406))), (0, .inr (.inr (some p0))), (1, .inl p1)]) rfl ?_
    refine k_nil ?_
    have S434 : (∀ s, ReC σ0 p0 s → ∃ s', ReC σ404 p0 s' ∧ chlY (opY d) (501 - x430.toInt).toNat s' = chnY (opY d) s) := by
      intro s hs
      have y432 := q412 _ hs
      refine ⟨_, y432, ?_⟩
      all_goals try rw [show (501 - x430.toInt).toNat = 501 from by omega]
      try unfold chnY
      repeat (split <;> try (exfalso; omega))
      try unfold tkY
      repeat (split <;> try (exfalso; omega))
      try unfold dpY
      repeat (split <;> try (exfalso; omega))
      all_goals rfl
    have X435 : ExC [0, 1, 2, 60, 61, 62, 63, 64, 65, 66, 67, 68, 69, 70, 72, 73, 74, 75, 76, 242, 243, 244, 999] σ0 σ404 := ExC.rf.tr (e408.mo (by decide))
    exact hW _ _ _ _ _ (List.forall_mem_cons.2 ⟨List.Mem.tail _ (List.Mem.tail _ (List.Mem.tail _ (List.Mem.head _))), (List.forall_mem_cons.2 ⟨List.Mem.tail _ (List.Mem.tail _ (List.Mem.tail _ (List.Mem.tail _ (List.Mem.head _)))), (List.forall_mem_cons.2 ⟨List.Mem.tail _ (List.Mem.tail _ (List.Mem.head _)), (List.forall_mem_cons.2 ⟨List.Mem.tail _ (List.Mem.head _), (List.forall_mem_cons.2 ⟨List.Mem.head _, fun _ h => absurd h List.not_mem_nil⟩)⟩)⟩)⟩)⟩) (L11 _ σ404 a406 none x430 (0) rfl H407 X435 (R427.mo (by omega) (by omega) (by omega)) h410 (by omega) (by omega) S434 (by omega) rfl)
theorem lg_X7_readChain (d : Nat) : ∀ (As : List AvC) (σ : CsC), (P_X7_readChain d) As σ → lgC As ≤ rX7_readChain.2.2.1 := by
  rintro As σ ⟨p0, p1, rfl, -⟩
  exact Nat.le_of_ble_eq_true rfl
theorem s_X7_readChain (l : Launch) (d : Nat) (h_X7_readOperand : CMetC l (13 * d + 33) 170 (P_X7_readOperand d) (Q_X7_readOperand d)) : CMetC l (13 * d + 34) 167 (P_X7_readChain d) (Q_X7_readChain d) :=
  CMetC.of KX7_readChain [(170, (P_X7_readOperand d), (Q_X7_readOperand d)), (125, P_X7_code, Q_X7_code), (225, P_X11_strength, Q_X11_strength), (168, P_X7_waitingFor, Q_X7_waitingFor), (128, P_X7_accept, Q_X7_accept), (169, P_X7_closed, Q_X7_closed)] hX7_readChain (by decide) (by omega) okX7_readChain (cc1C h_X7_readOperand (by omega) (cc1C (m_X7_code l) (by omega) (cc1C (m_X11_strength l) (by omega) (cc1C (m_X7_waitingFor l) (by omega) (cc1C (m_X7_accept l) (by omega) (cc1C (m_X7_closed l) (by omega) cc0C)))))) (lg_X7_readChain d) (b_X7_readChain d)
