set_option maxRecDepth 100000 in
set_option maxHeartbeats 4000000 in
theorem b_X7_readCondition (d : Nat) : TbC KX7_readCondition [(129, P_X7_expect, Q_X7_expect), (164, (P_X7_readExp d), (Q_X7_readExp d))] (P_X7_readCondition d) (Q_X7_readCondition d) := by
  · rintro As σ0 ⟨p0, p1, p2, rfl, H0, h_0_0, h_1_0, h_2_0, h_2_1, rd_cd, rd_at, rd_bg, rd_dp⟩ hgr G hB hW
    change G 0 [(0, .inr (.inr (some p0))), (1, .inr (.inr (some p1))), (2, .inl p2)] [] σ0
    obtain ⟨x1, e2, c3, h4, h5⟩ := cg242 H0.1 h_0_0
    obtain ⟨x6, e7, c8, h9, h10⟩ := cg243 H0.1 h_0_0
    have z11 := congrArg Int32.toInt c3
    have z12 := congrArg Int32.toInt c8
    refine hB _ _ _ _ (kgoC (is := KX7_readCondition_0) rfl ?_)
    refine k_aload_n rfl ?_
    refine k_iconst (m := 0) rfl (fun x13 h14 => ?_)
    refine k_inv (P := P_X7_expect) (Q := Q_X7_expect) rfl rfl rfl rfl (Nat.le_of_ble_eq_true rfl) (h_0_0.rc (by decide)) ⟨_, _, rfl, H0, h_0_0, (by omega), (by omega), (rd_cd.st H0 h_0_0 (ExC.rf : ExC [0, 1, 2, 60, 61, 62, 63, 64, 65, 66, 67, 68, 69, 70, 72, 73, 74, 75, 76, 242, 243, 244, 279, 999] σ0 σ0) (RdC.rf : RdC p0 none 0 0 0 σ0 σ0).1 (by decide)), ((RdC.rf : RdC p0 none 0 0 0 σ0 σ0).2.2.2.1 rd_at), (rd_bg.st H0 h_0_0 (ExC.rf : ExC [0, 1, 2, 60, 61, 62, 63, 64, 65, 66, 67, 68, 69, 70, 72, 73, 74, 75, 76, 242, 243, 244, 279, 999] σ0 σ0) (RdC.rf : RdC p0 none 0 0 0 σ0 σ0) (by decide) (by omega) (by omega) (by omega))⟩ (fun w15 σ16 q17 => ?_)
    obtain ⟨rfl, H18, e19, R20, q21, q22⟩ := q17
    have t28 := h_0_0.x e19
    obtain ⟨x23, e24, c25, h26, h27⟩ := cg242 H18.1 t28
    obtain ⟨x29, e30, c31, h32, h33⟩ := cg243 H18.1 t28
    have z34 := congrArg Int32.toInt c25
    have z35 := congrArg Int32.toInt c31
    refine k_st (st' := []) rfl ?_
    have R36 : RdC p0 none (-8) (0) (0) σ0 σ16 := (RdC.rf : RdC p0 none 0 0 0 σ0 σ0).tr ⟨R20.1, R20.2⟩ (by omega) (by omega) (by omega) (by omega)
    have z37 := R36.2.2.1
    have z38 := R36.2.2.2.1 rd_at
    refine k_aload_n rfl ?_
    refine k_aload_n rfl ?_
    refine k_iload_n rfl ?_
    have X39 : ExC [0, 1, 2, 60, 61, 62, 63, 64, 65, 66, 67, 68, 69, 70, 72, 73, 74, 75, 76, 242, 243, 244, 279, 999] σ0 σ16 := ExC.rf.tr (e19.mo (by decide))
    refine k_inv (P := (P_X7_readExp d)) (Q := (Q_X7_readExp d)) rfl rfl rfl rfl (Nat.le_of_ble_eq_true rfl) (t28.rc (by decide)) ⟨_, _, rfl, H18, t28, (by omega), (by omega), (rd_cd.st H0 h_0_0 X39 R36.1 (by decide)), (R36.2.2.2.1 rd_at), (rd_bg.st H0 h_0_0 X39 R36 (by decide) (by omega) (by omega) (by omega)), (by omega)⟩ (fun w40 σ41 q42 => ?_)
    obtain ⟨a43, rfl, H44, e45, h47, R46, q48, q49⟩ := q42
    have t55 := t28.x e45
    obtain ⟨x50, e51, c52, h53, h54⟩ := cg242 H44.1 t55
    obtain ⟨x56, e57, c58, h59, h60⟩ := cg243 H44.1 t55
    have z61 := congrArg Int32.toInt c52
    have z62 := congrArg Int32.toInt c58
    refine k_st (st' := [.inr (.inr (some a43)), .inr (.inr (some p1))]) rfl ?_
    have z63 := R36.1.1
    have R64 : RdC p0 none (-8) (12 + 8 * (d : Int)) (1) σ0 σ41 := R36.tr ⟨R46.1, R46.2⟩ (by omega) (by omega) (by omega) (by omega)
    have z65 := R64.2.2.1
    have z66 := R64.2.2.2.1 rd_at
    have t67 := h_1_0.x e19
    have t68 := t67.x e45
    refine k_putR kp279 H44 t68 fk279 (rf279 h47) (fun σ69 H70 e71 c72 => ?_)
    refine k_aload_n rfl ?_
    refine k_iconst (m := 1) rfl (fun x73 h74 => ?_)
    have t75 := t55.x e71
    have R76 : RdC p0 none (-8) (12 + 8 * (d : Int)) (1) σ0 σ69 := R64.tr ⟨(e71.gw H44.1 (by decide)), (e71.cou (u := 0) H44.1 t55 (by decide) (by rw [e71.cn (by decide)]; omega))⟩ (by omega) (by omega) (by omega) (by omega)
    have c77 := (t55.mi e71 (by decide)).trans c58
    have X78 : ExC [0, 1, 2, 60, 61, 62, 63, 64, 65, 66, 67, 68, 69, 70, 72, 73, 74, 75, 76, 242, 243, 244, 279, 999] σ0 σ41 := X39.tr (e45.mo (by decide))
    have X79 : ExC [0, 1, 2, 60, 61, 62, 63, 64, 65, 66, 67, 68, 69, 70, 72, 73, 74, 75, 76, 242, 243, 244, 279, 999] σ0 σ69 := X78.tr (e71.mo (by decide))
    have c80 := (t55.mi e71 (by decide)).trans c52
    have z81 := congrArg Int32.toInt c80
    have z82 := congrArg Int32.toInt c77
    refine k_inv (P := P_X7_expect) (Q := Q_X7_expect) rfl rfl rfl rfl (Nat.le_of_ble_eq_true rfl) (t75.rc (by decide)) ⟨_, _, rfl, H70, t75, (by omega), (by omega), (rd_cd.st H0 h_0_0 X79 R76.1 (by decide)), (R76.2.2.2.1 rd_at), (rd_bg.st H0 h_0_0 X79 R76 (by decide) (by omega) (by omega) (by omega))⟩ (fun w83 σ84 q85 => ?_)
    obtain ⟨rfl, H86, e87, R88, q89, q90⟩ := q85
    have t96 := t75.x e87
    obtain ⟨x91, e92, c93, h94, h95⟩ := cg242 H86.1 t96
    obtain ⟨x97, e98, c99, h100, h101⟩ := cg243 H86.1 t96
    have z102 := congrArg Int32.toInt c93
    have z103 := congrArg Int32.toInt c99
    refine k_st (st' := []) rfl ?_
    have R104 : RdC p0 none (-16) (12 + 8 * (d : Int)) (1) σ0 σ84 := R76.tr ⟨R88.1, R88.2⟩ (by omega) (by omega) (by omega) (by omega)
    have z105 := R104.2.2.1
    have z106 := R104.2.2.2.1 rd_at
    refine k_return ?_
    have X107 : ExC [0, 1, 2, 60, 61, 62, 63, 64, 65, 66, 67, 68, 69, 70, 72, 73, 74, 75, 76, 242, 243, 244, 279, 999] σ0 σ84 := X79.tr (e87.mo (by decide))
    have S115 : ∀ s, ReC σ0 p0 s → ReC σ84 p0 (cndY d s) := by
      intro s hs
      have y108 := q22 _ hs
      rw [h14] at y108
      have y110 := q49 _ y108
      have y112 := y110.x H44.1 t55 e71 (by decide)
      have y113 := q90 _ y112
      rw [h74] at y113
      refine y113.eq ?_
      try unfold cndY
      repeat (split <;> try (exfalso; omega))
      try unfold tkY
      repeat (split <;> try (exfalso; omega))
      try unfold dpY
      repeat (split <;> try (exfalso; omega))
      all_goals rfl
    exact ⟨rfl, H86, X107, (R104.mo (by omega) (by omega) (by omega)), S115⟩
theorem lg_X7_readCondition (d : Nat) : ∀ (As : List AvC) (σ : CsC), (P_X7_readCondition d) As σ → lgC As ≤ rX7_readCondition.2.2.1 := by
  rintro As σ ⟨p0, p1, p2, rfl, -⟩
  exact Nat.le_of_ble_eq_true rfl
theorem s_X7_readCondition (l : Launch) (d : Nat) (h_X7_readExp : CMetC l (13 * d + 36) 164 (P_X7_readExp d) (Q_X7_readExp d)) : CMetC l (13 * d + 37) 153 (P_X7_readCondition d) (Q_X7_readCondition d) :=
  CMetC.of KX7_readCondition [(129, P_X7_expect, Q_X7_expect), (164, (P_X7_readExp d), (Q_X7_readExp d))] hX7_readCondition (by decide) (by omega) okX7_readCondition (cc1C (m_X7_expect l) (by omega) (cc1C h_X7_readExp (by omega) cc0C)) (lg_X7_readCondition d) (b_X7_readCondition d)

set_option maxRecDepth 100000 in
set_option maxHeartbeats 4000000 in
theorem b_X7_readExpStatement (d : Nat) : TbC KX7_readExpStatement [(142, P_X7_begin, Q_X7_begin), (164, (P_X7_readExp d), (Q_X7_readExp d)), (129, P_X7_expect, Q_X7_expect)] (P_X7_readExpStatement d) (Q_X7_readExpStatement d) := by
  · rintro As σ0 ⟨p0, p1, rfl, H0, h_0_0, h_1_0, h_1_1, rd_cd, rd_at, rd_bg, rd_dp⟩ hgr G hB hW
    change G 0 [(0, .inr (.inr (some p0))), (1, .inl p1)] [] σ0
    obtain ⟨x1, e2, c3, h4, h5⟩ := cg242 H0.1 h_0_0
    obtain ⟨x6, e7, c8, h9, h10⟩ := cg243 H0.1 h_0_0
    have z11 := congrArg Int32.toInt c3
    have z12 := congrArg Int32.toInt c8
    refine hB _ _ _ _ (kgoC (is := KX7_readExpStatement_0) rfl ?_)
    refine k_aload_n rfl ?_
    refine k_bipush (m := 90) rfl (fun x13 h14 => ?_)
    refine k_iload_n rfl ?_
    refine k_inv (P := P_X7_begin) (Q := Q_X7_begin) rfl rfl rfl rfl (Nat.le_of_ble_eq_true rfl) (h_0_0.rc (by decide)) ⟨_, _, _, rfl, H0, h_0_0, (by omega), (by omega), (rd_cd.st H0 h_0_0 (ExC.rf : ExC [0, 1, 2, 60, 61, 62, 63, 64, 65, 66, 67, 68, 69, 70, 72, 73, 74, 75, 76, 242, 243, 244, 270, 271, 272, 273, 279, 280, 999] σ0 σ0) (RdC.rf : RdC p0 none 0 0 0 σ0 σ0).1 (by decide)), ((RdC.rf : RdC p0 none 0 0 0 σ0 σ0).2.2.2.1 rd_at), (rd_bg.st H0 h_0_0 (ExC.rf : ExC [0, 1, 2, 60, 61, 62, 63, 64, 65, 66, 67, 68, 69, 70, 72, 73, 74, 75, 76, 242, 243, 244, 270, 271, 272, 273, 279, 280, 999] σ0 σ0) (RdC.rf : RdC p0 none 0 0 0 σ0 σ0) (by decide) (by omega) (by omega) (by omega)), (by omega)⟩ (fun w15 σ16 q17 => ?_)
    obtain ⟨a18, rfl, H19, e20, h22, R21, q23, q24, q25, q26⟩ := q17
    have c27 := (h_0_0.mi e20 (by decide)).trans c3
    have c28 := (h_0_0.mi e20 (by decide)).trans c8
    have z29 := congrArg Int32.toInt c27
    have z30 := congrArg Int32.toInt c28
    refine k_st (st' := [.inr (.inr (some a18))]) rfl ?_
    have z31 := (RdC.rf : RdC p0 none 0 0 0 σ0 σ0).1.1
    refine k_astore_n (ls' := [(2, .inr (.inr (some a18))), (0, .inr (.inr (some p0))), (1, .inl p1)]) rfl ?_
    refine k_aload_n rfl ?_
    refine k_aload_n rfl ?_
    refine k_iload_n rfl ?_
    have t32 := h_0_0.x e20
    have R33 : RdC p0 none (2) (2) (2) σ0 σ16 := (RdC.rf : RdC p0 none 0 0 0 σ0 σ0).tr ⟨R21.1, R21.2⟩ (by omega) (by omega) (by omega) (by omega)
    have X34 : ExC [0, 1, 2, 60, 61, 62, 63, 64, 65, 66, 67, 68, 69, 70, 72, 73, 74, 75, 76, 242, 243, 244, 270, 271, 272, 273, 279, 280, 999] σ0 σ16 := ExC.rf.tr (e20.mo (by decide))
    refine k_inv (P := (P_X7_readExp d)) (Q := (Q_X7_readExp d)) rfl rfl rfl rfl (Nat.le_of_ble_eq_true rfl) (t32.rc (by decide)) ⟨_, _, rfl, H19, t32, (by omega), (by omega), (rd_cd.st H0 h_0_0 X34 R33.1 (by decide)), (R33.2.2.2.1 rd_at), (rd_bg.st H0 h_0_0 X34 R33 (by decide) (by omega) (by omega) (by omega)), (by omega)⟩ (fun w35 σ36 q37 => ?_)
    obtain ⟨a38, rfl, H39, e40, h42, R41, q43, q44⟩ := q37
    have t50 := t32.x e40
    obtain ⟨x45, e46, c47, h48, h49⟩ := cg242 H39.1 t50
    obtain ⟨x51, e52, c53, h54, h55⟩ := cg243 H39.1 t50
    have z56 := congrArg Int32.toInt c47
    have z57 := congrArg Int32.toInt c53
    refine k_st (st' := [.inr (.inr (some a38)), .inr (.inr (some a18))]) rfl ?_
    have z58 := R33.1.1
    have R59 : RdC p0 none (2) (22 + 8 * (d : Int)) (3) σ0 σ36 := R33.tr ⟨R41.1, R41.2⟩ (by omega) (by omega) (by omega) (by omega)
    have z60 := R59.2.2.1
    have z61 := R59.2.2.2.1 rd_at
    have t62 := h22.x e40
    refine k_putR kp279 H39 t62 fk279 (rf279 h42) (fun σ63 H64 e65 c66 => ?_)
    refine k_aload_n rfl ?_
    refine k_iconst (m := 4) rfl (fun x67 h68 => ?_)
    have t69 := t50.x e65
    have R70 : RdC p0 none (2) (22 + 8 * (d : Int)) (3) σ0 σ63 := R59.tr ⟨(e65.gw H39.1 (by decide)), (e65.cou (u := 0) H39.1 t50 (by decide) (by rw [e65.cn (by decide)]; omega))⟩ (by omega) (by omega) (by omega) (by omega)
    have c71 := (t50.mi e65 (by decide)).trans c53
    have X72 : ExC [0, 1, 2, 60, 61, 62, 63, 64, 65, 66, 67, 68, 69, 70, 72, 73, 74, 75, 76, 242, 243, 244, 270, 271, 272, 273, 279, 280, 999] σ0 σ36 := X34.tr (e40.mo (by decide))
    have X73 : ExC [0, 1, 2, 60, 61, 62, 63, 64, 65, 66, 67, 68, 69, 70, 72, 73, 74, 75, 76, 242, 243, 244, 270, 271, 272, 273, 279, 280, 999] σ0 σ63 := X72.tr (e65.mo (by decide))
    have c74 := (t50.mi e65 (by decide)).trans c47
    have z75 := congrArg Int32.toInt c74
    have z76 := congrArg Int32.toInt c71
    refine k_inv (P := P_X7_expect) (Q := Q_X7_expect) rfl rfl rfl rfl (Nat.le_of_ble_eq_true rfl) (t69.rc (by decide)) ⟨_, _, rfl, H64, t69, (by omega), (by omega), (rd_cd.st H0 h_0_0 X73 R70.1 (by decide)), (R70.2.2.2.1 rd_at), (rd_bg.st H0 h_0_0 X73 R70 (by decide) (by omega) (by omega) (by omega))⟩ (fun w77 σ78 q79 => ?_)
    obtain ⟨rfl, H80, e81, R82, q83, q84⟩ := q79
    have t90 := t69.x e81
    obtain ⟨x85, e86, c87, h88, h89⟩ := cg242 H80.1 t90
    obtain ⟨x91, e92, c93, h94, h95⟩ := cg243 H80.1 t90
    have z96 := congrArg Int32.toInt c87
    have z97 := congrArg Int32.toInt c93
    refine k_st (st' := []) rfl ?_
    have R98 : RdC p0 none (-6) (22 + 8 * (d : Int)) (3) σ0 σ78 := R70.tr ⟨R82.1, R82.2⟩ (by omega) (by omega) (by omega) (by omega)
    have z99 := R98.2.2.1
    have z100 := R98.2.2.2.1 rd_at
    refine k_aload_n rfl ?_
    refine k_areturn ?_
    have X101 : ExC [0, 1, 2, 60, 61, 62, 63, 64, 65, 66, 67, 68, 69, 70, 72, 73, 74, 75, 76, 242, 243, 244, 270, 271, 272, 273, 279, 280, 999] σ0 σ78 := X73.tr (e81.mo (by decide))
    have t102 := t62.x e65
    have t103 := t102.x e81
    have c104 := (h22.mi e40 (by decide)).trans q25
    have c105 := (t62.mi e65 (by decide)).trans c104
    have c106 := (t102.mi e81 (by decide)).trans c105
    have c107 := (h22.mi e40 (by decide)).trans q24
    have c108 := (t62.mi e65 (by decide)).trans c107
    have c109 := (t102.mi e81 (by decide)).trans c108
    have S117 : ∀ s, ReC σ0 p0 s → ReC σ78 p0 (xstY d s) := by
      intro s hs
      have y110 := q26 _ hs
      have y112 := q44 _ y110
      have y114 := y112.x H39.1 t50 e65 (by decide)
      have y115 := q84 _ y114
      rw [h68] at y115
      refine y115.eq ?_
      try unfold xstY
      repeat (split <;> try (exfalso; omega))
      try unfold tkY
      repeat (split <;> try (exfalso; omega))
      try unfold dpY
      repeat (split <;> try (exfalso; omega))
      all_goals rfl
    exact ⟨_, rfl, H80, X101, t103, (R98.mo (by omega) (by omega) (by omega)), (by omega), (by rw [c106] <;> omega), (by rw [c109] <;> omega), S117⟩
theorem lg_X7_readExpStatement (d : Nat) : ∀ (As : List AvC) (σ : CsC), (P_X7_readExpStatement d) As σ → lgC As ≤ rX7_readExpStatement.2.2.1 := by
  rintro As σ ⟨p0, p1, rfl, -⟩
  exact Nat.le_of_ble_eq_true rfl
theorem s_X7_readExpStatement (l : Launch) (d : Nat) (h_X7_readExp : CMetC l (13 * d + 36) 164 (P_X7_readExp d) (Q_X7_readExp d)) : CMetC l (13 * d + 37) 152 (P_X7_readExpStatement d) (Q_X7_readExpStatement d) :=
  CMetC.of KX7_readExpStatement [(142, P_X7_begin, Q_X7_begin), (164, (P_X7_readExp d), (Q_X7_readExp d)), (129, P_X7_expect, Q_X7_expect)] hX7_readExpStatement (by decide) (by omega) okX7_readExpStatement (cc1C (m_X7_begin l) (by omega) (cc1C h_X7_readExp (by omega) (cc1C (m_X7_expect l) (by omega) cc0C))) (lg_X7_readExpStatement d) (b_X7_readExpStatement d)

set_option maxRecDepth 100000 in
set_option maxHeartbeats 4000000 in
theorem b_X7_readVariable (d : Nat) : TbC KX7_readVariable [(142, P_X7_begin, Q_X7_begin), (130, P_X7_takes, Q_X7_takes), (136, P_X7_readType, Q_X7_readType), (137, P_X7_declare, Q_X7_declare), (138, P_X7_know, Q_X7_know), (125, P_X7_code, Q_X7_code), (129, P_X7_expect, Q_X7_expect), (164, (P_X7_readExp d), (Q_X7_readExp d)), (17, P_X1_init, Q_X1_init), (161, P_X7_put, Q_X7_put)] (P_X7_readVariable d) (Q_X7_readVariable d) := by
  · rintro As σ0 ⟨p0, p1, p2, rfl, H0, h_0_0, h_1_0, h_1_1, h_2_0, h_2_1, rd_cd, rd_at, rd_bl, rd_lv, rd_dp⟩ hgr G hB hW
    change G 0 [(0, .inr (.inr (some p0))), (1, .inl p1), (2, .inl p2)] [] σ0
    obtain ⟨x1, e2, c3, h4, h5⟩ := cg242 H0.1 h_0_0
    obtain ⟨x6, e7, c8, h9, h10⟩ := cg243 H0.1 h_0_0
    have z11 := congrArg Int32.toInt c3
    have z12 := congrArg Int32.toInt c8
    have h13 : x6.toInt = 0 := by rw [← c8]; exact rd_lv
    have rd_bg : BgC σ0 p0 (23 + 8 * (d : Int)) 1000000 := ⟨fun _ => rd_bl, fun z => absurd rd_lv z⟩
    refine hB _ _ _ _ (kgoC (is := KX7_readVariable_0) rfl ?_)
    refine k_aload_n rfl ?_
    refine k_iload_n rfl ?_
    refine k_iload_n rfl ?_
    have R14 := (RdC.rf : RdC p0 none 0 0 0 σ0 σ0).nf (-1000) (-1000) (by rw [c8]; omega)
    refine k_inv (P := P_X7_begin) (Q := Q_X7_begin) rfl rfl rfl rfl (Nat.le_of_ble_eq_true rfl) (h_0_0.rc (by decide)) ⟨_, _, _, rfl, H0, h_0_0, (by omega), (by omega), (rd_cd.st H0 h_0_0 (ExC.rf : ExC [0, 1, 2, 60, 61, 62, 63, 64, 65, 66, 67, 68, 69, 70, 72, 73, 74, 75, 76, 242, 243, 244, 270, 271, 272, 273, 279, 280, 330, 331, 332, 333, 334, 999] σ0 σ0) R14.1 (by decide)), (R14.2.2.2.1 rd_at), (rd_bg.stn H0 h_0_0 (ExC.rf : ExC [0, 1, 2, 60, 61, 62, 63, 64, 65, 66, 67, 68, 69, 70, 72, 73, 74, 75, 76, 242, 243, 244, 270, 271, 272, 273, 279, 280, 330, 331, 332, 333, 334, 999] σ0 σ0) R14 (by decide) (by rw [c8]; omega) (by omega)), (by omega)⟩ (fun w15 σ16 q17 => ?_)
    obtain ⟨a18, rfl, H19, e20, h22, R21, q23, q24, q25, q26⟩ := q17
    have c27 := (h_0_0.mi e20 (by decide)).trans c3
    have c28 := (h_0_0.mi e20 (by decide)).trans c8
    have z29 := congrArg Int32.toInt c27
    have z30 := congrArg Int32.toInt c28
    refine k_st (st' := [.inr (.inr (some a18))]) rfl ?_
    have z31 := R14.1.1
    refine k_astore_n (ls' := [(3, .inr (.inr (some a18))), (0, .inr (.inr (some p0))), (1, .inl p1), (2, .inl p2)]) rfl ?_
    refine k_aload_n rfl ?_
    refine k_bipush (m := 71) rfl (fun x32 h33 => ?_)
    have t34 := h_0_0.x e20
    have R35 : RdC p0 none (2) (2) (-998) σ0 σ16 := R14.tr ⟨R21.1, R21.2⟩ (by omega) (by omega) (by omega) (by omega)
    have R36 := R35.nf (-1000) (-1000) (by rw [c28]; omega)
    have X37 : ExC [0, 1, 2, 60, 61, 62, 63, 64, 65, 66, 67, 68, 69, 70, 72, 73, 74, 75, 76, 242, 243, 244, 270, 271, 272, 273, 279, 280, 330, 331, 332, 333, 334, 999] σ0 σ16 := ExC.rf.tr (e20.mo (by decide))
    refine k_inv (P := P_X7_takes) (Q := Q_X7_takes) rfl rfl rfl rfl (Nat.le_of_ble_eq_true rfl) (t34.rc (by decide)) ⟨_, _, rfl, H19, t34, (by omega), (by omega), (rd_cd.st H0 h_0_0 X37 R36.1 (by decide)), (R36.2.2.2.1 rd_at), (rd_bg.stn H0 h_0_0 X37 R36 (by decide) (by rw [c28]; omega) (by omega))⟩ (fun w38 σ39 q40 => ?_)
    obtain ⟨x41, rfl, H42, e43, h45, h46, R44, q47, q48⟩ := q40
    have t54 := t34.x e43
    obtain ⟨x49, e50, c51, h52, h53⟩ := cg242 H42.1 t54
    obtain ⟨x55, e56, c57, h58, h59⟩ := cg243 H42.1 t54
    have z60 := congrArg Int32.toInt c51
    have z61 := congrArg Int32.toInt c57
    refine k_st (st' := [.inl x41]) rfl ?_
    rcases (by omega : x41.toInt = 0 ∨ x41.toInt = 1) with g62 | g62
    · have R63 : RdC p0 none (2) (2) (-1000) σ0 σ39 := R36.tr ⟨R44.1, R44.2⟩ (by omega) (by omega) (by omega) (by omega)
      have z64 := R63.2.2.1
      have z65 := R63.2.2.2.1 rd_at
      refine k_istore (ls' := [(4, .inl x41), (3, .inr (.inr (some a18))), (0, .inr (.inr (some p0))), (1, .inl p1), (2, .inl p2)]) rfl ?_
      refine k_aload_n rfl ?_
      have X66 : ExC [0, 1, 2, 60, 61, 62, 63, 64, 65, 66, 67, 68, 69, 70, 72, 73, 74, 75, 76, 242, 243, 244, 270, 271, 272, 273, 279, 280, 330, 331, 332, 333, 334, 999] σ0 σ39 := X37.tr (e43.mo (by decide))
      refine k_inv (P := P_X7_readType) (Q := Q_X7_readType) rfl rfl rfl rfl (Nat.le_of_ble_eq_true rfl) (t54.rc (by decide)) ⟨_, rfl, H42, t54, (rd_cd.st H0 h_0_0 X66 R63.1 (by decide)), (R63.2.2.2.1 rd_at), (rd_bg.st H0 h_0_0 X66 R63 (by decide) (by omega) (by omega) (by omega))⟩ (fun w67 σ68 q69 => ?_)
      obtain ⟨x70, rfl, H71, e72, R73, q74⟩ := q69
      have t80 := t54.x e72
      obtain ⟨x75, e76, c77, h78, h79⟩ := cg242 H71.1 t80
      obtain ⟨x81, e82, c83, h84, h85⟩ := cg243 H71.1 t80
      have z86 := congrArg Int32.toInt c77
      have z87 := congrArg Int32.toInt c83
      refine k_st (st' := [.inl x70]) rfl ?_
      refine k_istore (ls' := [(5, .inl x70), (4, .inl x41), (3, .inr (.inr (some a18))), (0, .inr (.inr (some p0))), (1, .inl p1), (2, .inl p2)]) rfl ?_
      refine k_aload_n rfl ?_
      refine k_aload_n rfl ?_
      refine k_iload rfl ?_
      refine k_iload rfl ?_
      refine k_iconst (m := 1) rfl (fun x88 h89 => ?_)
      have R90 : RdC p0 none (-6) (2) (-1000) σ0 σ68 := R63.tr ⟨R73.1, R73.2⟩ (by omega) (by omega) (by omega) (by omega)
      have X91 : ExC [0, 1, 2, 60, 61, 62, 63, 64, 65, 66, 67, 68, 69, 70, 72, 73, 74, 75, 76, 242, 243, 244, 270, 271, 272, 273, 279, 280, 330, 331, 332, 333, 334, 999] σ0 σ68 := X66.tr (e72.mo (by decide))
      refine k_inv (P := P_X7_declare) (Q := Q_X7_declare) rfl rfl rfl rfl (Nat.le_of_ble_eq_true rfl) (t80.rc (by decide)) ⟨_, _, _, _, rfl, H71, t80, (by omega), (by omega), (by omega), (by omega), (rd_cd.st H0 h_0_0 X91 R90.1 (by decide)), (R90.2.2.2.1 rd_at), (rd_bg.st H0 h_0_0 X91 R90 (by decide) (by omega) (by omega) (by omega))⟩ (fun w92 σ93 q94 => ?_)
      obtain ⟨x95, rfl, H96, e97, h99, h100, R98, q101⟩ := q94
      have t107 := t80.x e97
      obtain ⟨x102, e103, c104, h105, h106⟩ := cg242 H96.1 t107
      obtain ⟨x108, e109, c110, h111, h112⟩ := cg243 H96.1 t107
      have z113 := congrArg Int32.toInt c104
      have z114 := congrArg Int32.toInt c110
      refine k_st (st' := [.inl x95, .inr (.inr (some a18))]) rfl ?_
      have t115 := h22.x e43
      have t116 := t115.x e72
      have t117 := t116.x e97
      have c122 := (h22.mi e43 (by decide)).trans q24
      have c123 := (t115.mi e72 (by decide)).trans c122
      have c124 := (t116.mi e97 (by decide)).trans c123
      refine k_p280 H96 t117 (by omega) (by omega) (by rw [c124]; omega) (fun σ118 H119 e120 c121 => ?_)
      refine k_aload_n rfl ?_
      refine k_aload_n rfl ?_
      have t125 := t117.x e120
      refine k_get kg280 t125 (congrArg (Sum.inl : Int32 → AvC) c121) ?_
      have t126 := t107.x e120
      refine k_inv (P := P_X7_know) (Q := Q_X7_know) rfl rfl rfl rfl (Nat.le_of_ble_eq_true rfl) (t126.rc (by decide)) ⟨_, _, rfl, H119, t126⟩ (fun w127 σ128 q129 => ?_)
      obtain ⟨rfl, H130, e131⟩ := q129
      have c132 := (t107.mi e120 (by decide)).trans c104
      have c133 := (t126.mi e131 (by decide)).trans c132
      have c134 := (t107.mi e120 (by decide)).trans c110
      have c135 := (t126.mi e131 (by decide)).trans c134
      have z136 := congrArg Int32.toInt c133
      have z137 := congrArg Int32.toInt c135
      refine k_st (st' := []) rfl ?_
      refine k_iload rfl ?_
      refine k_if_ne (fun h138 => by exfalso; omega) (fun h138 => ?_)
      refine k_nil ?_
      refine hB _ _ _ _ (kgoC (is := KX7_readVariable_47) rfl ?_)
      refine k_aload_n rfl ?_
      have t139 := t126.x e131
      have R140 : RdC p0 none (-12) (2) (-1000) σ0 σ93 := R90.tr ⟨R98.1, R98.2⟩ (by omega) (by omega) (by omega) (by omega)
      have R141 : RdC p0 none (-12) (2) (-1000) σ0 σ118 := R140.tr ⟨(e120.gw H96.1 (by decide)), (e120.cou (u := 0) H96.1 t107 (by decide) (by rw [e120.cn (by decide)]; omega))⟩ (by omega) (by omega) (by omega) (by omega)
      have R142 : RdC p0 none (-12) (2) (-1000) σ0 σ128 := R141.tr ⟨(e131.gw H119.1 (by decide)), (e131.cou (u := 0) H119.1 t126 (by decide) (by rw [e131.cn (by decide)]; omega))⟩ (by omega) (by omega) (by omega) (by omega)
      have X143 : ExC [0, 1, 2, 60, 61, 62, 63, 64, 65, 66, 67, 68, 69, 70, 72, 73, 74, 75, 76, 242, 243, 244, 270, 271, 272, 273, 279, 280, 330, 331, 332, 333, 334, 999] σ0 σ93 := X91.tr (e97.mo (by decide))
      have X144 : ExC [0, 1, 2, 60, 61, 62, 63, 64, 65, 66, 67, 68, 69, 70, 72, 73, 74, 75, 76, 242, 243, 244, 270, 271, 272, 273, 279, 280, 330, 331, 332, 333, 334, 999] σ0 σ118 := X143.tr (e120.mo (by decide))
      have X145 : ExC [0, 1, 2, 60, 61, 62, 63, 64, 65, 66, 67, 68, 69, 70, 72, 73, 74, 75, 76, 242, 243, 244, 270, 271, 272, 273, 279, 280, 330, 331, 332, 333, 334, 999] σ0 σ128 := X144.tr (e131.mo (by decide))
      refine k_inv (P := P_X7_code) (Q := Q_X7_code) rfl rfl rfl rfl (Nat.le_of_ble_eq_true rfl) (t139.rc (by decide)) ⟨_, rfl, H130, t139, (rd_cd.st H0 h_0_0 X145 R142.1 (by decide))⟩ (fun w146 σ147 q148 => ?_)
      obtain ⟨x149, rfl, rfl, q150, q151, q152, q153⟩ := q148
      refine k_st (st' := [.inl x149]) rfl ?_
      have z154 := R142.2.2.1
      have z155 := R142.2.2.2.1 rd_at
      refine k_bipush (m := 8) rfl (fun x156 h157 => ?_)
      refine k_ic_ne (fun h158 => ?_) (fun h158 => ?_)
      · refine hB _ _ _ _ (kgoC (is := KX7_readVariable_120) rfl ?_)
        refine k_aload_n rfl ?_
        refine k_areturn ?_
        have t159 := t125.x e131
        have c160 := (h22.mi e43 (by decide)).trans q25
        have c161 := (t115.mi e72 (by decide)).trans c160
        have c162 := (t116.mi e97 (by decide)).trans c161
        have c163 := (t117.mi e120 (by decide)).trans c162
        have c164 := (t125.mi e131 (by decide)).trans c163
        have c165 := (t117.mi e120 (by decide)).trans c124
        have c166 := (t125.mi e131 (by decide)).trans c165
        have S178 : ∀ s, ReC σ0 p0 s → ReC σ128 p0 (varY d s) := by
          intro s hs
          have y167 := q26 _ hs
          obtain ⟨y169, f170⟩ := q48 _ y167
          rw [h33] at y169
          rw [h33] at f170
          rw [tkY_n (f170.2 (by omega))] at y169
          obtain ⟨y171, f172⟩ := q74 _ y169
          have y173 := q101 _ y171
          rw [f172] at y173
          rw [show x41.toInt = 0 from by omega] at y173
          rw [h89] at y173
          have y175 := y173.x H96.1 t107 e120 (by decide)
          have y176 := y175.x H119.1 t126 e131 (by decide)
          have f177 := q153 _ y176
          refine y176.eq ?_
          try unfold varY
          repeat (split <;> try (exfalso; omega))
          try unfold va2Y
          repeat (split <;> try (exfalso; omega))
          try unfold tkY
          repeat (split <;> try (exfalso; omega))
          try unfold dpY
          repeat (split <;> try (exfalso; omega))
          all_goals rfl
        exact ⟨_, rfl, H130, X145, t159, (R142.mo (by omega) (by omega) (by omega)), (by omega), (by rw [c164] <;> omega), (by rw [c166] <;> omega), S178⟩
      · have h179 : x108.toInt = 0 := by omega
        refine k_nil ?_
        refine hB _ _ _ _ (kgoC (is := KX7_readVariable_56) rfl ?_)
        refine k_aload_n rfl ?_
        refine k_bipush (m := 8) rfl (fun x180 h181 => ?_)
        have R182 := R142.nf (-1000) (-1000) (by rw [c135]; omega)
        refine k_inv (P := P_X7_expect) (Q := Q_X7_expect) rfl rfl rfl rfl (Nat.le_of_ble_eq_true rfl) (t139.rc (by decide)) ⟨_, _, rfl, H130, t139, (by omega), (by omega), (rd_cd.st H0 h_0_0 X145 R182.1 (by decide)), (R182.2.2.2.1 rd_at), (rd_bg.stn H0 h_0_0 X145 R182 (by decide) (by rw [c135]; omega) (by omega))⟩ (fun w183 σ184 q185 => ?_)
        obtain ⟨rfl, H186, e187, R188, q189, q190⟩ := q185
        have t196 := t139.x e187
        obtain ⟨x191, e192, c193, h194, h195⟩ := cg242 H186.1 t196
        obtain ⟨x197, e198, c199, h200, h201⟩ := cg243 H186.1 t196
        have z202 := congrArg Int32.toInt c193
        have z203 := congrArg Int32.toInt c199
        refine k_st (st' := []) rfl ?_
        have R204 : RdC p0 none (-20) (-12) (-1000) σ0 σ184 := R182.tr ⟨R188.1, R188.2⟩ (by omega) (by omega) (by omega) (by omega)
        have z205 := R204.2.2.1
        have z206 := R204.2.2.2.1 rd_at
        refine k_aload_n rfl ?_
        refine k_aload_n rfl ?_
        refine k_iload_n rfl ?_
        have X207 : ExC [0, 1, 2, 60, 61, 62, 63, 64, 65, 66, 67, 68, 69, 70, 72, 73, 74, 75, 76, 242, 243, 244, 270, 271, 272, 273, 279, 280, 330, 331, 332, 333, 334, 999] σ0 σ184 := X145.tr (e187.mo (by decide))
        refine k_inv (P := (P_X7_readExp d)) (Q := (Q_X7_readExp d)) rfl rfl rfl rfl (Nat.le_of_ble_eq_true rfl) (t196.rc (by decide)) ⟨_, _, rfl, H186, t196, (by omega), (by omega), (rd_cd.st H0 h_0_0 X207 R204.1 (by decide)), (R204.2.2.2.1 rd_at), (rd_bg.st H0 h_0_0 X207 R204 (by decide) (by omega) (by omega) (by omega)), (by omega)⟩ (fun w208 σ209 q210 => ?_)
        obtain ⟨a211, rfl, H212, e213, h215, R214, q216, q217⟩ := q210
        have t223 := t196.x e213
        obtain ⟨x218, e219, c220, h221, h222⟩ := cg242 H212.1 t223
        obtain ⟨x224, e225, c226, h227, h228⟩ := cg243 H212.1 t223
        have z229 := congrArg Int32.toInt c220
        have z230 := congrArg Int32.toInt c226
        refine k_st (st' := [.inr (.inr (some a211)), .inr (.inr (some a18))]) rfl ?_
        have z231 := R204.1.1
        have R232 : RdC p0 none (-20) (0 + 8 * (d : Int)) (-999) σ0 σ209 := R204.tr ⟨R214.1, R214.2⟩ (by omega) (by omega) (by omega) (by omega)
        have z233 := R232.2.2.1
        have z234 := R232.2.2.2.1 rd_at
        have t235 := t125.x e131
        have t236 := t235.x e187
        have t237 := t236.x e213
        refine k_putR kp279 H212 t237 fk279 (rf279 h215) (fun σ238 H239 e240 c241 => ?_)
        have R242 : RdC p0 none (-20) (0 + 8 * (d : Int)) (-999) σ0 σ238 := R232.tr ⟨(e240.gw H212.1 (by decide)), (e240.cou (u := 0) H212.1 t223 (by decide) (by rw [e240.cn (by decide)]; omega))⟩ (by omega) (by omega) (by omega) (by omega)
        have c243 := (t223.mi e240 (by decide)).trans c226
        have X244 : ExC [0, 1, 2, 60, 61, 62, 63, 64, 65, 66, 67, 68, 69, 70, 72, 73, 74, 75, 76, 242, 243, 244, 270, 271, 272, 273, 279, 280, 330, 331, 332, 333, 334, 999] σ0 σ209 := X207.tr (e213.mo (by decide))
        have X245 : ExC [0, 1, 2, 60, 61, 62, 63, 64, 65, 66, 67, 68, 69, 70, 72, 73, 74, 75, 76, 242, 243, 244, 270, 271, 272, 273, 279, 280, 330, 331, 332, 333, 334, 999] σ0 σ238 := X244.tr (e240.mo (by decide))
        have B246 : BgC σ238 p0 1 1 := rd_bg.st H0 h_0_0 X245 R242 (by decide) (by omega) (by omega) (by omega)
        have t249 := t223.x e240
        obtain ⟨h247, h248⟩ := B246.new H239.1 t249 (u := 1) (by omega) (by omega)
        have z250 := R242.1.1
        refine k_new (c := 2) (g := 0) H239 (by decide) rfl (by omega) (by have hn : nfC 2 = 18 := rfl; omega) (fun a251 σ252 q253 H254 e255 r256 z257 l258 u259 u260 => ?_)
        rw [show nfC 2 = 18 from rfl] at u260
        have u261 : cpC σ252 = cpC σ238 := congrArg Prod.fst e255.2.1.1
        have u262 : spC σ252 = spC σ238 := congrArg Prod.snd e255.2.1.1
        refine k_dupR ?_
        refine k_bipush (m := 15) rfl (fun x263 h264 => ?_)
        refine k_bipush (m := 8) rfl (fun x265 h266 => ?_)
        refine k_aload_n rfl ?_
        have t267 := t237.x e240
        have t268 := t267.x e255
        obtain ⟨x271, e269, c270, h272, h273⟩ := cg271 H254.1 t268
        refine k_get kg271 t268 e269 ?_
        refine k_aload_n rfl ?_
        have c274 := (t267.mr e255 (by decide)).trans c241
        refine k_get kg279 t268 (congrArg (fun z : Option Nat => (Sum.inr (Sum.inr z) : AvC)) c274) ?_
        have t275 := h215.x e240
        have t276 := t275.x e255
        obtain ⟨x279, e277, c278, h280, h281⟩ := cg63 H254.1 t276
        refine k_get kg63 t276 e277 ?_
        refine k_spec (P := P_X1_init) (Q := Q_X1_init) rfl rfl rfl rfl (Nat.le_of_ble_eq_true rfl) ⟨_, _, _, _, _, rfl, H254, r256, z257, (by omega), (by omega), (by omega), (by omega), (by omega)⟩ (fun w282 σ283 q284 => ?_)
        have t292 := t249.x e255
        obtain ⟨rfl, H285, e286, t287, t287', l288, u289, u290, g291, q294, q295, q296, q297⟩ := q284
        have l293 := l288.trans l258
        have c298 := (t223.mi e240 (by decide)).trans c220
        have c299 := (t249.mi e255 (by decide)).trans c298
        have c300 := (t292.mit r256 (by decide) e286 (by decide)).trans c299
        have c301 := (t249.mi e255 (by decide)).trans c243
        have c302 := (t292.mit r256 (by decide) e286 (by decide)).trans c301
        have z303 := congrArg Int32.toInt c300
        have z304 := congrArg Int32.toInt c302
        refine k_st (st' := [.inr (.inr (some a251))]) rfl ?_
        have t305 : TyC σ283 a251 2 := ⟨t287, t287', fun _ hz => by have z1 := congrArg Int32.toInt (q294.symm.trans hz.1); have z2 : (7 : Int32).toInt = 7 := rfl; omega⟩
        refine k_astore (ls' := [(6, .inr (.inr (some a251))), (5, .inl x70), (4, .inl x41), (3, .inr (.inr (some a18))), (0, .inr (.inr (some p0))), (1, .inl p1), (2, .inl p2)]) rfl ?_
        refine k_aload rfl ?_
        refine k_aload_n rfl ?_
        have t306 := t268.xt r256 (by decide) e286
        have c307 := (t125.mi e131 (by decide)).trans c121
        have c308 := (t235.mi e187 (by decide)).trans c307
        have c309 := (t236.mi e213 (by decide)).trans c308
        have c310 := (t237.mi e240 (by decide)).trans c309
        have c311 := (t267.mi e255 (by decide)).trans c310
        have c312 := (t268.mit r256 (by decide) e286 (by decide)).trans c311
        refine k_get kg280 t306 (congrArg (Sum.inl : Int32 → AvC) c312) ?_
        refine k_putI kp67 H285 t305 (Or.inl fk67) (tiC x95).1 (tiC x95).2 (fun σ313 H314 e315 c316 => ?_)
        refine k_aload rfl ?_
        refine k_aload_n rfl ?_
        have t317 := t306.x e315
        have c318 := (t268.mrt r256 (by decide) e286 (by decide)).trans c274
        have c319 := (t306.mr e315 (by decide)).trans c318
        refine k_get kg279 t317 (congrArg (fun z : Option Nat => (Sum.inr (Sum.inr z) : AvC)) c319) ?_
        have t320 := t305.x e315
        have t325 := t276.xt r256 (by decide) e286
        have t326 := t325.x e315
        refine k_putR kp72 H314 t320 fk72 (rf72 t326) (fun σ321 H322 e323 c324 => ?_)
        refine k_aload_n rfl ?_
        refine k_aload rfl ?_
        have t327 := t292.xt r256 (by decide) e286
        have t328 := t327.x e315
        have t329 := t328.x e323
        have t330 := t320.x e323
        have R331 : RdC p0 none (-19) (1 + 8 * (d : Int)) (-998) σ0 σ252 := R242.tr ⟨(e255.gwn H239.1 u259 u260 (by decide) (by rw [← q253]; exact r256.n0)), (e255.cou (u := 1) H239.1 t249 (by decide) (by omega))⟩ (by omega) (by omega) (by omega) (by omega)
        have R332 : RdC p0 none (-19) (1 + 8 * (d : Int)) (-998) σ0 σ283 := R331.tr ⟨g291, (e286.co (u := 0) H254.1 t292 r256 (by decide) (by omega))⟩ (by omega) (by omega) (by omega) (by omega)
        have R333 : RdC p0 none (-19) (1 + 8 * (d : Int)) (-998) σ0 σ313 := R332.tr ⟨(e315.gw H285.1 (by decide)), (e315.cou (u := 0) H285.1 t327 (by decide) (by rw [e315.cn (by decide)]; omega))⟩ (by omega) (by omega) (by omega) (by omega)
        have R334 : RdC p0 none (-19) (1 + 8 * (d : Int)) (-998) σ0 σ321 := R333.tr ⟨(e323.gw H314.1 (by decide)), (e323.cou (u := 0) H314.1 t328 (by decide) (by rw [e323.cn (by decide)]; omega))⟩ (by omega) (by omega) (by omega) (by omega)
        have c335 := (t327.mi e315 (by decide)).trans c302
        have c336 := (t328.mi e323 (by decide)).trans c335
        have X337 : ExC [0, 1, 2, 60, 61, 62, 63, 64, 65, 66, 67, 68, 69, 70, 72, 73, 74, 75, 76, 242, 243, 244, 270, 271, 272, 273, 279, 280, 330, 331, 332, 333, 334, 999] σ238 σ252 := ExC.rf.tr (e255.mo (by decide))
        have X338 : ExC [0, 1, 2, 60, 61, 62, 63, 64, 65, 66, 67, 68, 69, 70, 72, 73, 74, 75, 76, 242, 243, 244, 270, 271, 272, 273, 279, 280, 330, 331, 332, 333, 334, 999] σ238 σ283 := (X337 : ExC [0, 1, 2, 60, 61, 62, 63, 64, 65, 66, 67, 68, 69, 70, 72, 73, 74, 75, 76, 242, 243, 244, 270, 271, 272, 273, 279, 280, 330, 331, 332, 333, 334, 999] σ238 σ252).nt (Nat.le_of_eq q253.symm) (e286.mo (by decide))
        have X339 : ExC [0, 1, 2, 60, 61, 62, 63, 64, 65, 66, 67, 68, 69, 70, 72, 73, 74, 75, 76, 242, 243, 244, 270, 271, 272, 273, 279, 280, 330, 331, 332, 333, 334, 999] σ0 σ283 := X245.tr X338
        have X340 : ExC [0, 1, 2, 60, 61, 62, 63, 64, 65, 66, 67, 68, 69, 70, 72, 73, 74, 75, 76, 242, 243, 244, 270, 271, 272, 273, 279, 280, 330, 331, 332, 333, 334, 999] σ0 σ313 := X339.tr (e315.mo (by decide))
        have X341 : ExC [0, 1, 2, 60, 61, 62, 63, 64, 65, 66, 67, 68, 69, 70, 72, 73, 74, 75, 76, 242, 243, 244, 270, 271, 272, 273, 279, 280, 330, 331, 332, 333, 334, 999] σ0 σ321 := X340.tr (e323.mo (by decide))
        have c342 := (t327.mi e315 (by decide)).trans c300
        have c343 := (t328.mi e323 (by decide)).trans c342
        have z344 := congrArg Int32.toInt c343
        have z345 := congrArg Int32.toInt c336
        refine k_inv (P := P_X7_put) (Q := Q_X7_put) rfl rfl rfl rfl (Nat.le_of_ble_eq_true rfl) (t329.rc (by decide)) ⟨_, _, rfl, H322, t329, t330, (rd_cd.st H0 h_0_0 X341 R334.1 (by decide)), (R334.2.2.2.1 rd_at), (rd_bg.st H0 h_0_0 X341 R334 (by decide) (by omega) (by omega) (by omega))⟩ (fun w346 σ347 q348 => ?_)
        obtain ⟨a349, rfl, H350, e351, h353, R352, q354, q355⟩ := q348
        have c356 := (t329.mi e351 (by decide)).trans c343
        have c357 := (t329.mi e351 (by decide)).trans c336
        have z358 := congrArg Int32.toInt c356
        have z359 := congrArg Int32.toInt c357
        refine k_st (st' := [.inr (.inr (some a349))]) rfl ?_
        refine k_popR ?_
        refine k_nil ?_
        refine hB _ _ _ _ (kgoC (is := KX7_readVariable_120) rfl ?_)
        refine k_aload_n rfl ?_
        refine k_areturn ?_
        have X360 : ExC [0, 1, 2, 60, 61, 62, 63, 64, 65, 66, 67, 68, 69, 70, 72, 73, 74, 75, 76, 242, 243, 244, 270, 271, 272, 273, 279, 280, 330, 331, 332, 333, 334, 999] σ0 σ347 := X341.tr (e351.mo (by decide))
        have t361 := t317.x e323
        have t362 := t361.x e351
        have R363 : RdC p0 none (-18) (2 + 8 * (d : Int)) (-997) σ0 σ347 := R334.tr ⟨R352.1, R352.2⟩ (by omega) (by omega) (by omega) (by omega)
        have c364 := (h22.mi e43 (by decide)).trans q25
        have c365 := (t115.mi e72 (by decide)).trans c364
        have c366 := (t116.mi e97 (by decide)).trans c365
        have c367 := (t117.mi e120 (by decide)).trans c366
        have c368 := (t125.mi e131 (by decide)).trans c367
        have c369 := (t235.mi e187 (by decide)).trans c368
        have c370 := (t236.mi e213 (by decide)).trans c369
        have c371 := (t237.mi e240 (by decide)).trans c370
        have c372 := (t267.mi e255 (by decide)).trans c371
        have c373 := (t268.mit r256 (by decide) e286 (by decide)).trans c372
        have c374 := (t306.mi e315 (by decide)).trans c373
        have c375 := (t317.mi e323 (by decide)).trans c374
        have c376 := (t361.mi e351 (by decide)).trans c375
        have c377 := (t117.mi e120 (by decide)).trans c124
        have c378 := (t125.mi e131 (by decide)).trans c377
        have c379 := (t235.mi e187 (by decide)).trans c378
        have c380 := (t236.mi e213 (by decide)).trans c379
        have c381 := (t237.mi e240 (by decide)).trans c380
        have c382 := (t267.mi e255 (by decide)).trans c381
        have c383 := (t268.mit r256 (by decide) e286 (by decide)).trans c382
        have c384 := (t306.mi e315 (by decide)).trans c383
        have c385 := (t317.mi e323 (by decide)).trans c384
        have c386 := (t361.mi e351 (by decide)).trans c385
        have S409 : ∀ s, ReC σ0 p0 s → ReC σ347 p0 (varY d s) := by
          intro s hs
          have y387 := q26 _ hs
          obtain ⟨y389, f390⟩ := q48 _ y387
          rw [h33] at y389
          rw [h33] at f390
          rw [tkY_n (f390.2 (by omega))] at y389
          obtain ⟨y391, f392⟩ := q74 _ y389
          have y393 := q101 _ y391
          rw [f392] at y393
          rw [show x41.toInt = 0 from by omega] at y393
          rw [h89] at y393
          have y395 := y393.x H96.1 t107 e120 (by decide)
          have y396 := y395.x H119.1 t126 e131 (by decide)
          have f397 := q153 _ y396
          have y398 := q190 _ y396
          rw [h181] at y398
          have y400 := q217 _ y398
          have y402 := y400.x H212.1 t223 e240 (by decide)
          have y403 := y402.x H239.1 t249 e255 (by decide)
          have y404 := y403.xt H254.1 t292 r256 e286 (by decide)
          have y405 := y404.x H285.1 t327 e315 (by decide)
          have y406 := y405.x H314.1 t328 e323 (by decide)
          have y407 := q355 _ y406
          refine y407.eq ?_
          try unfold varY
          repeat (split <;> try (exfalso; omega))
          try unfold va2Y
          repeat (split <;> try (exfalso; omega))
          try unfold tkY
          repeat (split <;> try (exfalso; omega))
          try unfold dpY
          repeat (split <;> try (exfalso; omega))
          all_goals rfl
        exact ⟨_, rfl, H350, X360, t362, (R363.mo (by omega) (by omega) (by omega)), (by omega), (by rw [c376] <;> omega), (by rw [c386] <;> omega), S409⟩
    · have R410 := R36.nf (-1000) (-1000) (q47 (by omega)).1
      have R411 : RdC p0 none (-6) (2) (-1000) σ0 σ39 := R410.tr ⟨(q47 (by omega)).2.1, (q47 (by omega)).2.2⟩ (by omega) (by omega) (by omega) (by omega)
      have z412 := R411.2.2.1
      have z413 := R411.2.2.2.1 rd_at
      refine k_istore (ls' := [(4, .inl x41), (3, .inr (.inr (some a18))), (0, .inr (.inr (some p0))), (1, .inl p1), (2, .inl p2)]) rfl ?_
      refine k_aload_n rfl ?_
      have X414 : ExC [0, 1, 2, 60, 61, 62, 63, 64, 65, 66, 67, 68, 69, 70, 72, 73, 74, 75, 76, 242, 243, 244, 270, 271, 272, 273, 279, 280, 330, 331, 332, 333, 334, 999] σ0 σ39 := X37.tr (e43.mo (by decide))
      refine k_inv (P := P_X7_readType) (Q := Q_X7_readType) rfl rfl rfl rfl (Nat.le_of_ble_eq_true rfl) (t54.rc (by decide)) ⟨_, rfl, H42, t54, (rd_cd.st H0 h_0_0 X414 R411.1 (by decide)), (R411.2.2.2.1 rd_at), (rd_bg.st H0 h_0_0 X414 R411 (by decide) (by omega) (by omega) (by omega))⟩ (fun w415 σ416 q417 => ?_)
      obtain ⟨x418, rfl, H419, e420, R421, q422⟩ := q417
      have t428 := t54.x e420
      obtain ⟨x423, e424, c425, h426, h427⟩ := cg242 H419.1 t428
      obtain ⟨x429, e430, c431, h432, h433⟩ := cg243 H419.1 t428
      have z434 := congrArg Int32.toInt c425
      have z435 := congrArg Int32.toInt c431
      refine k_st (st' := [.inl x418]) rfl ?_
      refine k_istore (ls' := [(5, .inl x418), (4, .inl x41), (3, .inr (.inr (some a18))), (0, .inr (.inr (some p0))), (1, .inl p1), (2, .inl p2)]) rfl ?_
      refine k_aload_n rfl ?_
      refine k_aload_n rfl ?_
      refine k_iload rfl ?_
      refine k_iload rfl ?_
      refine k_iconst (m := 1) rfl (fun x436 h437 => ?_)
      have R438 : RdC p0 none (-14) (2) (-1000) σ0 σ416 := R411.tr ⟨R421.1, R421.2⟩ (by omega) (by omega) (by omega) (by omega)
      have X439 : ExC [0, 1, 2, 60, 61, 62, 63, 64, 65, 66, 67, 68, 69, 70, 72, 73, 74, 75, 76, 242, 243, 244, 270, 271, 272, 273, 279, 280, 330, 331, 332, 333, 334, 999] σ0 σ416 := X414.tr (e420.mo (by decide))
      refine k_inv (P := P_X7_declare) (Q := Q_X7_declare) rfl rfl rfl rfl (Nat.le_of_ble_eq_true rfl) (t428.rc (by decide)) ⟨_, _, _, _, rfl, H419, t428, (by omega), (by omega), (by omega), (by omega), (rd_cd.st H0 h_0_0 X439 R438.1 (by decide)), (R438.2.2.2.1 rd_at), (rd_bg.st H0 h_0_0 X439 R438 (by decide) (by omega) (by omega) (by omega))⟩ (fun w440 σ441 q442 => ?_)
      obtain ⟨x443, rfl, H444, e445, h447, h448, R446, q449⟩ := q442
      have t455 := t428.x e445
      obtain ⟨x450, e451, c452, h453, h454⟩ := cg242 H444.1 t455
      obtain ⟨x456, e457, c458, h459, h460⟩ := cg243 H444.1 t455
      have z461 := congrArg Int32.toInt c452
      have z462 := congrArg Int32.toInt c458
      refine k_st (st' := [.inl x443, .inr (.inr (some a18))]) rfl ?_
      have t463 := h22.x e43
      have t464 := t463.x e420
      have t465 := t464.x e445
      have c470 := (h22.mi e43 (by decide)).trans q24
      have c471 := (t463.mi e420 (by decide)).trans c470
      have c472 := (t464.mi e445 (by decide)).trans c471
      refine k_p280 H444 t465 (by omega) (by omega) (by rw [c472]; omega) (fun σ466 H467 e468 c469 => ?_)
      refine k_aload_n rfl ?_
      refine k_aload_n rfl ?_
      have t473 := t465.x e468
      refine k_get kg280 t473 (congrArg (Sum.inl : Int32 → AvC) c469) ?_
      have t474 := t455.x e468
      refine k_inv (P := P_X7_know) (Q := Q_X7_know) rfl rfl rfl rfl (Nat.le_of_ble_eq_true rfl) (t474.rc (by decide)) ⟨_, _, rfl, H467, t474⟩ (fun w475 σ476 q477 => ?_)
      obtain ⟨rfl, H478, e479⟩ := q477
      have c480 := (t455.mi e468 (by decide)).trans c452
      have c481 := (t474.mi e479 (by decide)).trans c480
      have c482 := (t455.mi e468 (by decide)).trans c458
      have c483 := (t474.mi e479 (by decide)).trans c482
      have z484 := congrArg Int32.toInt c481
      have z485 := congrArg Int32.toInt c483
      refine k_st (st' := []) rfl ?_
      refine k_iload rfl ?_
      refine k_if_ne (fun h486 => ?_) (fun h486 => by exfalso; omega)
      refine hB _ _ _ _ (kgoC (is := KX7_readVariable_56) rfl ?_)
      refine k_aload_n rfl ?_
      refine k_bipush (m := 8) rfl (fun x487 h488 => ?_)
      have t489 := t474.x e479
      have R490 : RdC p0 none (-20) (2) (-1000) σ0 σ441 := R438.tr ⟨R446.1, R446.2⟩ (by omega) (by omega) (by omega) (by omega)
      have R491 : RdC p0 none (-20) (2) (-1000) σ0 σ466 := R490.tr ⟨(e468.gw H444.1 (by decide)), (e468.cou (u := 0) H444.1 t455 (by decide) (by rw [e468.cn (by decide)]; omega))⟩ (by omega) (by omega) (by omega) (by omega)
      have R492 : RdC p0 none (-20) (2) (-1000) σ0 σ476 := R491.tr ⟨(e479.gw H467.1 (by decide)), (e479.cou (u := 0) H467.1 t474 (by decide) (by rw [e479.cn (by decide)]; omega))⟩ (by omega) (by omega) (by omega) (by omega)
      have X493 : ExC [0, 1, 2, 60, 61, 62, 63, 64, 65, 66, 67, 68, 69, 70, 72, 73, 74, 75, 76, 242, 243, 244, 270, 271, 272, 273, 279, 280, 330, 331, 332, 333, 334, 999] σ0 σ441 := X439.tr (e445.mo (by decide))
      have X494 : ExC [0, 1, 2, 60, 61, 62, 63, 64, 65, 66, 67, 68, 69, 70, 72, 73, 74, 75, 76, 242, 243, 244, 270, 271, 272, 273, 279, 280, 330, 331, 332, 333, 334, 999] σ0 σ466 := X493.tr (e468.mo (by decide))
      have X495 : ExC [0, 1, 2, 60, 61, 62, 63, 64, 65, 66, 67, 68, 69, 70, 72, 73, 74, 75, 76, 242, 243, 244, 270, 271, 272, 273, 279, 280, 330, 331, 332, 333, 334, 999] σ0 σ476 := X494.tr (e479.mo (by decide))
      refine k_inv (P := P_X7_expect) (Q := Q_X7_expect) rfl rfl rfl rfl (Nat.le_of_ble_eq_true rfl) (t489.rc (by decide)) ⟨_, _, rfl, H478, t489, (by omega), (by omega), (rd_cd.st H0 h_0_0 X495 R492.1 (by decide)), (R492.2.2.2.1 rd_at), (rd_bg.st H0 h_0_0 X495 R492 (by decide) (by omega) (by omega) (by omega))⟩ (fun w496 σ497 q498 => ?_)
      obtain ⟨rfl, H499, e500, R501, q502, q503⟩ := q498
      have t509 := t489.x e500
      obtain ⟨x504, e505, c506, h507, h508⟩ := cg242 H499.1 t509
      obtain ⟨x510, e511, c512, h513, h514⟩ := cg243 H499.1 t509
      have z515 := congrArg Int32.toInt c506
      have z516 := congrArg Int32.toInt c512
      refine k_st (st' := []) rfl ?_
      have R517 : RdC p0 none (-28) (2) (-1000) σ0 σ497 := R492.tr ⟨R501.1, R501.2⟩ (by omega) (by omega) (by omega) (by omega)
      have z518 := R517.2.2.1
      have z519 := R517.2.2.2.1 rd_at
      refine k_aload_n rfl ?_
      refine k_aload_n rfl ?_
      refine k_iload_n rfl ?_
      have X520 : ExC [0, 1, 2, 60, 61, 62, 63, 64, 65, 66, 67, 68, 69, 70, 72, 73, 74, 75, 76, 242, 243, 244, 270, 271, 272, 273, 279, 280, 330, 331, 332, 333, 334, 999] σ0 σ497 := X495.tr (e500.mo (by decide))
      refine k_inv (P := (P_X7_readExp d)) (Q := (Q_X7_readExp d)) rfl rfl rfl rfl (Nat.le_of_ble_eq_true rfl) (t509.rc (by decide)) ⟨_, _, rfl, H499, t509, (by omega), (by omega), (rd_cd.st H0 h_0_0 X520 R517.1 (by decide)), (R517.2.2.2.1 rd_at), (rd_bg.st H0 h_0_0 X520 R517 (by decide) (by omega) (by omega) (by omega)), (by omega)⟩ (fun w521 σ522 q523 => ?_)
      obtain ⟨a524, rfl, H525, e526, h528, R527, q529, q530⟩ := q523
      have t536 := t509.x e526
      obtain ⟨x531, e532, c533, h534, h535⟩ := cg242 H525.1 t536
      obtain ⟨x537, e538, c539, h540, h541⟩ := cg243 H525.1 t536
      have z542 := congrArg Int32.toInt c533
      have z543 := congrArg Int32.toInt c539
      refine k_st (st' := [.inr (.inr (some a524)), .inr (.inr (some a18))]) rfl ?_
      have z544 := R517.1.1
      have R545 : RdC p0 none (-28) (3 + 8 * (d : Int)) (-999) σ0 σ522 := R517.tr ⟨R527.1, R527.2⟩ (by omega) (by omega) (by omega) (by omega)
      have z546 := R545.2.2.1
      have z547 := R545.2.2.2.1 rd_at
      have t548 := t473.x e479
      have t549 := t548.x e500
      have t550 := t549.x e526
      refine k_putR kp279 H525 t550 fk279 (rf279 h528) (fun σ551 H552 e553 c554 => ?_)
      have R555 : RdC p0 none (-28) (3 + 8 * (d : Int)) (-999) σ0 σ551 := R545.tr ⟨(e553.gw H525.1 (by decide)), (e553.cou (u := 0) H525.1 t536 (by decide) (by rw [e553.cn (by decide)]; omega))⟩ (by omega) (by omega) (by omega) (by omega)
      have c556 := (t536.mi e553 (by decide)).trans c539
      have X557 : ExC [0, 1, 2, 60, 61, 62, 63, 64, 65, 66, 67, 68, 69, 70, 72, 73, 74, 75, 76, 242, 243, 244, 270, 271, 272, 273, 279, 280, 330, 331, 332, 333, 334, 999] σ0 σ522 := X520.tr (e526.mo (by decide))
      have X558 : ExC [0, 1, 2, 60, 61, 62, 63, 64, 65, 66, 67, 68, 69, 70, 72, 73, 74, 75, 76, 242, 243, 244, 270, 271, 272, 273, 279, 280, 330, 331, 332, 333, 334, 999] σ0 σ551 := X557.tr (e553.mo (by decide))
      have B559 : BgC σ551 p0 1 1 := rd_bg.st H0 h_0_0 X558 R555 (by decide) (by omega) (by omega) (by omega)
      have t562 := t536.x e553
      obtain ⟨h560, h561⟩ := B559.new H552.1 t562 (u := 1) (by omega) (by omega)
      have z563 := R555.1.1
      refine k_new (c := 2) (g := 0) H552 (by decide) rfl (by omega) (by have hn : nfC 2 = 18 := rfl; omega) (fun a564 σ565 q566 H567 e568 r569 z570 l571 u572 u573 => ?_)
      rw [show nfC 2 = 18 from rfl] at u573
      have u574 : cpC σ565 = cpC σ551 := congrArg Prod.fst e568.2.1.1
      have u575 : spC σ565 = spC σ551 := congrArg Prod.snd e568.2.1.1
      refine k_dupR ?_
      refine k_bipush (m := 15) rfl (fun x576 h577 => ?_)
      refine k_bipush (m := 8) rfl (fun x578 h579 => ?_)
      refine k_aload_n rfl ?_
      have t580 := t550.x e553
      have t581 := t580.x e568
      obtain ⟨x584, e582, c583, h585, h586⟩ := cg271 H567.1 t581
      refine k_get kg271 t581 e582 ?_
      refine k_aload_n rfl ?_
      have c587 := (t580.mr e568 (by decide)).trans c554
      refine k_get kg279 t581 (congrArg (fun z : Option Nat => (Sum.inr (Sum.inr z) : AvC)) c587) ?_
      have t588 := h528.x e553
      have t589 := t588.x e568
      obtain ⟨x592, e590, c591, h593, h594⟩ := cg63 H567.1 t589
      refine k_get kg63 t589 e590 ?_
      refine k_spec (P := P_X1_init) (Q := Q_X1_init) rfl rfl rfl rfl (Nat.le_of_ble_eq_true rfl) ⟨_, _, _, _, _, rfl, H567, r569, z570, (by omega), (by omega), (by omega), (by omega), (by omega)⟩ (fun w595 σ596 q597 => ?_)
      have t605 := t562.x e568
      obtain ⟨rfl, H598, e599, t600, t600', l601, u602, u603, g604, q607, q608, q609, q610⟩ := q597
      have l606 := l601.trans l571
      have c611 := (t536.mi e553 (by decide)).trans c533
      have c612 := (t562.mi e568 (by decide)).trans c611
      have c613 := (t605.mit r569 (by decide) e599 (by decide)).trans c612
      have c614 := (t562.mi e568 (by decide)).trans c556
      have c615 := (t605.mit r569 (by decide) e599 (by decide)).trans c614
      have z616 := congrArg Int32.toInt c613
      have z617 := congrArg Int32.toInt c615
      refine k_st (st' := [.inr (.inr (some a564))]) rfl ?_
      have t618 : TyC σ596 a564 2 := ⟨t600, t600', fun _ hz => by have z1 := congrArg Int32.toInt (q607.symm.trans hz.1); have z2 : (7 : Int32).toInt = 7 := rfl; omega⟩
      refine k_astore (ls' := [(6, .inr (.inr (some a564))), (5, .inl x418), (4, .inl x41), (3, .inr (.inr (some a18))), (0, .inr (.inr (some p0))), (1, .inl p1), (2, .inl p2)]) rfl ?_
      refine k_aload rfl ?_
      refine k_aload_n rfl ?_
      have t619 := t581.xt r569 (by decide) e599
      have c620 := (t473.mi e479 (by decide)).trans c469
      have c621 := (t548.mi e500 (by decide)).trans c620
      have c622 := (t549.mi e526 (by decide)).trans c621
      have c623 := (t550.mi e553 (by decide)).trans c622
      have c624 := (t580.mi e568 (by decide)).trans c623
      have c625 := (t581.mit r569 (by decide) e599 (by decide)).trans c624
      refine k_get kg280 t619 (congrArg (Sum.inl : Int32 → AvC) c625) ?_
      refine k_putI kp67 H598 t618 (Or.inl fk67) (tiC x443).1 (tiC x443).2 (fun σ626 H627 e628 c629 => ?_)
      refine k_aload rfl ?_
      refine k_aload_n rfl ?_
      have t630 := t619.x e628
      have c631 := (t581.mrt r569 (by decide) e599 (by decide)).trans c587
      have c632 := (t619.mr e628 (by decide)).trans c631
      refine k_get kg279 t630 (congrArg (fun z : Option Nat => (Sum.inr (Sum.inr z) : AvC)) c632) ?_
      have t633 := t618.x e628
      have t638 := t589.xt r569 (by decide) e599
      have t639 := t638.x e628
      refine k_putR kp72 H627 t633 fk72 (rf72 t639) (fun σ634 H635 e636 c637 => ?_)
      refine k_aload_n rfl ?_
      refine k_aload rfl ?_
      have t640 := t605.xt r569 (by decide) e599
      have t641 := t640.x e628
      have t642 := t641.x e636
      have t643 := t633.x e636
      have R644 : RdC p0 none (-27) (4 + 8 * (d : Int)) (-998) σ0 σ565 := R555.tr ⟨(e568.gwn H552.1 u572 u573 (by decide) (by rw [← q566]; exact r569.n0)), (e568.cou (u := 1) H552.1 t562 (by decide) (by omega))⟩ (by omega) (by omega) (by omega) (by omega)
      have R645 : RdC p0 none (-27) (4 + 8 * (d : Int)) (-998) σ0 σ596 := R644.tr ⟨g604, (e599.co (u := 0) H567.1 t605 r569 (by decide) (by omega))⟩ (by omega) (by omega) (by omega) (by omega)
      have R646 : RdC p0 none (-27) (4 + 8 * (d : Int)) (-998) σ0 σ626 := R645.tr ⟨(e628.gw H598.1 (by decide)), (e628.cou (u := 0) H598.1 t640 (by decide) (by rw [e628.cn (by decide)]; omega))⟩ (by omega) (by omega) (by omega) (by omega)
      have R647 : RdC p0 none (-27) (4 + 8 * (d : Int)) (-998) σ0 σ634 := R646.tr ⟨(e636.gw H627.1 (by decide)), (e636.cou (u := 0) H627.1 t641 (by decide) (by rw [e636.cn (by decide)]; omega))⟩ (by omega) (by omega) (by omega) (by omega)
      have c648 := (t640.mi e628 (by decide)).trans c615
      have c649 := (t641.mi e636 (by decide)).trans c648
      have X650 : ExC [0, 1, 2, 60, 61, 62, 63, 64, 65, 66, 67, 68, 69, 70, 72, 73, 74, 75, 76, 242, 243, 244, 270, 271, 272, 273, 279, 280, 330, 331, 332, 333, 334, 999] σ551 σ565 := ExC.rf.tr (e568.mo (by decide))
      have X651 : ExC [0, 1, 2, 60, 61, 62, 63, 64, 65, 66, 67, 68, 69, 70, 72, 73, 74, 75, 76, 242, 243, 244, 270, 271, 272, 273, 279, 280, 330, 331, 332, 333, 334, 999] σ551 σ596 := (X650 : ExC [0, 1, 2, 60, 61, 62, 63, 64, 65, 66, 67, 68, 69, 70, 72, 73, 74, 75, 76, 242, 243, 244, 270, 271, 272, 273, 279, 280, 330, 331, 332, 333, 334, 999] σ551 σ565).nt (Nat.le_of_eq q566.symm) (e599.mo (by decide))
      have X652 : ExC [0, 1, 2, 60, 61, 62, 63, 64, 65, 66, 67, 68, 69, 70, 72, 73, 74, 75, 76, 242, 243, 244, 270, 271, 272, 273, 279, 280, 330, 331, 332, 333, 334, 999] σ0 σ596 := X558.tr X651
      have X653 : ExC [0, 1, 2, 60, 61, 62, 63, 64, 65, 66, 67, 68, 69, 70, 72, 73, 74, 75, 76, 242, 243, 244, 270, 271, 272, 273, 279, 280, 330, 331, 332, 333, 334, 999] σ0 σ626 := X652.tr (e628.mo (by decide))
      have X654 : ExC [0, 1, 2, 60, 61, 62, 63, 64, 65, 66, 67, 68, 69, 70, 72, 73, 74, 75, 76, 242, 243, 244, 270, 271, 272, 273, 279, 280, 330, 331, 332, 333, 334, 999] σ0 σ634 := X653.tr (e636.mo (by decide))
      have c655 := (t640.mi e628 (by decide)).trans c613
      have c656 := (t641.mi e636 (by decide)).trans c655
      have z657 := congrArg Int32.toInt c656
      have z658 := congrArg Int32.toInt c649
      refine k_inv (P := P_X7_put) (Q := Q_X7_put) rfl rfl rfl rfl (Nat.le_of_ble_eq_true rfl) (t642.rc (by decide)) ⟨_, _, rfl, H635, t642, t643, (rd_cd.st H0 h_0_0 X654 R647.1 (by decide)), (R647.2.2.2.1 rd_at), (rd_bg.st H0 h_0_0 X654 R647 (by decide) (by omega) (by omega) (by omega))⟩ (fun w659 σ660 q661 => ?_)
      obtain ⟨a662, rfl, H663, e664, h666, R665, q667, q668⟩ := q661
      have c669 := (t642.mi e664 (by decide)).trans c656
      have c670 := (t642.mi e664 (by decide)).trans c649
      have z671 := congrArg Int32.toInt c669
      have z672 := congrArg Int32.toInt c670
      refine k_st (st' := [.inr (.inr (some a662))]) rfl ?_
      refine k_popR ?_
      refine k_nil ?_
      refine hB _ _ _ _ (kgoC (is := KX7_readVariable_120) rfl ?_)
      refine k_aload_n rfl ?_
      refine k_areturn ?_
      have X673 : ExC [0, 1, 2, 60, 61, 62, 63, 64, 65, 66, 67, 68, 69, 70, 72, 73, 74, 75, 76, 242, 243, 244, 270, 271, 272, 273, 279, 280, 330, 331, 332, 333, 334, 999] σ0 σ660 := X654.tr (e664.mo (by decide))
      have t674 := t630.x e636
      have t675 := t674.x e664
      have R676 : RdC p0 none (-26) (5 + 8 * (d : Int)) (-997) σ0 σ660 := R647.tr ⟨R665.1, R665.2⟩ (by omega) (by omega) (by omega) (by omega)
      have c677 := (h22.mi e43 (by decide)).trans q25
      have c678 := (t463.mi e420 (by decide)).trans c677
      have c679 := (t464.mi e445 (by decide)).trans c678
      have c680 := (t465.mi e468 (by decide)).trans c679
      have c681 := (t473.mi e479 (by decide)).trans c680
      have c682 := (t548.mi e500 (by decide)).trans c681
      have c683 := (t549.mi e526 (by decide)).trans c682
      have c684 := (t550.mi e553 (by decide)).trans c683
      have c685 := (t580.mi e568 (by decide)).trans c684
      have c686 := (t581.mit r569 (by decide) e599 (by decide)).trans c685
      have c687 := (t619.mi e628 (by decide)).trans c686
      have c688 := (t630.mi e636 (by decide)).trans c687
      have c689 := (t674.mi e664 (by decide)).trans c688
      have c690 := (t465.mi e468 (by decide)).trans c472
      have c691 := (t473.mi e479 (by decide)).trans c690
      have c692 := (t548.mi e500 (by decide)).trans c691
      have c693 := (t549.mi e526 (by decide)).trans c692
      have c694 := (t550.mi e553 (by decide)).trans c693
      have c695 := (t580.mi e568 (by decide)).trans c694
      have c696 := (t581.mit r569 (by decide) e599 (by decide)).trans c695
      have c697 := (t619.mi e628 (by decide)).trans c696
      have c698 := (t630.mi e636 (by decide)).trans c697
      have c699 := (t674.mi e664 (by decide)).trans c698
      have S721 : ∀ s, ReC σ0 p0 s → ReC σ660 p0 (varY d s) := by
        intro s hs
        have y700 := q26 _ hs
        obtain ⟨y702, f703⟩ := q48 _ y700
        rw [h33] at y702
        rw [h33] at f703
        rw [tkY_y (f703.1 (by omega))] at y702
        obtain ⟨y704, f705⟩ := q422 _ y702
        have y706 := q449 _ y704
        rw [f705] at y706
        rw [show x41.toInt = 1 from by omega] at y706
        rw [h437] at y706
        have y708 := y706.x H444.1 t455 e468 (by decide)
        have y709 := y708.x H467.1 t474 e479 (by decide)
        have y710 := q503 _ y709
        rw [h488] at y710
        have y712 := q530 _ y710
        have y714 := y712.x H525.1 t536 e553 (by decide)
        have y715 := y714.x H552.1 t562 e568 (by decide)
        have y716 := y715.xt H567.1 t605 r569 e599 (by decide)
        have y717 := y716.x H598.1 t640 e628 (by decide)
        have y718 := y717.x H627.1 t641 e636 (by decide)
        have y719 := q668 _ y718
        refine y719.eq ?_
        try unfold varY
        repeat (split <;> try (exfalso; omega))
        try unfold va2Y
        repeat (split <;> try (exfalso; omega))
        try unfold tkY
        repeat (split <;> try (exfalso; omega))
        try unfold dpY
        repeat (split <;> try (exfalso; omega))
        all_goals rfl
      exact ⟨_, rfl, H663, X673, t675, (R676.mo (by omega) (by omega) (by omega)), (by omega), (by rw [c689] <;> omega), (by rw [c699] <;> omega), S721⟩
theorem lg_X7_readVariable (d : Nat) : ∀ (As : List AvC) (σ : CsC), (P_X7_readVariable d) As σ → lgC As ≤ rX7_readVariable.2.2.1 := by
  rintro As σ ⟨p0, p1, p2, rfl, -⟩
  exact Nat.le_of_ble_eq_true rfl
theorem s_X7_readVariable (l : Launch) (d : Nat) (h_X7_readExp : CMetC l (13 * d + 36) 164 (P_X7_readExp d) (Q_X7_readExp d)) : CMetC l (13 * d + 37) 141 (P_X7_readVariable d) (Q_X7_readVariable d) :=
  CMetC.of KX7_readVariable [(142, P_X7_begin, Q_X7_begin), (130, P_X7_takes, Q_X7_takes), (136, P_X7_readType, Q_X7_readType), (137, P_X7_declare, Q_X7_declare), (138, P_X7_know, Q_X7_know), (125, P_X7_code, Q_X7_code), (129, P_X7_expect, Q_X7_expect), (164, (P_X7_readExp d), (Q_X7_readExp d)), (17, P_X1_init, Q_X1_init), (161, P_X7_put, Q_X7_put)] hX7_readVariable (by decide) (by omega) okX7_readVariable (cc1C (m_X7_begin l) (by omega) (cc1C (m_X7_takes l) (by omega) (cc1C (m_X7_readType l) (by omega) (cc1C (m_X7_declare l) (by omega) (cc1C (m_X7_know l) (by omega) (cc1C (m_X7_code l) (by omega) (cc1C (m_X7_expect l) (by omega) (cc1C h_X7_readExp (by omega) (cc1C (m_X1_init l) (by omega) (cc1C (m_X7_put l) (by omega) cc0C)))))))))) (lg_X7_readVariable d) (b_X7_readVariable d)

set_option maxRecDepth 100000 in
set_option maxHeartbeats 4000000 in
theorem b_X7_readForExps (d : Nat) : TbC KX7_readForExps [(142, P_X7_begin, Q_X7_begin), (164, (P_X7_readExp d), (Q_X7_readExp d)), (130, P_X7_takes, Q_X7_takes)] (P_X7_readForExps d) (Q_X7_readForExps d) := by
  · rintro As σ0 ⟨p0, p1, rfl, H0, h_0_0, h_1_0, h_1_1, rd_cd, rd_at, rd_bg, rd_dp⟩ hgr G hB hW
    change G 0 [(0, .inr (.inr (some p0))), (1, .inl p1)] [] σ0
    obtain ⟨x1, e2, c3, h4, h5⟩ := cg242 H0.1 h_0_0
    obtain ⟨x6, e7, c8, h9, h10⟩ := cg243 H0.1 h_0_0
    have z11 := congrArg Int32.toInt c3
    have z12 := congrArg Int32.toInt c8
    have L22 : ∀ (n22 : Nat), ∀ (σ13 : CsC) (v22_2 : Nat) (v22_3 : Nat) (v22_4 : Int32), (2147483647 - v22_4.toInt).toNat = n22 → HIC σ13 → ExC [0, 1, 2, 60, 61, 62, 63, 64, 65, 66, 67, 68, 69, 70, 72, 73, 74, 75, 76, 242, 243, 244, 270, 271, 272, 273, 275, 279, 280, 999] σ0 σ13 → RdC p0 none (2) (22 + 8 * (d : Int)) (3) σ0 σ13 → TyC σ13 v22_2 9 → TyC σ13 v22_3 9 → 0 ≤ v22_4.toInt → v22_4.toInt ≤ 502 → (∀ s, ReC σ0 p0 s → ∃ s', ReC σ13 p0 s' ∧ clpY (eY d) (501 - v22_4.toInt).toNat s' = fexY d s) → (cnC σ0 ≤ v22_2 ∧ (fIC σ13 v22_2 272).toInt = p1.toInt ∧ (fIC σ13 v22_2 270).toInt = 94 ∧ (fIC σ13 v22_3 272).toInt = p1.toInt ∧ (fIC σ13 v22_3 270).toInt = 94) → G 22 [(0, .inr (.inr (some p0))), (1, .inl p1), (2, .inr (.inr (some v22_2))), (3, .inr (.inr (some v22_3))), (4, .inl v22_4)] [] σ13 := by
      intro n22
      induction n22 using Nat.strongRecOn with
      | _ n22 ih22 =>
        intro σ13 v22_2 v22_3 v22_4 n22_ H14 e15 R16 h17 h18 h19 h20 h21 h22
        have t28 := h_0_0.x e15
        obtain ⟨x23, e24, c25, h26, h27⟩ := cg242 H14.1 t28
        obtain ⟨x29, e30, c31, h32, h33⟩ := cg243 H14.1 t28
        have z34 := congrArg Int32.toInt c25
        have z35 := congrArg Int32.toInt c31
        obtain ⟨h36, h37, h38, h39, h40⟩ := h22
        obtain ⟨x41, e42, c43, h44, h45⟩ := cg272 H14.1 h17
        rw [c43] at h37
        obtain ⟨x46, e47, c48, h49, h50⟩ := cg270 H14.1 h17
        rw [c48] at h38
        obtain ⟨x51, e52, c53, h54, h55⟩ := cg272 H14.1 h18
        rw [c53] at h39
        obtain ⟨x56, e57, c58, h59, h60⟩ := cg270 H14.1 h18
        rw [c58] at h40
        refine hB _ _ _ _ (kgoC (is := KX7_readForExps_22) rfl ?_)
        refine k_iload rfl ?_
        refine k_sipush (m := 500) rfl (fun x61 h62 => ?_)
        refine k_ic_gt (fun h63 => ?_) (fun h63 => ?_)
        · refine hB _ _ _ _ (kgoC (is := KX7_readForExps_69) rfl ?_)
          refine k_aload_n rfl ?_
          refine k_areturn ?_
          have X64 : ExC [0, 1, 2, 60, 61, 62, 63, 64, 65, 66, 67, 68, 69, 70, 72, 73, 74, 75, 76, 242, 243, 244, 270, 271, 272, 273, 275, 279, 280, 999] σ0 σ13 := ExC.rf.tr (e15.mo (by decide))
          have S65 : ∀ s, ReC σ0 p0 s → ReC σ13 p0 (fexY d s) := by
            intro s hs
            obtain ⟨s', hs', hp⟩ := h21 s hs
            first | rw [show (501 - v22_4.toInt).toNat = 0 from by omega] at hp | rw [show (501 - v22_4.toInt).toNat = (500 - v22_4.toInt).toNat + 1 from by omega] at hp
            rw [clpY] at hp
            refine hs'.eq ?_
            rw [← hp]
            try unfold fexY
            repeat (split <;> try (exfalso; omega))
            try unfold tkY
            repeat (split <;> try (exfalso; omega))
            try unfold dpY
            repeat (split <;> try (exfalso; omega))
            all_goals rfl
          exact ⟨_, rfl, H14, X64, h17, (R16.mo (by omega) (by omega) (by omega)), (by omega), (by rw [c43] <;> omega), (by rw [c48] <;> omega), S65⟩
        · refine k_nil ?_
          refine hB _ _ _ _ (kgoC (is := KX7_readForExps_30) rfl ?_)
          refine k_aload_n rfl ?_
          refine k_iconst (m := 5) rfl (fun x66 h67 => ?_)
          have X68 : ExC [0, 1, 2, 60, 61, 62, 63, 64, 65, 66, 67, 68, 69, 70, 72, 73, 74, 75, 76, 242, 243, 244, 270, 271, 272, 273, 275, 279, 280, 999] σ0 σ13 := ExC.rf.tr (e15.mo (by decide))
          refine k_inv (P := P_X7_takes) (Q := Q_X7_takes) rfl rfl rfl rfl (Nat.le_of_ble_eq_true rfl) (t28.rc (by decide)) ⟨_, _, rfl, H14, t28, (by omega), (by omega), (rd_cd.st H0 h_0_0 X68 R16.1 (by decide)), (R16.2.2.2.1 rd_at), (rd_bg.st H0 h_0_0 X68 R16 (by decide) (by omega) (by omega) (by omega))⟩ (fun w69 σ70 q71 => ?_)
          obtain ⟨x72, rfl, H73, e74, h76, h77, R75, q78, q79⟩ := q71
          have t85 := t28.x e74
          obtain ⟨x80, e81, c82, h83, h84⟩ := cg242 H73.1 t85
          obtain ⟨x86, e87, c88, h89, h90⟩ := cg243 H73.1 t85
          have z91 := congrArg Int32.toInt c82
          have z92 := congrArg Int32.toInt c88
          refine k_st (st' := [.inl x72]) rfl ?_
          rcases (by omega : x72.toInt = 0 ∨ x72.toInt = 1) with g93 | g93
          · have R94 : RdC p0 none (2) (22 + 8 * (d : Int)) (3) σ0 σ70 := R16.tr ⟨R75.1, R75.2⟩ (by omega) (by omega) (by omega) (by omega)
            have z95 := R94.2.2.1
            have z96 := R94.2.2.2.1 rd_at
            refine k_if_eq (fun h97 => ?_) (fun h97 => by exfalso; omega)
            refine hB _ _ _ _ (kgoC (is := KX7_readForExps_69) rfl ?_)
            refine k_aload_n rfl ?_
            refine k_areturn ?_
            have X98 : ExC [0, 1, 2, 60, 61, 62, 63, 64, 65, 66, 67, 68, 69, 70, 72, 73, 74, 75, 76, 242, 243, 244, 270, 271, 272, 273, 275, 279, 280, 999] σ0 σ70 := X68.tr (e74.mo (by decide))
            have t99 := h17.x e74
            have c100 := (h17.mi e74 (by decide)).trans c43
            have c101 := (h17.mi e74 (by decide)).trans c48
            have S104 : ∀ s, ReC σ0 p0 s → ReC σ70 p0 (fexY d s) := by
              intro s hs
              obtain ⟨s', hs', hp⟩ := h21 s hs
              first | rw [show (501 - v22_4.toInt).toNat = 0 from by omega] at hp | rw [show (501 - v22_4.toInt).toNat = (500 - v22_4.toInt).toNat + 1 from by omega] at hp
              rw [clpY] at hp
              obtain ⟨y102, f103⟩ := q79 _ hs'
              rw [h67] at y102
              rw [h67] at f103
              rw [tkY_n (f103.2 (by omega))] at y102
              refine y102.eq ?_
              rw [← hp]
              try unfold fexY
              repeat (split <;> try (exfalso; omega))
              try unfold tkY
              repeat (split <;> try (exfalso; omega))
              try unfold dpY
              repeat (split <;> try (exfalso; omega))
              all_goals rfl
            exact ⟨_, rfl, H73, X98, t99, (R94.mo (by omega) (by omega) (by omega)), (by omega), (by rw [c100] <;> omega), (by rw [c101] <;> omega), S104⟩
          · have R105 := R16.nf (-1000) (-1000) (q78 (by omega)).1
            have R106 : RdC p0 none (-6) (2) (-1000) σ0 σ70 := R105.tr ⟨(q78 (by omega)).2.1, (q78 (by omega)).2.2⟩ (by omega) (by omega) (by omega) (by omega)
            have z107 := R106.2.2.1
            have z108 := R106.2.2.2.1 rd_at
            refine k_if_eq (fun h109 => by exfalso; omega) (fun h109 => ?_)
            refine k_nil ?_
            refine hB _ _ _ _ (kgoC (is := KX7_readForExps_38) rfl ?_)
            refine k_aload_n rfl ?_
            refine k_aload_n rfl ?_
            refine k_bipush (m := 94) rfl (fun x110 h111 => ?_)
            refine k_iload_n rfl ?_
            have X112 : ExC [0, 1, 2, 60, 61, 62, 63, 64, 65, 66, 67, 68, 69, 70, 72, 73, 74, 75, 76, 242, 243, 244, 270, 271, 272, 273, 275, 279, 280, 999] σ0 σ70 := X68.tr (e74.mo (by decide))
            refine k_inv (P := P_X7_begin) (Q := Q_X7_begin) rfl rfl rfl rfl (Nat.le_of_ble_eq_true rfl) (t85.rc (by decide)) ⟨_, _, _, rfl, H73, t85, (by omega), (by omega), (rd_cd.st H0 h_0_0 X112 R106.1 (by decide)), (R106.2.2.2.1 rd_at), (rd_bg.st H0 h_0_0 X112 R106 (by decide) (by omega) (by omega) (by omega)), (by omega)⟩ (fun w113 σ114 q115 => ?_)
            obtain ⟨a116, rfl, H117, e118, h120, R119, q121, q122, q123, q124⟩ := q115
            have c125 := (t85.mi e118 (by decide)).trans c82
            have c126 := (t85.mi e118 (by decide)).trans c88
            have z127 := congrArg Int32.toInt c125
            have z128 := congrArg Int32.toInt c126
            refine k_st (st' := [.inr (.inr (some a116)), .inr (.inr (some v22_3))]) rfl ?_
            have z129 := R106.1.1
            have c130 := (h18.mi e74 (by decide)).trans c58
            have t131 := h18.x e74
            have c132 := (t131.fi e118 (by decide) (by decide)).trans c130
            have c133 := (h18.mi e74 (by decide)).trans c53
            have c134 := (t131.fi e118 (by decide) (by decide)).trans c133
            have z139 := t131.1
            have t140 := t131.x e118
            refine k_p275 H117 t140 (h120.ot) (fun z hz => by cases hz; exact ⟨by omega, by unfold NxC; rw [c132, c134, q122, q123]; omega⟩) (fun σ135 H136 e137 c138 => ?_)
            refine k_aload_n rfl ?_
            have t141 := t140.x e137
            refine k_get kg275 t141 (congrArg (fun z : Option Nat => (Sum.inr (Sum.inr z) : AvC)) c138) ?_
            refine k_astore_n (ls' := [(3, .inr (.inr (some a116))), (0, .inr (.inr (some p0))), (1, .inl p1), (2, .inr (.inr (some v22_2))), (4, .inl v22_4)]) rfl ?_
            refine k_aload_n rfl ?_
            refine k_aload_n rfl ?_
            refine k_iload_n rfl ?_
            have t142 := t85.x e118
            have t143 := t142.x e137
            have R144 : RdC p0 none (-4) (4) (-998) σ0 σ114 := R106.tr ⟨R119.1, R119.2⟩ (by omega) (by omega) (by omega) (by omega)
            have R145 : RdC p0 none (-4) (4) (-998) σ0 σ135 := R144.tr ⟨(e137.gw H117.1 (by decide)), (e137.cou (u := 0) H117.1 t142 (by decide) (by rw [e137.cn (by decide)]; omega))⟩ (by omega) (by omega) (by omega) (by omega)
            have c146 := (t142.mi e137 (by decide)).trans c126
            have X147 : ExC [0, 1, 2, 60, 61, 62, 63, 64, 65, 66, 67, 68, 69, 70, 72, 73, 74, 75, 76, 242, 243, 244, 270, 271, 272, 273, 275, 279, 280, 999] σ0 σ114 := X112.tr (e118.mo (by decide))
            have X148 : ExC [0, 1, 2, 60, 61, 62, 63, 64, 65, 66, 67, 68, 69, 70, 72, 73, 74, 75, 76, 242, 243, 244, 270, 271, 272, 273, 275, 279, 280, 999] σ0 σ135 := X147.tr (e137.mo (by decide))
            have c149 := (t142.mi e137 (by decide)).trans c125
            have z150 := congrArg Int32.toInt c149
            have z151 := congrArg Int32.toInt c146
            refine k_inv (P := (P_X7_readExp d)) (Q := (Q_X7_readExp d)) rfl rfl rfl rfl (Nat.le_of_ble_eq_true rfl) (t143.rc (by decide)) ⟨_, _, rfl, H136, t143, (by omega), (by omega), (rd_cd.st H0 h_0_0 X148 R145.1 (by decide)), (R145.2.2.2.1 rd_at), (rd_bg.st H0 h_0_0 X148 R145 (by decide) (by omega) (by omega) (by omega)), (by omega)⟩ (fun w152 σ153 q154 => ?_)
            obtain ⟨a155, rfl, H156, e157, h159, R158, q160, q161⟩ := q154
            have t167 := t143.x e157
            obtain ⟨x162, e163, c164, h165, h166⟩ := cg242 H156.1 t167
            obtain ⟨x168, e169, c170, h171, h172⟩ := cg243 H156.1 t167
            have z173 := congrArg Int32.toInt c164
            have z174 := congrArg Int32.toInt c170
            refine k_st (st' := [.inr (.inr (some a155)), .inr (.inr (some a116))]) rfl ?_
            have z175 := R145.1.1
            have R176 : RdC p0 none (-4) (16 + 8 * (d : Int)) (-997) σ0 σ153 := R145.tr ⟨R158.1, R158.2⟩ (by omega) (by omega) (by omega) (by omega)
            have z177 := R176.2.2.1
            have z178 := R176.2.2.2.1 rd_at
            have t179 := h120.x e137
            have t180 := t179.x e157
            refine k_putR kp279 H156 t180 fk279 (rf279 h159) (fun σ181 H182 e183 c184 => ?_)
            obtain ⟨x185, e187, h186⟩ := iincC (n := 1) (m := 1) (v := v22_4) rfl (by omega) (by omega)
            refine k_iinc (ls' := [(4, .inl x185), (3, .inr (.inr (some a116))), (0, .inr (.inr (some p0))), (1, .inl p1), (2, .inr (.inr (some v22_2)))]) rfl e187 rfl ?_
            refine k_goto ?_
            have R188 : RdC p0 none (-4) (16 + 8 * (d : Int)) (-997) σ0 σ181 := R176.tr ⟨(e183.gw H156.1 (by decide)), (e183.cou (u := 0) H156.1 t167 (by decide) (by rw [e183.cn (by decide)]; omega))⟩ (by omega) (by omega) (by omega) (by omega)
            have c189 := (t167.mi e183 (by decide)).trans c170
            have t190 := h17.x e74
            have t191 := t190.x e118
            have t192 := t191.x e137
            have t193 := t192.x e157
            have t194 := t193.x e183
            have t195 := t180.x e183
            have S204 : (∀ s, ReC σ0 p0 s → ∃ s', ReC σ181 p0 s' ∧ clpY (eY d) (501 - x185.toInt).toNat s' = fexY d s) := by
              intro s hs
              obtain ⟨s', hs', hp⟩ := h21 s hs
              first | rw [show (501 - v22_4.toInt).toNat = 0 from by omega] at hp | rw [show (501 - v22_4.toInt).toNat = (500 - v22_4.toInt).toNat + 1 from by omega] at hp
              rw [clpY] at hp
              obtain ⟨y196, f197⟩ := q79 _ hs'
              rw [h67] at y196
              rw [h67] at f197
              rw [tkY_y (f197.1 (by omega))] at y196
              have y198 := q124 _ y196
              have y200 := y198.x H117.1 t142 e137 (by decide)
              have y201 := q161 _ y200
              have y203 := y201.x H156.1 t167 e183 (by decide)
              refine ⟨_, y203, ?_⟩
              rw [← hp]
              all_goals try rw [show (501 - x185.toInt).toNat = (500 - v22_4.toInt).toNat from by omega]
              try unfold fexY
              repeat (split <;> try (exfalso; omega))
              try unfold tkY
              repeat (split <;> try (exfalso; omega))
              try unfold dpY
              repeat (split <;> try (exfalso; omega))
              all_goals rfl
            have c205 := (h17.mi e74 (by decide)).trans c43
            have c206 := (t190.fi e118 (by decide) (by decide)).trans c205
            have c207 := (t191.mi e137 (by decide)).trans c206
            have c208 := (t192.mi e157 (by decide)).trans c207
            have c209 := (t193.mi e183 (by decide)).trans c208
            have c210 := (h17.mi e74 (by decide)).trans c48
            have c211 := (t190.fi e118 (by decide) (by decide)).trans c210
            have c212 := (t191.mi e137 (by decide)).trans c211
            have c213 := (t192.mi e157 (by decide)).trans c212
            have c214 := (t193.mi e183 (by decide)).trans c213
            have c215 := (h120.mi e137 (by decide)).trans q123
            have c216 := (t179.mi e157 (by decide)).trans c215
            have c217 := (t180.mi e183 (by decide)).trans c216
            have c218 := (h120.mi e137 (by decide)).trans q122
            have c219 := (t179.mi e157 (by decide)).trans c218
            have c220 := (t180.mi e183 (by decide)).trans c219
            have X221 : ExC [0, 1, 2, 60, 61, 62, 63, 64, 65, 66, 67, 68, 69, 70, 72, 73, 74, 75, 76, 242, 243, 244, 270, 271, 272, 273, 275, 279, 280, 999] σ0 σ153 := X148.tr (e157.mo (by decide))
            have X222 : ExC [0, 1, 2, 60, 61, 62, 63, 64, 65, 66, 67, 68, 69, 70, 72, 73, 74, 75, 76, 242, 243, 244, 270, 271, 272, 273, 275, 279, 280, 999] σ0 σ181 := X221.tr (e183.mo (by decide))
            exact hW _ _ _ _ _ (List.forall_mem_cons.2 ⟨List.Mem.tail _ (List.Mem.tail _ (List.Mem.head _)), (List.forall_mem_cons.2 ⟨List.Mem.tail _ (List.Mem.tail _ (List.Mem.tail _ (List.Mem.head _))), (List.forall_mem_cons.2 ⟨List.Mem.tail _ (List.Mem.tail _ (List.Mem.tail _ (List.Mem.tail _ (List.Mem.head _)))), (List.forall_mem_cons.2 ⟨List.Mem.tail _ (List.Mem.head _), (List.forall_mem_cons.2 ⟨List.Mem.head _, fun _ h => absurd h List.not_mem_nil⟩)⟩)⟩)⟩)⟩) (ih22 ((2147483647 - x185.toInt).toNat) (by omega) σ181 v22_2 a116 x185 rfl H182 X222 (R188.mo (by omega) (by omega) (by omega)) t194 t195 (by omega) (by omega) S204 ⟨by omega, (by rw [c209] <;> omega), (by rw [c214] <;> omega), (by rw [c217] <;> omega), (by rw [c220] <;> omega)⟩)
    refine hB _ _ _ _ (kgoC (is := KX7_readForExps_0) rfl ?_)
    refine k_aload_n rfl ?_
    refine k_bipush (m := 94) rfl (fun x223 h224 => ?_)
    refine k_iload_n rfl ?_
    refine k_inv (P := P_X7_begin) (Q := Q_X7_begin) rfl rfl rfl rfl (Nat.le_of_ble_eq_true rfl) (h_0_0.rc (by decide)) ⟨_, _, _, rfl, H0, h_0_0, (by omega), (by omega), (rd_cd.st H0 h_0_0 (ExC.rf : ExC [0, 1, 2, 60, 61, 62, 63, 64, 65, 66, 67, 68, 69, 70, 72, 73, 74, 75, 76, 242, 243, 244, 270, 271, 272, 273, 275, 279, 280, 999] σ0 σ0) (RdC.rf : RdC p0 none 0 0 0 σ0 σ0).1 (by decide)), ((RdC.rf : RdC p0 none 0 0 0 σ0 σ0).2.2.2.1 rd_at), (rd_bg.st H0 h_0_0 (ExC.rf : ExC [0, 1, 2, 60, 61, 62, 63, 64, 65, 66, 67, 68, 69, 70, 72, 73, 74, 75, 76, 242, 243, 244, 270, 271, 272, 273, 275, 279, 280, 999] σ0 σ0) (RdC.rf : RdC p0 none 0 0 0 σ0 σ0) (by decide) (by omega) (by omega) (by omega)), (by omega)⟩ (fun w225 σ226 q227 => ?_)
    obtain ⟨a228, rfl, H229, e230, h232, R231, q233, q234, q235, q236⟩ := q227
    have c237 := (h_0_0.mi e230 (by decide)).trans c3
    have c238 := (h_0_0.mi e230 (by decide)).trans c8
    have z239 := congrArg Int32.toInt c237
    have z240 := congrArg Int32.toInt c238
    refine k_st (st' := [.inr (.inr (some a228))]) rfl ?_
    have z241 := (RdC.rf : RdC p0 none 0 0 0 σ0 σ0).1.1
    refine k_astore_n (ls' := [(2, .inr (.inr (some a228))), (0, .inr (.inr (some p0))), (1, .inl p1)]) rfl ?_
    refine k_aload_n rfl ?_
    refine k_aload_n rfl ?_
    refine k_iload_n rfl ?_
    have t242 := h_0_0.x e230
    have R243 : RdC p0 none (2) (2) (2) σ0 σ226 := (RdC.rf : RdC p0 none 0 0 0 σ0 σ0).tr ⟨R231.1, R231.2⟩ (by omega) (by omega) (by omega) (by omega)
    have X244 : ExC [0, 1, 2, 60, 61, 62, 63, 64, 65, 66, 67, 68, 69, 70, 72, 73, 74, 75, 76, 242, 243, 244, 270, 271, 272, 273, 275, 279, 280, 999] σ0 σ226 := ExC.rf.tr (e230.mo (by decide))
    refine k_inv (P := (P_X7_readExp d)) (Q := (Q_X7_readExp d)) rfl rfl rfl rfl (Nat.le_of_ble_eq_true rfl) (t242.rc (by decide)) ⟨_, _, rfl, H229, t242, (by omega), (by omega), (rd_cd.st H0 h_0_0 X244 R243.1 (by decide)), (R243.2.2.2.1 rd_at), (rd_bg.st H0 h_0_0 X244 R243 (by decide) (by omega) (by omega) (by omega)), (by omega)⟩ (fun w245 σ246 q247 => ?_)
    obtain ⟨a248, rfl, H249, e250, h252, R251, q253, q254⟩ := q247
    have t260 := t242.x e250
    obtain ⟨x255, e256, c257, h258, h259⟩ := cg242 H249.1 t260
    obtain ⟨x261, e262, c263, h264, h265⟩ := cg243 H249.1 t260
    have z266 := congrArg Int32.toInt c257
    have z267 := congrArg Int32.toInt c263
    refine k_st (st' := [.inr (.inr (some a248)), .inr (.inr (some a228))]) rfl ?_
    have z268 := R243.1.1
    have R269 : RdC p0 none (2) (22 + 8 * (d : Int)) (3) σ0 σ246 := R243.tr ⟨R251.1, R251.2⟩ (by omega) (by omega) (by omega) (by omega)
    have z270 := R269.2.2.1
    have z271 := R269.2.2.2.1 rd_at
    have t272 := h232.x e250
    refine k_putR kp279 H249 t272 fk279 (rf279 h252) (fun σ273 H274 e275 c276 => ?_)
    refine k_aload_n rfl ?_
    refine k_astore_n (ls' := [(3, .inr (.inr (some a228))), (2, .inr (.inr (some a228))), (0, .inr (.inr (some p0))), (1, .inl p1)]) rfl ?_
    refine k_iconst (m := 0) rfl (fun x277 h278 => ?_)
    refine k_istore (ls' := [(4, .inl x277), (3, .inr (.inr (some a228))), (2, .inr (.inr (some a228))), (0, .inr (.inr (some p0))), (1, .inl p1)]) rfl ?_
    refine k_nil ?_
    have R279 : RdC p0 none (2) (22 + 8 * (d : Int)) (3) σ0 σ273 := R269.tr ⟨(e275.gw H249.1 (by decide)), (e275.cou (u := 0) H249.1 t260 (by decide) (by rw [e275.cn (by decide)]; omega))⟩ (by omega) (by omega) (by omega) (by omega)
    have c280 := (t260.mi e275 (by decide)).trans c263
    have t281 := t272.x e275
    have S287 : (∀ s, ReC σ0 p0 s → ∃ s', ReC σ273 p0 s' ∧ clpY (eY d) (501 - x277.toInt).toNat s' = fexY d s) := by
      intro s hs
      have y282 := q236 _ hs
      have y284 := q254 _ y282
      have y286 := y284.x H249.1 t260 e275 (by decide)
      refine ⟨_, y286, ?_⟩
      all_goals try rw [show (501 - x277.toInt).toNat = 501 from by omega]
      try unfold fexY
      repeat (split <;> try (exfalso; omega))
      try unfold tkY
      repeat (split <;> try (exfalso; omega))
      try unfold dpY
      repeat (split <;> try (exfalso; omega))
      all_goals rfl
    have c288 := (h232.mi e250 (by decide)).trans q235
    have c289 := (t272.mi e275 (by decide)).trans c288
    have c290 := (h232.mi e250 (by decide)).trans q234
    have c291 := (t272.mi e275 (by decide)).trans c290
    have X292 : ExC [0, 1, 2, 60, 61, 62, 63, 64, 65, 66, 67, 68, 69, 70, 72, 73, 74, 75, 76, 242, 243, 244, 270, 271, 272, 273, 275, 279, 280, 999] σ0 σ246 := X244.tr (e250.mo (by decide))
    have X293 : ExC [0, 1, 2, 60, 61, 62, 63, 64, 65, 66, 67, 68, 69, 70, 72, 73, 74, 75, 76, 242, 243, 244, 270, 271, 272, 273, 275, 279, 280, 999] σ0 σ273 := X292.tr (e275.mo (by decide))
    exact hW _ _ _ _ _ (List.forall_mem_cons.2 ⟨List.Mem.tail _ (List.Mem.tail _ (List.Mem.tail _ (List.Mem.head _))), (List.forall_mem_cons.2 ⟨List.Mem.tail _ (List.Mem.tail _ (List.Mem.tail _ (List.Mem.tail _ (List.Mem.head _)))), (List.forall_mem_cons.2 ⟨List.Mem.tail _ (List.Mem.tail _ (List.Mem.head _)), (List.forall_mem_cons.2 ⟨List.Mem.tail _ (List.Mem.head _), (List.forall_mem_cons.2 ⟨List.Mem.head _, fun _ h => absurd h List.not_mem_nil⟩)⟩)⟩)⟩)⟩) (L22 _ σ273 a228 a228 x277 rfl H274 X293 (R279.mo (by omega) (by omega) (by omega)) t281 t281 (by omega) (by omega) S287 ⟨by omega, (by rw [c289] <;> omega), (by rw [c291] <;> omega), (by rw [c289] <;> omega), (by rw [c291] <;> omega)⟩)
theorem lg_X7_readForExps (d : Nat) : ∀ (As : List AvC) (σ : CsC), (P_X7_readForExps d) As σ → lgC As ≤ rX7_readForExps.2.2.1 := by
  rintro As σ ⟨p0, p1, rfl, -⟩
  exact Nat.le_of_ble_eq_true rfl
theorem s_X7_readForExps (l : Launch) (d : Nat) (h_X7_readExp : CMetC l (13 * d + 36) 164 (P_X7_readExp d) (Q_X7_readExp d)) : CMetC l (13 * d + 37) 158 (P_X7_readForExps d) (Q_X7_readForExps d) :=
  CMetC.of KX7_readForExps [(142, P_X7_begin, Q_X7_begin), (164, (P_X7_readExp d), (Q_X7_readExp d)), (130, P_X7_takes, Q_X7_takes)] hX7_readForExps (by decide) (by omega) okX7_readForExps (cc1C (m_X7_begin l) (by omega) (cc1C h_X7_readExp (by omega) (cc1C (m_X7_takes l) (by omega) cc0C))) (lg_X7_readForExps d) (b_X7_readForExps d)

set_option maxRecDepth 100000 in
set_option maxHeartbeats 4000000 in
theorem b_X7_readCase (d : Nat) : TbC KX7_readCase [(125, P_X7_code, Q_X7_code), (142, P_X7_begin, Q_X7_begin), (128, P_X7_accept, Q_X7_accept), (129, P_X7_expect, Q_X7_expect), (164, (P_X7_readExp d), (Q_X7_readExp d))] (P_X7_readCase d) (Q_X7_readCase d) := by
  · rintro As σ0 ⟨p0, p1, rfl, H0, h_0_0, h_1_0, h_1_1, rd_cd, rd_at, rd_bl, rd_lv, rd_tk, rd_dp, q_0⟩ hgr G hB hW
    change G 0 [(0, .inr (.inr (some p0))), (1, .inl p1)] [] σ0
    obtain ⟨x1, e2, c3, h4, h5⟩ := cg242 H0.1 h_0_0
    obtain ⟨x6, e7, c8, h9, h10⟩ := cg243 H0.1 h_0_0
    have z11 := congrArg Int32.toInt c3
    have z12 := congrArg Int32.toInt c8
    have h13 : x6.toInt = 0 := by rw [← c8]; exact rd_lv
    have rd_bg : BgC σ0 p0 (24 + 8 * (d : Int)) 1000000 := ⟨fun _ => rd_bl, fun z => absurd rd_lv z⟩
    refine hB _ _ _ _ (kgoC (is := KX7_readCase_0) rfl ?_)
    refine k_aload_n rfl ?_
    refine k_aload_n rfl ?_
    have R14 := (RdC.rf : RdC p0 none 0 0 0 σ0 σ0).nf (-1000) (-1000) (by rw [c8]; omega)
    refine k_inv (P := P_X7_code) (Q := Q_X7_code) rfl rfl rfl rfl (Nat.le_of_ble_eq_true rfl) (h_0_0.rc (by decide)) ⟨_, rfl, H0, h_0_0, (rd_cd.st H0 h_0_0 (ExC.rf : ExC [0, 1, 2, 60, 61, 62, 63, 64, 65, 66, 67, 68, 69, 70, 72, 73, 74, 75, 76, 242, 243, 244, 270, 271, 272, 273, 279, 280, 999] σ0 σ0) R14.1 (by decide))⟩ (fun w15 σ16 q17 => ?_)
    obtain ⟨x18, rfl, rfl, q19, q20, q21, q22⟩ := q17
    refine k_st (st' := [.inl x18, .inr (.inr (some p0))]) rfl ?_
    have z23 := R14.2.2.1
    have z24 := R14.2.2.2.1 rd_at
    refine k_iload_n rfl ?_
    refine k_inv (P := P_X7_begin) (Q := Q_X7_begin) rfl rfl rfl rfl (Nat.le_of_ble_eq_true rfl) (h_0_0.rc (by decide)) ⟨_, _, _, rfl, H0, h_0_0, (by omega), (by omega), (rd_cd.st H0 h_0_0 (ExC.rf : ExC [0, 1, 2, 60, 61, 62, 63, 64, 65, 66, 67, 68, 69, 70, 72, 73, 74, 75, 76, 242, 243, 244, 270, 271, 272, 273, 279, 280, 999] σ0 σ0) R14.1 (by decide)), (R14.2.2.2.1 rd_at), (rd_bg.stn H0 h_0_0 (ExC.rf : ExC [0, 1, 2, 60, 61, 62, 63, 64, 65, 66, 67, 68, 69, 70, 72, 73, 74, 75, 76, 242, 243, 244, 270, 271, 272, 273, 279, 280, 999] σ0 σ0) R14 (by decide) (by rw [c8]; omega) (by omega)), (by omega)⟩ (fun w25 σ26 q27 => ?_)
    obtain ⟨a28, rfl, H29, e30, h32, R31, q33, q34, q35, q36⟩ := q27
    have c37 := (h_0_0.mi e30 (by decide)).trans c3
    have c38 := (h_0_0.mi e30 (by decide)).trans c8
    have z39 := congrArg Int32.toInt c37
    have z40 := congrArg Int32.toInt c38
    refine k_st (st' := [.inr (.inr (some a28))]) rfl ?_
    have z41 := R14.1.1
    refine k_astore_n (ls' := [(2, .inr (.inr (some a28))), (0, .inr (.inr (some p0))), (1, .inl p1)]) rfl ?_
    refine k_aload_n rfl ?_
    have t42 := h_0_0.x e30
    have R43 : RdC p0 none (2) (2) (-998) σ0 σ26 := R14.tr ⟨R31.1, R31.2⟩ (by omega) (by omega) (by omega) (by omega)
    have R44 := R43.nf (-1000) (-1000) (by rw [c38]; omega)
    have X45 : ExC [0, 1, 2, 60, 61, 62, 63, 64, 65, 66, 67, 68, 69, 70, 72, 73, 74, 75, 76, 242, 243, 244, 270, 271, 272, 273, 279, 280, 999] σ0 σ26 := ExC.rf.tr (e30.mo (by decide))
    refine k_inv (P := P_X7_accept) (Q := Q_X7_accept) rfl rfl rfl rfl (Nat.le_of_ble_eq_true rfl) (t42.rc (by decide)) ⟨_, rfl, H29, t42, (rd_cd.st H0 h_0_0 X45 R44.1 (by decide)), (R44.2.2.2.1 rd_at), (rd_bg.stn H0 h_0_0 X45 R44 (by decide) (by rw [c38]; omega) (by omega)), (by have ct := R44.2.2.1; rw [c38, c37, ct]; omega)⟩ (fun w46 σ47 q48 => ?_)
    obtain ⟨rfl, H49, e50, R51, q52, q53⟩ := q48
    have t59 := t42.x e50
    obtain ⟨x54, e55, c56, h57, h58⟩ := cg242 H49.1 t59
    obtain ⟨x60, e61, c62, h63, h64⟩ := cg243 H49.1 t59
    have z65 := congrArg Int32.toInt c56
    have z66 := congrArg Int32.toInt c62
    refine k_st (st' := []) rfl ?_
    have R67 : RdC p0 none (-6) (2) (-1000) σ0 σ47 := R44.tr ⟨R51.1, R51.2⟩ (by omega) (by omega) (by omega) (by omega)
    have z68 := R67.2.2.1
    have z69 := R67.2.2.2.1 rd_at
    refine k_aload_n rfl ?_
    have t70 := h32.x e50
    have c71 := (h32.mi e50 (by decide)).trans q34
    refine k_get kg270 t70 (congrArg (Sum.inl : Int32 → AvC) c71) ?_
    refine k_bipush (m := 62) rfl (fun x72 h73 => ?_)
    refine k_ic_ne (fun h74 => ?_) (fun h74 => ?_)
    · refine hB _ _ _ _ (kgoC (is := KX7_readCase_32) rfl ?_)
      refine k_aload_n rfl ?_
      refine k_bipush (m := 6) rfl (fun x75 h76 => ?_)
      have X77 : ExC [0, 1, 2, 60, 61, 62, 63, 64, 65, 66, 67, 68, 69, 70, 72, 73, 74, 75, 76, 242, 243, 244, 270, 271, 272, 273, 279, 280, 999] σ0 σ47 := X45.tr (e50.mo (by decide))
      refine k_inv (P := P_X7_expect) (Q := Q_X7_expect) rfl rfl rfl rfl (Nat.le_of_ble_eq_true rfl) (t59.rc (by decide)) ⟨_, _, rfl, H49, t59, (by omega), (by omega), (rd_cd.st H0 h_0_0 X77 R67.1 (by decide)), (R67.2.2.2.1 rd_at), (rd_bg.st H0 h_0_0 X77 R67 (by decide) (by omega) (by omega) (by omega))⟩ (fun w78 σ79 q80 => ?_)
      obtain ⟨rfl, H81, e82, R83, q84, q85⟩ := q80
      have t91 := t59.x e82
      obtain ⟨x86, e87, c88, h89, h90⟩ := cg242 H81.1 t91
      obtain ⟨x92, e93, c94, h95, h96⟩ := cg243 H81.1 t91
      have z97 := congrArg Int32.toInt c88
      have z98 := congrArg Int32.toInt c94
      refine k_st (st' := []) rfl ?_
      have R99 : RdC p0 none (-14) (2) (-1000) σ0 σ79 := R67.tr ⟨R83.1, R83.2⟩ (by omega) (by omega) (by omega) (by omega)
      have z100 := R99.2.2.1
      have z101 := R99.2.2.2.1 rd_at
      refine k_aload_n rfl ?_
      refine k_areturn ?_
      have X102 : ExC [0, 1, 2, 60, 61, 62, 63, 64, 65, 66, 67, 68, 69, 70, 72, 73, 74, 75, 76, 242, 243, 244, 270, 271, 272, 273, 279, 280, 999] σ0 σ79 := X77.tr (e82.mo (by decide))
      have t103 := t70.x e82
      have c104 := (h32.mi e50 (by decide)).trans q35
      have c105 := (t70.mi e82 (by decide)).trans c104
      have c106 := (t70.mi e82 (by decide)).trans c71
      have S114 : ∀ s, ReC σ0 p0 s → ReC σ79 p0 (casY d s) := by
        intro s hs
        have f107 := q22 _ hs
        have y108 := q36 _ hs
        have y110 := q53 _ y108
        have y112 := q85 _ y110
        rw [h76] at y112
        refine y112.eq ?_
        try unfold casY
        repeat (split <;> try (exfalso; omega))
        try unfold tkY
        repeat (split <;> try (exfalso; omega))
        try unfold dpY
        repeat (split <;> try (exfalso; omega))
        all_goals rfl
      exact ⟨_, rfl, H81, X102, t103, (R99.mo (by omega) (by omega) (by omega)), (by omega), (by rw [c105] <;> omega), (by rw [c106] <;> omega), S114⟩
    · refine k_nil ?_
      refine hB _ _ _ _ (kgoC (is := KX7_readCase_23) rfl ?_)
      refine k_aload_n rfl ?_
      refine k_aload_n rfl ?_
      refine k_iload_n rfl ?_
      have X115 : ExC [0, 1, 2, 60, 61, 62, 63, 64, 65, 66, 67, 68, 69, 70, 72, 73, 74, 75, 76, 242, 243, 244, 270, 271, 272, 273, 279, 280, 999] σ0 σ47 := X45.tr (e50.mo (by decide))
      refine k_inv (P := (P_X7_readExp d)) (Q := (Q_X7_readExp d)) rfl rfl rfl rfl (Nat.le_of_ble_eq_true rfl) (t59.rc (by decide)) ⟨_, _, rfl, H49, t59, (by omega), (by omega), (rd_cd.st H0 h_0_0 X115 R67.1 (by decide)), (R67.2.2.2.1 rd_at), (rd_bg.st H0 h_0_0 X115 R67 (by decide) (by omega) (by omega) (by omega)), (by omega)⟩ (fun w116 σ117 q118 => ?_)
      obtain ⟨a119, rfl, H120, e121, h123, R122, q124, q125⟩ := q118
      have t131 := t59.x e121
      obtain ⟨x126, e127, c128, h129, h130⟩ := cg242 H120.1 t131
      obtain ⟨x132, e133, c134, h135, h136⟩ := cg243 H120.1 t131
      have z137 := congrArg Int32.toInt c128
      have z138 := congrArg Int32.toInt c134
      refine k_st (st' := [.inr (.inr (some a119)), .inr (.inr (some a28))]) rfl ?_
      have z139 := R67.1.1
      have R140 : RdC p0 none (-6) (14 + 8 * (d : Int)) (-999) σ0 σ117 := R67.tr ⟨R122.1, R122.2⟩ (by omega) (by omega) (by omega) (by omega)
      have z141 := R140.2.2.1
      have z142 := R140.2.2.2.1 rd_at
      have t143 := t70.x e121
      refine k_putR kp279 H120 t143 fk279 (rf279 h123) (fun σ144 H145 e146 c147 => ?_)
      refine k_nil ?_
      refine hB _ _ _ _ (kgoC (is := KX7_readCase_32) rfl ?_)
      refine k_aload_n rfl ?_
      refine k_bipush (m := 6) rfl (fun x148 h149 => ?_)
      have t150 := t131.x e146
      have R151 : RdC p0 none (-6) (14 + 8 * (d : Int)) (-999) σ0 σ144 := R140.tr ⟨(e146.gw H120.1 (by decide)), (e146.cou (u := 0) H120.1 t131 (by decide) (by rw [e146.cn (by decide)]; omega))⟩ (by omega) (by omega) (by omega) (by omega)
      have c152 := (t131.mi e146 (by decide)).trans c134
      have X153 : ExC [0, 1, 2, 60, 61, 62, 63, 64, 65, 66, 67, 68, 69, 70, 72, 73, 74, 75, 76, 242, 243, 244, 270, 271, 272, 273, 279, 280, 999] σ0 σ117 := X115.tr (e121.mo (by decide))
      have X154 : ExC [0, 1, 2, 60, 61, 62, 63, 64, 65, 66, 67, 68, 69, 70, 72, 73, 74, 75, 76, 242, 243, 244, 270, 271, 272, 273, 279, 280, 999] σ0 σ144 := X153.tr (e146.mo (by decide))
      have c155 := (t131.mi e146 (by decide)).trans c128
      have z156 := congrArg Int32.toInt c155
      have z157 := congrArg Int32.toInt c152
      refine k_inv (P := P_X7_expect) (Q := Q_X7_expect) rfl rfl rfl rfl (Nat.le_of_ble_eq_true rfl) (t150.rc (by decide)) ⟨_, _, rfl, H145, t150, (by omega), (by omega), (rd_cd.st H0 h_0_0 X154 R151.1 (by decide)), (R151.2.2.2.1 rd_at), (rd_bg.st H0 h_0_0 X154 R151 (by decide) (by omega) (by omega) (by omega))⟩ (fun w158 σ159 q160 => ?_)
      obtain ⟨rfl, H161, e162, R163, q164, q165⟩ := q160
      have t171 := t150.x e162
      obtain ⟨x166, e167, c168, h169, h170⟩ := cg242 H161.1 t171
      obtain ⟨x172, e173, c174, h175, h176⟩ := cg243 H161.1 t171
      have z177 := congrArg Int32.toInt c168
      have z178 := congrArg Int32.toInt c174
      refine k_st (st' := []) rfl ?_
      have R179 : RdC p0 none (-14) (14 + 8 * (d : Int)) (-999) σ0 σ159 := R151.tr ⟨R163.1, R163.2⟩ (by omega) (by omega) (by omega) (by omega)
      have z180 := R179.2.2.1
      have z181 := R179.2.2.2.1 rd_at
      refine k_aload_n rfl ?_
      refine k_areturn ?_
      have X182 : ExC [0, 1, 2, 60, 61, 62, 63, 64, 65, 66, 67, 68, 69, 70, 72, 73, 74, 75, 76, 242, 243, 244, 270, 271, 272, 273, 279, 280, 999] σ0 σ159 := X154.tr (e162.mo (by decide))
      have t183 := t143.x e146
      have t184 := t183.x e162
      have c185 := (h32.mi e50 (by decide)).trans q35
      have c186 := (t70.mi e121 (by decide)).trans c185
      have c187 := (t143.mi e146 (by decide)).trans c186
      have c188 := (t183.mi e162 (by decide)).trans c187
      have c189 := (t70.mi e121 (by decide)).trans c71
      have c190 := (t143.mi e146 (by decide)).trans c189
      have c191 := (t183.mi e162 (by decide)).trans c190
      have S202 : ∀ s, ReC σ0 p0 s → ReC σ159 p0 (casY d s) := by
        intro s hs
        have f192 := q22 _ hs
        have y193 := q36 _ hs
        have y195 := q53 _ y193
        have y197 := q125 _ y195
        have y199 := y197.x H120.1 t131 e146 (by decide)
        have y200 := q165 _ y199
        rw [h149] at y200
        refine y200.eq ?_
        try unfold casY
        repeat (split <;> try (exfalso; omega))
        try unfold tkY
        repeat (split <;> try (exfalso; omega))
        try unfold dpY
        repeat (split <;> try (exfalso; omega))
        all_goals rfl
      exact ⟨_, rfl, H161, X182, t184, (R179.mo (by omega) (by omega) (by omega)), (by omega), (by rw [c188] <;> omega), (by rw [c191] <;> omega), S202⟩
theorem lg_X7_readCase (d : Nat) : ∀ (As : List AvC) (σ : CsC), (P_X7_readCase d) As σ → lgC As ≤ rX7_readCase.2.2.1 := by
  rintro As σ ⟨p0, p1, rfl, -⟩
  exact Nat.le_of_ble_eq_true rfl
theorem s_X7_readCase (l : Launch) (d : Nat) (h_X7_readExp : CMetC l (13 * d + 36) 164 (P_X7_readExp d) (Q_X7_readExp d)) : CMetC l (13 * d + 37) 147 (P_X7_readCase d) (Q_X7_readCase d) :=
  CMetC.of KX7_readCase [(125, P_X7_code, Q_X7_code), (142, P_X7_begin, Q_X7_begin), (128, P_X7_accept, Q_X7_accept), (129, P_X7_expect, Q_X7_expect), (164, (P_X7_readExp d), (Q_X7_readExp d))] hX7_readCase (by decide) (by omega) okX7_readCase (cc1C (m_X7_code l) (by omega) (cc1C (m_X7_begin l) (by omega) (cc1C (m_X7_accept l) (by omega) (cc1C (m_X7_expect l) (by omega) (cc1C h_X7_readExp (by omega) cc0C))))) (lg_X7_readCase d) (b_X7_readCase d)

set_option maxRecDepth 100000 in
set_option maxHeartbeats 4000000 in
theorem b_X7_readInner (d : Nat) : TbC KX7_readInner [(149, (P_X7_readStatement d), (Q_X7_readStatement d))] (P_X7_readInner (d + 1)) (Q_X7_readInner (d + 1)) := by
  · rintro As σ0 ⟨p0, p1, p2, rfl, H0, h_0_0, h_1_0, h_2_0, h_2_1, rd_cd, rd_at, rd_bg, rd_dp⟩ hgr G hB hW
    change G 0 [(0, .inr (.inr (some p0))), (1, .inr (.inr (some p1))), (2, .inl p2)] [] σ0
    obtain ⟨x1, e2, c3, h4, h5⟩ := cg242 H0.1 h_0_0
    obtain ⟨x6, e7, c8, h9, h10⟩ := cg243 H0.1 h_0_0
    have z11 := congrArg Int32.toInt c3
    have z12 := congrArg Int32.toInt c8
    refine hB _ _ _ _ (kgoC (is := KX7_readInner_0) rfl ?_)
    refine k_aload_n rfl ?_
    obtain ⟨o15, e13, c14, t16⟩ := cg246 H0.1 h_0_0
    refine k_get kg246 h_0_0 e13 ?_
    refine k_astore_n (ls' := [(3, .inr (.inr o15)), (0, .inr (.inr (some p0))), (1, .inr (.inr (some p1))), (2, .inl p2)]) rfl ?_
    refine k_aload_n rfl ?_
    refine k_aload_n rfl ?_
    refine k_putR kp246 H0 h_0_0 fk246 (rf246 h_1_0) (fun σ17 H18 e19 c20 => ?_)
    refine k_aload_n rfl ?_
    refine k_iload_n rfl ?_
    refine k_iconst (m := 1) rfl (fun x21 h22 => ?_)
    refine k_iadd (by omega) (by omega) (fun x23 h24 => ?_)
    have t25 := h_0_0.x e19
    have R26 : RdC p0 none (0) (0) (0) σ0 σ17 := (RdC.rf : RdC p0 none 0 0 0 σ0 σ0).tr ⟨(e19.gw H0.1 (by decide)), (e19.cou (u := 0) H0.1 h_0_0 (by decide) (by rw [e19.cn (by decide)]; omega))⟩ (by omega) (by omega) (by omega) (by omega)
    have c27 := (h_0_0.mi e19 (by decide)).trans c8
    have X28 : ExC [0, 1, 2, 60, 61, 62, 63, 64, 65, 66, 67, 68, 69, 70, 72, 73, 74, 75, 76, 242, 243, 244, 246, 270, 271, 272, 273, 275, 276, 277, 278, 279, 280, 330, 331, 332, 333, 334, 999] σ0 σ17 := ExC.rf.tr (e19.mo (by decide))
    have c29 := (h_0_0.mi e19 (by decide)).trans c3
    have z30 := congrArg Int32.toInt c29
    have z31 := congrArg Int32.toInt c27
    refine k_inv (P := (P_X7_readStatement d)) (Q := (Q_X7_readStatement d)) rfl rfl rfl rfl (Nat.le_of_ble_eq_true rfl) (t25.rc (by decide)) ⟨_, _, rfl, H18, t25, (by omega), (by omega), (rd_cd.st H0 h_0_0 X28 R26.1 (by decide)), (R26.2.2.2.1 rd_at), (rd_bg.st H0 h_0_0 X28 R26 (by decide) (by omega) (by omega) (by omega)), (by omega)⟩ (fun w32 σ33 q34 => ?_)
    obtain ⟨a35, rfl, H36, e37, h39, R38, q40, q41, q42, q43⟩ := q34
    have t49 := t25.x e37
    obtain ⟨x44, e45, c46, h47, h48⟩ := cg242 H36.1 t49
    obtain ⟨x50, e51, c52, h53, h54⟩ := cg243 H36.1 t49
    have z55 := congrArg Int32.toInt c46
    have z56 := congrArg Int32.toInt c52
    refine k_st (st' := [.inr (.inr (some a35))]) rfl ?_
    have z57 := R26.1.1
    obtain ⟨x58, e59, c60, h61, h62⟩ := cg272 H36.1 h39
    rw [c60] at q41
    obtain ⟨x63, e64, c65, h66, h67⟩ := cg270 H36.1 h39
    rw [c65] at q42
    have R68 : RdC p0 none (0) (24 + 8 * (d : Int)) (3) σ0 σ33 := R26.tr ⟨R38.1, R38.2⟩ (by omega) (by omega) (by omega) (by omega)
    have z69 := R68.2.2.1
    have z70 := R68.2.2.2.1 rd_at
    refine k_astore (ls' := [(4, .inr (.inr (some a35))), (3, .inr (.inr o15)), (0, .inr (.inr (some p0))), (1, .inr (.inr (some p1))), (2, .inl p2)]) rfl ?_
    refine k_aload_n rfl ?_
    refine k_aload_n rfl ?_
    have t75 := t16.x e19
    have t76 := t75.x e37
    refine k_putR kp246 H36 t49 fk246 (rfo246 (t76)) (fun σ71 H72 e73 c74 => ?_)
    refine k_aload rfl ?_
    refine k_areturn ?_
    have X77 : ExC [0, 1, 2, 60, 61, 62, 63, 64, 65, 66, 67, 68, 69, 70, 72, 73, 74, 75, 76, 242, 243, 244, 246, 270, 271, 272, 273, 275, 276, 277, 278, 279, 280, 330, 331, 332, 333, 334, 999] σ0 σ33 := X28.tr (e37.mo (by decide))
    have X78 : ExC [0, 1, 2, 60, 61, 62, 63, 64, 65, 66, 67, 68, 69, 70, 72, 73, 74, 75, 76, 242, 243, 244, 246, 270, 271, 272, 273, 275, 276, 277, 278, 279, 280, 330, 331, 332, 333, 334, 999] σ0 σ71 := X77.tr (e73.mo (by decide))
    have t79 := h39.x e73
    have R80 : RdC p0 none (0) (24 + 8 * (d : Int)) (3) σ0 σ71 := R68.tr ⟨(e73.gw H36.1 (by decide)), (e73.cou (u := 0) H36.1 t49 (by decide) (by rw [e73.cn (by decide)]; omega))⟩ (by omega) (by omega) (by omega) (by omega)
    have c81 := (t49.mi e73 (by decide)).trans c52
    have c82 := (t49.mi e73 (by decide)).trans c46
    have c83 := (h39.mi e73 (by decide)).trans c60
    have c84 := (h39.mi e73 (by decide)).trans c65
    have S89 : ∀ s, ReC σ0 p0 s → ReC σ71 p0 (stY ((d + 1) - 1) s) := by
      intro s hs
      have y85 := hs.x H0.1 h_0_0 e19 (by decide)
      have y86 := q43 _ y85
      have y88 := y86.x H36.1 t49 e73 (by decide)
      refine y88.eq ?_
      try unfold tkY
      repeat (split <;> try (exfalso; omega))
      try unfold dpY
      repeat (split <;> try (exfalso; omega))
      all_goals rfl
    exact ⟨_, rfl, H72, X78, t79, (R80.mo (by omega) (by omega) (by omega)), (by omega), (by rw [c83] <;> omega), (by rw [c84] <;> omega), S89⟩
theorem lg_X7_readInner (d : Nat) : ∀ (As : List AvC) (σ : CsC), (P_X7_readInner (d + 1)) As σ → lgC As ≤ rX7_readInner.2.2.1 := by
  rintro As σ ⟨p0, p1, p2, rfl, -⟩
  exact Nat.le_of_ble_eq_true rfl
theorem s_X7_readInner (l : Launch) (d : Nat) (h_X7_readStatement : CMetC l (13 * d + 40) 149 (P_X7_readStatement d) (Q_X7_readStatement d)) : CMetC l (13 * (d + 1) + 37) 148 (P_X7_readInner (d + 1)) (Q_X7_readInner (d + 1)) :=
  CMetC.of KX7_readInner [(149, (P_X7_readStatement d), (Q_X7_readStatement d))] hX7_readInner (by decide) (by omega) okX7_readInner (cc1C h_X7_readStatement (by omega) cc0C) (lg_X7_readInner d) (b_X7_readInner d)

set_option maxRecDepth 100000 in
set_option maxHeartbeats 4000000 in
theorem b_X7_readBlock (d : Nat) : TbC KX7_readBlock [(129, P_X7_expect, Q_X7_expect), (145, (P_X7_readRow d), (Q_X7_readRow d))] (P_X7_readBlock (d + 1)) (Q_X7_readBlock (d + 1)) := by
  · rintro As σ0 ⟨p0, p1, p2, rfl, H0, h_0_0, h_1_0, h_2_0, h_2_1, rd_cd, rd_at, rd_bg, rd_dp, q_0, q_1⟩ hgr G hB hW
    change G 0 [(0, .inr (.inr (some p0))), (1, .inr (.inr (some p1))), (2, .inl p2)] [] σ0
    obtain ⟨x1, e2, c3, h4, h5⟩ := cg242 H0.1 h_0_0
    obtain ⟨x6, e7, c8, h9, h10⟩ := cg243 H0.1 h_0_0
    have z11 := congrArg Int32.toInt c3
    have z12 := congrArg Int32.toInt c8
    obtain ⟨x13, e14, c15, h16, h17⟩ := cg270 H0.1 h_1_0
    have h18 : ¬ x13.toInt = 68 := by rw [← c15]; exact q_0
    obtain ⟨x19, e20, c21, h22, h23⟩ := cg272 H0.1 h_1_0
    have h24 : x19.toInt = p2.toInt := by rw [← c21]; exact q_1
    refine hB _ _ _ _ (kgoC (is := KX7_readBlock_0) rfl ?_)
    refine k_aload_n rfl ?_
    obtain ⟨o27, e25, c26, t28⟩ := cg246 H0.1 h_0_0
    refine k_get kg246 h_0_0 e25 ?_
    refine k_astore_n (ls' := [(3, .inr (.inr o27)), (0, .inr (.inr (some p0))), (1, .inr (.inr (some p1))), (2, .inl p2)]) rfl ?_
    refine k_aload_n rfl ?_
    obtain ⟨y31, e29, c30⟩ := cg245 (σ := σ0) (a := p0)
    refine k_get kg245 h_0_0 e29 ?_
    refine k_lstore (ls' := [(4, .inr (.inl y31)), (3, .inr (.inr o27)), (0, .inr (.inr (some p0))), (1, .inr (.inr (some p1))), (2, .inl p2)]) rfl ?_
    refine k_aload_n rfl ?_
    refine k_aload_n rfl ?_
    refine k_putR kp246 H0 h_0_0 fk246 (rf246 h_1_0) (fun σ32 H33 e34 c35 => ?_)
    refine k_aload_n rfl ?_
    refine k_iconst (m := 2) rfl (fun x36 h37 => ?_)
    have t38 := h_0_0.x e34
    have R39 : RdC p0 none (0) (0) (0) σ0 σ32 := (RdC.rf : RdC p0 none 0 0 0 σ0 σ0).tr ⟨(e34.gw H0.1 (by decide)), (e34.cou (u := 0) H0.1 h_0_0 (by decide) (by rw [e34.cn (by decide)]; omega))⟩ (by omega) (by omega) (by omega) (by omega)
    have c40 := (h_0_0.mi e34 (by decide)).trans c8
    have X41 : ExC [0, 1, 2, 60, 61, 62, 63, 64, 65, 66, 67, 68, 69, 70, 72, 73, 74, 75, 76, 242, 243, 244, 246, 270, 271, 272, 273, 275, 276, 277, 278, 279, 280, 330, 331, 332, 333, 334, 999] σ0 σ32 := ExC.rf.tr (e34.mo (by decide))
    have c42 := (h_0_0.mi e34 (by decide)).trans c3
    have z43 := congrArg Int32.toInt c42
    have z44 := congrArg Int32.toInt c40
    refine k_inv (P := P_X7_expect) (Q := Q_X7_expect) rfl rfl rfl rfl (Nat.le_of_ble_eq_true rfl) (t38.rc (by decide)) ⟨_, _, rfl, H33, t38, (by omega), (by omega), (rd_cd.st H0 h_0_0 X41 R39.1 (by decide)), (R39.2.2.2.1 rd_at), (rd_bg.st H0 h_0_0 X41 R39 (by decide) (by omega) (by omega) (by omega))⟩ (fun w45 σ46 q47 => ?_)
    obtain ⟨rfl, H48, e49, R50, q51, q52⟩ := q47
    have t58 := t38.x e49
    obtain ⟨x53, e54, c55, h56, h57⟩ := cg242 H48.1 t58
    obtain ⟨x59, e60, c61, h62, h63⟩ := cg243 H48.1 t58
    have z64 := congrArg Int32.toInt c55
    have z65 := congrArg Int32.toInt c61
    refine k_st (st' := []) rfl ?_
    have R66 : RdC p0 none (-8) (0) (0) σ0 σ46 := R39.tr ⟨R50.1, R50.2⟩ (by omega) (by omega) (by omega) (by omega)
    have z67 := R66.2.2.1
    have z68 := R66.2.2.2.1 rd_at
    refine k_aload_n rfl ?_
    refine k_aload_n rfl ?_
    refine k_iload_n rfl ?_
    refine k_iconst (m := 1) rfl (fun x69 h70 => ?_)
    refine k_iadd (by omega) (by omega) (fun x71 h72 => ?_)
    refine k_iconst (m := 0) rfl (fun x73 h74 => ?_)
    have X75 : ExC [0, 1, 2, 60, 61, 62, 63, 64, 65, 66, 67, 68, 69, 70, 72, 73, 74, 75, 76, 242, 243, 244, 246, 270, 271, 272, 273, 275, 276, 277, 278, 279, 280, 330, 331, 332, 333, 334, 999] σ0 σ46 := X41.tr (e49.mo (by decide))
    refine k_inv (P := (P_X7_readRow d)) (Q := (Q_X7_readRow d)) rfl rfl rfl rfl (Nat.le_of_ble_eq_true rfl) (t58.rc (by decide)) ⟨_, _, _, rfl, H48, t58, (by omega), (by omega), (by omega), (by omega), (rd_cd.st H0 h_0_0 X75 R66.1 (by decide)), (R66.2.2.2.1 rd_at), (rd_bg.st H0 h_0_0 X75 R66 (by decide) (by omega) (by omega) (by omega)), (by omega)⟩ (fun w76 σ77 q78 => ?_)
    obtain ⟨o79, rfl, H80, e81, h83, R82, q84, q85⟩ := q78
    have t91 := t58.x e81
    obtain ⟨x86, e87, c88, h89, h90⟩ := cg242 H80.1 t91
    obtain ⟨x92, e93, c94, h95, h96⟩ := cg243 H80.1 t91
    have z97 := congrArg Int32.toInt c88
    have z98 := congrArg Int32.toInt c94
    refine k_st (st' := [.inr (.inr o79), .inr (.inr (some p1))]) rfl ?_
    have R99 : RdC p0 none (-8) (16 + 8 * (d : Int)) (0) σ0 σ77 := R66.tr ⟨R82.1, R82.2⟩ (by omega) (by omega) (by omega) (by omega)
    have z100 := R99.2.2.1
    have z101 := R99.2.2.2.1 rd_at
    have c102 := (h_1_0.mi e34 (by decide)).trans c15
    have t103 := h_1_0.x e34
    have c104 := (t103.mi e49 (by decide)).trans c102
    have t105 := t103.x e49
    have c106 := (t105.fi e81 (by decide) (by decide)).trans c104
    have c107 := (h_1_0.mi e34 (by decide)).trans c21
    have c108 := (t103.mi e49 (by decide)).trans c107
    have c109 := (t105.fi e81 (by decide) (by decide)).trans c108
    have z114 := t105.1
    have t115 := t105.x e81
    refine k_p276 H80 t115 (h83) (fun z hz => by have hf := q84 z hz; exact ⟨by omega, by unfold LvC; rw [c106, c109]; omega⟩) (fun σ110 H111 e112 c113 => ?_)
    refine k_aload_n rfl ?_
    refine k_iconst (m := 3) rfl (fun x116 h117 => ?_)
    have t118 := t91.x e112
    have R119 : RdC p0 none (-8) (16 + 8 * (d : Int)) (0) σ0 σ110 := R99.tr ⟨(e112.gw H80.1 (by decide)), (e112.cou (u := 0) H80.1 t91 (by decide) (by rw [e112.cn (by decide)]; omega))⟩ (by omega) (by omega) (by omega) (by omega)
    have c120 := (t91.mi e112 (by decide)).trans c94
    have X121 : ExC [0, 1, 2, 60, 61, 62, 63, 64, 65, 66, 67, 68, 69, 70, 72, 73, 74, 75, 76, 242, 243, 244, 246, 270, 271, 272, 273, 275, 276, 277, 278, 279, 280, 330, 331, 332, 333, 334, 999] σ0 σ77 := X75.tr (e81.mo (by decide))
    have X122 : ExC [0, 1, 2, 60, 61, 62, 63, 64, 65, 66, 67, 68, 69, 70, 72, 73, 74, 75, 76, 242, 243, 244, 246, 270, 271, 272, 273, 275, 276, 277, 278, 279, 280, 330, 331, 332, 333, 334, 999] σ0 σ110 := X121.tr (e112.mo (by decide))
    have c123 := (t91.mi e112 (by decide)).trans c88
    have z124 := congrArg Int32.toInt c123
    have z125 := congrArg Int32.toInt c120
    refine k_inv (P := P_X7_expect) (Q := Q_X7_expect) rfl rfl rfl rfl (Nat.le_of_ble_eq_true rfl) (t118.rc (by decide)) ⟨_, _, rfl, H111, t118, (by omega), (by omega), (rd_cd.st H0 h_0_0 X122 R119.1 (by decide)), (R119.2.2.2.1 rd_at), (rd_bg.st H0 h_0_0 X122 R119 (by decide) (by omega) (by omega) (by omega))⟩ (fun w126 σ127 q128 => ?_)
    obtain ⟨rfl, H129, e130, R131, q132, q133⟩ := q128
    have t139 := t118.x e130
    obtain ⟨x134, e135, c136, h137, h138⟩ := cg242 H129.1 t139
    obtain ⟨x140, e141, c142, h143, h144⟩ := cg243 H129.1 t139
    have z145 := congrArg Int32.toInt c136
    have z146 := congrArg Int32.toInt c142
    refine k_st (st' := []) rfl ?_
    have R147 : RdC p0 none (-16) (16 + 8 * (d : Int)) (0) σ0 σ127 := R119.tr ⟨R131.1, R131.2⟩ (by omega) (by omega) (by omega) (by omega)
    have z148 := R147.2.2.1
    have z149 := R147.2.2.2.1 rd_at
    refine k_aload_n rfl ?_
    refine k_lload rfl ?_
    refine k_putL kg245 H129 t139 fk245 (fun σ150 H151 e152 c153 => ?_)
    refine k_aload_n rfl ?_
    refine k_aload_n rfl ?_
    have t154 := t139.x e152
    have t159 := t28.x e34
    have t160 := t159.x e49
    have t161 := t160.x e81
    have t162 := t161.x e112
    have t163 := t162.x e130
    have t164 := t163.x e152
    refine k_putR kp246 H151 t154 fk246 (rfo246 (t164)) (fun σ155 H156 e157 c158 => ?_)
    refine k_return ?_
    have X165 : ExC [0, 1, 2, 60, 61, 62, 63, 64, 65, 66, 67, 68, 69, 70, 72, 73, 74, 75, 76, 242, 243, 244, 246, 270, 271, 272, 273, 275, 276, 277, 278, 279, 280, 330, 331, 332, 333, 334, 999] σ0 σ127 := X122.tr (e130.mo (by decide))
    have X166 : ExC [0, 1, 2, 60, 61, 62, 63, 64, 65, 66, 67, 68, 69, 70, 72, 73, 74, 75, 76, 242, 243, 244, 246, 270, 271, 272, 273, 275, 276, 277, 278, 279, 280, 330, 331, 332, 333, 334, 999] σ0 σ150 := X165.tr (e152.mo (by decide))
    have X167 : ExC [0, 1, 2, 60, 61, 62, 63, 64, 65, 66, 67, 68, 69, 70, 72, 73, 74, 75, 76, 242, 243, 244, 246, 270, 271, 272, 273, 275, 276, 277, 278, 279, 280, 330, 331, 332, 333, 334, 999] σ0 σ155 := X166.tr (e157.mo (by decide))
    have R168 : RdC p0 none (-16) (16 + 8 * (d : Int)) (0) σ0 σ150 := R147.tr ⟨(e152.gw H129.1 (by decide)), (e152.cou (u := 0) H129.1 t139 (by decide) (by rw [e152.cn (by decide)]; omega))⟩ (by omega) (by omega) (by omega) (by omega)
    have R169 : RdC p0 none (-16) (16 + 8 * (d : Int)) (0) σ0 σ155 := R168.tr ⟨(e157.gw H151.1 (by decide)), (e157.cou (u := 0) H151.1 t154 (by decide) (by rw [e157.cn (by decide)]; omega))⟩ (by omega) (by omega) (by omega) (by omega)
    have c170 := (t139.mi e152 (by decide)).trans c142
    have c171 := (t154.mi e157 (by decide)).trans c170
    have c172 := (t139.mi e152 (by decide)).trans c136
    have c173 := (t154.mi e157 (by decide)).trans c172
    have S184 : ∀ s, ReC σ0 p0 s → ReC σ155 p0 (blkY (rwY ((d + 1) - 1)) s) := by
      intro s hs
      have y174 := hs.x H0.1 h_0_0 e34 (by decide)
      have y175 := q52 _ y174
      rw [h37] at y175
      have y177 := q85 _ y175
      rw [h74] at y177
      have y179 := y177.x H80.1 t91 e112 (by decide)
      have y180 := q133 _ y179
      rw [h117] at y180
      have y182 := y180.x H129.1 t139 e152 (by decide)
      have y183 := y182.x H151.1 t154 e157 (by decide)
      refine y183.eq ?_
      try unfold blkY
      repeat (split <;> try (exfalso; omega))
      try unfold tkY
      repeat (split <;> try (exfalso; omega))
      try unfold dpY
      repeat (split <;> try (exfalso; omega))
      all_goals rfl
    exact ⟨rfl, H156, X167, (R169.mo (by omega) (by omega) (by omega)), S184⟩
theorem lg_X7_readBlock (d : Nat) : ∀ (As : List AvC) (σ : CsC), (P_X7_readBlock (d + 1)) As σ → lgC As ≤ rX7_readBlock.2.2.1 := by
  rintro As σ ⟨p0, p1, p2, rfl, -⟩
  exact Nat.le_of_ble_eq_true rfl
theorem s_X7_readBlock (l : Launch) (d : Nat) (h_X7_readRow : CMetC l (13 * d + 42) 145 (P_X7_readRow d) (Q_X7_readRow d)) : CMetC l (13 * (d + 1) + 37) 144 (P_X7_readBlock (d + 1)) (Q_X7_readBlock (d + 1)) :=
  CMetC.of KX7_readBlock [(129, P_X7_expect, Q_X7_expect), (145, (P_X7_readRow d), (Q_X7_readRow d))] hX7_readBlock (by decide) (by omega) okX7_readBlock (cc1C (m_X7_expect l) (by omega) (cc1C h_X7_readRow (by omega) cc0C)) (lg_X7_readBlock d) (b_X7_readBlock d)

set_option maxRecDepth 100000 in
set_option maxHeartbeats 4000000 in
theorem b_X7_readBody (d : Nat) : TbC KX7_readBody [(142, P_X7_begin, Q_X7_begin), (144, (P_X7_readBlock d), (Q_X7_readBlock d))] (P_X7_readBody d) (Q_X7_readBody d) := by
  · rintro As σ0 ⟨p0, p1, rfl, H0, h_0_0, h_1_0, h_1_1, rd_cd, rd_at, rd_bg, rd_dp⟩ hgr G hB hW
    change G 0 [(0, .inr (.inr (some p0))), (1, .inl p1)] [] σ0
    obtain ⟨x1, e2, c3, h4, h5⟩ := cg242 H0.1 h_0_0
    obtain ⟨x6, e7, c8, h9, h10⟩ := cg243 H0.1 h_0_0
    have z11 := congrArg Int32.toInt c3
    have z12 := congrArg Int32.toInt c8
    refine hB _ _ _ _ (kgoC (is := KX7_readBody_0) rfl ?_)
    refine k_aload_n rfl ?_
    refine k_bipush (m := 92) rfl (fun x13 h14 => ?_)
    refine k_iload_n rfl ?_
    refine k_inv (P := P_X7_begin) (Q := Q_X7_begin) rfl rfl rfl rfl (Nat.le_of_ble_eq_true rfl) (h_0_0.rc (by decide)) ⟨_, _, _, rfl, H0, h_0_0, (by omega), (by omega), (rd_cd.st H0 h_0_0 (ExC.rf : ExC [0, 1, 2, 60, 61, 62, 63, 64, 65, 66, 67, 68, 69, 70, 72, 73, 74, 75, 76, 242, 243, 244, 246, 270, 271, 272, 273, 275, 276, 277, 278, 279, 280, 330, 331, 332, 333, 334, 999] σ0 σ0) (RdC.rf : RdC p0 none 0 0 0 σ0 σ0).1 (by decide)), ((RdC.rf : RdC p0 none 0 0 0 σ0 σ0).2.2.2.1 rd_at), (rd_bg.st H0 h_0_0 (ExC.rf : ExC [0, 1, 2, 60, 61, 62, 63, 64, 65, 66, 67, 68, 69, 70, 72, 73, 74, 75, 76, 242, 243, 244, 246, 270, 271, 272, 273, 275, 276, 277, 278, 279, 280, 330, 331, 332, 333, 334, 999] σ0 σ0) (RdC.rf : RdC p0 none 0 0 0 σ0 σ0) (by decide) (by omega) (by omega) (by omega)), (by omega)⟩ (fun w15 σ16 q17 => ?_)
    obtain ⟨a18, rfl, H19, e20, h22, R21, q23, q24, q25, q26⟩ := q17
    have c27 := (h_0_0.mi e20 (by decide)).trans c3
    have c28 := (h_0_0.mi e20 (by decide)).trans c8
    have z29 := congrArg Int32.toInt c27
    have z30 := congrArg Int32.toInt c28
    refine k_st (st' := [.inr (.inr (some a18))]) rfl ?_
    have z31 := (RdC.rf : RdC p0 none 0 0 0 σ0 σ0).1.1
    refine k_astore_n (ls' := [(2, .inr (.inr (some a18))), (0, .inr (.inr (some p0))), (1, .inl p1)]) rfl ?_
    refine k_aload_n rfl ?_
    refine k_aload_n rfl ?_
    refine k_iload_n rfl ?_
    have t32 := h_0_0.x e20
    have R33 : RdC p0 none (2) (2) (2) σ0 σ16 := (RdC.rf : RdC p0 none 0 0 0 σ0 σ0).tr ⟨R21.1, R21.2⟩ (by omega) (by omega) (by omega) (by omega)
    have X34 : ExC [0, 1, 2, 60, 61, 62, 63, 64, 65, 66, 67, 68, 69, 70, 72, 73, 74, 75, 76, 242, 243, 244, 246, 270, 271, 272, 273, 275, 276, 277, 278, 279, 280, 330, 331, 332, 333, 334, 999] σ0 σ16 := ExC.rf.tr (e20.mo (by decide))
    refine k_inv (P := (P_X7_readBlock d)) (Q := (Q_X7_readBlock d)) rfl rfl rfl rfl (Nat.le_of_ble_eq_true rfl) (t32.rc (by decide)) ⟨_, _, _, rfl, H19, t32, h22, (by omega), (by omega), (rd_cd.st H0 h_0_0 X34 R33.1 (by decide)), (R33.2.2.2.1 rd_at), (rd_bg.st H0 h_0_0 X34 R33 (by decide) (by omega) (by omega) (by omega)), (by omega), (by rw [q24] <;> omega), (by rw [q25] <;> omega)⟩ (fun w35 σ36 q37 => ?_)
    obtain ⟨rfl, H38, e39, R40, q41⟩ := q37
    have t47 := t32.x e39
    obtain ⟨x42, e43, c44, h45, h46⟩ := cg242 H38.1 t47
    obtain ⟨x48, e49, c50, h51, h52⟩ := cg243 H38.1 t47
    have z53 := congrArg Int32.toInt c44
    have z54 := congrArg Int32.toInt c50
    refine k_st (st' := []) rfl ?_
    have R55 : RdC p0 none (-6) (18 + 8 * (d : Int)) (2) σ0 σ36 := R33.tr ⟨R40.1, R40.2⟩ (by omega) (by omega) (by omega) (by omega)
    have z56 := R55.2.2.1
    have z57 := R55.2.2.2.1 rd_at
    refine k_aload_n rfl ?_
    refine k_areturn ?_
    have X58 : ExC [0, 1, 2, 60, 61, 62, 63, 64, 65, 66, 67, 68, 69, 70, 72, 73, 74, 75, 76, 242, 243, 244, 246, 270, 271, 272, 273, 275, 276, 277, 278, 279, 280, 330, 331, 332, 333, 334, 999] σ0 σ36 := X34.tr (e39.mo (by decide))
    have t59 := h22.x e39
    have c60 := (h22.fi e39 (by decide) (by decide)).trans q25
    have c61 := (h22.fi e39 (by decide) (by decide)).trans q24
    have S66 : ∀ s, ReC σ0 p0 s → ReC σ36 p0 (blkY (rwY (d - 1)) s) := by
      intro s hs
      have y62 := q26 _ hs
      have y64 := q41 _ y62
      refine y64.eq ?_
      try unfold tkY
      repeat (split <;> try (exfalso; omega))
      try unfold dpY
      repeat (split <;> try (exfalso; omega))
      all_goals rfl
    exact ⟨_, rfl, H38, X58, t59, (R55.mo (by omega) (by omega) (by omega)), (by omega), (by rw [c60] <;> omega), (by rw [c61] <;> omega), S66⟩
theorem lg_X7_readBody (d : Nat) : ∀ (As : List AvC) (σ : CsC), (P_X7_readBody d) As σ → lgC As ≤ rX7_readBody.2.2.1 := by
  rintro As σ ⟨p0, p1, rfl, -⟩
  exact Nat.le_of_ble_eq_true rfl
theorem s_X7_readBody (l : Launch) (d : Nat) (h_X7_readBlock : CMetC l (13 * d + 37) 144 (P_X7_readBlock d) (Q_X7_readBlock d)) : CMetC l (13 * d + 38) 143 (P_X7_readBody d) (Q_X7_readBody d) :=
  CMetC.of KX7_readBody [(142, P_X7_begin, Q_X7_begin), (144, (P_X7_readBlock d), (Q_X7_readBlock d))] hX7_readBody (by decide) (by omega) okX7_readBody (cc1C (m_X7_begin l) (by omega) (cc1C h_X7_readBlock (by omega) cc0C)) (lg_X7_readBody d) (b_X7_readBody d)

set_option maxRecDepth 100000 in
set_option maxHeartbeats 4000000 in
theorem b_X7_readIf (d : Nat) : TbC KX7_readIf [(142, P_X7_begin, Q_X7_begin), (128, P_X7_accept, Q_X7_accept), (153, (P_X7_readCondition d), (Q_X7_readCondition d)), (148, (P_X7_readInner d), (Q_X7_readInner d)), (130, P_X7_takes, Q_X7_takes)] (P_X7_readIf d) (Q_X7_readIf d) := by
  · rintro As σ0 ⟨p0, p1, rfl, H0, h_0_0, h_1_0, h_1_1, rd_cd, rd_at, rd_bl, rd_lv, rd_tk, rd_dp⟩ hgr G hB hW
    change G 0 [(0, .inr (.inr (some p0))), (1, .inl p1)] [] σ0
    obtain ⟨x1, e2, c3, h4, h5⟩ := cg242 H0.1 h_0_0
    obtain ⟨x6, e7, c8, h9, h10⟩ := cg243 H0.1 h_0_0
    have z11 := congrArg Int32.toInt c3
    have z12 := congrArg Int32.toInt c8
    have h13 : x6.toInt = 0 := by rw [← c8]; exact rd_lv
    have rd_bg : BgC σ0 p0 (24 + 8 * (d : Int)) 1000000 := ⟨fun _ => rd_bl, fun z => absurd rd_lv z⟩
    refine hB _ _ _ _ (kgoC (is := KX7_readIf_0) rfl ?_)
    refine k_aload_n rfl ?_
    refine k_bipush (m := 56) rfl (fun x14 h15 => ?_)
    refine k_iload_n rfl ?_
    have R16 := (RdC.rf : RdC p0 none 0 0 0 σ0 σ0).nf (-1000) (-1000) (by rw [c8]; omega)
    refine k_inv (P := P_X7_begin) (Q := Q_X7_begin) rfl rfl rfl rfl (Nat.le_of_ble_eq_true rfl) (h_0_0.rc (by decide)) ⟨_, _, _, rfl, H0, h_0_0, (by omega), (by omega), (rd_cd.st H0 h_0_0 (ExC.rf : ExC [0, 1, 2, 60, 61, 62, 63, 64, 65, 66, 67, 68, 69, 70, 72, 73, 74, 75, 76, 242, 243, 244, 246, 270, 271, 272, 273, 275, 276, 277, 278, 279, 280, 330, 331, 332, 333, 334, 999] σ0 σ0) R16.1 (by decide)), (R16.2.2.2.1 rd_at), (rd_bg.stn H0 h_0_0 (ExC.rf : ExC [0, 1, 2, 60, 61, 62, 63, 64, 65, 66, 67, 68, 69, 70, 72, 73, 74, 75, 76, 242, 243, 244, 246, 270, 271, 272, 273, 275, 276, 277, 278, 279, 280, 330, 331, 332, 333, 334, 999] σ0 σ0) R16 (by decide) (by rw [c8]; omega) (by omega)), (by omega)⟩ (fun w17 σ18 q19 => ?_)
    obtain ⟨a20, rfl, H21, e22, h24, R23, q25, q26, q27, q28⟩ := q19
    have c29 := (h_0_0.mi e22 (by decide)).trans c3
    have c30 := (h_0_0.mi e22 (by decide)).trans c8
    have z31 := congrArg Int32.toInt c29
    have z32 := congrArg Int32.toInt c30
    refine k_st (st' := [.inr (.inr (some a20))]) rfl ?_
    have z33 := R16.1.1
    refine k_astore_n (ls' := [(2, .inr (.inr (some a20))), (0, .inr (.inr (some p0))), (1, .inl p1)]) rfl ?_
    refine k_aload_n rfl ?_
    have t34 := h_0_0.x e22
    have R35 : RdC p0 none (2) (2) (-998) σ0 σ18 := R16.tr ⟨R23.1, R23.2⟩ (by omega) (by omega) (by omega) (by omega)
    have R36 := R35.nf (-1000) (-1000) (by rw [c30]; omega)
    have X37 : ExC [0, 1, 2, 60, 61, 62, 63, 64, 65, 66, 67, 68, 69, 70, 72, 73, 74, 75, 76, 242, 243, 244, 246, 270, 271, 272, 273, 275, 276, 277, 278, 279, 280, 330, 331, 332, 333, 334, 999] σ0 σ18 := ExC.rf.tr (e22.mo (by decide))
    refine k_inv (P := P_X7_accept) (Q := Q_X7_accept) rfl rfl rfl rfl (Nat.le_of_ble_eq_true rfl) (t34.rc (by decide)) ⟨_, rfl, H21, t34, (rd_cd.st H0 h_0_0 X37 R36.1 (by decide)), (R36.2.2.2.1 rd_at), (rd_bg.stn H0 h_0_0 X37 R36 (by decide) (by rw [c30]; omega) (by omega)), (by have ct := R36.2.2.1; rw [c30, c29, ct]; omega)⟩ (fun w38 σ39 q40 => ?_)
    obtain ⟨rfl, H41, e42, R43, q44, q45⟩ := q40
    have t51 := t34.x e42
    obtain ⟨x46, e47, c48, h49, h50⟩ := cg242 H41.1 t51
    obtain ⟨x52, e53, c54, h55, h56⟩ := cg243 H41.1 t51
    have z57 := congrArg Int32.toInt c48
    have z58 := congrArg Int32.toInt c54
    refine k_st (st' := []) rfl ?_
    have R59 : RdC p0 none (-6) (2) (-1000) σ0 σ39 := R36.tr ⟨R43.1, R43.2⟩ (by omega) (by omega) (by omega) (by omega)
    have z60 := R59.2.2.1
    have z61 := R59.2.2.2.1 rd_at
    refine k_aload_n rfl ?_
    refine k_aload_n rfl ?_
    refine k_iload_n rfl ?_
    have t62 := h24.x e42
    have X63 : ExC [0, 1, 2, 60, 61, 62, 63, 64, 65, 66, 67, 68, 69, 70, 72, 73, 74, 75, 76, 242, 243, 244, 246, 270, 271, 272, 273, 275, 276, 277, 278, 279, 280, 330, 331, 332, 333, 334, 999] σ0 σ39 := X37.tr (e42.mo (by decide))
    refine k_inv (P := (P_X7_readCondition d)) (Q := (Q_X7_readCondition d)) rfl rfl rfl rfl (Nat.le_of_ble_eq_true rfl) (t51.rc (by decide)) ⟨_, _, _, rfl, H41, t51, t62, (by omega), (by omega), (rd_cd.st H0 h_0_0 X63 R59.1 (by decide)), (R59.2.2.2.1 rd_at), (rd_bg.st H0 h_0_0 X63 R59 (by decide) (by omega) (by omega) (by omega)), (by omega)⟩ (fun w64 σ65 q66 => ?_)
    obtain ⟨rfl, H67, e68, R69, q70⟩ := q66
    have t76 := t51.x e68
    obtain ⟨x71, e72, c73, h74, h75⟩ := cg242 H67.1 t76
    obtain ⟨x77, e78, c79, h80, h81⟩ := cg243 H67.1 t76
    have z82 := congrArg Int32.toInt c73
    have z83 := congrArg Int32.toInt c79
    refine k_st (st' := []) rfl ?_
    have R84 : RdC p0 none (-6) (14 + 8 * (d : Int)) (-999) σ0 σ65 := R59.tr ⟨R69.1, R69.2⟩ (by omega) (by omega) (by omega) (by omega)
    have z85 := R84.2.2.1
    have z86 := R84.2.2.2.1 rd_at
    refine k_aload_n rfl ?_
    refine k_aload_n rfl ?_
    refine k_aload_n rfl ?_
    refine k_iload_n rfl ?_
    have t87 := t62.x e68
    have X88 : ExC [0, 1, 2, 60, 61, 62, 63, 64, 65, 66, 67, 68, 69, 70, 72, 73, 74, 75, 76, 242, 243, 244, 246, 270, 271, 272, 273, 275, 276, 277, 278, 279, 280, 330, 331, 332, 333, 334, 999] σ0 σ65 := X63.tr (e68.mo (by decide))
    refine k_inv (P := (P_X7_readInner d)) (Q := (Q_X7_readInner d)) rfl rfl rfl rfl (Nat.le_of_ble_eq_true rfl) (t76.rc (by decide)) ⟨_, _, _, rfl, H67, t76, t87, (by omega), (by omega), (rd_cd.st H0 h_0_0 X88 R84.1 (by decide)), (R84.2.2.2.1 rd_at), (rd_bg.st H0 h_0_0 X88 R84 (by decide) (by omega) (by omega) (by omega)), (by omega)⟩ (fun w89 σ90 q91 => ?_)
    obtain ⟨a92, rfl, H93, e94, h96, R95, q97, q98, q99, q100⟩ := q91
    have t106 := t76.x e94
    obtain ⟨x101, e102, c103, h104, h105⟩ := cg242 H93.1 t106
    obtain ⟨x107, e108, c109, h110, h111⟩ := cg243 H93.1 t106
    have z112 := congrArg Int32.toInt c103
    have z113 := congrArg Int32.toInt c109
    refine k_st (st' := [.inr (.inr (some a92)), .inr (.inr (some a20))]) rfl ?_
    have z114 := R84.1.1
    obtain ⟨x115, e116, c117, h118, h119⟩ := cg272 H93.1 h96
    rw [c117] at q98
    obtain ⟨x120, e121, c122, h123, h124⟩ := cg270 H93.1 h96
    rw [c122] at q99
    have R125 : RdC p0 none (-6) (17 + 8 * (d : Int)) (-996) σ0 σ90 := R84.tr ⟨R95.1, R95.2⟩ (by omega) (by omega) (by omega) (by omega)
    have z126 := R125.2.2.1
    have z127 := R125.2.2.2.1 rd_at
    have c128 := (h24.mi e42 (by decide)).trans q26
    have c129 := (t62.mi e68 (by decide)).trans c128
    have c130 := (t87.fi e94 (by decide) (by decide)).trans c129
    have c131 := (h24.mi e42 (by decide)).trans q27
    have c132 := (t62.mi e68 (by decide)).trans c131
    have c133 := (t87.fi e94 (by decide) (by decide)).trans c132
    have z138 := t87.1
    have t139 := t87.x e94
    refine k_p276 H93 t139 (h96.ot) (fun z hz => by cases hz; exact ⟨by omega, by unfold LvC; rw [c130, c133, c122, c117]; omega⟩) (fun σ134 H135 e136 c137 => ?_)
    refine k_aload_n rfl ?_
    refine k_bipush (m := 57) rfl (fun x140 h141 => ?_)
    have t142 := t106.x e136
    have R143 : RdC p0 none (-6) (17 + 8 * (d : Int)) (-996) σ0 σ134 := R125.tr ⟨(e136.gw H93.1 (by decide)), (e136.cou (u := 0) H93.1 t106 (by decide) (by rw [e136.cn (by decide)]; omega))⟩ (by omega) (by omega) (by omega) (by omega)
    have c144 := (t106.mi e136 (by decide)).trans c109
    have X145 : ExC [0, 1, 2, 60, 61, 62, 63, 64, 65, 66, 67, 68, 69, 70, 72, 73, 74, 75, 76, 242, 243, 244, 246, 270, 271, 272, 273, 275, 276, 277, 278, 279, 280, 330, 331, 332, 333, 334, 999] σ0 σ90 := X88.tr (e94.mo (by decide))
    have X146 : ExC [0, 1, 2, 60, 61, 62, 63, 64, 65, 66, 67, 68, 69, 70, 72, 73, 74, 75, 76, 242, 243, 244, 246, 270, 271, 272, 273, 275, 276, 277, 278, 279, 280, 330, 331, 332, 333, 334, 999] σ0 σ134 := X145.tr (e136.mo (by decide))
    have c147 := (t106.mi e136 (by decide)).trans c103
    have z148 := congrArg Int32.toInt c147
    have z149 := congrArg Int32.toInt c144
    refine k_inv (P := P_X7_takes) (Q := Q_X7_takes) rfl rfl rfl rfl (Nat.le_of_ble_eq_true rfl) (t142.rc (by decide)) ⟨_, _, rfl, H135, t142, (by omega), (by omega), (rd_cd.st H0 h_0_0 X146 R143.1 (by decide)), (R143.2.2.2.1 rd_at), (rd_bg.st H0 h_0_0 X146 R143 (by decide) (by omega) (by omega) (by omega))⟩ (fun w150 σ151 q152 => ?_)
    obtain ⟨x153, rfl, H154, e155, h157, h158, R156, q159, q160⟩ := q152
    have t166 := t142.x e155
    obtain ⟨x161, e162, c163, h164, h165⟩ := cg242 H154.1 t166
    obtain ⟨x167, e168, c169, h170, h171⟩ := cg243 H154.1 t166
    have z172 := congrArg Int32.toInt c163
    have z173 := congrArg Int32.toInt c169
    refine k_st (st' := [.inl x153]) rfl ?_
    rcases (by omega : x153.toInt = 0 ∨ x153.toInt = 1) with g174 | g174
    · have R175 : RdC p0 none (-6) (17 + 8 * (d : Int)) (-996) σ0 σ151 := R143.tr ⟨R156.1, R156.2⟩ (by omega) (by omega) (by omega) (by omega)
      have z176 := R175.2.2.1
      have z177 := R175.2.2.2.1 rd_at
      refine k_if_eq (fun h178 => ?_) (fun h178 => by exfalso; omega)
      refine hB _ _ _ _ (kgoC (is := KX7_readIf_47) rfl ?_)
      refine k_aload_n rfl ?_
      refine k_areturn ?_
      have X179 : ExC [0, 1, 2, 60, 61, 62, 63, 64, 65, 66, 67, 68, 69, 70, 72, 73, 74, 75, 76, 242, 243, 244, 246, 270, 271, 272, 273, 275, 276, 277, 278, 279, 280, 330, 331, 332, 333, 334, 999] σ0 σ151 := X146.tr (e155.mo (by decide))
      have t180 := t139.x e136
      have t181 := t180.x e155
      have c182 := (t139.mi e136 (by decide)).trans c133
      have c183 := (t180.mi e155 (by decide)).trans c182
      have c184 := (t139.mi e136 (by decide)).trans c130
      have c185 := (t180.mi e155 (by decide)).trans c184
      have S197 : ∀ s, ReC σ0 p0 s → ReC σ151 p0 (ifY d (stY (d - 1)) s) := by
        intro s hs
        have y186 := q28 _ hs
        have y188 := q45 _ y186
        have y190 := q70 _ y188
        have y192 := q100 _ y190
        have y194 := y192.x H93.1 t106 e136 (by decide)
        obtain ⟨y195, f196⟩ := q160 _ y194
        rw [h141] at y195
        rw [h141] at f196
        rw [tkY_n (f196.2 (by omega))] at y195
        refine y195.eq ?_
        try unfold ifY
        repeat (split <;> try (exfalso; omega))
        try unfold if2Y
        repeat (split <;> try (exfalso; omega))
        try unfold tkY
        repeat (split <;> try (exfalso; omega))
        try unfold dpY
        repeat (split <;> try (exfalso; omega))
        all_goals rfl
      exact ⟨_, rfl, H154, X179, t181, (R175.mo (by omega) (by omega) (by omega)), (by omega), (by rw [c183] <;> omega), (by rw [c185] <;> omega), S197⟩
    · have R198 := R143.nf (-1000) (-1000) (q159 (by omega)).1
      have R199 : RdC p0 none (-14) (-6) (-1000) σ0 σ151 := R198.tr ⟨(q159 (by omega)).2.1, (q159 (by omega)).2.2⟩ (by omega) (by omega) (by omega) (by omega)
      have z200 := R199.2.2.1
      have z201 := R199.2.2.2.1 rd_at
      refine k_if_eq (fun h202 => by exfalso; omega) (fun h202 => ?_)
      refine k_nil ?_
      refine hB _ _ _ _ (kgoC (is := KX7_readIf_37) rfl ?_)
      refine k_aload_n rfl ?_
      refine k_aload_n rfl ?_
      refine k_aload_n rfl ?_
      refine k_iload_n rfl ?_
      have t203 := t139.x e136
      have t204 := t203.x e155
      have X205 : ExC [0, 1, 2, 60, 61, 62, 63, 64, 65, 66, 67, 68, 69, 70, 72, 73, 74, 75, 76, 242, 243, 244, 246, 270, 271, 272, 273, 275, 276, 277, 278, 279, 280, 330, 331, 332, 333, 334, 999] σ0 σ151 := X146.tr (e155.mo (by decide))
      refine k_inv (P := (P_X7_readInner d)) (Q := (Q_X7_readInner d)) rfl rfl rfl rfl (Nat.le_of_ble_eq_true rfl) (t166.rc (by decide)) ⟨_, _, _, rfl, H154, t166, t204, (by omega), (by omega), (rd_cd.st H0 h_0_0 X205 R199.1 (by decide)), (R199.2.2.2.1 rd_at), (rd_bg.st H0 h_0_0 X205 R199 (by decide) (by omega) (by omega) (by omega)), (by omega)⟩ (fun w206 σ207 q208 => ?_)
      obtain ⟨a209, rfl, H210, e211, h213, R212, q214, q215, q216, q217⟩ := q208
      have t223 := t166.x e211
      obtain ⟨x218, e219, c220, h221, h222⟩ := cg242 H210.1 t223
      obtain ⟨x224, e225, c226, h227, h228⟩ := cg243 H210.1 t223
      have z229 := congrArg Int32.toInt c220
      have z230 := congrArg Int32.toInt c226
      refine k_st (st' := [.inr (.inr (some a209)), .inr (.inr (some a20))]) rfl ?_
      have z231 := R199.1.1
      obtain ⟨x232, e233, c234, h235, h236⟩ := cg272 H210.1 h213
      rw [c234] at q215
      obtain ⟨x237, e238, c239, h240, h241⟩ := cg270 H210.1 h213
      rw [c239] at q216
      have R242 : RdC p0 none (-14) (2 + 8 * (d : Int)) (-997) σ0 σ207 := R199.tr ⟨R212.1, R212.2⟩ (by omega) (by omega) (by omega) (by omega)
      have z243 := R242.2.2.1
      have z244 := R242.2.2.2.1 rd_at
      have c245 := (t139.mi e136 (by decide)).trans c130
      have c246 := (t203.mi e155 (by decide)).trans c245
      have c247 := (t204.fi e211 (by decide) (by decide)).trans c246
      have c248 := (t139.mi e136 (by decide)).trans c133
      have c249 := (t203.mi e155 (by decide)).trans c248
      have c250 := (t204.fi e211 (by decide) (by decide)).trans c249
      have z255 := t204.1
      have t256 := t204.x e211
      refine k_p277 H210 t256 (h213.ot) (fun z hz => by cases hz; exact ⟨by omega, by unfold LvC; rw [c247, c250, c239, c234]; omega⟩) (fun σ251 H252 e253 c254 => ?_)
      refine k_nil ?_
      refine hB _ _ _ _ (kgoC (is := KX7_readIf_47) rfl ?_)
      refine k_aload_n rfl ?_
      refine k_areturn ?_
      have X257 : ExC [0, 1, 2, 60, 61, 62, 63, 64, 65, 66, 67, 68, 69, 70, 72, 73, 74, 75, 76, 242, 243, 244, 246, 270, 271, 272, 273, 275, 276, 277, 278, 279, 280, 330, 331, 332, 333, 334, 999] σ0 σ207 := X205.tr (e211.mo (by decide))
      have X258 : ExC [0, 1, 2, 60, 61, 62, 63, 64, 65, 66, 67, 68, 69, 70, 72, 73, 74, 75, 76, 242, 243, 244, 246, 270, 271, 272, 273, 275, 276, 277, 278, 279, 280, 330, 331, 332, 333, 334, 999] σ0 σ251 := X257.tr (e253.mo (by decide))
      have t259 := t256.x e253
      have R260 : RdC p0 none (-14) (2 + 8 * (d : Int)) (-997) σ0 σ251 := R242.tr ⟨(e253.gw H210.1 (by decide)), (e253.cou (u := 0) H210.1 t223 (by decide) (by rw [e253.cn (by decide)]; omega))⟩ (by omega) (by omega) (by omega) (by omega)
      have c261 := (t223.mi e253 (by decide)).trans c226
      have c262 := (t223.mi e253 (by decide)).trans c220
      have c263 := (t256.mi e253 (by decide)).trans c250
      have c264 := (t256.mi e253 (by decide)).trans c247
      have S279 : ∀ s, ReC σ0 p0 s → ReC σ251 p0 (ifY d (stY (d - 1)) s) := by
        intro s hs
        have y265 := q28 _ hs
        have y267 := q45 _ y265
        have y269 := q70 _ y267
        have y271 := q100 _ y269
        have y273 := y271.x H93.1 t106 e136 (by decide)
        obtain ⟨y274, f275⟩ := q160 _ y273
        rw [h141] at y274
        rw [h141] at f275
        rw [tkY_y (f275.1 (by omega))] at y274
        have y276 := q217 _ y274
        have y278 := y276.x H210.1 t223 e253 (by decide)
        refine y278.eq ?_
        try unfold ifY
        repeat (split <;> try (exfalso; omega))
        try unfold if2Y
        repeat (split <;> try (exfalso; omega))
        try unfold tkY
        repeat (split <;> try (exfalso; omega))
        try unfold dpY
        repeat (split <;> try (exfalso; omega))
        all_goals rfl
      exact ⟨_, rfl, H252, X258, t259, (R260.mo (by omega) (by omega) (by omega)), (by omega), (by rw [c263] <;> omega), (by rw [c264] <;> omega), S279⟩
theorem lg_X7_readIf (d : Nat) : ∀ (As : List AvC) (σ : CsC), (P_X7_readIf d) As σ → lgC As ≤ rX7_readIf.2.2.1 := by
  rintro As σ ⟨p0, p1, rfl, -⟩
  exact Nat.le_of_ble_eq_true rfl
theorem s_X7_readIf (l : Launch) (d : Nat) (h_X7_readCondition : CMetC l (13 * d + 37) 153 (P_X7_readCondition d) (Q_X7_readCondition d)) (h_X7_readInner : CMetC l (13 * d + 37) 148 (P_X7_readInner d) (Q_X7_readInner d)) : CMetC l (13 * d + 38) 154 (P_X7_readIf d) (Q_X7_readIf d) :=
  CMetC.of KX7_readIf [(142, P_X7_begin, Q_X7_begin), (128, P_X7_accept, Q_X7_accept), (153, (P_X7_readCondition d), (Q_X7_readCondition d)), (148, (P_X7_readInner d), (Q_X7_readInner d)), (130, P_X7_takes, Q_X7_takes)] hX7_readIf (by decide) (by omega) okX7_readIf (cc1C (m_X7_begin l) (by omega) (cc1C (m_X7_accept l) (by omega) (cc1C h_X7_readCondition (by omega) (cc1C h_X7_readInner (by omega) (cc1C (m_X7_takes l) (by omega) cc0C))))) (lg_X7_readIf d) (b_X7_readIf d)
