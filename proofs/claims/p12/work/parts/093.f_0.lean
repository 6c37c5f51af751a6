set_option maxRecDepth 100000 in
set_option maxHeartbeats 4000000 in
theorem b_X7_readWhile (d : Nat) : TbC KX7_readWhile [(142, P_X7_begin, Q_X7_begin), (128, P_X7_accept, Q_X7_accept), (153, (P_X7_readCondition d), (Q_X7_readCondition d)), (148, (P_X7_readInner d), (Q_X7_readInner d))] (P_X7_readWhile d) (Q_X7_readWhile d) := by
  · rintro As σ0 ⟨p0, p1, rfl, H0, h_0_0, h_1_0, h_1_1, rd_cd, rd_at, rd_bl, rd_lv, rd_tk, rd_dp⟩ hgr G hB hW
    change G 0 [(0, .inr (.inr (some p0))), (1, .inl p1)] [] σ0
    obtain ⟨x1, e2, c3, h4, h5⟩ := cg242 H0.1 h_0_0
    obtain ⟨x6, e7, c8, h9, h10⟩ := cg243 H0.1 h_0_0
    have z11 := congrArg Int32.toInt c3
    have z12 := congrArg Int32.toInt c8
    have h13 : x6.toInt = 0 := by rw [← c8]; exact rd_lv
    have rd_bg : BgC σ0 p0 (24 + 8 * (d : Int)) 1000000 := ⟨fun _ => rd_bl, fun z => absurd rd_lv z⟩
    refine hB _ _ _ _ (kgoC (is := KX7_readWhile_0) rfl ?_)
    refine k_aload_n rfl ?_
    refine k_bipush (m := 58) rfl (fun x14 h15 => ?_)
    refine k_iload_n rfl ?_
    have R16 := (RdC.rf : RdC p0 none 0 0 0 σ0 σ0).nf (-1000) (-1000) (by rw [c8]; omega)
    refine k_inv (P := P_X7_begin) (Q := Q_X7_begin) rfl rfl rfl rfl (Nat.le_of_ble_eq_true rfl) (h_0_0.rc (by decide)) ⟨_, _, _, rfl, H0, h_0_0, (by omega), (by omega), (rd_cd.st H0 h_0_0 (ExC.rf : ExC [0, 1, 2, 60, 61, 62, 63, 64, 65, 66, 67, 68, 69, 70, 72, 73, 74, 75, 76, 242, 243, 244, 246, 270, 271, 272, 273, 275, 276, 277, 278, 279, 280, 330, 331, 332, 333, 334, 999] σ0 σ0) R16.1 (by decide)), (R16.2.2.2.1 rd_at), (rd_bg.stn H0 h_0_0 (ExC.rf : ExC [0, 1, 2, 60, 61, 62, 63, 64, 65, 66, 67, 68, 69, 70, 72, 73, 74, 75, 76, 242, 243, 244, 246, 270, 271, 272, 273, 275, 276, 277, 278, 279, 280, 330, 331, 332, 333, 334, 999] σ0 σ0) R16 (by decide) (by rw [c8]; omega) (by omega)), (by omega)⟩ (fun w17 σ18 q19 => ?_)
    obtain ⟨a20, rfl, H21, e22, h24, R23, q25, q26, q27, q28⟩ := q19
    have c29 := (h_0_0.mi e22 (by decide)).trans c3
    have c30 := (h_0_0.mi e22 (by decide)).trans c8
    have z31 := congrArg Int32.toInt c29
    have z32 := congrArg Int32.toInt c30
    refine k_st (st' := [.inr (.inr (some a20))]) rfl ?_
    have z33 := R16.1.1
    refine k_astore_n (ls' := [(2, .inr (.inr (some a20))), (0, .inr (.inr (some p0))), (1, .inl p1)]) rfl ?_
    refine k_aload_n rfl ?_
    have t34 := h_0_0.x e22
    have R35 : RdC p0 none (2) (2) (-998) σ0 σ18 := R16.tr ⟨R23.1, R23.2⟩ (by omega) (by omega) (by omega) (by omega)
    have R36 := R35.nf (-1000) (-1000) (by rw [c30]; omega)
    have X37 : ExC [0, 1, 2, 60, 61, 62, 63, 64, 65, 66, 67, 68, 69, 70, 72, 73, 74, 75, 76, 242, 243, 244, 246, 270, 271, 272, 273, 275, 276, 277, 278, 279, 280, 330, 331, 332, 333, 334, 999] σ0 σ18 := ExC.rf.tr (e22.mo (by decide))
    refine k_inv (P := P_X7_accept) (Q := Q_X7_accept) rfl rfl rfl rfl (Nat.le_of_ble_eq_true rfl) (t34.rc (by decide)) ⟨_, rfl, H21, t34, (rd_cd.st H0 h_0_0 X37 R36.1 (by decide)), (R36.2.2.2.1 rd_at), (rd_bg.stn H0 h_0_0 X37 R36 (by decide) (by rw [c30]; omega) (by omega)), (by have ct := R36.2.2.1; rw [c30, c29, ct]; omega)⟩ (fun w38 σ39 q40 => ?_)
    obtain ⟨rfl, H41, e42, R43, q44, q45⟩ := q40
    have t51 := t34.x e42
    obtain ⟨x46, e47, c48, h49, h50⟩ := cg242 H41.1 t51
    obtain ⟨x52, e53, c54, h55, h56⟩ := cg243 H41.1 t51
    have z57 := congrArg Int32.toInt c48
    have z58 := congrArg Int32.toInt c54
    refine k_st (st' := []) rfl ?_
    have R59 : RdC p0 none (-6) (2) (-1000) σ0 σ39 := R36.tr ⟨R43.1, R43.2⟩ (by omega) (by omega) (by omega) (by omega)
    have z60 := R59.2.2.1
    have z61 := R59.2.2.2.1 rd_at
    refine k_aload_n rfl ?_
    refine k_aload_n rfl ?_
    refine k_iload_n rfl ?_
    have t62 := h24.x e42
    have X63 : ExC [0, 1, 2, 60, 61, 62, 63, 64, 65, 66, 67, 68, 69, 70, 72, 73, 74, 75, 76, 242, 243, 244, 246, 270, 271, 272, 273, 275, 276, 277, 278, 279, 280, 330, 331, 332, 333, 334, 999] σ0 σ39 := X37.tr (e42.mo (by decide))
    refine k_inv (P := (P_X7_readCondition d)) (Q := (Q_X7_readCondition d)) rfl rfl rfl rfl (Nat.le_of_ble_eq_true rfl) (t51.rc (by decide)) ⟨_, _, _, rfl, H41, t51, t62, (by omega), (by omega), (rd_cd.st H0 h_0_0 X63 R59.1 (by decide)), (R59.2.2.2.1 rd_at), (rd_bg.st H0 h_0_0 X63 R59 (by decide) (by omega) (by omega) (by omega)), (by omega)⟩ (fun w64 σ65 q66 => ?_)
    obtain ⟨rfl, H67, e68, R69, q70⟩ := q66
    have t76 := t51.x e68
    obtain ⟨x71, e72, c73, h74, h75⟩ := cg242 H67.1 t76
    obtain ⟨x77, e78, c79, h80, h81⟩ := cg243 H67.1 t76
    have z82 := congrArg Int32.toInt c73
    have z83 := congrArg Int32.toInt c79
    refine k_st (st' := []) rfl ?_
    have R84 : RdC p0 none (-6) (14 + 8 * (d : Int)) (-999) σ0 σ65 := R59.tr ⟨R69.1, R69.2⟩ (by omega) (by omega) (by omega) (by omega)
    have z85 := R84.2.2.1
    have z86 := R84.2.2.2.1 rd_at
    refine k_aload_n rfl ?_
    refine k_aload_n rfl ?_
    refine k_aload_n rfl ?_
    refine k_iload_n rfl ?_
    have t87 := t62.x e68
    have X88 : ExC [0, 1, 2, 60, 61, 62, 63, 64, 65, 66, 67, 68, 69, 70, 72, 73, 74, 75, 76, 242, 243, 244, 246, 270, 271, 272, 273, 275, 276, 277, 278, 279, 280, 330, 331, 332, 333, 334, 999] σ0 σ65 := X63.tr (e68.mo (by decide))
    refine k_inv (P := (P_X7_readInner d)) (Q := (Q_X7_readInner d)) rfl rfl rfl rfl (Nat.le_of_ble_eq_true rfl) (t76.rc (by decide)) ⟨_, _, _, rfl, H67, t76, t87, (by omega), (by omega), (rd_cd.st H0 h_0_0 X88 R84.1 (by decide)), (R84.2.2.2.1 rd_at), (rd_bg.st H0 h_0_0 X88 R84 (by decide) (by omega) (by omega) (by omega)), (by omega)⟩ (fun w89 σ90 q91 => ?_)
    obtain ⟨a92, rfl, H93, e94, h96, R95, q97, q98, q99, q100⟩ := q91
    have t106 := t76.x e94
    obtain ⟨x101, e102, c103, h104, h105⟩ := cg242 H93.1 t106
    obtain ⟨x107, e108, c109, h110, h111⟩ := cg243 H93.1 t106
    have z112 := congrArg Int32.toInt c103
    have z113 := congrArg Int32.toInt c109
    refine k_st (st' := [.inr (.inr (some a92)), .inr (.inr (some a20))]) rfl ?_
    have z114 := R84.1.1
    obtain ⟨x115, e116, c117, h118, h119⟩ := cg272 H93.1 h96
    rw [c117] at q98
    obtain ⟨x120, e121, c122, h123, h124⟩ := cg270 H93.1 h96
    rw [c122] at q99
    have R125 : RdC p0 none (-6) (17 + 8 * (d : Int)) (-996) σ0 σ90 := R84.tr ⟨R95.1, R95.2⟩ (by omega) (by omega) (by omega) (by omega)
    have z126 := R125.2.2.1
    have z127 := R125.2.2.2.1 rd_at
    have c128 := (h24.mi e42 (by decide)).trans q26
    have c129 := (t62.mi e68 (by decide)).trans c128
    have c130 := (t87.fi e94 (by decide) (by decide)).trans c129
    have c131 := (h24.mi e42 (by decide)).trans q27
    have c132 := (t62.mi e68 (by decide)).trans c131
    have c133 := (t87.fi e94 (by decide) (by decide)).trans c132
    have z138 := t87.1
    have t139 := t87.x e94
    refine k_p276 H93 t139 (h96.ot) (fun z hz => by cases hz; exact ⟨by omega, by unfold LvC; rw [c130, c133, c122, c117]; omega⟩) (fun σ134 H135 e136 c137 => ?_)
    refine k_aload_n rfl ?_
    refine k_areturn ?_
    have X140 : ExC [0, 1, 2, 60, 61, 62, 63, 64, 65, 66, 67, 68, 69, 70, 72, 73, 74, 75, 76, 242, 243, 244, 246, 270, 271, 272, 273, 275, 276, 277, 278, 279, 280, 330, 331, 332, 333, 334, 999] σ0 σ90 := X88.tr (e94.mo (by decide))
    have X141 : ExC [0, 1, 2, 60, 61, 62, 63, 64, 65, 66, 67, 68, 69, 70, 72, 73, 74, 75, 76, 242, 243, 244, 246, 270, 271, 272, 273, 275, 276, 277, 278, 279, 280, 330, 331, 332, 333, 334, 999] σ0 σ134 := X140.tr (e136.mo (by decide))
    have t142 := t139.x e136
    have R143 : RdC p0 none (-6) (17 + 8 * (d : Int)) (-996) σ0 σ134 := R125.tr ⟨(e136.gw H93.1 (by decide)), (e136.cou (u := 0) H93.1 t106 (by decide) (by rw [e136.cn (by decide)]; omega))⟩ (by omega) (by omega) (by omega) (by omega)
    have c144 := (t106.mi e136 (by decide)).trans c109
    have c145 := (t106.mi e136 (by decide)).trans c103
    have c146 := (t139.mi e136 (by decide)).trans c133
    have c147 := (t139.mi e136 (by decide)).trans c130
    have S157 : ∀ s, ReC σ0 p0 s → ReC σ134 p0 (whiY d (stY (d - 1)) s) := by
      intro s hs
      have y148 := q28 _ hs
      have y150 := q45 _ y148
      have y152 := q70 _ y150
      have y154 := q100 _ y152
      have y156 := y154.x H93.1 t106 e136 (by decide)
      refine y156.eq ?_
      try unfold whiY
      repeat (split <;> try (exfalso; omega))
      try unfold tkY
      repeat (split <;> try (exfalso; omega))
      try unfold dpY
      repeat (split <;> try (exfalso; omega))
      all_goals rfl
    exact ⟨_, rfl, H135, X141, t142, (R143.mo (by omega) (by omega) (by omega)), (by omega), (by rw [c146] <;> omega), (by rw [c147] <;> omega), S157⟩
theorem lg_X7_readWhile (d : Nat) : ∀ (As : List AvC) (σ : CsC), (P_X7_readWhile d) As σ → lgC As ≤ rX7_readWhile.2.2.1 := by
  rintro As σ ⟨p0, p1, rfl, -⟩
  exact Nat.le_of_ble_eq_true rfl
theorem s_X7_readWhile (l : Launch) (d : Nat) (h_X7_readCondition : CMetC l (13 * d + 37) 153 (P_X7_readCondition d) (Q_X7_readCondition d)) (h_X7_readInner : CMetC l (13 * d + 37) 148 (P_X7_readInner d) (Q_X7_readInner d)) : CMetC l (13 * d + 38) 155 (P_X7_readWhile d) (Q_X7_readWhile d) :=
  CMetC.of KX7_readWhile [(142, P_X7_begin, Q_X7_begin), (128, P_X7_accept, Q_X7_accept), (153, (P_X7_readCondition d), (Q_X7_readCondition d)), (148, (P_X7_readInner d), (Q_X7_readInner d))] hX7_readWhile (by decide) (by omega) okX7_readWhile (cc1C (m_X7_begin l) (by omega) (cc1C (m_X7_accept l) (by omega) (cc1C h_X7_readCondition (by omega) (cc1C h_X7_readInner (by omega) cc0C)))) (lg_X7_readWhile d) (b_X7_readWhile d)
