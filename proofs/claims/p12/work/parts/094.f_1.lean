set_option maxRecDepth 100000 in
set_option maxHeartbeats 4000000 in
theorem b_X7_readDo (d : Nat) : TbC KX7_readDo [(142, P_X7_begin, Q_X7_begin), (128, P_X7_accept, Q_X7_accept), (148, (P_X7_readInner d), (Q_X7_readInner d)), (129, P_X7_expect, Q_X7_expect), (153, (P_X7_readCondition d), (Q_X7_readCondition d))] (P_X7_readDo d) (Q_X7_readDo d) := by
  · rintro As σ0 ⟨p0, p1, rfl, H0, h_0_0, h_1_0, h_1_1, rd_cd, rd_at, rd_bl, rd_lv, rd_tk, rd_dp⟩ hgr G hB hW
    change G 0 [(0, .inr (.inr (some p0))), (1, .inl p1)] [] σ0
    obtain ⟨x1, e2, c3, h4, h5⟩ := cg242 H0.1 h_0_0
    obtain ⟨x6, e7, c8, h9, h10⟩ := cg243 H0.1 h_0_0
    have z11 := congrArg Int32.toInt c3
    have z12 := congrArg Int32.toInt c8
    have h13 : x6.toInt = 0 := by rw [← c8]; exact rd_lv
    have rd_bg : BgC σ0 p0 (24 + 8 * (d : Int)) 1000000 := ⟨fun _ => rd_bl, fun z => absurd rd_lv z⟩
    refine hB _ _ _ _ (kgoC (is := KX7_readDo_0) rfl ?_)
    refine k_aload_n rfl ?_
    refine k_bipush (m := 59) rfl (fun x14 h15 => ?_)
    refine k_iload_n rfl ?_
    have R16 := (RdC.rf : RdC p0 none 0 0 0 σ0 σ0).nf (-1000) (-1000) (by rw [c8]; omega)
    refine k_inv (P := P_X7_begin) (Q := Q_X7_begin) rfl rfl rfl rfl (Nat.le_of_ble_eq_true rfl) (h_0_0.rc (by decide)) ⟨_, _, _, rfl, H0, h_0_0, (by omega), (by omega), (rd_cd.st H0 h_0_0 (ExC.rf : ExC [0, 1, 2, 60, 61, 62, 63, 64, 65, 66, 67, 68, 69, 70, 72, 73, 74, 75, 76, 242, 243, 244, 246, 270, 271, 272, 273, 275, 276, 277, 278, 279, 280, 330, 331, 332, 333, 334, 999] σ0 σ0) R16.1 (by decide)), (R16.2.2.2.1 rd_at), (rd_bg.stn H0 h_0_0 (ExC.rf : ExC [0, 1, 2, 60, 61, 62, 63, 64, 65, 66, 67, 68, 69, 70, 72, 73, 74, 75, 76, 242, 243, 244, 246, 270, 271, 272, 273, 275, 276, 277, 278, 279, 280, 330, 331, 332, 333, 334, 999] σ0 σ0) R16 (by decide) (by rw [c8]; omega) (by omega)), (by omega)⟩ (fun w17 σ18 q19 => ?_)
    obtain ⟨a20, rfl, H21, e22, h24, R23, q25, q26, q27, q28⟩ := q19
    have c29 := (h_0_0.mi e22 (by decide)).trans c3
    have c30 := (h_0_0.mi e22 (by decide)).trans c8
    have z31 := congrArg Int32.toInt c29
    have z32 := congrArg Int32.toInt c30
    refine k_st (st' := [.inr (.inr (some a20))]) rfl ?_
    have z33 := R16.1.1
    refine k_astore_n (ls' := [(2, .inr (.inr (some a20))), (0, .inr (.inr (some p0))), (1, .inl p1)]) rfl ?_
    refine k_aload_n rfl ?_
    have t34 := h_0_0.x e22
    have R35 : RdC p0 none (2) (2) (-998) σ0 σ18 := R16.tr ⟨R23.1, R23.2⟩ (by omega) (by omega) (by omega) (by omega)
    have R36 := R35.nf (-1000) (-1000) (by rw [c30]; omega)
    have X37 : ExC [0, 1, 2, 60, 61, 62, 63, 64, 65, 66, 67, 68, 69, 70, 72, 73, 74, 75, 76, 242, 243, 244, 246, 270, 271, 272, 273, 275, 276, 277, 278, 279, 280, 330, 331, 332, 333, 334, 999] σ0 σ18 := ExC.rf.tr (e22.mo (by decide))
    refine k_inv (P := P_X7_accept) (Q := Q_X7_accept) rfl rfl rfl rfl (Nat.le_of_ble_eq_true rfl) (t34.rc (by decide)) ⟨_, rfl, H21, t34, (rd_cd.st H0 h_0_0 X37 R36.1 (by decide)), (R36.2.2.2.1 rd_at), (rd_bg.stn H0 h_0_0 X37 R36 (by decide) (by rw [c30]; omega) (by omega)), (by have ct := R36.2.2.1; rw [c30, c29, ct]; omega)⟩ (fun w38 σ39 q40 => ?_)
    obtain ⟨rfl, H41, e42, R43, q44, q45⟩ := q40
    have t51 := t34.x e42
    obtain ⟨x46, e47, c48, h49, h50⟩ := cg242 H41.1 t51
    obtain ⟨x52, e53, c54, h55, h56⟩ := cg243 H41.1 t51
    have z57 := congrArg Int32.toInt c48
    have z58 := congrArg Int32.toInt c54
    refine k_st (st' := []) rfl ?_
    have R59 : RdC p0 none (-6) (2) (-1000) σ0 σ39 := R36.tr ⟨R43.1, R43.2⟩ (by omega) (by omega) (by omega) (by omega)
    have z60 := R59.2.2.1
    have z61 := R59.2.2.2.1 rd_at
    refine k_aload_n rfl ?_
    refine k_aload_n rfl ?_
    refine k_aload_n rfl ?_
    refine k_iload_n rfl ?_
    have t62 := h24.x e42
    have X63 : ExC [0, 1, 2, 60, 61, 62, 63, 64, 65, 66, 67, 68, 69, 70, 72, 73, 74, 75, 76, 242, 243, 244, 246, 270, 271, 272, 273, 275, 276, 277, 278, 279, 280, 330, 331, 332, 333, 334, 999] σ0 σ39 := X37.tr (e42.mo (by decide))
    refine k_inv (P := (P_X7_readInner d)) (Q := (Q_X7_readInner d)) rfl rfl rfl rfl (Nat.le_of_ble_eq_true rfl) (t51.rc (by decide)) ⟨_, _, _, rfl, H41, t51, t62, (by omega), (by omega), (rd_cd.st H0 h_0_0 X63 R59.1 (by decide)), (R59.2.2.2.1 rd_at), (rd_bg.st H0 h_0_0 X63 R59 (by decide) (by omega) (by omega) (by omega)), (by omega)⟩ (fun w64 σ65 q66 => ?_)
    obtain ⟨a67, rfl, H68, e69, h71, R70, q72, q73, q74, q75⟩ := q66
    have t81 := t51.x e69
    obtain ⟨x76, e77, c78, h79, h80⟩ := cg242 H68.1 t81
    obtain ⟨x82, e83, c84, h85, h86⟩ := cg243 H68.1 t81
    have z87 := congrArg Int32.toInt c78
    have z88 := congrArg Int32.toInt c84
    refine k_st (st' := [.inr (.inr (some a67)), .inr (.inr (some a20))]) rfl ?_
    have z89 := R59.1.1
    obtain ⟨x90, e91, c92, h93, h94⟩ := cg272 H68.1 h71
    rw [c92] at q73
    obtain ⟨x95, e96, c97, h98, h99⟩ := cg270 H68.1 h71
    rw [c97] at q74
    have R100 : RdC p0 none (-6) (10 + 8 * (d : Int)) (-997) σ0 σ65 := R59.tr ⟨R70.1, R70.2⟩ (by omega) (by omega) (by omega) (by omega)
    have z101 := R100.2.2.1
    have z102 := R100.2.2.2.1 rd_at
    have c103 := (h24.mi e42 (by decide)).trans q26
    have c104 := (t62.fi e69 (by decide) (by decide)).trans c103
    have c105 := (h24.mi e42 (by decide)).trans q27
    have c106 := (t62.fi e69 (by decide) (by decide)).trans c105
    have z111 := t62.1
    have t112 := t62.x e69
    refine k_p276 H68 t112 (h71.ot) (fun z hz => by cases hz; exact ⟨by omega, by unfold LvC; rw [c104, c106, c97, c92]; omega⟩) (fun σ107 H108 e109 c110 => ?_)
    refine k_aload_n rfl ?_
    refine k_bipush (m := 58) rfl (fun x113 h114 => ?_)
    have t115 := t81.x e109
    have R116 : RdC p0 none (-6) (10 + 8 * (d : Int)) (-997) σ0 σ107 := R100.tr ⟨(e109.gw H68.1 (by decide)), (e109.cou (u := 0) H68.1 t81 (by decide) (by rw [e109.cn (by decide)]; omega))⟩ (by omega) (by omega) (by omega) (by omega)
    have c117 := (t81.mi e109 (by decide)).trans c84
    have X118 : ExC [0, 1, 2, 60, 61, 62, 63, 64, 65, 66, 67, 68, 69, 70, 72, 73, 74, 75, 76, 242, 243, 244, 246, 270, 271, 272, 273, 275, 276, 277, 278, 279, 280, 330, 331, 332, 333, 334, 999] σ0 σ65 := X63.tr (e69.mo (by decide))
    have X119 : ExC [0, 1, 2, 60, 61, 62, 63, 64, 65, 66, 67, 68, 69, 70, 72, 73, 74, 75, 76, 242, 243, 244, 246, 270, 271, 272, 273, 275, 276, 277, 278, 279, 280, 330, 331, 332, 333, 334, 999] σ0 σ107 := X118.tr (e109.mo (by decide))
    have c120 := (t81.mi e109 (by decide)).trans c78
    have z121 := congrArg Int32.toInt c120
    have z122 := congrArg Int32.toInt c117
    refine k_inv (P := P_X7_expect) (Q := Q_X7_expect) rfl rfl rfl rfl (Nat.le_of_ble_eq_true rfl) (t115.rc (by decide)) ⟨_, _, rfl, H108, t115, (by omega), (by omega), (rd_cd.st H0 h_0_0 X119 R116.1 (by decide)), (R116.2.2.2.1 rd_at), (rd_bg.st H0 h_0_0 X119 R116 (by decide) (by omega) (by omega) (by omega))⟩ (fun w123 σ124 q125 => ?_)
    obtain ⟨rfl, H126, e127, R128, q129, q130⟩ := q125
    have t136 := t115.x e127
    obtain ⟨x131, e132, c133, h134, h135⟩ := cg242 H126.1 t136
    obtain ⟨x137, e138, c139, h140, h141⟩ := cg243 H126.1 t136
    have z142 := congrArg Int32.toInt c133
    have z143 := congrArg Int32.toInt c139
    refine k_st (st' := []) rfl ?_
    have R144 : RdC p0 none (-14) (10 + 8 * (d : Int)) (-997) σ0 σ124 := R116.tr ⟨R128.1, R128.2⟩ (by omega) (by omega) (by omega) (by omega)
    have z145 := R144.2.2.1
    have z146 := R144.2.2.2.1 rd_at
    refine k_aload_n rfl ?_
    refine k_aload_n rfl ?_
    refine k_iload_n rfl ?_
    have t147 := t112.x e109
    have t148 := t147.x e127
    have X149 : ExC [0, 1, 2, 60, 61, 62, 63, 64, 65, 66, 67, 68, 69, 70, 72, 73, 74, 75, 76, 242, 243, 244, 246, 270, 271, 272, 273, 275, 276, 277, 278, 279, 280, 330, 331, 332, 333, 334, 999] σ0 σ124 := X119.tr (e127.mo (by decide))
    refine k_inv (P := (P_X7_readCondition d)) (Q := (Q_X7_readCondition d)) rfl rfl rfl rfl (Nat.le_of_ble_eq_true rfl) (t136.rc (by decide)) ⟨_, _, _, rfl, H126, t136, t148, (by omega), (by omega), (rd_cd.st H0 h_0_0 X149 R144.1 (by decide)), (R144.2.2.2.1 rd_at), (rd_bg.st H0 h_0_0 X149 R144 (by decide) (by omega) (by omega) (by omega)), (by omega)⟩ (fun w150 σ151 q152 => ?_)
    obtain ⟨rfl, H153, e154, R155, q156⟩ := q152
    have t162 := t136.x e154
    obtain ⟨x157, e158, c159, h160, h161⟩ := cg242 H153.1 t162
    obtain ⟨x163, e164, c165, h166, h167⟩ := cg243 H153.1 t162
    have z168 := congrArg Int32.toInt c159
    have z169 := congrArg Int32.toInt c165
    refine k_st (st' := []) rfl ?_
    have R170 : RdC p0 none (-14) (11 + 8 * (d : Int)) (-996) σ0 σ151 := R144.tr ⟨R155.1, R155.2⟩ (by omega) (by omega) (by omega) (by omega)
    have z171 := R170.2.2.1
    have z172 := R170.2.2.2.1 rd_at
    refine k_aload_n rfl ?_
    refine k_iconst (m := 4) rfl (fun x173 h174 => ?_)
    have X175 : ExC [0, 1, 2, 60, 61, 62, 63, 64, 65, 66, 67, 68, 69, 70, 72, 73, 74, 75, 76, 242, 243, 244, 246, 270, 271, 272, 273, 275, 276, 277, 278, 279, 280, 330, 331, 332, 333, 334, 999] σ0 σ151 := X149.tr (e154.mo (by decide))
    refine k_inv (P := P_X7_expect) (Q := Q_X7_expect) rfl rfl rfl rfl (Nat.le_of_ble_eq_true rfl) (t162.rc (by decide)) ⟨_, _, rfl, H153, t162, (by omega), (by omega), (rd_cd.st H0 h_0_0 X175 R170.1 (by decide)), (R170.2.2.2.1 rd_at), (rd_bg.st H0 h_0_0 X175 R170 (by decide) (by omega) (by omega) (by omega))⟩ (fun w176 σ177 q178 => ?_)
    obtain ⟨rfl, H179, e180, R181, q182, q183⟩ := q178
    have t189 := t162.x e180
    obtain ⟨x184, e185, c186, h187, h188⟩ := cg242 H179.1 t189
    obtain ⟨x190, e191, c192, h193, h194⟩ := cg243 H179.1 t189
    have z195 := congrArg Int32.toInt c186
    have z196 := congrArg Int32.toInt c192
    refine k_st (st' := []) rfl ?_
    have R197 : RdC p0 none (-22) (11 + 8 * (d : Int)) (-996) σ0 σ177 := R170.tr ⟨R181.1, R181.2⟩ (by omega) (by omega) (by omega) (by omega)
    have z198 := R197.2.2.1
    have z199 := R197.2.2.2.1 rd_at
    refine k_aload_n rfl ?_
    refine k_areturn ?_
    have X200 : ExC [0, 1, 2, 60, 61, 62, 63, 64, 65, 66, 67, 68, 69, 70, 72, 73, 74, 75, 76, 242, 243, 244, 246, 270, 271, 272, 273, 275, 276, 277, 278, 279, 280, 330, 331, 332, 333, 334, 999] σ0 σ177 := X175.tr (e180.mo (by decide))
    have t201 := t148.x e154
    have t202 := t201.x e180
    have c203 := (t112.mi e109 (by decide)).trans c106
    have c204 := (t147.mi e127 (by decide)).trans c203
    have c205 := (t148.mi e154 (by decide)).trans c204
    have c206 := (t201.mi e180 (by decide)).trans c205
    have c207 := (t112.mi e109 (by decide)).trans c104
    have c208 := (t147.mi e127 (by decide)).trans c207
    have c209 := (t148.mi e154 (by decide)).trans c208
    have c210 := (t201.mi e180 (by decide)).trans c209
    have S224 : ∀ s, ReC σ0 p0 s → ReC σ177 p0 (doY d (stY (d - 1)) s) := by
      intro s hs
      have y211 := q28 _ hs
      have y213 := q45 _ y211
      have y215 := q75 _ y213
      have y217 := y215.x H68.1 t81 e109 (by decide)
      have y218 := q130 _ y217
      rw [h114] at y218
      have y220 := q156 _ y218
      have y222 := q183 _ y220
      rw [h174] at y222
      refine y222.eq ?_
      try unfold doY
      repeat (split <;> try (exfalso; omega))
      try unfold tkY
      repeat (split <;> try (exfalso; omega))
      try unfold dpY
      repeat (split <;> try (exfalso; omega))
      all_goals rfl
    exact ⟨_, rfl, H179, X200, t202, (R197.mo (by omega) (by omega) (by omega)), (by omega), (by rw [c206] <;> omega), (by rw [c210] <;> omega), S224⟩
theorem lg_X7_readDo (d : Nat) : ∀ (As : List AvC) (σ : CsC), (P_X7_readDo d) As σ → lgC As ≤ rX7_readDo.2.2.1 := by
  rintro As σ ⟨p0, p1, rfl, -⟩
  exact Nat.le_of_ble_eq_true rfl
theorem s_X7_readDo (l : Launch) (d : Nat) (h_X7_readInner : CMetC l (13 * d + 37) 148 (P_X7_readInner d) (Q_X7_readInner d)) (h_X7_readCondition : CMetC l (13 * d + 37) 153 (P_X7_readCondition d) (Q_X7_readCondition d)) : CMetC l (13 * d + 38) 156 (P_X7_readDo d) (Q_X7_readDo d) :=
  CMetC.of KX7_readDo [(142, P_X7_begin, Q_X7_begin), (128, P_X7_accept, Q_X7_accept), (148, (P_X7_readInner d), (Q_X7_readInner d)), (129, P_X7_expect, Q_X7_expect), (153, (P_X7_readCondition d), (Q_X7_readCondition d))] hX7_readDo (by decide) (by omega) okX7_readDo (cc1C (m_X7_begin l) (by omega) (cc1C (m_X7_accept l) (by omega) (cc1C h_X7_readInner (by omega) (cc1C (m_X7_expect l) (by omega) (cc1C h_X7_readCondition (by omega) cc0C))))) (lg_X7_readDo d) (b_X7_readDo d)
