set_option maxRecDepth 100000 in
set_option maxHeartbeats 4000000 in
theorem b_X7_readSwitch (d : Nat) : TbC KX7_readSwitch [(142, P_X7_begin, Q_X7_begin), (128, P_X7_accept, Q_X7_accept), (153, (P_X7_readCondition (d + 1)), (Q_X7_readCondition (d + 1))), (129, P_X7_expect, Q_X7_expect), (145, (P_X7_readRow d), (Q_X7_readRow d))] (P_X7_readSwitch (d + 1)) (Q_X7_readSwitch (d + 1)) := by
  · rintro As σ0 ⟨p0, p1, rfl, H0, h_0_0, h_1_0, h_1_1, rd_cd, rd_at, rd_bl, rd_lv, rd_tk, rd_dp⟩ hgr G hB hW
    change G 0 [(0, .inr (.inr (some p0))), (1, .inl p1)] [] σ0
    obtain ⟨x1, e2, c3, h4, h5⟩ := cg242 H0.1 h_0_0
    obtain ⟨x6, e7, c8, h9, h10⟩ := cg243 H0.1 h_0_0
    have z11 := congrArg Int32.toInt c3
    have z12 := congrArg Int32.toInt c8
    have h13 : x6.toInt = 0 := by rw [← c8]; exact rd_lv
    have rd_bg : BgC σ0 p0 (24 + 8 * (((d + 1) : Nat) : Int)) 1000000 := ⟨fun _ => rd_bl, fun z => absurd rd_lv z⟩
    refine hB _ _ _ _ (kgoC (is := KX7_readSwitch_0) rfl ?_)
    refine k_aload_n rfl ?_
    refine k_bipush (m := 61) rfl (fun x14 h15 => ?_)
    refine k_iload_n rfl ?_
    have R16 := (RdC.rf : RdC p0 none 0 0 0 σ0 σ0).nf (-1000) (-1000) (by rw [c8]; omega)
    refine k_inv (P := P_X7_begin) (Q := Q_X7_begin) rfl rfl rfl rfl (Nat.le_of_ble_eq_true rfl) (h_0_0.rc (by decide)) ⟨_, _, _, rfl, H0, h_0_0, (by omega), (by omega), (rd_cd.st H0 h_0_0 (ExC.rf : ExC [0, 1, 2, 60, 61, 62, 63, 64, 65, 66, 67, 68, 69, 70, 72, 73, 74, 75, 76, 242, 243, 244, 246, 270, 271, 272, 273, 275, 276, 277, 278, 279, 280, 330, 331, 332, 333, 334, 999] σ0 σ0) R16.1 (by decide)), (R16.2.2.2.1 rd_at), (rd_bg.stn H0 h_0_0 (ExC.rf : ExC [0, 1, 2, 60, 61, 62, 63, 64, 65, 66, 67, 68, 69, 70, 72, 73, 74, 75, 76, 242, 243, 244, 246, 270, 271, 272, 273, 275, 276, 277, 278, 279, 280, 330, 331, 332, 333, 334, 999] σ0 σ0) R16 (by decide) (by rw [c8]; omega) (by omega)), (by omega)⟩ (fun w17 σ18 q19 => ?_)
    obtain ⟨a20, rfl, H21, e22, h24, R23, q25, q26, q27, q28⟩ := q19
    have c29 := (h_0_0.mi e22 (by decide)).trans c3
    have c30 := (h_0_0.mi e22 (by decide)).trans c8
    have z31 := congrArg Int32.toInt c29
    have z32 := congrArg Int32.toInt c30
    refine k_st (st' := [.inr (.inr (some a20))]) rfl ?_
    have z33 := R16.1.1
    refine k_astore_n (ls' := [(2, .inr (.inr (some a20))), (0, .inr (.inr (some p0))), (1, .inl p1)]) rfl ?_
    refine k_aload_n rfl ?_
    have t34 := h_0_0.x e22
    obtain ⟨o37, e35, c36, t38⟩ := cg246 H21.1 t34
    refine k_get kg246 t34 e35 ?_
    refine k_astore_n (ls' := [(3, .inr (.inr o37)), (2, .inr (.inr (some a20))), (0, .inr (.inr (some p0))), (1, .inl p1)]) rfl ?_
    refine k_aload_n rfl ?_
    obtain ⟨y41, e39, c40⟩ := cg245 (σ := σ18) (a := p0)
    refine k_get kg245 t34 e39 ?_
    refine k_lstore (ls' := [(4, .inr (.inl y41)), (3, .inr (.inr o37)), (2, .inr (.inr (some a20))), (0, .inr (.inr (some p0))), (1, .inl p1)]) rfl ?_
    refine k_aload_n rfl ?_
    have R42 : RdC p0 none (2) (2) (-998) σ0 σ18 := R16.tr ⟨R23.1, R23.2⟩ (by omega) (by omega) (by omega) (by omega)
    have R43 := R42.nf (-1000) (-1000) (by rw [c30]; omega)
    have X44 : ExC [0, 1, 2, 60, 61, 62, 63, 64, 65, 66, 67, 68, 69, 70, 72, 73, 74, 75, 76, 242, 243, 244, 246, 270, 271, 272, 273, 275, 276, 277, 278, 279, 280, 330, 331, 332, 333, 334, 999] σ0 σ18 := ExC.rf.tr (e22.mo (by decide))
    refine k_inv (P := P_X7_accept) (Q := Q_X7_accept) rfl rfl rfl rfl (Nat.le_of_ble_eq_true rfl) (t34.rc (by decide)) ⟨_, rfl, H21, t34, (rd_cd.st H0 h_0_0 X44 R43.1 (by decide)), (R43.2.2.2.1 rd_at), (rd_bg.stn H0 h_0_0 X44 R43 (by decide) (by rw [c30]; omega) (by omega)), (by have ct := R43.2.2.1; rw [c30, c29, ct]; omega)⟩ (fun w45 σ46 q47 => ?_)
    obtain ⟨rfl, H48, e49, R50, q51, q52⟩ := q47
    have t58 := t34.x e49
    obtain ⟨x53, e54, c55, h56, h57⟩ := cg242 H48.1 t58
    obtain ⟨x59, e60, c61, h62, h63⟩ := cg243 H48.1 t58
    have z64 := congrArg Int32.toInt c55
    have z65 := congrArg Int32.toInt c61
    refine k_st (st' := []) rfl ?_
    have R66 : RdC p0 none (-6) (2) (-1000) σ0 σ46 := R43.tr ⟨R50.1, R50.2⟩ (by omega) (by omega) (by omega) (by omega)
    have z67 := R66.2.2.1
    have z68 := R66.2.2.2.1 rd_at
    refine k_aload_n rfl ?_
    refine k_aload_n rfl ?_
    refine k_iload_n rfl ?_
    have t69 := h24.x e49
    have X70 : ExC [0, 1, 2, 60, 61, 62, 63, 64, 65, 66, 67, 68, 69, 70, 72, 73, 74, 75, 76, 242, 243, 244, 246, 270, 271, 272, 273, 275, 276, 277, 278, 279, 280, 330, 331, 332, 333, 334, 999] σ0 σ46 := X44.tr (e49.mo (by decide))
    refine k_inv (P := (P_X7_readCondition (d + 1))) (Q := (Q_X7_readCondition (d + 1))) rfl rfl rfl rfl (Nat.le_of_ble_eq_true rfl) (t58.rc (by decide)) ⟨_, _, _, rfl, H48, t58, t69, (by omega), (by omega), (rd_cd.st H0 h_0_0 X70 R66.1 (by decide)), (R66.2.2.2.1 rd_at), (rd_bg.st H0 h_0_0 X70 R66 (by decide) (by omega) (by omega) (by omega)), (by omega)⟩ (fun w71 σ72 q73 => ?_)
    obtain ⟨rfl, H74, e75, R76, q77⟩ := q73
    have t83 := t58.x e75
    obtain ⟨x78, e79, c80, h81, h82⟩ := cg242 H74.1 t83
    obtain ⟨x84, e85, c86, h87, h88⟩ := cg243 H74.1 t83
    have z89 := congrArg Int32.toInt c80
    have z90 := congrArg Int32.toInt c86
    refine k_st (st' := []) rfl ?_
    have R91 : RdC p0 none (-6) (22 + 8 * (d : Int)) (-999) σ0 σ72 := R66.tr ⟨R76.1, R76.2⟩ (by omega) (by omega) (by omega) (by omega)
    have z92 := R91.2.2.1
    have z93 := R91.2.2.2.1 rd_at
    refine k_aload_n rfl ?_
    refine k_aload_n rfl ?_
    have t98 := t69.x e75
    refine k_putR kp246 H74 t83 fk246 (rf246 t98) (fun σ94 H95 e96 c97 => ?_)
    refine k_aload_n rfl ?_
    refine k_iconst (m := 2) rfl (fun x99 h100 => ?_)
    have t101 := t83.x e96
    have R102 : RdC p0 none (-6) (22 + 8 * (d : Int)) (-999) σ0 σ94 := R91.tr ⟨(e96.gw H74.1 (by decide)), (e96.cou (u := 0) H74.1 t83 (by decide) (by rw [e96.cn (by decide)]; omega))⟩ (by omega) (by omega) (by omega) (by omega)
    have c103 := (t83.mi e96 (by decide)).trans c86
    have X104 : ExC [0, 1, 2, 60, 61, 62, 63, 64, 65, 66, 67, 68, 69, 70, 72, 73, 74, 75, 76, 242, 243, 244, 246, 270, 271, 272, 273, 275, 276, 277, 278, 279, 280, 330, 331, 332, 333, 334, 999] σ0 σ72 := X70.tr (e75.mo (by decide))
    have X105 : ExC [0, 1, 2, 60, 61, 62, 63, 64, 65, 66, 67, 68, 69, 70, 72, 73, 74, 75, 76, 242, 243, 244, 246, 270, 271, 272, 273, 275, 276, 277, 278, 279, 280, 330, 331, 332, 333, 334, 999] σ0 σ94 := X104.tr (e96.mo (by decide))
    have c106 := (t83.mi e96 (by decide)).trans c80
    have z107 := congrArg Int32.toInt c106
    have z108 := congrArg Int32.toInt c103
    refine k_inv (P := P_X7_expect) (Q := Q_X7_expect) rfl rfl rfl rfl (Nat.le_of_ble_eq_true rfl) (t101.rc (by decide)) ⟨_, _, rfl, H95, t101, (by omega), (by omega), (rd_cd.st H0 h_0_0 X105 R102.1 (by decide)), (R102.2.2.2.1 rd_at), (rd_bg.st H0 h_0_0 X105 R102 (by decide) (by omega) (by omega) (by omega))⟩ (fun w109 σ110 q111 => ?_)
    obtain ⟨rfl, H112, e113, R114, q115, q116⟩ := q111
    have t122 := t101.x e113
    obtain ⟨x117, e118, c119, h120, h121⟩ := cg242 H112.1 t122
    obtain ⟨x123, e124, c125, h126, h127⟩ := cg243 H112.1 t122
    have z128 := congrArg Int32.toInt c119
    have z129 := congrArg Int32.toInt c125
    refine k_st (st' := []) rfl ?_
    have R130 : RdC p0 none (-14) (22 + 8 * (d : Int)) (-999) σ0 σ110 := R102.tr ⟨R114.1, R114.2⟩ (by omega) (by omega) (by omega) (by omega)
    have z131 := R130.2.2.1
    have z132 := R130.2.2.2.1 rd_at
    refine k_aload_n rfl ?_
    refine k_aload_n rfl ?_
    refine k_iload_n rfl ?_
    refine k_iconst (m := 1) rfl (fun x133 h134 => ?_)
    refine k_iadd (by omega) (by omega) (fun x135 h136 => ?_)
    refine k_iconst (m := 1) rfl (fun x137 h138 => ?_)
    have X139 : ExC [0, 1, 2, 60, 61, 62, 63, 64, 65, 66, 67, 68, 69, 70, 72, 73, 74, 75, 76, 242, 243, 244, 246, 270, 271, 272, 273, 275, 276, 277, 278, 279, 280, 330, 331, 332, 333, 334, 999] σ0 σ110 := X105.tr (e113.mo (by decide))
    refine k_inv (P := (P_X7_readRow d)) (Q := (Q_X7_readRow d)) rfl rfl rfl rfl (Nat.le_of_ble_eq_true rfl) (t122.rc (by decide)) ⟨_, _, _, rfl, H112, t122, (by omega), (by omega), (by omega), (by omega), (rd_cd.st H0 h_0_0 X139 R130.1 (by decide)), (R130.2.2.2.1 rd_at), (rd_bg.st H0 h_0_0 X139 R130 (by decide) (by omega) (by omega) (by omega)), (by omega)⟩ (fun w140 σ141 q142 => ?_)
    obtain ⟨o143, rfl, H144, e145, h147, R146, q148, q149⟩ := q142
    have t155 := t122.x e145
    obtain ⟨x150, e151, c152, h153, h154⟩ := cg242 H144.1 t155
    obtain ⟨x156, e157, c158, h159, h160⟩ := cg243 H144.1 t155
    have z161 := congrArg Int32.toInt c152
    have z162 := congrArg Int32.toInt c158
    refine k_st (st' := [.inr (.inr o143), .inr (.inr (some a20))]) rfl ?_
    have R163 : RdC p0 none (-14) (22 + 8 * (d : Int)) (-999) σ0 σ141 := R130.tr ⟨R146.1, R146.2⟩ (by omega) (by omega) (by omega) (by omega)
    have z164 := R163.2.2.1
    have z165 := R163.2.2.2.1 rd_at
    have c166 := (h24.mi e49 (by decide)).trans q26
    have c167 := (t69.mi e75 (by decide)).trans c166
    have c168 := (t98.mi e96 (by decide)).trans c167
    have t169 := t98.x e96
    have c170 := (t169.mi e113 (by decide)).trans c168
    have t171 := t169.x e113
    have c172 := (t171.fi e145 (by decide) (by decide)).trans c170
    have c173 := (h24.mi e49 (by decide)).trans q27
    have c174 := (t69.mi e75 (by decide)).trans c173
    have c175 := (t98.mi e96 (by decide)).trans c174
    have c176 := (t169.mi e113 (by decide)).trans c175
    have c177 := (t171.fi e145 (by decide) (by decide)).trans c176
    have z182 := t171.1
    have t183 := t171.x e145
    refine k_p276 H144 t183 (h147) (fun z hz => by have hf := q148 z hz; exact ⟨by omega, by unfold LvC; rw [c172, c177]; omega⟩) (fun σ178 H179 e180 c181 => ?_)
    refine k_aload_n rfl ?_
    refine k_iconst (m := 3) rfl (fun x184 h185 => ?_)
    have t186 := t155.x e180
    have R187 : RdC p0 none (-14) (22 + 8 * (d : Int)) (-999) σ0 σ178 := R163.tr ⟨(e180.gw H144.1 (by decide)), (e180.cou (u := 0) H144.1 t155 (by decide) (by rw [e180.cn (by decide)]; omega))⟩ (by omega) (by omega) (by omega) (by omega)
    have c188 := (t155.mi e180 (by decide)).trans c158
    have X189 : ExC [0, 1, 2, 60, 61, 62, 63, 64, 65, 66, 67, 68, 69, 70, 72, 73, 74, 75, 76, 242, 243, 244, 246, 270, 271, 272, 273, 275, 276, 277, 278, 279, 280, 330, 331, 332, 333, 334, 999] σ0 σ141 := X139.tr (e145.mo (by decide))
    have X190 : ExC [0, 1, 2, 60, 61, 62, 63, 64, 65, 66, 67, 68, 69, 70, 72, 73, 74, 75, 76, 242, 243, 244, 246, 270, 271, 272, 273, 275, 276, 277, 278, 279, 280, 330, 331, 332, 333, 334, 999] σ0 σ178 := X189.tr (e180.mo (by decide))
    have c191 := (t155.mi e180 (by decide)).trans c152
    have z192 := congrArg Int32.toInt c191
    have z193 := congrArg Int32.toInt c188
    refine k_inv (P := P_X7_expect) (Q := Q_X7_expect) rfl rfl rfl rfl (Nat.le_of_ble_eq_true rfl) (t186.rc (by decide)) ⟨_, _, rfl, H179, t186, (by omega), (by omega), (rd_cd.st H0 h_0_0 X190 R187.1 (by decide)), (R187.2.2.2.1 rd_at), (rd_bg.st H0 h_0_0 X190 R187 (by decide) (by omega) (by omega) (by omega))⟩ (fun w194 σ195 q196 => ?_)
    obtain ⟨rfl, H197, e198, R199, q200, q201⟩ := q196
    have t207 := t186.x e198
    obtain ⟨x202, e203, c204, h205, h206⟩ := cg242 H197.1 t207
    obtain ⟨x208, e209, c210, h211, h212⟩ := cg243 H197.1 t207
    have z213 := congrArg Int32.toInt c204
    have z214 := congrArg Int32.toInt c210
    refine k_st (st' := []) rfl ?_
    have R215 : RdC p0 none (-22) (22 + 8 * (d : Int)) (-999) σ0 σ195 := R187.tr ⟨R199.1, R199.2⟩ (by omega) (by omega) (by omega) (by omega)
    have z216 := R215.2.2.1
    have z217 := R215.2.2.2.1 rd_at
    refine k_aload_n rfl ?_
    refine k_lload rfl ?_
    refine k_putL kg245 H197 t207 fk245 (fun σ218 H219 e220 c221 => ?_)
    refine k_aload_n rfl ?_
    refine k_aload_n rfl ?_
    have t222 := t207.x e220
    have t227 := t38.x e49
    have t228 := t227.x e75
    have t229 := t228.x e96
    have t230 := t229.x e113
    have t231 := t230.x e145
    have t232 := t231.x e180
    have t233 := t232.x e198
    have t234 := t233.x e220
    refine k_putR kp246 H219 t222 fk246 (rfo246 (t234)) (fun σ223 H224 e225 c226 => ?_)
    refine k_aload_n rfl ?_
    refine k_areturn ?_
    have X235 : ExC [0, 1, 2, 60, 61, 62, 63, 64, 65, 66, 67, 68, 69, 70, 72, 73, 74, 75, 76, 242, 243, 244, 246, 270, 271, 272, 273, 275, 276, 277, 278, 279, 280, 330, 331, 332, 333, 334, 999] σ0 σ195 := X190.tr (e198.mo (by decide))
    have X236 : ExC [0, 1, 2, 60, 61, 62, 63, 64, 65, 66, 67, 68, 69, 70, 72, 73, 74, 75, 76, 242, 243, 244, 246, 270, 271, 272, 273, 275, 276, 277, 278, 279, 280, 330, 331, 332, 333, 334, 999] σ0 σ218 := X235.tr (e220.mo (by decide))
    have X237 : ExC [0, 1, 2, 60, 61, 62, 63, 64, 65, 66, 67, 68, 69, 70, 72, 73, 74, 75, 76, 242, 243, 244, 246, 270, 271, 272, 273, 275, 276, 277, 278, 279, 280, 330, 331, 332, 333, 334, 999] σ0 σ223 := X236.tr (e225.mo (by decide))
    have t238 := t183.x e180
    have t239 := t238.x e198
    have t240 := t239.x e220
    have t241 := t240.x e225
    have R242 : RdC p0 none (-22) (22 + 8 * (d : Int)) (-999) σ0 σ218 := R215.tr ⟨(e220.gw H197.1 (by decide)), (e220.cou (u := 0) H197.1 t207 (by decide) (by rw [e220.cn (by decide)]; omega))⟩ (by omega) (by omega) (by omega) (by omega)
    have R243 : RdC p0 none (-22) (22 + 8 * (d : Int)) (-999) σ0 σ223 := R242.tr ⟨(e225.gw H219.1 (by decide)), (e225.cou (u := 0) H219.1 t222 (by decide) (by rw [e225.cn (by decide)]; omega))⟩ (by omega) (by omega) (by omega) (by omega)
    have c244 := (t207.mi e220 (by decide)).trans c210
    have c245 := (t222.mi e225 (by decide)).trans c244
    have c246 := (t207.mi e220 (by decide)).trans c204
    have c247 := (t222.mi e225 (by decide)).trans c246
    have c248 := (t183.mi e180 (by decide)).trans c177
    have c249 := (t238.mi e198 (by decide)).trans c248
    have c250 := (t239.mi e220 (by decide)).trans c249
    have c251 := (t240.mi e225 (by decide)).trans c250
    have c252 := (t183.mi e180 (by decide)).trans c172
    have c253 := (t238.mi e198 (by decide)).trans c252
    have c254 := (t239.mi e220 (by decide)).trans c253
    have c255 := (t240.mi e225 (by decide)).trans c254
    have S272 : ∀ s, ReC σ0 p0 s → ReC σ223 p0 (swiY (d + 1) (rwY ((d + 1) - 1)) s) := by
      intro s hs
      have y256 := q28 _ hs
      have y258 := q52 _ y256
      have y260 := q77 _ y258
      have y262 := y260.x H74.1 t83 e96 (by decide)
      have y263 := q116 _ y262
      rw [h100] at y263
      have y265 := q149 _ y263
      rw [h138] at y265
      have y267 := y265.x H144.1 t155 e180 (by decide)
      have y268 := q201 _ y267
      rw [h185] at y268
      have y270 := y268.x H197.1 t207 e220 (by decide)
      have y271 := y270.x H219.1 t222 e225 (by decide)
      refine y271.eq ?_
      try unfold swiY
      repeat (split <;> try (exfalso; omega))
      try unfold tkY
      repeat (split <;> try (exfalso; omega))
      try unfold dpY
      repeat (split <;> try (exfalso; omega))
      all_goals rfl
    exact ⟨_, rfl, H224, X237, t241, (R243.mo (by omega) (by omega) (by omega)), (by omega), (by rw [c251] <;> omega), (by rw [c255] <;> omega), S272⟩
theorem lg_X7_readSwitch (d : Nat) : ∀ (As : List AvC) (σ : CsC), (P_X7_readSwitch (d + 1)) As σ → lgC As ≤ rX7_readSwitch.2.2.1 := by
  rintro As σ ⟨p0, p1, rfl, -⟩
  exact Nat.le_of_ble_eq_true rfl
theorem s_X7_readSwitch (l : Launch) (d : Nat) (h_X7_readCondition : CMetC l (13 * (d + 1) + 37) 153 (P_X7_readCondition (d + 1)) (Q_X7_readCondition (d + 1))) (h_X7_readRow : CMetC l (13 * d + 42) 145 (P_X7_readRow d) (Q_X7_readRow d)) : CMetC l (13 * (d + 1) + 38) 159 (P_X7_readSwitch (d + 1)) (Q_X7_readSwitch (d + 1)) :=
  CMetC.of KX7_readSwitch [(142, P_X7_begin, Q_X7_begin), (128, P_X7_accept, Q_X7_accept), (153, (P_X7_readCondition (d + 1)), (Q_X7_readCondition (d + 1))), (129, P_X7_expect, Q_X7_expect), (145, (P_X7_readRow d), (Q_X7_readRow d))] hX7_readSwitch (by decide) (by omega) okX7_readSwitch (cc1C (m_X7_begin l) (by omega) (cc1C (m_X7_accept l) (by omega) (cc1C h_X7_readCondition (by omega) (cc1C (m_X7_expect l) (by omega) (cc1C h_X7_readRow (by omega) cc0C))))) (lg_X7_readSwitch d) (b_X7_readSwitch d)
