set_option maxRecDepth 100000 in
set_option maxHeartbeats 4000000 in
theorem b_X7_readFor (d : Nat) : TbC KX7_readFor [(142, P_X7_begin, Q_X7_begin), (128, P_X7_accept, Q_X7_accept), (129, P_X7_expect, Q_X7_expect), (125, P_X7_code, Q_X7_code), (141, (P_X7_readVariable d), (Q_X7_readVariable d)), (148, (P_X7_readInner d), (Q_X7_readInner d)), (158, (P_X7_readForExps d), (Q_X7_readForExps d)), (164, (P_X7_readExp d), (Q_X7_readExp d)), (132, P_X7_isType, Q_X7_isType)] (P_X7_readFor d) (Q_X7_readFor d) := by
  · rintro As σ0 ⟨p0, p1, rfl, H0, h_0_0, h_1_0, h_1_1, rd_cd, rd_at, rd_bl, rd_lv, rd_tk, rd_dp⟩ hgr G hB hW
    change G 0 [(0, .inr (.inr (some p0))), (1, .inl p1)] [] σ0
    obtain ⟨x1, e2, c3, h4, h5⟩ := cg242 H0.1 h_0_0
    obtain ⟨x6, e7, c8, h9, h10⟩ := cg243 H0.1 h_0_0
    have z11 := congrArg Int32.toInt c3
    have z12 := congrArg Int32.toInt c8
    have h13 : x6.toInt = 0 := by rw [← c8]; exact rd_lv
    have rd_bg : BgC σ0 p0 (24 + 8 * (d : Int)) 1000000 := ⟨fun _ => rd_bl, fun z => absurd rd_lv z⟩
    refine hB _ _ _ _ (kgoC (is := KX7_readFor_0) rfl ?_)
    refine k_aload_n rfl ?_
    refine k_bipush (m := 60) rfl (fun x14 h15 => ?_)
    refine k_iload_n rfl ?_
    have R16 := (RdC.rf : RdC p0 none 0 0 0 σ0 σ0).nf (-1000) (-1000) (by rw [c8]; omega)
    refine k_inv (P := P_X7_begin) (Q := Q_X7_begin) rfl rfl rfl rfl (Nat.le_of_ble_eq_true rfl) (h_0_0.rc (by decide)) ⟨_, _, _, rfl, H0, h_0_0, (by omega), (by omega), (rd_cd.st H0 h_0_0 (ExC.rf : ExC [0, 1, 2, 60, 61, 62, 63, 64, 65, 66, 67, 68, 69, 70, 72, 73, 74, 75, 76, 242, 243, 244, 246, 270, 271, 272, 273, 275, 276, 277, 278, 279, 280, 330, 331, 332, 333, 334, 999] σ0 σ0) R16.1 (by decide)), (R16.2.2.2.1 rd_at), (rd_bg.stn H0 h_0_0 (ExC.rf : ExC [0, 1, 2, 60, 61, 62, 63, 64, 65, 66, 67, 68, 69, 70, 72, 73, 74, 75, 76, 242, 243, 244, 246, 270, 271, 272, 273, 275, 276, 277, 278, 279, 280, 330, 331, 332, 333, 334, 999] σ0 σ0) R16 (by decide) (by rw [c8]; omega) (by omega)), (by omega)⟩ (fun w17 σ18 q19 => ?_)
    obtain ⟨a20, rfl, H21, e22, h24, R23, q25, q26, q27, q28⟩ := q19
    have c29 := (h_0_0.mi e22 (by decide)).trans c3
    have c30 := (h_0_0.mi e22 (by decide)).trans c8
    have z31 := congrArg Int32.toInt c29
    have z32 := congrArg Int32.toInt c30
    refine k_st (st' := [.inr (.inr (some a20))]) rfl ?_
    have z33 := R16.1.1
    refine k_astore_n (ls' := [(2, .inr (.inr (some a20))), (0, .inr (.inr (some p0))), (1, .inl p1)]) rfl ?_
    refine k_aload_n rfl ?_
    have t34 := h_0_0.x e22
    obtain ⟨o37, e35, c36, t38⟩ := cg246 H21.1 t34
    refine k_get kg246 t34 e35 ?_
    refine k_astore_n (ls' := [(3, .inr (.inr o37)), (2, .inr (.inr (some a20))), (0, .inr (.inr (some p0))), (1, .inl p1)]) rfl ?_
    refine k_aload_n rfl ?_
    obtain ⟨y41, e39, c40⟩ := cg245 (σ := σ18) (a := p0)
    refine k_get kg245 t34 e39 ?_
    refine k_lstore (ls' := [(4, .inr (.inl y41)), (3, .inr (.inr o37)), (2, .inr (.inr (some a20))), (0, .inr (.inr (some p0))), (1, .inl p1)]) rfl ?_
    refine k_aload_n rfl ?_
    have R42 : RdC p0 none (2) (2) (-998) σ0 σ18 := R16.tr ⟨R23.1, R23.2⟩ (by omega) (by omega) (by omega) (by omega)
    have R43 := R42.nf (-1000) (-1000) (by rw [c30]; omega)
    have X44 : ExC [0, 1, 2, 60, 61, 62, 63, 64, 65, 66, 67, 68, 69, 70, 72, 73, 74, 75, 76, 242, 243, 244, 246, 270, 271, 272, 273, 275, 276, 277, 278, 279, 280, 330, 331, 332, 333, 334, 999] σ0 σ18 := ExC.rf.tr (e22.mo (by decide))
    refine k_inv (P := P_X7_accept) (Q := Q_X7_accept) rfl rfl rfl rfl (Nat.le_of_ble_eq_true rfl) (t34.rc (by decide)) ⟨_, rfl, H21, t34, (rd_cd.st H0 h_0_0 X44 R43.1 (by decide)), (R43.2.2.2.1 rd_at), (rd_bg.stn H0 h_0_0 X44 R43 (by decide) (by rw [c30]; omega) (by omega)), (by have ct := R43.2.2.1; rw [c30, c29, ct]; omega)⟩ (fun w45 σ46 q47 => ?_)
    obtain ⟨rfl, H48, e49, R50, q51, q52⟩ := q47
    have t58 := t34.x e49
    obtain ⟨x53, e54, c55, h56, h57⟩ := cg242 H48.1 t58
    obtain ⟨x59, e60, c61, h62, h63⟩ := cg243 H48.1 t58
    have z64 := congrArg Int32.toInt c55
    have z65 := congrArg Int32.toInt c61
    refine k_st (st' := []) rfl ?_
    have R66 : RdC p0 none (-6) (2) (-1000) σ0 σ46 := R43.tr ⟨R50.1, R50.2⟩ (by omega) (by omega) (by omega) (by omega)
    have z67 := R66.2.2.1
    have z68 := R66.2.2.2.1 rd_at
    refine k_aload_n rfl ?_
    refine k_iconst (m := 0) rfl (fun x69 h70 => ?_)
    have X71 : ExC [0, 1, 2, 60, 61, 62, 63, 64, 65, 66, 67, 68, 69, 70, 72, 73, 74, 75, 76, 242, 243, 244, 246, 270, 271, 272, 273, 275, 276, 277, 278, 279, 280, 330, 331, 332, 333, 334, 999] σ0 σ46 := X44.tr (e49.mo (by decide))
    refine k_inv (P := P_X7_expect) (Q := Q_X7_expect) rfl rfl rfl rfl (Nat.le_of_ble_eq_true rfl) (t58.rc (by decide)) ⟨_, _, rfl, H48, t58, (by omega), (by omega), (rd_cd.st H0 h_0_0 X71 R66.1 (by decide)), (R66.2.2.2.1 rd_at), (rd_bg.st H0 h_0_0 X71 R66 (by decide) (by omega) (by omega) (by omega))⟩ (fun w72 σ73 q74 => ?_)
    obtain ⟨rfl, H75, e76, R77, q78, q79⟩ := q74
    have t85 := t58.x e76
    obtain ⟨x80, e81, c82, h83, h84⟩ := cg242 H75.1 t85
    obtain ⟨x86, e87, c88, h89, h90⟩ := cg243 H75.1 t85
    have z91 := congrArg Int32.toInt c82
    have z92 := congrArg Int32.toInt c88
    refine k_st (st' := []) rfl ?_
    have R93 : RdC p0 none (-14) (2) (-1000) σ0 σ73 := R66.tr ⟨R77.1, R77.2⟩ (by omega) (by omega) (by omega) (by omega)
    have z94 := R93.2.2.1
    have z95 := R93.2.2.2.1 rd_at
    refine k_aload_n rfl ?_
    refine k_aload_n rfl ?_
    have t100 := h24.x e49
    have t101 := t100.x e76
    refine k_putR kp246 H75 t85 fk246 (rf246 t101) (fun σ96 H97 e98 c99 => ?_)
    refine k_aload_n rfl ?_
    have t102 := t85.x e98
    have R103 : RdC p0 none (-14) (2) (-1000) σ0 σ96 := R93.tr ⟨(e98.gw H75.1 (by decide)), (e98.cou (u := 0) H75.1 t85 (by decide) (by rw [e98.cn (by decide)]; omega))⟩ (by omega) (by omega) (by omega) (by omega)
    have c104 := (t85.mi e98 (by decide)).trans c88
    have X105 : ExC [0, 1, 2, 60, 61, 62, 63, 64, 65, 66, 67, 68, 69, 70, 72, 73, 74, 75, 76, 242, 243, 244, 246, 270, 271, 272, 273, 275, 276, 277, 278, 279, 280, 330, 331, 332, 333, 334, 999] σ0 σ73 := X71.tr (e76.mo (by decide))
    have X106 : ExC [0, 1, 2, 60, 61, 62, 63, 64, 65, 66, 67, 68, 69, 70, 72, 73, 74, 75, 76, 242, 243, 244, 246, 270, 271, 272, 273, 275, 276, 277, 278, 279, 280, 330, 331, 332, 333, 334, 999] σ0 σ96 := X105.tr (e98.mo (by decide))
    refine k_inv (P := P_X7_code) (Q := Q_X7_code) rfl rfl rfl rfl (Nat.le_of_ble_eq_true rfl) (t102.rc (by decide)) ⟨_, rfl, H97, t102, (rd_cd.st H0 h_0_0 X106 R103.1 (by decide))⟩ (fun w107 σ108 q109 => ?_)
    obtain ⟨x110, rfl, rfl, q111, q112, q113, q114⟩ := q109
    refine k_st (st' := [.inl x110]) rfl ?_
    have z115 := R103.2.2.1
    have z116 := R103.2.2.2.1 rd_at
    have c117 := (t85.mi e98 (by decide)).trans c82
    have z118 := congrArg Int32.toInt c117
    have z119 := congrArg Int32.toInt c104
    refine k_bipush (m := 71) rfl (fun x120 h121 => ?_)
    refine k_ic_eq (fun h122 => ?_) (fun h122 => ?_)
    · have h123 : x86.toInt = 0 := by omega
      refine hB _ _ _ _ (kgoC (is := KX7_readFor_52) rfl ?_)
      refine k_aload_n rfl ?_
      refine k_aload_n rfl ?_
      refine k_bipush (m := 93) rfl (fun x124 h125 => ?_)
      refine k_iload_n rfl ?_
      have R126 := R103.nf (-1000) (-1000) (by rw [c104]; omega)
      refine k_inv (P := (P_X7_readVariable d)) (Q := (Q_X7_readVariable d)) rfl rfl rfl rfl (Nat.le_of_ble_eq_true rfl) (t102.rc (by decide)) ⟨_, _, _, rfl, H97, t102, (by omega), (by omega), (by omega), (by omega), (rd_cd.st H0 h_0_0 X106 R126.1 (by decide)), (R126.2.2.2.1 rd_at), ((show BgC σ96 p0 (23 + 8 * (d : Int)) 0 from (rd_bg.stn H0 h_0_0 X106 R126 (by decide) (by rw [c104]; omega) (by omega))).1 (by rw [c104]; omega)), (by rw [c104]; omega), (by omega)⟩ (fun w127 σ128 q129 => ?_)
      obtain ⟨a130, rfl, H131, e132, h134, R133, q135, q136, q137, q138⟩ := q129
      have t144 := t102.x e132
      obtain ⟨x139, e140, c141, h142, h143⟩ := cg242 H131.1 t144
      obtain ⟨x145, e146, c147, h148, h149⟩ := cg243 H131.1 t144
      have z150 := congrArg Int32.toInt c141
      have z151 := congrArg Int32.toInt c147
      refine k_st (st' := [.inr (.inr (some a130)), .inr (.inr (some a20))]) rfl ?_
      have z152 := R126.1.1
      obtain ⟨x153, e154, c155, h156, h157⟩ := cg272 H131.1 h134
      rw [c155] at q136
      obtain ⟨x158, e159, c160, h161, h162⟩ := cg270 H131.1 h134
      rw [c160] at q137
      have R163 : RdC p0 none (-14) (9 + 8 * (d : Int)) (-1000) σ0 σ128 := R126.tr ⟨R133.1, R133.2⟩ (by omega) (by omega) (by omega) (by omega)
      have z164 := R163.2.2.1
      have z165 := R163.2.2.2.1 rd_at
      have c166 := (h24.mi e49 (by decide)).trans q26
      have c167 := (t100.mi e76 (by decide)).trans c166
      have c168 := (t101.mi e98 (by decide)).trans c167
      have t169 := t101.x e98
      have c170 := (t169.fi e132 (by decide) (by decide)).trans c168
      have c171 := (h24.mi e49 (by decide)).trans q27
      have c172 := (t100.mi e76 (by decide)).trans c171
      have c173 := (t101.mi e98 (by decide)).trans c172
      have c174 := (t169.fi e132 (by decide) (by decide)).trans c173
      have z179 := t169.1
      have t180 := t169.x e132
      refine k_p277 H131 t180 (h134.ot) (fun z hz => by cases hz; exact ⟨by omega, by unfold LvC; rw [c170, c174, c160, c155]; omega⟩) (fun σ175 H176 e177 c178 => ?_)
      refine k_goto ?_
      refine hB _ _ _ _ (kgoC (is := KX7_readFor_83) rfl ?_)
      refine k_aload_n rfl ?_
      refine k_iconst (m := 4) rfl (fun x181 h182 => ?_)
      have t183 := t144.x e177
      have R184 : RdC p0 none (-14) (9 + 8 * (d : Int)) (-1000) σ0 σ175 := R163.tr ⟨(e177.gw H131.1 (by decide)), (e177.cou (u := 0) H131.1 t144 (by decide) (by rw [e177.cn (by decide)]; omega))⟩ (by omega) (by omega) (by omega) (by omega)
      have c185 := (t144.mi e177 (by decide)).trans c147
      have X186 : ExC [0, 1, 2, 60, 61, 62, 63, 64, 65, 66, 67, 68, 69, 70, 72, 73, 74, 75, 76, 242, 243, 244, 246, 270, 271, 272, 273, 275, 276, 277, 278, 279, 280, 330, 331, 332, 333, 334, 999] σ0 σ128 := X106.tr (e132.mo (by decide))
      have X187 : ExC [0, 1, 2, 60, 61, 62, 63, 64, 65, 66, 67, 68, 69, 70, 72, 73, 74, 75, 76, 242, 243, 244, 246, 270, 271, 272, 273, 275, 276, 277, 278, 279, 280, 330, 331, 332, 333, 334, 999] σ0 σ175 := X186.tr (e177.mo (by decide))
      have c188 := (t144.mi e177 (by decide)).trans c141
      have z189 := congrArg Int32.toInt c188
      have z190 := congrArg Int32.toInt c185
      refine k_inv (P := P_X7_expect) (Q := Q_X7_expect) rfl rfl rfl rfl (Nat.le_of_ble_eq_true rfl) (t183.rc (by decide)) ⟨_, _, rfl, H176, t183, (by omega), (by omega), (rd_cd.st H0 h_0_0 X187 R184.1 (by decide)), (R184.2.2.2.1 rd_at), (rd_bg.st H0 h_0_0 X187 R184 (by decide) (by omega) (by omega) (by omega))⟩ (fun w191 σ192 q193 => ?_)
      obtain ⟨rfl, H194, e195, R196, q197, q198⟩ := q193
      have t204 := t183.x e195
      obtain ⟨x199, e200, c201, h202, h203⟩ := cg242 H194.1 t204
      obtain ⟨x205, e206, c207, h208, h209⟩ := cg243 H194.1 t204
      have z210 := congrArg Int32.toInt c201
      have z211 := congrArg Int32.toInt c207
      refine k_st (st' := []) rfl ?_
      have R212 : RdC p0 none (-22) (9 + 8 * (d : Int)) (-1000) σ0 σ192 := R184.tr ⟨R196.1, R196.2⟩ (by omega) (by omega) (by omega) (by omega)
      have z213 := R212.2.2.1
      have z214 := R212.2.2.2.1 rd_at
      refine k_aload_n rfl ?_
      have X215 : ExC [0, 1, 2, 60, 61, 62, 63, 64, 65, 66, 67, 68, 69, 70, 72, 73, 74, 75, 76, 242, 243, 244, 246, 270, 271, 272, 273, 275, 276, 277, 278, 279, 280, 330, 331, 332, 333, 334, 999] σ0 σ192 := X187.tr (e195.mo (by decide))
      refine k_inv (P := P_X7_code) (Q := Q_X7_code) rfl rfl rfl rfl (Nat.le_of_ble_eq_true rfl) (t204.rc (by decide)) ⟨_, rfl, H194, t204, (rd_cd.st H0 h_0_0 X215 R212.1 (by decide))⟩ (fun w216 σ217 q218 => ?_)
      obtain ⟨x219, rfl, rfl, q220, q221, q222, q223⟩ := q218
      refine k_st (st' := [.inl x219]) rfl ?_
      refine k_iconst (m := 4) rfl (fun x224 h225 => ?_)
      refine k_ic_eq (fun h226 => ?_) (fun h226 => ?_)
      · have h227 : x205.toInt = 0 := by omega
        refine hB _ _ _ _ (kgoC (is := KX7_readFor_105) rfl ?_)
        refine k_aload_n rfl ?_
        refine k_iconst (m := 4) rfl (fun x228 h229 => ?_)
        have R230 := R212.nf (-1000) (-1000) (by rw [c207]; omega)
        refine k_inv (P := P_X7_expect) (Q := Q_X7_expect) rfl rfl rfl rfl (Nat.le_of_ble_eq_true rfl) (t204.rc (by decide)) ⟨_, _, rfl, H194, t204, (by omega), (by omega), (rd_cd.st H0 h_0_0 X215 R230.1 (by decide)), (R230.2.2.2.1 rd_at), (rd_bg.stn H0 h_0_0 X215 R230 (by decide) (by rw [c207]; omega) (by omega))⟩ (fun w231 σ232 q233 => ?_)
        obtain ⟨rfl, H234, e235, R236, q237, q238⟩ := q233
        have t244 := t204.x e235
        obtain ⟨x239, e240, c241, h242, h243⟩ := cg242 H234.1 t244
        obtain ⟨x245, e246, c247, h248, h249⟩ := cg243 H234.1 t244
        have z250 := congrArg Int32.toInt c241
        have z251 := congrArg Int32.toInt c247
        refine k_st (st' := []) rfl ?_
        have R252 : RdC p0 none (-30) (-22) (-1000) σ0 σ232 := R230.tr ⟨R236.1, R236.2⟩ (by omega) (by omega) (by omega) (by omega)
        have z253 := R252.2.2.1
        have z254 := R252.2.2.2.1 rd_at
        refine k_aload_n rfl ?_
        have X255 : ExC [0, 1, 2, 60, 61, 62, 63, 64, 65, 66, 67, 68, 69, 70, 72, 73, 74, 75, 76, 242, 243, 244, 246, 270, 271, 272, 273, 275, 276, 277, 278, 279, 280, 330, 331, 332, 333, 334, 999] σ0 σ232 := X215.tr (e235.mo (by decide))
        refine k_inv (P := P_X7_code) (Q := Q_X7_code) rfl rfl rfl rfl (Nat.le_of_ble_eq_true rfl) (t244.rc (by decide)) ⟨_, rfl, H234, t244, (rd_cd.st H0 h_0_0 X255 R252.1 (by decide))⟩ (fun w256 σ257 q258 => ?_)
        obtain ⟨x259, rfl, rfl, q260, q261, q262, q263⟩ := q258
        refine k_st (st' := [.inl x259]) rfl ?_
        refine k_iconst (m := 1) rfl (fun x264 h265 => ?_)
        refine k_ic_eq (fun h266 => ?_) (fun h266 => ?_)
        · have h267 : x245.toInt = 0 := by omega
          refine hB _ _ _ _ (kgoC (is := KX7_readFor_127) rfl ?_)
          refine k_aload_n rfl ?_
          refine k_iconst (m := 1) rfl (fun x268 h269 => ?_)
          have R270 := R252.nf (-1000) (-1000) (by rw [c247]; omega)
          refine k_inv (P := P_X7_expect) (Q := Q_X7_expect) rfl rfl rfl rfl (Nat.le_of_ble_eq_true rfl) (t244.rc (by decide)) ⟨_, _, rfl, H234, t244, (by omega), (by omega), (rd_cd.st H0 h_0_0 X255 R270.1 (by decide)), (R270.2.2.2.1 rd_at), (rd_bg.stn H0 h_0_0 X255 R270 (by decide) (by rw [c247]; omega) (by omega))⟩ (fun w271 σ272 q273 => ?_)
          obtain ⟨rfl, H274, e275, R276, q277, q278⟩ := q273
          have t284 := t244.x e275
          obtain ⟨x279, e280, c281, h282, h283⟩ := cg242 H274.1 t284
          obtain ⟨x285, e286, c287, h288, h289⟩ := cg243 H274.1 t284
          have z290 := congrArg Int32.toInt c281
          have z291 := congrArg Int32.toInt c287
          refine k_st (st' := []) rfl ?_
          have R292 : RdC p0 none (-38) (-30) (-1000) σ0 σ272 := R270.tr ⟨R276.1, R276.2⟩ (by omega) (by omega) (by omega) (by omega)
          have z293 := R292.2.2.1
          have z294 := R292.2.2.2.1 rd_at
          refine k_aload_n rfl ?_
          refine k_aload_n rfl ?_
          refine k_aload_n rfl ?_
          refine k_iload_n rfl ?_
          have t295 := t180.x e177
          have t296 := t295.x e195
          have t297 := t296.x e235
          have t298 := t297.x e275
          have X299 : ExC [0, 1, 2, 60, 61, 62, 63, 64, 65, 66, 67, 68, 69, 70, 72, 73, 74, 75, 76, 242, 243, 244, 246, 270, 271, 272, 273, 275, 276, 277, 278, 279, 280, 330, 331, 332, 333, 334, 999] σ0 σ272 := X255.tr (e275.mo (by decide))
          refine k_inv (P := (P_X7_readInner d)) (Q := (Q_X7_readInner d)) rfl rfl rfl rfl (Nat.le_of_ble_eq_true rfl) (t284.rc (by decide)) ⟨_, _, _, rfl, H274, t284, t298, (by omega), (by omega), (rd_cd.st H0 h_0_0 X299 R292.1 (by decide)), (R292.2.2.2.1 rd_at), (rd_bg.st H0 h_0_0 X299 R292 (by decide) (by omega) (by omega) (by omega)), (by omega)⟩ (fun w300 σ301 q302 => ?_)
          obtain ⟨a303, rfl, H304, e305, h307, R306, q308, q309, q310, q311⟩ := q302
          have t317 := t284.x e305
          obtain ⟨x312, e313, c314, h315, h316⟩ := cg242 H304.1 t317
          obtain ⟨x318, e319, c320, h321, h322⟩ := cg243 H304.1 t317
          have z323 := congrArg Int32.toInt c314
          have z324 := congrArg Int32.toInt c320
          refine k_st (st' := [.inr (.inr (some a303)), .inr (.inr (some a20))]) rfl ?_
          have z325 := R292.1.1
          obtain ⟨x326, e327, c328, h329, h330⟩ := cg272 H304.1 h307
          rw [c328] at q309
          obtain ⟨x331, e332, c333, h334, h335⟩ := cg270 H304.1 h307
          rw [c333] at q310
          have R336 : RdC p0 none (-38) (-22 + 8 * (d : Int)) (-997) σ0 σ301 := R292.tr ⟨R306.1, R306.2⟩ (by omega) (by omega) (by omega) (by omega)
          have z337 := R336.2.2.1
          have z338 := R336.2.2.2.1 rd_at
          have c339 := (t180.mi e177 (by decide)).trans c170
          have c340 := (t295.mi e195 (by decide)).trans c339
          have c341 := (t296.mi e235 (by decide)).trans c340
          have c342 := (t297.mi e275 (by decide)).trans c341
          have c343 := (t298.fi e305 (by decide) (by decide)).trans c342
          have c344 := (t180.mi e177 (by decide)).trans c174
          have c345 := (t295.mi e195 (by decide)).trans c344
          have c346 := (t296.mi e235 (by decide)).trans c345
          have c347 := (t297.mi e275 (by decide)).trans c346
          have c348 := (t298.fi e305 (by decide) (by decide)).trans c347
          have z353 := t298.1
          have t354 := t298.x e305
          refine k_p276 H304 t354 (h307.ot) (fun z hz => by cases hz; exact ⟨by omega, by unfold LvC; rw [c343, c348, c333, c328]; omega⟩) (fun σ349 H350 e351 c352 => ?_)
          refine k_aload_n rfl ?_
          refine k_lload rfl ?_
          have t355 := t317.x e351
          refine k_putL kg245 H350 t355 fk245 (fun σ356 H357 e358 c359 => ?_)
          refine k_aload_n rfl ?_
          refine k_aload_n rfl ?_
          have t360 := t355.x e358
          have t365 := t38.x e49
          have t366 := t365.x e76
          have t367 := t366.x e98
          have t368 := t367.x e132
          have t369 := t368.x e177
          have t370 := t369.x e195
          have t371 := t370.x e235
          have t372 := t371.x e275
          have t373 := t372.x e305
          have t374 := t373.x e351
          have t375 := t374.x e358
          refine k_putR kp246 H357 t360 fk246 (rfo246 (t375)) (fun σ361 H362 e363 c364 => ?_)
          refine k_aload_n rfl ?_
          refine k_areturn ?_
          have X376 : ExC [0, 1, 2, 60, 61, 62, 63, 64, 65, 66, 67, 68, 69, 70, 72, 73, 74, 75, 76, 242, 243, 244, 246, 270, 271, 272, 273, 275, 276, 277, 278, 279, 280, 330, 331, 332, 333, 334, 999] σ0 σ301 := X299.tr (e305.mo (by decide))
          have X377 : ExC [0, 1, 2, 60, 61, 62, 63, 64, 65, 66, 67, 68, 69, 70, 72, 73, 74, 75, 76, 242, 243, 244, 246, 270, 271, 272, 273, 275, 276, 277, 278, 279, 280, 330, 331, 332, 333, 334, 999] σ0 σ349 := X376.tr (e351.mo (by decide))
          have X378 : ExC [0, 1, 2, 60, 61, 62, 63, 64, 65, 66, 67, 68, 69, 70, 72, 73, 74, 75, 76, 242, 243, 244, 246, 270, 271, 272, 273, 275, 276, 277, 278, 279, 280, 330, 331, 332, 333, 334, 999] σ0 σ356 := X377.tr (e358.mo (by decide))
          have X379 : ExC [0, 1, 2, 60, 61, 62, 63, 64, 65, 66, 67, 68, 69, 70, 72, 73, 74, 75, 76, 242, 243, 244, 246, 270, 271, 272, 273, 275, 276, 277, 278, 279, 280, 330, 331, 332, 333, 334, 999] σ0 σ361 := X378.tr (e363.mo (by decide))
          have t380 := t354.x e351
          have t381 := t380.x e358
          have t382 := t381.x e363
          have R383 : RdC p0 none (-38) (-22 + 8 * (d : Int)) (-997) σ0 σ349 := R336.tr ⟨(e351.gw H304.1 (by decide)), (e351.cou (u := 0) H304.1 t317 (by decide) (by rw [e351.cn (by decide)]; omega))⟩ (by omega) (by omega) (by omega) (by omega)
          have R384 : RdC p0 none (-38) (-22 + 8 * (d : Int)) (-997) σ0 σ356 := R383.tr ⟨(e358.gw H350.1 (by decide)), (e358.cou (u := 0) H350.1 t355 (by decide) (by rw [e358.cn (by decide)]; omega))⟩ (by omega) (by omega) (by omega) (by omega)
          have R385 : RdC p0 none (-38) (-22 + 8 * (d : Int)) (-997) σ0 σ361 := R384.tr ⟨(e363.gw H357.1 (by decide)), (e363.cou (u := 0) H357.1 t360 (by decide) (by rw [e363.cn (by decide)]; omega))⟩ (by omega) (by omega) (by omega) (by omega)
          have c386 := (t317.mi e351 (by decide)).trans c320
          have c387 := (t355.mi e358 (by decide)).trans c386
          have c388 := (t360.mi e363 (by decide)).trans c387
          have c389 := (t317.mi e351 (by decide)).trans c314
          have c390 := (t355.mi e358 (by decide)).trans c389
          have c391 := (t360.mi e363 (by decide)).trans c390
          have c392 := (t354.mi e351 (by decide)).trans c348
          have c393 := (t380.mi e358 (by decide)).trans c392
          have c394 := (t381.mi e363 (by decide)).trans c393
          have c395 := (t354.mi e351 (by decide)).trans c343
          have c396 := (t380.mi e358 (by decide)).trans c395
          have c397 := (t381.mi e363 (by decide)).trans c396
          have S425 : ∀ s, ReC σ0 p0 s → ReC σ361 p0 (forY d (stY (d - 1)) s) := by
            intro s hs
            have y398 := q28 _ hs
            have y400 := q52 _ y398
            have y402 := q79 _ y400
            rw [h70] at y402
            have y404 := y402.x H75.1 t85 e98 (by decide)
            have f405 := q114 _ y404
            have y406 := q138 _ y404
            have y408 := y406.x H131.1 t144 e177 (by decide)
            have y409 := q198 _ y408
            rw [h182] at y409
            have f411 := q223 _ y409
            have y412 := q238 _ y409
            rw [h229] at y412
            have f414 := q263 _ y412
            have y415 := q278 _ y412
            rw [h269] at y415
            have y417 := q311 _ y415
            have y419 := y417.x H304.1 t317 e351 (by decide)
            have y420 := y419.x H350.1 t355 e358 (by decide)
            have y421 := y420.x H357.1 t360 e363 (by decide)
            have g422 := f405.symm.trans (h122.trans h121)
            have g423 := f411.symm.trans (h226.trans h225)
            have g424 := f414.symm.trans (h266.trans h265)
            refine y421.eq ?_
            all_goals try simp only [forY, fo1Y, fo2Y, fo3Y, g422, g423, g424, or_false, false_or, or_true, true_or, and_false, false_and, and_true, true_and, not_true, not_false_iff, ↓reduceIte, Int.reduceEq, Int.reduceLE, Int.reduceLT, Int.reduceNeg]
            all_goals first | rfl | (exfalso; omega)
          exact ⟨_, rfl, H362, X379, t382, (R385.mo (by omega) (by omega) (by omega)), (by omega), (by rw [c394] <;> omega), (by rw [c397] <;> omega), S425⟩
        · refine k_nil ?_
          refine hB _ _ _ _ (kgoC (is := KX7_readFor_118) rfl ?_)
          refine k_aload_n rfl ?_
          refine k_aload_n rfl ?_
          refine k_iload_n rfl ?_
          refine k_inv (P := (P_X7_readForExps d)) (Q := (Q_X7_readForExps d)) rfl rfl rfl rfl (Nat.le_of_ble_eq_true rfl) (t244.rc (by decide)) ⟨_, _, rfl, H234, t244, (by omega), (by omega), (rd_cd.st H0 h_0_0 X255 R252.1 (by decide)), (R252.2.2.2.1 rd_at), (rd_bg.st H0 h_0_0 X255 R252 (by decide) (by omega) (by omega) (by omega)), (by omega)⟩ (fun w426 σ427 q428 => ?_)
          obtain ⟨a429, rfl, H430, e431, h433, R432, q434, q435, q436, q437⟩ := q428
          have t443 := t244.x e431
          obtain ⟨x438, e439, c440, h441, h442⟩ := cg242 H430.1 t443
          obtain ⟨x444, e445, c446, h447, h448⟩ := cg243 H430.1 t443
          have z449 := congrArg Int32.toInt c440
          have z450 := congrArg Int32.toInt c446
          refine k_st (st' := [.inr (.inr (some a429)), .inr (.inr (some a20))]) rfl ?_
          have z451 := R252.1.1
          obtain ⟨x452, e453, c454, h455, h456⟩ := cg272 H430.1 h433
          rw [c454] at q435
          obtain ⟨x457, e458, c459, h460, h461⟩ := cg270 H430.1 h433
          rw [c459] at q436
          have R462 : RdC p0 none (-28) (-8 + 8 * (d : Int)) (-997) σ0 σ427 := R252.tr ⟨R432.1, R432.2⟩ (by omega) (by omega) (by omega) (by omega)
          have z463 := R462.2.2.1
          have z464 := R462.2.2.2.1 rd_at
          have c465 := (t180.mi e177 (by decide)).trans c170
          have t466 := t180.x e177
          have c467 := (t466.mi e195 (by decide)).trans c465
          have t468 := t466.x e195
          have c469 := (t468.mi e235 (by decide)).trans c467
          have t470 := t468.x e235
          have c471 := (t470.fi e431 (by decide) (by decide)).trans c469
          have c472 := (t180.mi e177 (by decide)).trans c174
          have c473 := (t466.mi e195 (by decide)).trans c472
          have c474 := (t468.mi e235 (by decide)).trans c473
          have c475 := (t470.fi e431 (by decide) (by decide)).trans c474
          have z480 := t470.1
          have t481 := t470.x e431
          refine k_p278 H430 t481 (h433.ot) (fun z hz => by cases hz; exact ⟨by omega, by unfold LvC; rw [c471, c475, c459, c454]; omega⟩) (fun σ476 H477 e478 c479 => ?_)
          refine k_nil ?_
          refine hB _ _ _ _ (kgoC (is := KX7_readFor_127) rfl ?_)
          refine k_aload_n rfl ?_
          refine k_iconst (m := 1) rfl (fun x482 h483 => ?_)
          have t484 := t443.x e478
          have R485 : RdC p0 none (-28) (-8 + 8 * (d : Int)) (-997) σ0 σ476 := R462.tr ⟨(e478.gw H430.1 (by decide)), (e478.cou (u := 0) H430.1 t443 (by decide) (by rw [e478.cn (by decide)]; omega))⟩ (by omega) (by omega) (by omega) (by omega)
          have c486 := (t443.mi e478 (by decide)).trans c446
          have X487 : ExC [0, 1, 2, 60, 61, 62, 63, 64, 65, 66, 67, 68, 69, 70, 72, 73, 74, 75, 76, 242, 243, 244, 246, 270, 271, 272, 273, 275, 276, 277, 278, 279, 280, 330, 331, 332, 333, 334, 999] σ0 σ427 := X255.tr (e431.mo (by decide))
          have X488 : ExC [0, 1, 2, 60, 61, 62, 63, 64, 65, 66, 67, 68, 69, 70, 72, 73, 74, 75, 76, 242, 243, 244, 246, 270, 271, 272, 273, 275, 276, 277, 278, 279, 280, 330, 331, 332, 333, 334, 999] σ0 σ476 := X487.tr (e478.mo (by decide))
          have c489 := (t443.mi e478 (by decide)).trans c440
          have z490 := congrArg Int32.toInt c489
          have z491 := congrArg Int32.toInt c486
          refine k_inv (P := P_X7_expect) (Q := Q_X7_expect) rfl rfl rfl rfl (Nat.le_of_ble_eq_true rfl) (t484.rc (by decide)) ⟨_, _, rfl, H477, t484, (by omega), (by omega), (rd_cd.st H0 h_0_0 X488 R485.1 (by decide)), (R485.2.2.2.1 rd_at), (rd_bg.st H0 h_0_0 X488 R485 (by decide) (by omega) (by omega) (by omega))⟩ (fun w492 σ493 q494 => ?_)
          obtain ⟨rfl, H495, e496, R497, q498, q499⟩ := q494
          have t505 := t484.x e496
          obtain ⟨x500, e501, c502, h503, h504⟩ := cg242 H495.1 t505
          obtain ⟨x506, e507, c508, h509, h510⟩ := cg243 H495.1 t505
          have z511 := congrArg Int32.toInt c502
          have z512 := congrArg Int32.toInt c508
          refine k_st (st' := []) rfl ?_
          have R513 : RdC p0 none (-36) (-8 + 8 * (d : Int)) (-997) σ0 σ493 := R485.tr ⟨R497.1, R497.2⟩ (by omega) (by omega) (by omega) (by omega)
          have z514 := R513.2.2.1
          have z515 := R513.2.2.2.1 rd_at
          refine k_aload_n rfl ?_
          refine k_aload_n rfl ?_
          refine k_aload_n rfl ?_
          refine k_iload_n rfl ?_
          have t516 := t481.x e478
          have t517 := t516.x e496
          have X518 : ExC [0, 1, 2, 60, 61, 62, 63, 64, 65, 66, 67, 68, 69, 70, 72, 73, 74, 75, 76, 242, 243, 244, 246, 270, 271, 272, 273, 275, 276, 277, 278, 279, 280, 330, 331, 332, 333, 334, 999] σ0 σ493 := X488.tr (e496.mo (by decide))
          refine k_inv (P := (P_X7_readInner d)) (Q := (Q_X7_readInner d)) rfl rfl rfl rfl (Nat.le_of_ble_eq_true rfl) (t505.rc (by decide)) ⟨_, _, _, rfl, H495, t505, t517, (by omega), (by omega), (rd_cd.st H0 h_0_0 X518 R513.1 (by decide)), (R513.2.2.2.1 rd_at), (rd_bg.st H0 h_0_0 X518 R513 (by decide) (by omega) (by omega) (by omega)), (by omega)⟩ (fun w519 σ520 q521 => ?_)
          obtain ⟨a522, rfl, H523, e524, h526, R525, q527, q528, q529, q530⟩ := q521
          have t536 := t505.x e524
          obtain ⟨x531, e532, c533, h534, h535⟩ := cg242 H523.1 t536
          obtain ⟨x537, e538, c539, h540, h541⟩ := cg243 H523.1 t536
          have z542 := congrArg Int32.toInt c533
          have z543 := congrArg Int32.toInt c539
          refine k_st (st' := [.inr (.inr (some a522)), .inr (.inr (some a20))]) rfl ?_
          have z544 := R513.1.1
          obtain ⟨x545, e546, c547, h548, h549⟩ := cg272 H523.1 h526
          rw [c547] at q528
          obtain ⟨x550, e551, c552, h553, h554⟩ := cg270 H523.1 h526
          rw [c552] at q529
          have R555 : RdC p0 none (-36) (-5 + 8 * (d : Int)) (-994) σ0 σ520 := R513.tr ⟨R525.1, R525.2⟩ (by omega) (by omega) (by omega) (by omega)
          have z556 := R555.2.2.1
          have z557 := R555.2.2.2.1 rd_at
          have c558 := (t481.mi e478 (by decide)).trans c471
          have c559 := (t516.mi e496 (by decide)).trans c558
          have c560 := (t517.fi e524 (by decide) (by decide)).trans c559
          have c561 := (t481.mi e478 (by decide)).trans c475
          have c562 := (t516.mi e496 (by decide)).trans c561
          have c563 := (t517.fi e524 (by decide) (by decide)).trans c562
          have z568 := t517.1
          have t569 := t517.x e524
          refine k_p276 H523 t569 (h526.ot) (fun z hz => by cases hz; exact ⟨by omega, by unfold LvC; rw [c560, c563, c552, c547]; omega⟩) (fun σ564 H565 e566 c567 => ?_)
          refine k_aload_n rfl ?_
          refine k_lload rfl ?_
          have t570 := t536.x e566
          refine k_putL kg245 H565 t570 fk245 (fun σ571 H572 e573 c574 => ?_)
          refine k_aload_n rfl ?_
          refine k_aload_n rfl ?_
          have t575 := t570.x e573
          have t580 := t38.x e49
          have t581 := t580.x e76
          have t582 := t581.x e98
          have t583 := t582.x e132
          have t584 := t583.x e177
          have t585 := t584.x e195
          have t586 := t585.x e235
          have t587 := t586.x e431
          have t588 := t587.x e478
          have t589 := t588.x e496
          have t590 := t589.x e524
          have t591 := t590.x e566
          have t592 := t591.x e573
          refine k_putR kp246 H572 t575 fk246 (rfo246 (t592)) (fun σ576 H577 e578 c579 => ?_)
          refine k_aload_n rfl ?_
          refine k_areturn ?_
          have X593 : ExC [0, 1, 2, 60, 61, 62, 63, 64, 65, 66, 67, 68, 69, 70, 72, 73, 74, 75, 76, 242, 243, 244, 246, 270, 271, 272, 273, 275, 276, 277, 278, 279, 280, 330, 331, 332, 333, 334, 999] σ0 σ520 := X518.tr (e524.mo (by decide))
          have X594 : ExC [0, 1, 2, 60, 61, 62, 63, 64, 65, 66, 67, 68, 69, 70, 72, 73, 74, 75, 76, 242, 243, 244, 246, 270, 271, 272, 273, 275, 276, 277, 278, 279, 280, 330, 331, 332, 333, 334, 999] σ0 σ564 := X593.tr (e566.mo (by decide))
          have X595 : ExC [0, 1, 2, 60, 61, 62, 63, 64, 65, 66, 67, 68, 69, 70, 72, 73, 74, 75, 76, 242, 243, 244, 246, 270, 271, 272, 273, 275, 276, 277, 278, 279, 280, 330, 331, 332, 333, 334, 999] σ0 σ571 := X594.tr (e573.mo (by decide))
          have X596 : ExC [0, 1, 2, 60, 61, 62, 63, 64, 65, 66, 67, 68, 69, 70, 72, 73, 74, 75, 76, 242, 243, 244, 246, 270, 271, 272, 273, 275, 276, 277, 278, 279, 280, 330, 331, 332, 333, 334, 999] σ0 σ576 := X595.tr (e578.mo (by decide))
          have t597 := t569.x e566
          have t598 := t597.x e573
          have t599 := t598.x e578
          have R600 : RdC p0 none (-36) (-5 + 8 * (d : Int)) (-994) σ0 σ564 := R555.tr ⟨(e566.gw H523.1 (by decide)), (e566.cou (u := 0) H523.1 t536 (by decide) (by rw [e566.cn (by decide)]; omega))⟩ (by omega) (by omega) (by omega) (by omega)
          have R601 : RdC p0 none (-36) (-5 + 8 * (d : Int)) (-994) σ0 σ571 := R600.tr ⟨(e573.gw H565.1 (by decide)), (e573.cou (u := 0) H565.1 t570 (by decide) (by rw [e573.cn (by decide)]; omega))⟩ (by omega) (by omega) (by omega) (by omega)
          have R602 : RdC p0 none (-36) (-5 + 8 * (d : Int)) (-994) σ0 σ576 := R601.tr ⟨(e578.gw H572.1 (by decide)), (e578.cou (u := 0) H572.1 t575 (by decide) (by rw [e578.cn (by decide)]; omega))⟩ (by omega) (by omega) (by omega) (by omega)
          have c603 := (t536.mi e566 (by decide)).trans c539
          have c604 := (t570.mi e573 (by decide)).trans c603
          have c605 := (t575.mi e578 (by decide)).trans c604
          have c606 := (t536.mi e566 (by decide)).trans c533
          have c607 := (t570.mi e573 (by decide)).trans c606
          have c608 := (t575.mi e578 (by decide)).trans c607
          have c609 := (t569.mi e566 (by decide)).trans c563
          have c610 := (t597.mi e573 (by decide)).trans c609
          have c611 := (t598.mi e578 (by decide)).trans c610
          have c612 := (t569.mi e566 (by decide)).trans c560
          have c613 := (t597.mi e573 (by decide)).trans c612
          have c614 := (t598.mi e578 (by decide)).trans c613
          have S645 : ∀ s, ReC σ0 p0 s → ReC σ576 p0 (forY d (stY (d - 1)) s) := by
            intro s hs
            have y615 := q28 _ hs
            have y617 := q52 _ y615
            have y619 := q79 _ y617
            rw [h70] at y619
            have y621 := y619.x H75.1 t85 e98 (by decide)
            have f622 := q114 _ y621
            have y623 := q138 _ y621
            have y625 := y623.x H131.1 t144 e177 (by decide)
            have y626 := q198 _ y625
            rw [h182] at y626
            have f628 := q223 _ y626
            have y629 := q238 _ y626
            rw [h229] at y629
            have f631 := q263 _ y629
            have y632 := q437 _ y629
            have y634 := y632.x H430.1 t443 e478 (by decide)
            have y635 := q499 _ y634
            rw [h483] at y635
            have y637 := q530 _ y635
            have y639 := y637.x H523.1 t536 e566 (by decide)
            have y640 := y639.x H565.1 t570 e573 (by decide)
            have y641 := y640.x H572.1 t575 e578 (by decide)
            have g642 := f622.symm.trans (h122.trans h121)
            have g643 := f628.symm.trans (h226.trans h225)
            have g644 := neY f631 h266 h265
            refine y641.eq ?_
            all_goals try simp only [forY, fo1Y, fo2Y, fo3Y, g642, g643, g644, or_false, false_or, or_true, true_or, and_false, false_and, and_true, true_and, not_true, not_false_iff, ↓reduceIte, Int.reduceEq, Int.reduceLE, Int.reduceLT, Int.reduceNeg]
            all_goals first | rfl | (exfalso; omega)
          exact ⟨_, rfl, H577, X596, t599, (R602.mo (by omega) (by omega) (by omega)), (by omega), (by rw [c611] <;> omega), (by rw [c614] <;> omega), S645⟩
      · refine k_nil ?_
        refine hB _ _ _ _ (kgoC (is := KX7_readFor_96) rfl ?_)
        refine k_aload_n rfl ?_
        refine k_aload_n rfl ?_
        refine k_iload_n rfl ?_
        refine k_inv (P := (P_X7_readExp d)) (Q := (Q_X7_readExp d)) rfl rfl rfl rfl (Nat.le_of_ble_eq_true rfl) (t204.rc (by decide)) ⟨_, _, rfl, H194, t204, (by omega), (by omega), (rd_cd.st H0 h_0_0 X215 R212.1 (by decide)), (R212.2.2.2.1 rd_at), (rd_bg.st H0 h_0_0 X215 R212 (by decide) (by omega) (by omega) (by omega)), (by omega)⟩ (fun w646 σ647 q648 => ?_)
        obtain ⟨a649, rfl, H650, e651, h653, R652, q654, q655⟩ := q648
        have t661 := t204.x e651
        obtain ⟨x656, e657, c658, h659, h660⟩ := cg242 H650.1 t661
        obtain ⟨x662, e663, c664, h665, h666⟩ := cg243 H650.1 t661
        have z667 := congrArg Int32.toInt c658
        have z668 := congrArg Int32.toInt c664
        refine k_st (st' := [.inr (.inr (some a649)), .inr (.inr (some a20))]) rfl ?_
        have z669 := R212.1.1
        have R670 : RdC p0 none (-22) (10 + 8 * (d : Int)) (-999) σ0 σ647 := R212.tr ⟨R652.1, R652.2⟩ (by omega) (by omega) (by omega) (by omega)
        have z671 := R670.2.2.1
        have z672 := R670.2.2.2.1 rd_at
        have t673 := t180.x e177
        have t674 := t673.x e195
        have t675 := t674.x e651
        refine k_putR kp279 H650 t675 fk279 (rf279 h653) (fun σ676 H677 e678 c679 => ?_)
        refine k_nil ?_
        refine hB _ _ _ _ (kgoC (is := KX7_readFor_105) rfl ?_)
        refine k_aload_n rfl ?_
        refine k_iconst (m := 4) rfl (fun x680 h681 => ?_)
        have t682 := t661.x e678
        have R683 : RdC p0 none (-22) (10 + 8 * (d : Int)) (-999) σ0 σ676 := R670.tr ⟨(e678.gw H650.1 (by decide)), (e678.cou (u := 0) H650.1 t661 (by decide) (by rw [e678.cn (by decide)]; omega))⟩ (by omega) (by omega) (by omega) (by omega)
        have c684 := (t661.mi e678 (by decide)).trans c664
        have X685 : ExC [0, 1, 2, 60, 61, 62, 63, 64, 65, 66, 67, 68, 69, 70, 72, 73, 74, 75, 76, 242, 243, 244, 246, 270, 271, 272, 273, 275, 276, 277, 278, 279, 280, 330, 331, 332, 333, 334, 999] σ0 σ647 := X215.tr (e651.mo (by decide))
        have X686 : ExC [0, 1, 2, 60, 61, 62, 63, 64, 65, 66, 67, 68, 69, 70, 72, 73, 74, 75, 76, 242, 243, 244, 246, 270, 271, 272, 273, 275, 276, 277, 278, 279, 280, 330, 331, 332, 333, 334, 999] σ0 σ676 := X685.tr (e678.mo (by decide))
        have c687 := (t661.mi e678 (by decide)).trans c658
        have z688 := congrArg Int32.toInt c687
        have z689 := congrArg Int32.toInt c684
        refine k_inv (P := P_X7_expect) (Q := Q_X7_expect) rfl rfl rfl rfl (Nat.le_of_ble_eq_true rfl) (t682.rc (by decide)) ⟨_, _, rfl, H677, t682, (by omega), (by omega), (rd_cd.st H0 h_0_0 X686 R683.1 (by decide)), (R683.2.2.2.1 rd_at), (rd_bg.st H0 h_0_0 X686 R683 (by decide) (by omega) (by omega) (by omega))⟩ (fun w690 σ691 q692 => ?_)
        obtain ⟨rfl, H693, e694, R695, q696, q697⟩ := q692
        have t703 := t682.x e694
        obtain ⟨x698, e699, c700, h701, h702⟩ := cg242 H693.1 t703
        obtain ⟨x704, e705, c706, h707, h708⟩ := cg243 H693.1 t703
        have z709 := congrArg Int32.toInt c700
        have z710 := congrArg Int32.toInt c706
        refine k_st (st' := []) rfl ?_
        have R711 : RdC p0 none (-30) (10 + 8 * (d : Int)) (-999) σ0 σ691 := R683.tr ⟨R695.1, R695.2⟩ (by omega) (by omega) (by omega) (by omega)
        have z712 := R711.2.2.1
        have z713 := R711.2.2.2.1 rd_at
        refine k_aload_n rfl ?_
        have X714 : ExC [0, 1, 2, 60, 61, 62, 63, 64, 65, 66, 67, 68, 69, 70, 72, 73, 74, 75, 76, 242, 243, 244, 246, 270, 271, 272, 273, 275, 276, 277, 278, 279, 280, 330, 331, 332, 333, 334, 999] σ0 σ691 := X686.tr (e694.mo (by decide))
        refine k_inv (P := P_X7_code) (Q := Q_X7_code) rfl rfl rfl rfl (Nat.le_of_ble_eq_true rfl) (t703.rc (by decide)) ⟨_, rfl, H693, t703, (rd_cd.st H0 h_0_0 X714 R711.1 (by decide))⟩ (fun w715 σ716 q717 => ?_)
        obtain ⟨x718, rfl, rfl, q719, q720, q721, q722⟩ := q717
        refine k_st (st' := [.inl x718]) rfl ?_
        refine k_iconst (m := 1) rfl (fun x723 h724 => ?_)
        refine k_ic_eq (fun h725 => ?_) (fun h725 => ?_)
        · have h726 : x704.toInt = 0 := by omega
          refine hB _ _ _ _ (kgoC (is := KX7_readFor_127) rfl ?_)
          refine k_aload_n rfl ?_
          refine k_iconst (m := 1) rfl (fun x727 h728 => ?_)
          have R729 := R711.nf (-1000) (-1000) (by rw [c706]; omega)
          refine k_inv (P := P_X7_expect) (Q := Q_X7_expect) rfl rfl rfl rfl (Nat.le_of_ble_eq_true rfl) (t703.rc (by decide)) ⟨_, _, rfl, H693, t703, (by omega), (by omega), (rd_cd.st H0 h_0_0 X714 R729.1 (by decide)), (R729.2.2.2.1 rd_at), (rd_bg.stn H0 h_0_0 X714 R729 (by decide) (by rw [c706]; omega) (by omega))⟩ (fun w730 σ731 q732 => ?_)
          obtain ⟨rfl, H733, e734, R735, q736, q737⟩ := q732
          have t743 := t703.x e734
          obtain ⟨x738, e739, c740, h741, h742⟩ := cg242 H733.1 t743
          obtain ⟨x744, e745, c746, h747, h748⟩ := cg243 H733.1 t743
          have z749 := congrArg Int32.toInt c740
          have z750 := congrArg Int32.toInt c746
          refine k_st (st' := []) rfl ?_
          have R751 : RdC p0 none (-38) (-30) (-1000) σ0 σ731 := R729.tr ⟨R735.1, R735.2⟩ (by omega) (by omega) (by omega) (by omega)
          have z752 := R751.2.2.1
          have z753 := R751.2.2.2.1 rd_at
          refine k_aload_n rfl ?_
          refine k_aload_n rfl ?_
          refine k_aload_n rfl ?_
          refine k_iload_n rfl ?_
          have t754 := t675.x e678
          have t755 := t754.x e694
          have t756 := t755.x e734
          have X757 : ExC [0, 1, 2, 60, 61, 62, 63, 64, 65, 66, 67, 68, 69, 70, 72, 73, 74, 75, 76, 242, 243, 244, 246, 270, 271, 272, 273, 275, 276, 277, 278, 279, 280, 330, 331, 332, 333, 334, 999] σ0 σ731 := X714.tr (e734.mo (by decide))
          refine k_inv (P := (P_X7_readInner d)) (Q := (Q_X7_readInner d)) rfl rfl rfl rfl (Nat.le_of_ble_eq_true rfl) (t743.rc (by decide)) ⟨_, _, _, rfl, H733, t743, t756, (by omega), (by omega), (rd_cd.st H0 h_0_0 X757 R751.1 (by decide)), (R751.2.2.2.1 rd_at), (rd_bg.st H0 h_0_0 X757 R751 (by decide) (by omega) (by omega) (by omega)), (by omega)⟩ (fun w758 σ759 q760 => ?_)
          obtain ⟨a761, rfl, H762, e763, h765, R764, q766, q767, q768, q769⟩ := q760
          have t775 := t743.x e763
          obtain ⟨x770, e771, c772, h773, h774⟩ := cg242 H762.1 t775
          obtain ⟨x776, e777, c778, h779, h780⟩ := cg243 H762.1 t775
          have z781 := congrArg Int32.toInt c772
          have z782 := congrArg Int32.toInt c778
          refine k_st (st' := [.inr (.inr (some a761)), .inr (.inr (some a20))]) rfl ?_
          have z783 := R751.1.1
          obtain ⟨x784, e785, c786, h787, h788⟩ := cg272 H762.1 h765
          rw [c786] at q767
          obtain ⟨x789, e790, c791, h792, h793⟩ := cg270 H762.1 h765
          rw [c791] at q768
          have R794 : RdC p0 none (-38) (-22 + 8 * (d : Int)) (-997) σ0 σ759 := R751.tr ⟨R764.1, R764.2⟩ (by omega) (by omega) (by omega) (by omega)
          have z795 := R794.2.2.1
          have z796 := R794.2.2.2.1 rd_at
          have c797 := (t180.mi e177 (by decide)).trans c170
          have c798 := (t673.mi e195 (by decide)).trans c797
          have c799 := (t674.mi e651 (by decide)).trans c798
          have c800 := (t675.mi e678 (by decide)).trans c799
          have c801 := (t754.mi e694 (by decide)).trans c800
          have c802 := (t755.mi e734 (by decide)).trans c801
          have c803 := (t756.fi e763 (by decide) (by decide)).trans c802
          have c804 := (t180.mi e177 (by decide)).trans c174
          have c805 := (t673.mi e195 (by decide)).trans c804
          have c806 := (t674.mi e651 (by decide)).trans c805
          have c807 := (t675.mi e678 (by decide)).trans c806
          have c808 := (t754.mi e694 (by decide)).trans c807
          have c809 := (t755.mi e734 (by decide)).trans c808
          have c810 := (t756.fi e763 (by decide) (by decide)).trans c809
          have z815 := t756.1
          have t816 := t756.x e763
          refine k_p276 H762 t816 (h765.ot) (fun z hz => by cases hz; exact ⟨by omega, by unfold LvC; rw [c803, c810, c791, c786]; omega⟩) (fun σ811 H812 e813 c814 => ?_)
          refine k_aload_n rfl ?_
          refine k_lload rfl ?_
          have t817 := t775.x e813
          refine k_putL kg245 H812 t817 fk245 (fun σ818 H819 e820 c821 => ?_)
          refine k_aload_n rfl ?_
          refine k_aload_n rfl ?_
          have t822 := t817.x e820
          have t827 := t38.x e49
          have t828 := t827.x e76
          have t829 := t828.x e98
          have t830 := t829.x e132
          have t831 := t830.x e177
          have t832 := t831.x e195
          have t833 := t832.x e651
          have t834 := t833.x e678
          have t835 := t834.x e694
          have t836 := t835.x e734
          have t837 := t836.x e763
          have t838 := t837.x e813
          have t839 := t838.x e820
          refine k_putR kp246 H819 t822 fk246 (rfo246 (t839)) (fun σ823 H824 e825 c826 => ?_)
          refine k_aload_n rfl ?_
          refine k_areturn ?_
          have X840 : ExC [0, 1, 2, 60, 61, 62, 63, 64, 65, 66, 67, 68, 69, 70, 72, 73, 74, 75, 76, 242, 243, 244, 246, 270, 271, 272, 273, 275, 276, 277, 278, 279, 280, 330, 331, 332, 333, 334, 999] σ0 σ759 := X757.tr (e763.mo (by decide))
          have X841 : ExC [0, 1, 2, 60, 61, 62, 63, 64, 65, 66, 67, 68, 69, 70, 72, 73, 74, 75, 76, 242, 243, 244, 246, 270, 271, 272, 273, 275, 276, 277, 278, 279, 280, 330, 331, 332, 333, 334, 999] σ0 σ811 := X840.tr (e813.mo (by decide))
          have X842 : ExC [0, 1, 2, 60, 61, 62, 63, 64, 65, 66, 67, 68, 69, 70, 72, 73, 74, 75, 76, 242, 243, 244, 246, 270, 271, 272, 273, 275, 276, 277, 278, 279, 280, 330, 331, 332, 333, 334, 999] σ0 σ818 := X841.tr (e820.mo (by decide))
          have X843 : ExC [0, 1, 2, 60, 61, 62, 63, 64, 65, 66, 67, 68, 69, 70, 72, 73, 74, 75, 76, 242, 243, 244, 246, 270, 271, 272, 273, 275, 276, 277, 278, 279, 280, 330, 331, 332, 333, 334, 999] σ0 σ823 := X842.tr (e825.mo (by decide))
          have t844 := t816.x e813
          have t845 := t844.x e820
          have t846 := t845.x e825
          have R847 : RdC p0 none (-38) (-22 + 8 * (d : Int)) (-997) σ0 σ811 := R794.tr ⟨(e813.gw H762.1 (by decide)), (e813.cou (u := 0) H762.1 t775 (by decide) (by rw [e813.cn (by decide)]; omega))⟩ (by omega) (by omega) (by omega) (by omega)
          have R848 : RdC p0 none (-38) (-22 + 8 * (d : Int)) (-997) σ0 σ818 := R847.tr ⟨(e820.gw H812.1 (by decide)), (e820.cou (u := 0) H812.1 t817 (by decide) (by rw [e820.cn (by decide)]; omega))⟩ (by omega) (by omega) (by omega) (by omega)
          have R849 : RdC p0 none (-38) (-22 + 8 * (d : Int)) (-997) σ0 σ823 := R848.tr ⟨(e825.gw H819.1 (by decide)), (e825.cou (u := 0) H819.1 t822 (by decide) (by rw [e825.cn (by decide)]; omega))⟩ (by omega) (by omega) (by omega) (by omega)
          have c850 := (t775.mi e813 (by decide)).trans c778
          have c851 := (t817.mi e820 (by decide)).trans c850
          have c852 := (t822.mi e825 (by decide)).trans c851
          have c853 := (t775.mi e813 (by decide)).trans c772
          have c854 := (t817.mi e820 (by decide)).trans c853
          have c855 := (t822.mi e825 (by decide)).trans c854
          have c856 := (t816.mi e813 (by decide)).trans c810
          have c857 := (t844.mi e820 (by decide)).trans c856
          have c858 := (t845.mi e825 (by decide)).trans c857
          have c859 := (t816.mi e813 (by decide)).trans c803
          have c860 := (t844.mi e820 (by decide)).trans c859
          have c861 := (t845.mi e825 (by decide)).trans c860
          have S892 : ∀ s, ReC σ0 p0 s → ReC σ823 p0 (forY d (stY (d - 1)) s) := by
            intro s hs
            have y862 := q28 _ hs
            have y864 := q52 _ y862
            have y866 := q79 _ y864
            rw [h70] at y866
            have y868 := y866.x H75.1 t85 e98 (by decide)
            have f869 := q114 _ y868
            have y870 := q138 _ y868
            have y872 := y870.x H131.1 t144 e177 (by decide)
            have y873 := q198 _ y872
            rw [h182] at y873
            have f875 := q223 _ y873
            have y876 := q655 _ y873
            have y878 := y876.x H650.1 t661 e678 (by decide)
            have y879 := q697 _ y878
            rw [h681] at y879
            have f881 := q722 _ y879
            have y882 := q737 _ y879
            rw [h728] at y882
            have y884 := q769 _ y882
            have y886 := y884.x H762.1 t775 e813 (by decide)
            have y887 := y886.x H812.1 t817 e820 (by decide)
            have y888 := y887.x H819.1 t822 e825 (by decide)
            have g889 := f869.symm.trans (h122.trans h121)
            have g890 := neY f875 h226 h225
            have g891 := f881.symm.trans (h725.trans h724)
            refine y888.eq ?_
            all_goals try simp only [forY, fo1Y, fo2Y, fo3Y, g889, g890, g891, or_false, false_or, or_true, true_or, and_false, false_and, and_true, true_and, not_true, not_false_iff, ↓reduceIte, Int.reduceEq, Int.reduceLE, Int.reduceLT, Int.reduceNeg]
            all_goals first | rfl | (exfalso; omega)
          exact ⟨_, rfl, H824, X843, t846, (R849.mo (by omega) (by omega) (by omega)), (by omega), (by rw [c858] <;> omega), (by rw [c861] <;> omega), S892⟩
        · refine k_nil ?_
          refine hB _ _ _ _ (kgoC (is := KX7_readFor_118) rfl ?_)
          refine k_aload_n rfl ?_
          refine k_aload_n rfl ?_
          refine k_iload_n rfl ?_
          refine k_inv (P := (P_X7_readForExps d)) (Q := (Q_X7_readForExps d)) rfl rfl rfl rfl (Nat.le_of_ble_eq_true rfl) (t703.rc (by decide)) ⟨_, _, rfl, H693, t703, (by omega), (by omega), (rd_cd.st H0 h_0_0 X714 R711.1 (by decide)), (R711.2.2.2.1 rd_at), (rd_bg.st H0 h_0_0 X714 R711 (by decide) (by omega) (by omega) (by omega)), (by omega)⟩ (fun w893 σ894 q895 => ?_)
          obtain ⟨a896, rfl, H897, e898, h900, R899, q901, q902, q903, q904⟩ := q895
          have t910 := t703.x e898
          obtain ⟨x905, e906, c907, h908, h909⟩ := cg242 H897.1 t910
          obtain ⟨x911, e912, c913, h914, h915⟩ := cg243 H897.1 t910
          have z916 := congrArg Int32.toInt c907
          have z917 := congrArg Int32.toInt c913
          refine k_st (st' := [.inr (.inr (some a896)), .inr (.inr (some a20))]) rfl ?_
          have z918 := R711.1.1
          obtain ⟨x919, e920, c921, h922, h923⟩ := cg272 H897.1 h900
          rw [c921] at q902
          obtain ⟨x924, e925, c926, h927, h928⟩ := cg270 H897.1 h900
          rw [c926] at q903
          have R929 : RdC p0 none (-28) (13 + 8 * (d : Int)) (-996) σ0 σ894 := R711.tr ⟨R899.1, R899.2⟩ (by omega) (by omega) (by omega) (by omega)
          have z930 := R929.2.2.1
          have z931 := R929.2.2.2.1 rd_at
          have c932 := (t180.mi e177 (by decide)).trans c170
          have c933 := (t673.mi e195 (by decide)).trans c932
          have c934 := (t674.mi e651 (by decide)).trans c933
          have c935 := (t675.mi e678 (by decide)).trans c934
          have t936 := t675.x e678
          have c937 := (t936.mi e694 (by decide)).trans c935
          have t938 := t936.x e694
          have c939 := (t938.fi e898 (by decide) (by decide)).trans c937
          have c940 := (t180.mi e177 (by decide)).trans c174
          have c941 := (t673.mi e195 (by decide)).trans c940
          have c942 := (t674.mi e651 (by decide)).trans c941
          have c943 := (t675.mi e678 (by decide)).trans c942
          have c944 := (t936.mi e694 (by decide)).trans c943
          have c945 := (t938.fi e898 (by decide) (by decide)).trans c944
          have z950 := t938.1
          have t951 := t938.x e898
          refine k_p278 H897 t951 (h900.ot) (fun z hz => by cases hz; exact ⟨by omega, by unfold LvC; rw [c939, c945, c926, c921]; omega⟩) (fun σ946 H947 e948 c949 => ?_)
          refine k_nil ?_
          refine hB _ _ _ _ (kgoC (is := KX7_readFor_127) rfl ?_)
          refine k_aload_n rfl ?_
          refine k_iconst (m := 1) rfl (fun x952 h953 => ?_)
          have t954 := t910.x e948
          have R955 : RdC p0 none (-28) (13 + 8 * (d : Int)) (-996) σ0 σ946 := R929.tr ⟨(e948.gw H897.1 (by decide)), (e948.cou (u := 0) H897.1 t910 (by decide) (by rw [e948.cn (by decide)]; omega))⟩ (by omega) (by omega) (by omega) (by omega)
          have c956 := (t910.mi e948 (by decide)).trans c913
          have X957 : ExC [0, 1, 2, 60, 61, 62, 63, 64, 65, 66, 67, 68, 69, 70, 72, 73, 74, 75, 76, 242, 243, 244, 246, 270, 271, 272, 273, 275, 276, 277, 278, 279, 280, 330, 331, 332, 333, 334, 999] σ0 σ894 := X714.tr (e898.mo (by decide))
          have X958 : ExC [0, 1, 2, 60, 61, 62, 63, 64, 65, 66, 67, 68, 69, 70, 72, 73, 74, 75, 76, 242, 243, 244, 246, 270, 271, 272, 273, 275, 276, 277, 278, 279, 280, 330, 331, 332, 333, 334, 999] σ0 σ946 := X957.tr (e948.mo (by decide))
          have c959 := (t910.mi e948 (by decide)).trans c907
          have z960 := congrArg Int32.toInt c959
          have z961 := congrArg Int32.toInt c956
          refine k_inv (P := P_X7_expect) (Q := Q_X7_expect) rfl rfl rfl rfl (Nat.le_of_ble_eq_true rfl) (t954.rc (by decide)) ⟨_, _, rfl, H947, t954, (by omega), (by omega), (rd_cd.st H0 h_0_0 X958 R955.1 (by decide)), (R955.2.2.2.1 rd_at), (rd_bg.st H0 h_0_0 X958 R955 (by decide) (by omega) (by omega) (by omega))⟩ (fun w962 σ963 q964 => ?_)
          obtain ⟨rfl, H965, e966, R967, q968, q969⟩ := q964
          have t975 := t954.x e966
          obtain ⟨x970, e971, c972, h973, h974⟩ := cg242 H965.1 t975
          obtain ⟨x976, e977, c978, h979, h980⟩ := cg243 H965.1 t975
          have z981 := congrArg Int32.toInt c972
          have z982 := congrArg Int32.toInt c978
          refine k_st (st' := []) rfl ?_
          have R983 : RdC p0 none (-36) (13 + 8 * (d : Int)) (-996) σ0 σ963 := R955.tr ⟨R967.1, R967.2⟩ (by omega) (by omega) (by omega) (by omega)
          have z984 := R983.2.2.1
          have z985 := R983.2.2.2.1 rd_at
          refine k_aload_n rfl ?_
          refine k_aload_n rfl ?_
          refine k_aload_n rfl ?_
          refine k_iload_n rfl ?_
          have t986 := t951.x e948
          have t987 := t986.x e966
          have X988 : ExC [0, 1, 2, 60, 61, 62, 63, 64, 65, 66, 67, 68, 69, 70, 72, 73, 74, 75, 76, 242, 243, 244, 246, 270, 271, 272, 273, 275, 276, 277, 278, 279, 280, 330, 331, 332, 333, 334, 999] σ0 σ963 := X958.tr (e966.mo (by decide))
          refine k_inv (P := (P_X7_readInner d)) (Q := (Q_X7_readInner d)) rfl rfl rfl rfl (Nat.le_of_ble_eq_true rfl) (t975.rc (by decide)) ⟨_, _, _, rfl, H965, t975, t987, (by omega), (by omega), (rd_cd.st H0 h_0_0 X988 R983.1 (by decide)), (R983.2.2.2.1 rd_at), (rd_bg.st H0 h_0_0 X988 R983 (by decide) (by omega) (by omega) (by omega)), (by omega)⟩ (fun w989 σ990 q991 => ?_)
          obtain ⟨a992, rfl, H993, e994, h996, R995, q997, q998, q999, q1000⟩ := q991
          have t1006 := t975.x e994
          obtain ⟨x1001, e1002, c1003, h1004, h1005⟩ := cg242 H993.1 t1006
          obtain ⟨x1007, e1008, c1009, h1010, h1011⟩ := cg243 H993.1 t1006
          have z1012 := congrArg Int32.toInt c1003
          have z1013 := congrArg Int32.toInt c1009
          refine k_st (st' := [.inr (.inr (some a992)), .inr (.inr (some a20))]) rfl ?_
          have z1014 := R983.1.1
          obtain ⟨x1015, e1016, c1017, h1018, h1019⟩ := cg272 H993.1 h996
          rw [c1017] at q998
          obtain ⟨x1020, e1021, c1022, h1023, h1024⟩ := cg270 H993.1 h996
          rw [c1022] at q999
          have R1025 : RdC p0 none (-36) (16 + 8 * (d : Int)) (-993) σ0 σ990 := R983.tr ⟨R995.1, R995.2⟩ (by omega) (by omega) (by omega) (by omega)
          have z1026 := R1025.2.2.1
          have z1027 := R1025.2.2.2.1 rd_at
          have c1028 := (t951.mi e948 (by decide)).trans c939
          have c1029 := (t986.mi e966 (by decide)).trans c1028
          have c1030 := (t987.fi e994 (by decide) (by decide)).trans c1029
          have c1031 := (t951.mi e948 (by decide)).trans c945
          have c1032 := (t986.mi e966 (by decide)).trans c1031
          have c1033 := (t987.fi e994 (by decide) (by decide)).trans c1032
          have z1038 := t987.1
          have t1039 := t987.x e994
          refine k_p276 H993 t1039 (h996.ot) (fun z hz => by cases hz; exact ⟨by omega, by unfold LvC; rw [c1030, c1033, c1022, c1017]; omega⟩) (fun σ1034 H1035 e1036 c1037 => ?_)
          refine k_aload_n rfl ?_
          refine k_lload rfl ?_
          have t1040 := t1006.x e1036
          refine k_putL kg245 H1035 t1040 fk245 (fun σ1041 H1042 e1043 c1044 => ?_)
          refine k_aload_n rfl ?_
          refine k_aload_n rfl ?_
          have t1045 := t1040.x e1043
          have t1050 := t38.x e49
          have t1051 := t1050.x e76
          have t1052 := t1051.x e98
          have t1053 := t1052.x e132
          have t1054 := t1053.x e177
          have t1055 := t1054.x e195
          have t1056 := t1055.x e651
          have t1057 := t1056.x e678
          have t1058 := t1057.x e694
          have t1059 := t1058.x e898
          have t1060 := t1059.x e948
          have t1061 := t1060.x e966
          have t1062 := t1061.x e994
          have t1063 := t1062.x e1036
          have t1064 := t1063.x e1043
          refine k_putR kp246 H1042 t1045 fk246 (rfo246 (t1064)) (fun σ1046 H1047 e1048 c1049 => ?_)
          refine k_aload_n rfl ?_
          refine k_areturn ?_
          have X1065 : ExC [0, 1, 2, 60, 61, 62, 63, 64, 65, 66, 67, 68, 69, 70, 72, 73, 74, 75, 76, 242, 243, 244, 246, 270, 271, 272, 273, 275, 276, 277, 278, 279, 280, 330, 331, 332, 333, 334, 999] σ0 σ990 := X988.tr (e994.mo (by decide))
          have X1066 : ExC [0, 1, 2, 60, 61, 62, 63, 64, 65, 66, 67, 68, 69, 70, 72, 73, 74, 75, 76, 242, 243, 244, 246, 270, 271, 272, 273, 275, 276, 277, 278, 279, 280, 330, 331, 332, 333, 334, 999] σ0 σ1034 := X1065.tr (e1036.mo (by decide))
          have X1067 : ExC [0, 1, 2, 60, 61, 62, 63, 64, 65, 66, 67, 68, 69, 70, 72, 73, 74, 75, 76, 242, 243, 244, 246, 270, 271, 272, 273, 275, 276, 277, 278, 279, 280, 330, 331, 332, 333, 334, 999] σ0 σ1041 := X1066.tr (e1043.mo (by decide))
          have X1068 : ExC [0, 1, 2, 60, 61, 62, 63, 64, 65, 66, 67, 68, 69, 70, 72, 73, 74, 75, 76, 242, 243, 244, 246, 270, 271, 272, 273, 275, 276, 277, 278, 279, 280, 330, 331, 332, 333, 334, 999] σ0 σ1046 := X1067.tr (e1048.mo (by decide))
          have t1069 := t1039.x e1036
          have t1070 := t1069.x e1043
          have t1071 := t1070.x e1048
          have R1072 : RdC p0 none (-36) (16 + 8 * (d : Int)) (-993) σ0 σ1034 := R1025.tr ⟨(e1036.gw H993.1 (by decide)), (e1036.cou (u := 0) H993.1 t1006 (by decide) (by rw [e1036.cn (by decide)]; omega))⟩ (by omega) (by omega) (by omega) (by omega)
          have R1073 : RdC p0 none (-36) (16 + 8 * (d : Int)) (-993) σ0 σ1041 := R1072.tr ⟨(e1043.gw H1035.1 (by decide)), (e1043.cou (u := 0) H1035.1 t1040 (by decide) (by rw [e1043.cn (by decide)]; omega))⟩ (by omega) (by omega) (by omega) (by omega)
          have R1074 : RdC p0 none (-36) (16 + 8 * (d : Int)) (-993) σ0 σ1046 := R1073.tr ⟨(e1048.gw H1042.1 (by decide)), (e1048.cou (u := 0) H1042.1 t1045 (by decide) (by rw [e1048.cn (by decide)]; omega))⟩ (by omega) (by omega) (by omega) (by omega)
          have c1075 := (t1006.mi e1036 (by decide)).trans c1009
          have c1076 := (t1040.mi e1043 (by decide)).trans c1075
          have c1077 := (t1045.mi e1048 (by decide)).trans c1076
          have c1078 := (t1006.mi e1036 (by decide)).trans c1003
          have c1079 := (t1040.mi e1043 (by decide)).trans c1078
          have c1080 := (t1045.mi e1048 (by decide)).trans c1079
          have c1081 := (t1039.mi e1036 (by decide)).trans c1033
          have c1082 := (t1069.mi e1043 (by decide)).trans c1081
          have c1083 := (t1070.mi e1048 (by decide)).trans c1082
          have c1084 := (t1039.mi e1036 (by decide)).trans c1030
          have c1085 := (t1069.mi e1043 (by decide)).trans c1084
          have c1086 := (t1070.mi e1048 (by decide)).trans c1085
          have S1120 : ∀ s, ReC σ0 p0 s → ReC σ1046 p0 (forY d (stY (d - 1)) s) := by
            intro s hs
            have y1087 := q28 _ hs
            have y1089 := q52 _ y1087
            have y1091 := q79 _ y1089
            rw [h70] at y1091
            have y1093 := y1091.x H75.1 t85 e98 (by decide)
            have f1094 := q114 _ y1093
            have y1095 := q138 _ y1093
            have y1097 := y1095.x H131.1 t144 e177 (by decide)
            have y1098 := q198 _ y1097
            rw [h182] at y1098
            have f1100 := q223 _ y1098
            have y1101 := q655 _ y1098
            have y1103 := y1101.x H650.1 t661 e678 (by decide)
            have y1104 := q697 _ y1103
            rw [h681] at y1104
            have f1106 := q722 _ y1104
            have y1107 := q904 _ y1104
            have y1109 := y1107.x H897.1 t910 e948 (by decide)
            have y1110 := q969 _ y1109
            rw [h953] at y1110
            have y1112 := q1000 _ y1110
            have y1114 := y1112.x H993.1 t1006 e1036 (by decide)
            have y1115 := y1114.x H1035.1 t1040 e1043 (by decide)
            have y1116 := y1115.x H1042.1 t1045 e1048 (by decide)
            have g1117 := f1094.symm.trans (h122.trans h121)
            have g1118 := neY f1100 h226 h225
            have g1119 := neY f1106 h725 h724
            refine y1116.eq ?_
            all_goals try simp only [forY, fo1Y, fo2Y, fo3Y, g1117, g1118, g1119, or_false, false_or, or_true, true_or, and_false, false_and, and_true, true_and, not_true, not_false_iff, ↓reduceIte, Int.reduceEq, Int.reduceLE, Int.reduceLT, Int.reduceNeg]
            all_goals first | rfl | (exfalso; omega)
          exact ⟨_, rfl, H1047, X1068, t1071, (R1074.mo (by omega) (by omega) (by omega)), (by omega), (by rw [c1083] <;> omega), (by rw [c1086] <;> omega), S1120⟩
    · refine k_nil ?_
      refine hB _ _ _ _ (kgoC (is := KX7_readFor_42) rfl ?_)
      refine k_aload_n rfl ?_
      refine k_inv (P := P_X7_code) (Q := Q_X7_code) rfl rfl rfl rfl (Nat.le_of_ble_eq_true rfl) (t102.rc (by decide)) ⟨_, rfl, H97, t102, (rd_cd.st H0 h_0_0 X106 R103.1 (by decide))⟩ (fun w1121 σ1122 q1123 => ?_)
      obtain ⟨x1124, rfl, rfl, q1125, q1126, q1127, q1128⟩ := q1123
      refine k_st (st' := [.inl x1124]) rfl ?_
      refine k_stat (P := P_X7_isType) (Q := Q_X7_isType) rfl rfl (Nat.le_of_ble_eq_true rfl) rfl rfl (Nat.le_of_ble_eq_true rfl) ⟨_, rfl, H97⟩ (fun w1129 σ1130 q1131 => ?_)
      obtain ⟨x1132, rfl, rfl, h1133, h1134, q1135, q1136⟩ := q1131
      refine k_st (st' := [.inl x1132]) rfl ?_
      rcases (by omega : x1132.toInt = 0 ∨ x1132.toInt = 1) with g1137 | g1137
      · refine k_if_eq (fun h1138 => ?_) (fun h1138 => by exfalso; omega)
        refine hB _ _ _ _ (kgoC (is := KX7_readFor_66) rfl ?_)
        refine k_aload_n rfl ?_
        refine k_inv (P := P_X7_code) (Q := Q_X7_code) rfl rfl rfl rfl (Nat.le_of_ble_eq_true rfl) (t102.rc (by decide)) ⟨_, rfl, H97, t102, (rd_cd.st H0 h_0_0 X106 R103.1 (by decide))⟩ (fun w1139 σ1140 q1141 => ?_)
        obtain ⟨x1142, rfl, rfl, q1143, q1144, q1145, q1146⟩ := q1141
        refine k_st (st' := [.inl x1142]) rfl ?_
        refine k_iconst (m := 4) rfl (fun x1147 h1148 => ?_)
        refine k_ic_eq (fun h1149 => ?_) (fun h1149 => ?_)
        · have h1150 : x86.toInt = 0 := by omega
          refine hB _ _ _ _ (kgoC (is := KX7_readFor_83) rfl ?_)
          refine k_aload_n rfl ?_
          refine k_iconst (m := 4) rfl (fun x1151 h1152 => ?_)
          have R1153 := R103.nf (-1000) (-1000) (by rw [c104]; omega)
          refine k_inv (P := P_X7_expect) (Q := Q_X7_expect) rfl rfl rfl rfl (Nat.le_of_ble_eq_true rfl) (t102.rc (by decide)) ⟨_, _, rfl, H97, t102, (by omega), (by omega), (rd_cd.st H0 h_0_0 X106 R1153.1 (by decide)), (R1153.2.2.2.1 rd_at), (rd_bg.stn H0 h_0_0 X106 R1153 (by decide) (by rw [c104]; omega) (by omega))⟩ (fun w1154 σ1155 q1156 => ?_)
          obtain ⟨rfl, H1157, e1158, R1159, q1160, q1161⟩ := q1156
          have t1167 := t102.x e1158
          obtain ⟨x1162, e1163, c1164, h1165, h1166⟩ := cg242 H1157.1 t1167
          obtain ⟨x1168, e1169, c1170, h1171, h1172⟩ := cg243 H1157.1 t1167
          have z1173 := congrArg Int32.toInt c1164
          have z1174 := congrArg Int32.toInt c1170
          refine k_st (st' := []) rfl ?_
          have R1175 : RdC p0 none (-22) (-14) (-1000) σ0 σ1155 := R1153.tr ⟨R1159.1, R1159.2⟩ (by omega) (by omega) (by omega) (by omega)
          have z1176 := R1175.2.2.1
          have z1177 := R1175.2.2.2.1 rd_at
          refine k_aload_n rfl ?_
          have X1178 : ExC [0, 1, 2, 60, 61, 62, 63, 64, 65, 66, 67, 68, 69, 70, 72, 73, 74, 75, 76, 242, 243, 244, 246, 270, 271, 272, 273, 275, 276, 277, 278, 279, 280, 330, 331, 332, 333, 334, 999] σ0 σ1155 := X106.tr (e1158.mo (by decide))
          refine k_inv (P := P_X7_code) (Q := Q_X7_code) rfl rfl rfl rfl (Nat.le_of_ble_eq_true rfl) (t1167.rc (by decide)) ⟨_, rfl, H1157, t1167, (rd_cd.st H0 h_0_0 X1178 R1175.1 (by decide))⟩ (fun w1179 σ1180 q1181 => ?_)
          obtain ⟨x1182, rfl, rfl, q1183, q1184, q1185, q1186⟩ := q1181
          refine k_st (st' := [.inl x1182]) rfl ?_
          refine k_iconst (m := 4) rfl (fun x1187 h1188 => ?_)
          refine k_ic_eq (fun h1189 => ?_) (fun h1189 => ?_)
          · have h1190 : x1168.toInt = 0 := by omega
            refine hB _ _ _ _ (kgoC (is := KX7_readFor_105) rfl ?_)
            refine k_aload_n rfl ?_
            refine k_iconst (m := 4) rfl (fun x1191 h1192 => ?_)
            have R1193 := R1175.nf (-1000) (-1000) (by rw [c1170]; omega)
            refine k_inv (P := P_X7_expect) (Q := Q_X7_expect) rfl rfl rfl rfl (Nat.le_of_ble_eq_true rfl) (t1167.rc (by decide)) ⟨_, _, rfl, H1157, t1167, (by omega), (by omega), (rd_cd.st H0 h_0_0 X1178 R1193.1 (by decide)), (R1193.2.2.2.1 rd_at), (rd_bg.stn H0 h_0_0 X1178 R1193 (by decide) (by rw [c1170]; omega) (by omega))⟩ (fun w1194 σ1195 q1196 => ?_)
            obtain ⟨rfl, H1197, e1198, R1199, q1200, q1201⟩ := q1196
            have t1207 := t1167.x e1198
            obtain ⟨x1202, e1203, c1204, h1205, h1206⟩ := cg242 H1197.1 t1207
            obtain ⟨x1208, e1209, c1210, h1211, h1212⟩ := cg243 H1197.1 t1207
            have z1213 := congrArg Int32.toInt c1204
            have z1214 := congrArg Int32.toInt c1210
            refine k_st (st' := []) rfl ?_
            have R1215 : RdC p0 none (-30) (-22) (-1000) σ0 σ1195 := R1193.tr ⟨R1199.1, R1199.2⟩ (by omega) (by omega) (by omega) (by omega)
            have z1216 := R1215.2.2.1
            have z1217 := R1215.2.2.2.1 rd_at
            refine k_aload_n rfl ?_
            have X1218 : ExC [0, 1, 2, 60, 61, 62, 63, 64, 65, 66, 67, 68, 69, 70, 72, 73, 74, 75, 76, 242, 243, 244, 246, 270, 271, 272, 273, 275, 276, 277, 278, 279, 280, 330, 331, 332, 333, 334, 999] σ0 σ1195 := X1178.tr (e1198.mo (by decide))
            refine k_inv (P := P_X7_code) (Q := Q_X7_code) rfl rfl rfl rfl (Nat.le_of_ble_eq_true rfl) (t1207.rc (by decide)) ⟨_, rfl, H1197, t1207, (rd_cd.st H0 h_0_0 X1218 R1215.1 (by decide))⟩ (fun w1219 σ1220 q1221 => ?_)
            obtain ⟨x1222, rfl, rfl, q1223, q1224, q1225, q1226⟩ := q1221
            refine k_st (st' := [.inl x1222]) rfl ?_
            refine k_iconst (m := 1) rfl (fun x1227 h1228 => ?_)
            refine k_ic_eq (fun h1229 => ?_) (fun h1229 => ?_)
            · have h1230 : x1208.toInt = 0 := by omega
              refine hB _ _ _ _ (kgoC (is := KX7_readFor_127) rfl ?_)
              refine k_aload_n rfl ?_
              refine k_iconst (m := 1) rfl (fun x1231 h1232 => ?_)
              have R1233 := R1215.nf (-1000) (-1000) (by rw [c1210]; omega)
              refine k_inv (P := P_X7_expect) (Q := Q_X7_expect) rfl rfl rfl rfl (Nat.le_of_ble_eq_true rfl) (t1207.rc (by decide)) ⟨_, _, rfl, H1197, t1207, (by omega), (by omega), (rd_cd.st H0 h_0_0 X1218 R1233.1 (by decide)), (R1233.2.2.2.1 rd_at), (rd_bg.stn H0 h_0_0 X1218 R1233 (by decide) (by rw [c1210]; omega) (by omega))⟩ (fun w1234 σ1235 q1236 => ?_)
              obtain ⟨rfl, H1237, e1238, R1239, q1240, q1241⟩ := q1236
              have t1247 := t1207.x e1238
              obtain ⟨x1242, e1243, c1244, h1245, h1246⟩ := cg242 H1237.1 t1247
              obtain ⟨x1248, e1249, c1250, h1251, h1252⟩ := cg243 H1237.1 t1247
              have z1253 := congrArg Int32.toInt c1244
              have z1254 := congrArg Int32.toInt c1250
              refine k_st (st' := []) rfl ?_
              have R1255 : RdC p0 none (-38) (-30) (-1000) σ0 σ1235 := R1233.tr ⟨R1239.1, R1239.2⟩ (by omega) (by omega) (by omega) (by omega)
              have z1256 := R1255.2.2.1
              have z1257 := R1255.2.2.2.1 rd_at
              refine k_aload_n rfl ?_
              refine k_aload_n rfl ?_
              refine k_aload_n rfl ?_
              refine k_iload_n rfl ?_
              have t1258 := t101.x e98
              have t1259 := t1258.x e1158
              have t1260 := t1259.x e1198
              have t1261 := t1260.x e1238
              have X1262 : ExC [0, 1, 2, 60, 61, 62, 63, 64, 65, 66, 67, 68, 69, 70, 72, 73, 74, 75, 76, 242, 243, 244, 246, 270, 271, 272, 273, 275, 276, 277, 278, 279, 280, 330, 331, 332, 333, 334, 999] σ0 σ1235 := X1218.tr (e1238.mo (by decide))
              refine k_inv (P := (P_X7_readInner d)) (Q := (Q_X7_readInner d)) rfl rfl rfl rfl (Nat.le_of_ble_eq_true rfl) (t1247.rc (by decide)) ⟨_, _, _, rfl, H1237, t1247, t1261, (by omega), (by omega), (rd_cd.st H0 h_0_0 X1262 R1255.1 (by decide)), (R1255.2.2.2.1 rd_at), (rd_bg.st H0 h_0_0 X1262 R1255 (by decide) (by omega) (by omega) (by omega)), (by omega)⟩ (fun w1263 σ1264 q1265 => ?_)
              obtain ⟨a1266, rfl, H1267, e1268, h1270, R1269, q1271, q1272, q1273, q1274⟩ := q1265
              have t1280 := t1247.x e1268
              obtain ⟨x1275, e1276, c1277, h1278, h1279⟩ := cg242 H1267.1 t1280
              obtain ⟨x1281, e1282, c1283, h1284, h1285⟩ := cg243 H1267.1 t1280
              have z1286 := congrArg Int32.toInt c1277
              have z1287 := congrArg Int32.toInt c1283
              refine k_st (st' := [.inr (.inr (some a1266)), .inr (.inr (some a20))]) rfl ?_
              have z1288 := R1255.1.1
              obtain ⟨x1289, e1290, c1291, h1292, h1293⟩ := cg272 H1267.1 h1270
              rw [c1291] at q1272
              obtain ⟨x1294, e1295, c1296, h1297, h1298⟩ := cg270 H1267.1 h1270
              rw [c1296] at q1273
              have R1299 : RdC p0 none (-38) (-22 + 8 * (d : Int)) (-997) σ0 σ1264 := R1255.tr ⟨R1269.1, R1269.2⟩ (by omega) (by omega) (by omega) (by omega)
              have z1300 := R1299.2.2.1
              have z1301 := R1299.2.2.2.1 rd_at
              have c1302 := (h24.mi e49 (by decide)).trans q26
              have c1303 := (t100.mi e76 (by decide)).trans c1302
              have c1304 := (t101.mi e98 (by decide)).trans c1303
              have c1305 := (t1258.mi e1158 (by decide)).trans c1304
              have c1306 := (t1259.mi e1198 (by decide)).trans c1305
              have c1307 := (t1260.mi e1238 (by decide)).trans c1306
              have c1308 := (t1261.fi e1268 (by decide) (by decide)).trans c1307
              have c1309 := (h24.mi e49 (by decide)).trans q27
              have c1310 := (t100.mi e76 (by decide)).trans c1309
              have c1311 := (t101.mi e98 (by decide)).trans c1310
              have c1312 := (t1258.mi e1158 (by decide)).trans c1311
              have c1313 := (t1259.mi e1198 (by decide)).trans c1312
              have c1314 := (t1260.mi e1238 (by decide)).trans c1313
              have c1315 := (t1261.fi e1268 (by decide) (by decide)).trans c1314
              have z1320 := t1261.1
              have t1321 := t1261.x e1268
              refine k_p276 H1267 t1321 (h1270.ot) (fun z hz => by cases hz; exact ⟨by omega, by unfold LvC; rw [c1308, c1315, c1296, c1291]; omega⟩) (fun σ1316 H1317 e1318 c1319 => ?_)
              refine k_aload_n rfl ?_
              refine k_lload rfl ?_
              have t1322 := t1280.x e1318
              refine k_putL kg245 H1317 t1322 fk245 (fun σ1323 H1324 e1325 c1326 => ?_)
              refine k_aload_n rfl ?_
              refine k_aload_n rfl ?_
              have t1327 := t1322.x e1325
              have t1332 := t38.x e49
              have t1333 := t1332.x e76
              have t1334 := t1333.x e98
              have t1335 := t1334.x e1158
              have t1336 := t1335.x e1198
              have t1337 := t1336.x e1238
              have t1338 := t1337.x e1268
              have t1339 := t1338.x e1318
              have t1340 := t1339.x e1325
              refine k_putR kp246 H1324 t1327 fk246 (rfo246 (t1340)) (fun σ1328 H1329 e1330 c1331 => ?_)
              refine k_aload_n rfl ?_
              refine k_areturn ?_
              have X1341 : ExC [0, 1, 2, 60, 61, 62, 63, 64, 65, 66, 67, 68, 69, 70, 72, 73, 74, 75, 76, 242, 243, 244, 246, 270, 271, 272, 273, 275, 276, 277, 278, 279, 280, 330, 331, 332, 333, 334, 999] σ0 σ1264 := X1262.tr (e1268.mo (by decide))
              have X1342 : ExC [0, 1, 2, 60, 61, 62, 63, 64, 65, 66, 67, 68, 69, 70, 72, 73, 74, 75, 76, 242, 243, 244, 246, 270, 271, 272, 273, 275, 276, 277, 278, 279, 280, 330, 331, 332, 333, 334, 999] σ0 σ1316 := X1341.tr (e1318.mo (by decide))
              have X1343 : ExC [0, 1, 2, 60, 61, 62, 63, 64, 65, 66, 67, 68, 69, 70, 72, 73, 74, 75, 76, 242, 243, 244, 246, 270, 271, 272, 273, 275, 276, 277, 278, 279, 280, 330, 331, 332, 333, 334, 999] σ0 σ1323 := X1342.tr (e1325.mo (by decide))
              have X1344 : ExC [0, 1, 2, 60, 61, 62, 63, 64, 65, 66, 67, 68, 69, 70, 72, 73, 74, 75, 76, 242, 243, 244, 246, 270, 271, 272, 273, 275, 276, 277, 278, 279, 280, 330, 331, 332, 333, 334, 999] σ0 σ1328 := X1343.tr (e1330.mo (by decide))
              have t1345 := t1321.x e1318
              have t1346 := t1345.x e1325
              have t1347 := t1346.x e1330
              have R1348 : RdC p0 none (-38) (-22 + 8 * (d : Int)) (-997) σ0 σ1316 := R1299.tr ⟨(e1318.gw H1267.1 (by decide)), (e1318.cou (u := 0) H1267.1 t1280 (by decide) (by rw [e1318.cn (by decide)]; omega))⟩ (by omega) (by omega) (by omega) (by omega)
              have R1349 : RdC p0 none (-38) (-22 + 8 * (d : Int)) (-997) σ0 σ1323 := R1348.tr ⟨(e1325.gw H1317.1 (by decide)), (e1325.cou (u := 0) H1317.1 t1322 (by decide) (by rw [e1325.cn (by decide)]; omega))⟩ (by omega) (by omega) (by omega) (by omega)
              have R1350 : RdC p0 none (-38) (-22 + 8 * (d : Int)) (-997) σ0 σ1328 := R1349.tr ⟨(e1330.gw H1324.1 (by decide)), (e1330.cou (u := 0) H1324.1 t1327 (by decide) (by rw [e1330.cn (by decide)]; omega))⟩ (by omega) (by omega) (by omega) (by omega)
              have c1351 := (t1280.mi e1318 (by decide)).trans c1283
              have c1352 := (t1322.mi e1325 (by decide)).trans c1351
              have c1353 := (t1327.mi e1330 (by decide)).trans c1352
              have c1354 := (t1280.mi e1318 (by decide)).trans c1277
              have c1355 := (t1322.mi e1325 (by decide)).trans c1354
              have c1356 := (t1327.mi e1330 (by decide)).trans c1355
              have c1357 := (t1321.mi e1318 (by decide)).trans c1315
              have c1358 := (t1345.mi e1325 (by decide)).trans c1357
              have c1359 := (t1346.mi e1330 (by decide)).trans c1358
              have c1360 := (t1321.mi e1318 (by decide)).trans c1308
              have c1361 := (t1345.mi e1325 (by decide)).trans c1360
              have c1362 := (t1346.mi e1330 (by decide)).trans c1361
              have S1391 : ∀ s, ReC σ0 p0 s → ReC σ1328 p0 (forY d (stY (d - 1)) s) := by
                intro s hs
                have y1363 := q28 _ hs
                have y1365 := q52 _ y1363
                have y1367 := q79 _ y1365
                rw [h70] at y1367
                have y1369 := y1367.x H75.1 t85 e98 (by decide)
                have f1370 := q114 _ y1369
                have f1371 := q1128 _ y1369
                have f1372 := q1146 _ y1369
                have y1373 := q1161 _ y1369
                rw [h1152] at y1373
                have f1375 := q1186 _ y1373
                have y1376 := q1201 _ y1373
                rw [h1192] at y1376
                have f1378 := q1226 _ y1376
                have y1379 := q1241 _ y1376
                rw [h1232] at y1379
                have y1381 := q1274 _ y1379
                have y1383 := y1381.x H1267.1 t1280 e1318 (by decide)
                have y1384 := y1383.x H1317.1 t1322 e1325 (by decide)
                have y1385 := y1384.x H1324.1 t1327 e1330 (by decide)
                have g1386 := neY f1370 h122 h121
                have g1387 := nrY f1371 (q1136 (by omega))
                have g1388 := f1372.symm.trans (h1149.trans h1148)
                have g1389 := f1375.symm.trans (h1189.trans h1188)
                have g1390 := f1378.symm.trans (h1229.trans h1228)
                refine y1385.eq ?_
                all_goals try simp only [forY, fo1Y, fo2Y, fo3Y, g1386, g1387, g1388, g1389, g1390, or_false, false_or, or_true, true_or, and_false, false_and, and_true, true_and, not_true, not_false_iff, ↓reduceIte, Int.reduceEq, Int.reduceLE, Int.reduceLT, Int.reduceNeg]
                all_goals first | rfl | (exfalso; omega)
              exact ⟨_, rfl, H1329, X1344, t1347, (R1350.mo (by omega) (by omega) (by omega)), (by omega), (by rw [c1359] <;> omega), (by rw [c1362] <;> omega), S1391⟩
            · refine k_nil ?_
              refine hB _ _ _ _ (kgoC (is := KX7_readFor_118) rfl ?_)
              refine k_aload_n rfl ?_
              refine k_aload_n rfl ?_
              refine k_iload_n rfl ?_
              refine k_inv (P := (P_X7_readForExps d)) (Q := (Q_X7_readForExps d)) rfl rfl rfl rfl (Nat.le_of_ble_eq_true rfl) (t1207.rc (by decide)) ⟨_, _, rfl, H1197, t1207, (by omega), (by omega), (rd_cd.st H0 h_0_0 X1218 R1215.1 (by decide)), (R1215.2.2.2.1 rd_at), (rd_bg.st H0 h_0_0 X1218 R1215 (by decide) (by omega) (by omega) (by omega)), (by omega)⟩ (fun w1392 σ1393 q1394 => ?_)
              obtain ⟨a1395, rfl, H1396, e1397, h1399, R1398, q1400, q1401, q1402, q1403⟩ := q1394
              have t1409 := t1207.x e1397
              obtain ⟨x1404, e1405, c1406, h1407, h1408⟩ := cg242 H1396.1 t1409
              obtain ⟨x1410, e1411, c1412, h1413, h1414⟩ := cg243 H1396.1 t1409
              have z1415 := congrArg Int32.toInt c1406
              have z1416 := congrArg Int32.toInt c1412
              refine k_st (st' := [.inr (.inr (some a1395)), .inr (.inr (some a20))]) rfl ?_
              have z1417 := R1215.1.1
              obtain ⟨x1418, e1419, c1420, h1421, h1422⟩ := cg272 H1396.1 h1399
              rw [c1420] at q1401
              obtain ⟨x1423, e1424, c1425, h1426, h1427⟩ := cg270 H1396.1 h1399
              rw [c1425] at q1402
              have R1428 : RdC p0 none (-28) (-8 + 8 * (d : Int)) (-997) σ0 σ1393 := R1215.tr ⟨R1398.1, R1398.2⟩ (by omega) (by omega) (by omega) (by omega)
              have z1429 := R1428.2.2.1
              have z1430 := R1428.2.2.2.1 rd_at
              have c1431 := (h24.mi e49 (by decide)).trans q26
              have c1432 := (t100.mi e76 (by decide)).trans c1431
              have c1433 := (t101.mi e98 (by decide)).trans c1432
              have t1434 := t101.x e98
              have c1435 := (t1434.mi e1158 (by decide)).trans c1433
              have t1436 := t1434.x e1158
              have c1437 := (t1436.mi e1198 (by decide)).trans c1435
              have t1438 := t1436.x e1198
              have c1439 := (t1438.fi e1397 (by decide) (by decide)).trans c1437
              have c1440 := (h24.mi e49 (by decide)).trans q27
              have c1441 := (t100.mi e76 (by decide)).trans c1440
              have c1442 := (t101.mi e98 (by decide)).trans c1441
              have c1443 := (t1434.mi e1158 (by decide)).trans c1442
              have c1444 := (t1436.mi e1198 (by decide)).trans c1443
              have c1445 := (t1438.fi e1397 (by decide) (by decide)).trans c1444
              have z1450 := t1438.1
              have t1451 := t1438.x e1397
              refine k_p278 H1396 t1451 (h1399.ot) (fun z hz => by cases hz; exact ⟨by omega, by unfold LvC; rw [c1439, c1445, c1425, c1420]; omega⟩) (fun σ1446 H1447 e1448 c1449 => ?_)
              refine k_nil ?_
              refine hB _ _ _ _ (kgoC (is := KX7_readFor_127) rfl ?_)
              refine k_aload_n rfl ?_
              refine k_iconst (m := 1) rfl (fun x1452 h1453 => ?_)
              have t1454 := t1409.x e1448
              have R1455 : RdC p0 none (-28) (-8 + 8 * (d : Int)) (-997) σ0 σ1446 := R1428.tr ⟨(e1448.gw H1396.1 (by decide)), (e1448.cou (u := 0) H1396.1 t1409 (by decide) (by rw [e1448.cn (by decide)]; omega))⟩ (by omega) (by omega) (by omega) (by omega)
              have c1456 := (t1409.mi e1448 (by decide)).trans c1412
              have X1457 : ExC [0, 1, 2, 60, 61, 62, 63, 64, 65, 66, 67, 68, 69, 70, 72, 73, 74, 75, 76, 242, 243, 244, 246, 270, 271, 272, 273, 275, 276, 277, 278, 279, 280, 330, 331, 332, 333, 334, 999] σ0 σ1393 := X1218.tr (e1397.mo (by decide))
              have X1458 : ExC [0, 1, 2, 60, 61, 62, 63, 64, 65, 66, 67, 68, 69, 70, 72, 73, 74, 75, 76, 242, 243, 244, 246, 270, 271, 272, 273, 275, 276, 277, 278, 279, 280, 330, 331, 332, 333, 334, 999] σ0 σ1446 := X1457.tr (e1448.mo (by decide))
              have c1459 := (t1409.mi e1448 (by decide)).trans c1406
              have z1460 := congrArg Int32.toInt c1459
              have z1461 := congrArg Int32.toInt c1456
              refine k_inv (P := P_X7_expect) (Q := Q_X7_expect) rfl rfl rfl rfl (Nat.le_of_ble_eq_true rfl) (t1454.rc (by decide)) ⟨_, _, rfl, H1447, t1454, (by omega), (by omega), (rd_cd.st H0 h_0_0 X1458 R1455.1 (by decide)), (R1455.2.2.2.1 rd_at), (rd_bg.st H0 h_0_0 X1458 R1455 (by decide) (by omega) (by omega) (by omega))⟩ (fun w1462 σ1463 q1464 => ?_)
              obtain ⟨rfl, H1465, e1466, R1467, q1468, q1469⟩ := q1464
              have t1475 := t1454.x e1466
              obtain ⟨x1470, e1471, c1472, h1473, h1474⟩ := cg242 H1465.1 t1475
              obtain ⟨x1476, e1477, c1478, h1479, h1480⟩ := cg243 H1465.1 t1475
              have z1481 := congrArg Int32.toInt c1472
              have z1482 := congrArg Int32.toInt c1478
              refine k_st (st' := []) rfl ?_
              have R1483 : RdC p0 none (-36) (-8 + 8 * (d : Int)) (-997) σ0 σ1463 := R1455.tr ⟨R1467.1, R1467.2⟩ (by omega) (by omega) (by omega) (by omega)
              have z1484 := R1483.2.2.1
              have z1485 := R1483.2.2.2.1 rd_at
              refine k_aload_n rfl ?_
              refine k_aload_n rfl ?_
              refine k_aload_n rfl ?_
              refine k_iload_n rfl ?_
              have t1486 := t1451.x e1448
              have t1487 := t1486.x e1466
              have X1488 : ExC [0, 1, 2, 60, 61, 62, 63, 64, 65, 66, 67, 68, 69, 70, 72, 73, 74, 75, 76, 242, 243, 244, 246, 270, 271, 272, 273, 275, 276, 277, 278, 279, 280, 330, 331, 332, 333, 334, 999] σ0 σ1463 := X1458.tr (e1466.mo (by decide))
              refine k_inv (P := (P_X7_readInner d)) (Q := (Q_X7_readInner d)) rfl rfl rfl rfl (Nat.le_of_ble_eq_true rfl) (t1475.rc (by decide)) ⟨_, _, _, rfl, H1465, t1475, t1487, (by omega), (by omega), (rd_cd.st H0 h_0_0 X1488 R1483.1 (by decide)), (R1483.2.2.2.1 rd_at), (rd_bg.st H0 h_0_0 X1488 R1483 (by decide) (by omega) (by omega) (by omega)), (by omega)⟩ (fun w1489 σ1490 q1491 => ?_)
              obtain ⟨a1492, rfl, H1493, e1494, h1496, R1495, q1497, q1498, q1499, q1500⟩ := q1491
              have t1506 := t1475.x e1494
              obtain ⟨x1501, e1502, c1503, h1504, h1505⟩ := cg242 H1493.1 t1506
              obtain ⟨x1507, e1508, c1509, h1510, h1511⟩ := cg243 H1493.1 t1506
              have z1512 := congrArg Int32.toInt c1503
              have z1513 := congrArg Int32.toInt c1509
              refine k_st (st' := [.inr (.inr (some a1492)), .inr (.inr (some a20))]) rfl ?_
              have z1514 := R1483.1.1
              obtain ⟨x1515, e1516, c1517, h1518, h1519⟩ := cg272 H1493.1 h1496
              rw [c1517] at q1498
              obtain ⟨x1520, e1521, c1522, h1523, h1524⟩ := cg270 H1493.1 h1496
              rw [c1522] at q1499
              have R1525 : RdC p0 none (-36) (-5 + 8 * (d : Int)) (-994) σ0 σ1490 := R1483.tr ⟨R1495.1, R1495.2⟩ (by omega) (by omega) (by omega) (by omega)
              have z1526 := R1525.2.2.1
              have z1527 := R1525.2.2.2.1 rd_at
              have c1528 := (t1451.mi e1448 (by decide)).trans c1439
              have c1529 := (t1486.mi e1466 (by decide)).trans c1528
              have c1530 := (t1487.fi e1494 (by decide) (by decide)).trans c1529
              have c1531 := (t1451.mi e1448 (by decide)).trans c1445
              have c1532 := (t1486.mi e1466 (by decide)).trans c1531
              have c1533 := (t1487.fi e1494 (by decide) (by decide)).trans c1532
              have z1538 := t1487.1
              have t1539 := t1487.x e1494
              refine k_p276 H1493 t1539 (h1496.ot) (fun z hz => by cases hz; exact ⟨by omega, by unfold LvC; rw [c1530, c1533, c1522, c1517]; omega⟩) (fun σ1534 H1535 e1536 c1537 => ?_)
              refine k_aload_n rfl ?_
              refine k_lload rfl ?_
              have t1540 := t1506.x e1536
              refine k_putL kg245 H1535 t1540 fk245 (fun σ1541 H1542 e1543 c1544 => ?_)
              refine k_aload_n rfl ?_
              refine k_aload_n rfl ?_
              have t1545 := t1540.x e1543
              have t1550 := t38.x e49
              have t1551 := t1550.x e76
              have t1552 := t1551.x e98
              have t1553 := t1552.x e1158
              have t1554 := t1553.x e1198
              have t1555 := t1554.x e1397
              have t1556 := t1555.x e1448
              have t1557 := t1556.x e1466
              have t1558 := t1557.x e1494
              have t1559 := t1558.x e1536
              have t1560 := t1559.x e1543
              refine k_putR kp246 H1542 t1545 fk246 (rfo246 (t1560)) (fun σ1546 H1547 e1548 c1549 => ?_)
              refine k_aload_n rfl ?_
              refine k_areturn ?_
              have X1561 : ExC [0, 1, 2, 60, 61, 62, 63, 64, 65, 66, 67, 68, 69, 70, 72, 73, 74, 75, 76, 242, 243, 244, 246, 270, 271, 272, 273, 275, 276, 277, 278, 279, 280, 330, 331, 332, 333, 334, 999] σ0 σ1490 := X1488.tr (e1494.mo (by decide))
              have X1562 : ExC [0, 1, 2, 60, 61, 62, 63, 64, 65, 66, 67, 68, 69, 70, 72, 73, 74, 75, 76, 242, 243, 244, 246, 270, 271, 272, 273, 275, 276, 277, 278, 279, 280, 330, 331, 332, 333, 334, 999] σ0 σ1534 := X1561.tr (e1536.mo (by decide))
              have X1563 : ExC [0, 1, 2, 60, 61, 62, 63, 64, 65, 66, 67, 68, 69, 70, 72, 73, 74, 75, 76, 242, 243, 244, 246, 270, 271, 272, 273, 275, 276, 277, 278, 279, 280, 330, 331, 332, 333, 334, 999] σ0 σ1541 := X1562.tr (e1543.mo (by decide))
              have X1564 : ExC [0, 1, 2, 60, 61, 62, 63, 64, 65, 66, 67, 68, 69, 70, 72, 73, 74, 75, 76, 242, 243, 244, 246, 270, 271, 272, 273, 275, 276, 277, 278, 279, 280, 330, 331, 332, 333, 334, 999] σ0 σ1546 := X1563.tr (e1548.mo (by decide))
              have t1565 := t1539.x e1536
              have t1566 := t1565.x e1543
              have t1567 := t1566.x e1548
              have R1568 : RdC p0 none (-36) (-5 + 8 * (d : Int)) (-994) σ0 σ1534 := R1525.tr ⟨(e1536.gw H1493.1 (by decide)), (e1536.cou (u := 0) H1493.1 t1506 (by decide) (by rw [e1536.cn (by decide)]; omega))⟩ (by omega) (by omega) (by omega) (by omega)
              have R1569 : RdC p0 none (-36) (-5 + 8 * (d : Int)) (-994) σ0 σ1541 := R1568.tr ⟨(e1543.gw H1535.1 (by decide)), (e1543.cou (u := 0) H1535.1 t1540 (by decide) (by rw [e1543.cn (by decide)]; omega))⟩ (by omega) (by omega) (by omega) (by omega)
              have R1570 : RdC p0 none (-36) (-5 + 8 * (d : Int)) (-994) σ0 σ1546 := R1569.tr ⟨(e1548.gw H1542.1 (by decide)), (e1548.cou (u := 0) H1542.1 t1545 (by decide) (by rw [e1548.cn (by decide)]; omega))⟩ (by omega) (by omega) (by omega) (by omega)
              have c1571 := (t1506.mi e1536 (by decide)).trans c1509
              have c1572 := (t1540.mi e1543 (by decide)).trans c1571
              have c1573 := (t1545.mi e1548 (by decide)).trans c1572
              have c1574 := (t1506.mi e1536 (by decide)).trans c1503
              have c1575 := (t1540.mi e1543 (by decide)).trans c1574
              have c1576 := (t1545.mi e1548 (by decide)).trans c1575
              have c1577 := (t1539.mi e1536 (by decide)).trans c1533
              have c1578 := (t1565.mi e1543 (by decide)).trans c1577
              have c1579 := (t1566.mi e1548 (by decide)).trans c1578
              have c1580 := (t1539.mi e1536 (by decide)).trans c1530
              have c1581 := (t1565.mi e1543 (by decide)).trans c1580
              have c1582 := (t1566.mi e1548 (by decide)).trans c1581
              have S1614 : ∀ s, ReC σ0 p0 s → ReC σ1546 p0 (forY d (stY (d - 1)) s) := by
                intro s hs
                have y1583 := q28 _ hs
                have y1585 := q52 _ y1583
                have y1587 := q79 _ y1585
                rw [h70] at y1587
                have y1589 := y1587.x H75.1 t85 e98 (by decide)
                have f1590 := q114 _ y1589
                have f1591 := q1128 _ y1589
                have f1592 := q1146 _ y1589
                have y1593 := q1161 _ y1589
                rw [h1152] at y1593
                have f1595 := q1186 _ y1593
                have y1596 := q1201 _ y1593
                rw [h1192] at y1596
                have f1598 := q1226 _ y1596
                have y1599 := q1403 _ y1596
                have y1601 := y1599.x H1396.1 t1409 e1448 (by decide)
                have y1602 := q1469 _ y1601
                rw [h1453] at y1602
                have y1604 := q1500 _ y1602
                have y1606 := y1604.x H1493.1 t1506 e1536 (by decide)
                have y1607 := y1606.x H1535.1 t1540 e1543 (by decide)
                have y1608 := y1607.x H1542.1 t1545 e1548 (by decide)
                have g1609 := neY f1590 h122 h121
                have g1610 := nrY f1591 (q1136 (by omega))
                have g1611 := f1592.symm.trans (h1149.trans h1148)
                have g1612 := f1595.symm.trans (h1189.trans h1188)
                have g1613 := neY f1598 h1229 h1228
                refine y1608.eq ?_
                all_goals try simp only [forY, fo1Y, fo2Y, fo3Y, g1609, g1610, g1611, g1612, g1613, or_false, false_or, or_true, true_or, and_false, false_and, and_true, true_and, not_true, not_false_iff, ↓reduceIte, Int.reduceEq, Int.reduceLE, Int.reduceLT, Int.reduceNeg]
                all_goals first | rfl | (exfalso; omega)
              exact ⟨_, rfl, H1547, X1564, t1567, (R1570.mo (by omega) (by omega) (by omega)), (by omega), (by rw [c1579] <;> omega), (by rw [c1582] <;> omega), S1614⟩
          · refine k_nil ?_
            refine hB _ _ _ _ (kgoC (is := KX7_readFor_96) rfl ?_)
            refine k_aload_n rfl ?_
            refine k_aload_n rfl ?_
            refine k_iload_n rfl ?_
            refine k_inv (P := (P_X7_readExp d)) (Q := (Q_X7_readExp d)) rfl rfl rfl rfl (Nat.le_of_ble_eq_true rfl) (t1167.rc (by decide)) ⟨_, _, rfl, H1157, t1167, (by omega), (by omega), (rd_cd.st H0 h_0_0 X1178 R1175.1 (by decide)), (R1175.2.2.2.1 rd_at), (rd_bg.st H0 h_0_0 X1178 R1175 (by decide) (by omega) (by omega) (by omega)), (by omega)⟩ (fun w1615 σ1616 q1617 => ?_)
            obtain ⟨a1618, rfl, H1619, e1620, h1622, R1621, q1623, q1624⟩ := q1617
            have t1630 := t1167.x e1620
            obtain ⟨x1625, e1626, c1627, h1628, h1629⟩ := cg242 H1619.1 t1630
            obtain ⟨x1631, e1632, c1633, h1634, h1635⟩ := cg243 H1619.1 t1630
            have z1636 := congrArg Int32.toInt c1627
            have z1637 := congrArg Int32.toInt c1633
            refine k_st (st' := [.inr (.inr (some a1618)), .inr (.inr (some a20))]) rfl ?_
            have z1638 := R1175.1.1
            have R1639 : RdC p0 none (-22) (-2 + 8 * (d : Int)) (-999) σ0 σ1616 := R1175.tr ⟨R1621.1, R1621.2⟩ (by omega) (by omega) (by omega) (by omega)
            have z1640 := R1639.2.2.1
            have z1641 := R1639.2.2.2.1 rd_at
            have t1642 := t101.x e98
            have t1643 := t1642.x e1158
            have t1644 := t1643.x e1620
            refine k_putR kp279 H1619 t1644 fk279 (rf279 h1622) (fun σ1645 H1646 e1647 c1648 => ?_)
            refine k_nil ?_
            refine hB _ _ _ _ (kgoC (is := KX7_readFor_105) rfl ?_)
            refine k_aload_n rfl ?_
            refine k_iconst (m := 4) rfl (fun x1649 h1650 => ?_)
            have t1651 := t1630.x e1647
            have R1652 : RdC p0 none (-22) (-2 + 8 * (d : Int)) (-999) σ0 σ1645 := R1639.tr ⟨(e1647.gw H1619.1 (by decide)), (e1647.cou (u := 0) H1619.1 t1630 (by decide) (by rw [e1647.cn (by decide)]; omega))⟩ (by omega) (by omega) (by omega) (by omega)
            have c1653 := (t1630.mi e1647 (by decide)).trans c1633
            have X1654 : ExC [0, 1, 2, 60, 61, 62, 63, 64, 65, 66, 67, 68, 69, 70, 72, 73, 74, 75, 76, 242, 243, 244, 246, 270, 271, 272, 273, 275, 276, 277, 278, 279, 280, 330, 331, 332, 333, 334, 999] σ0 σ1616 := X1178.tr (e1620.mo (by decide))
            have X1655 : ExC [0, 1, 2, 60, 61, 62, 63, 64, 65, 66, 67, 68, 69, 70, 72, 73, 74, 75, 76, 242, 243, 244, 246, 270, 271, 272, 273, 275, 276, 277, 278, 279, 280, 330, 331, 332, 333, 334, 999] σ0 σ1645 := X1654.tr (e1647.mo (by decide))
            have c1656 := (t1630.mi e1647 (by decide)).trans c1627
            have z1657 := congrArg Int32.toInt c1656
            have z1658 := congrArg Int32.toInt c1653
            refine k_inv (P := P_X7_expect) (Q := Q_X7_expect) rfl rfl rfl rfl (Nat.le_of_ble_eq_true rfl) (t1651.rc (by decide)) ⟨_, _, rfl, H1646, t1651, (by omega), (by omega), (rd_cd.st H0 h_0_0 X1655 R1652.1 (by decide)), (R1652.2.2.2.1 rd_at), (rd_bg.st H0 h_0_0 X1655 R1652 (by decide) (by omega) (by omega) (by omega))⟩ (fun w1659 σ1660 q1661 => ?_)
            obtain ⟨rfl, H1662, e1663, R1664, q1665, q1666⟩ := q1661
            have t1672 := t1651.x e1663
            obtain ⟨x1667, e1668, c1669, h1670, h1671⟩ := cg242 H1662.1 t1672
            obtain ⟨x1673, e1674, c1675, h1676, h1677⟩ := cg243 H1662.1 t1672
            have z1678 := congrArg Int32.toInt c1669
            have z1679 := congrArg Int32.toInt c1675
            refine k_st (st' := []) rfl ?_
            have R1680 : RdC p0 none (-30) (-2 + 8 * (d : Int)) (-999) σ0 σ1660 := R1652.tr ⟨R1664.1, R1664.2⟩ (by omega) (by omega) (by omega) (by omega)
            have z1681 := R1680.2.2.1
            have z1682 := R1680.2.2.2.1 rd_at
            refine k_aload_n rfl ?_
            have X1683 : ExC [0, 1, 2, 60, 61, 62, 63, 64, 65, 66, 67, 68, 69, 70, 72, 73, 74, 75, 76, 242, 243, 244, 246, 270, 271, 272, 273, 275, 276, 277, 278, 279, 280, 330, 331, 332, 333, 334, 999] σ0 σ1660 := X1655.tr (e1663.mo (by decide))
            refine k_inv (P := P_X7_code) (Q := Q_X7_code) rfl rfl rfl rfl (Nat.le_of_ble_eq_true rfl) (t1672.rc (by decide)) ⟨_, rfl, H1662, t1672, (rd_cd.st H0 h_0_0 X1683 R1680.1 (by decide))⟩ (fun w1684 σ1685 q1686 => ?_)
            obtain ⟨x1687, rfl, rfl, q1688, q1689, q1690, q1691⟩ := q1686
            refine k_st (st' := [.inl x1687]) rfl ?_
            refine k_iconst (m := 1) rfl (fun x1692 h1693 => ?_)
            refine k_ic_eq (fun h1694 => ?_) (fun h1694 => ?_)
            · have h1695 : x1673.toInt = 0 := by omega
              refine hB _ _ _ _ (kgoC (is := KX7_readFor_127) rfl ?_)
              refine k_aload_n rfl ?_
              refine k_iconst (m := 1) rfl (fun x1696 h1697 => ?_)
              have R1698 := R1680.nf (-1000) (-1000) (by rw [c1675]; omega)
              refine k_inv (P := P_X7_expect) (Q := Q_X7_expect) rfl rfl rfl rfl (Nat.le_of_ble_eq_true rfl) (t1672.rc (by decide)) ⟨_, _, rfl, H1662, t1672, (by omega), (by omega), (rd_cd.st H0 h_0_0 X1683 R1698.1 (by decide)), (R1698.2.2.2.1 rd_at), (rd_bg.stn H0 h_0_0 X1683 R1698 (by decide) (by rw [c1675]; omega) (by omega))⟩ (fun w1699 σ1700 q1701 => ?_)
              obtain ⟨rfl, H1702, e1703, R1704, q1705, q1706⟩ := q1701
              have t1712 := t1672.x e1703
              obtain ⟨x1707, e1708, c1709, h1710, h1711⟩ := cg242 H1702.1 t1712
              obtain ⟨x1713, e1714, c1715, h1716, h1717⟩ := cg243 H1702.1 t1712
              have z1718 := congrArg Int32.toInt c1709
              have z1719 := congrArg Int32.toInt c1715
              refine k_st (st' := []) rfl ?_
              have R1720 : RdC p0 none (-38) (-30) (-1000) σ0 σ1700 := R1698.tr ⟨R1704.1, R1704.2⟩ (by omega) (by omega) (by omega) (by omega)
              have z1721 := R1720.2.2.1
              have z1722 := R1720.2.2.2.1 rd_at
              refine k_aload_n rfl ?_
              refine k_aload_n rfl ?_
              refine k_aload_n rfl ?_
              refine k_iload_n rfl ?_
              have t1723 := t1644.x e1647
              have t1724 := t1723.x e1663
              have t1725 := t1724.x e1703
              have X1726 : ExC [0, 1, 2, 60, 61, 62, 63, 64, 65, 66, 67, 68, 69, 70, 72, 73, 74, 75, 76, 242, 243, 244, 246, 270, 271, 272, 273, 275, 276, 277, 278, 279, 280, 330, 331, 332, 333, 334, 999] σ0 σ1700 := X1683.tr (e1703.mo (by decide))
              refine k_inv (P := (P_X7_readInner d)) (Q := (Q_X7_readInner d)) rfl rfl rfl rfl (Nat.le_of_ble_eq_true rfl) (t1712.rc (by decide)) ⟨_, _, _, rfl, H1702, t1712, t1725, (by omega), (by omega), (rd_cd.st H0 h_0_0 X1726 R1720.1 (by decide)), (R1720.2.2.2.1 rd_at), (rd_bg.st H0 h_0_0 X1726 R1720 (by decide) (by omega) (by omega) (by omega)), (by omega)⟩ (fun w1727 σ1728 q1729 => ?_)
              obtain ⟨a1730, rfl, H1731, e1732, h1734, R1733, q1735, q1736, q1737, q1738⟩ := q1729
              have t1744 := t1712.x e1732
              obtain ⟨x1739, e1740, c1741, h1742, h1743⟩ := cg242 H1731.1 t1744
              obtain ⟨x1745, e1746, c1747, h1748, h1749⟩ := cg243 H1731.1 t1744
              have z1750 := congrArg Int32.toInt c1741
              have z1751 := congrArg Int32.toInt c1747
              refine k_st (st' := [.inr (.inr (some a1730)), .inr (.inr (some a20))]) rfl ?_
              have z1752 := R1720.1.1
              obtain ⟨x1753, e1754, c1755, h1756, h1757⟩ := cg272 H1731.1 h1734
              rw [c1755] at q1736
              obtain ⟨x1758, e1759, c1760, h1761, h1762⟩ := cg270 H1731.1 h1734
              rw [c1760] at q1737
              have R1763 : RdC p0 none (-38) (-22 + 8 * (d : Int)) (-997) σ0 σ1728 := R1720.tr ⟨R1733.1, R1733.2⟩ (by omega) (by omega) (by omega) (by omega)
              have z1764 := R1763.2.2.1
              have z1765 := R1763.2.2.2.1 rd_at
              have c1766 := (h24.mi e49 (by decide)).trans q26
              have c1767 := (t100.mi e76 (by decide)).trans c1766
              have c1768 := (t101.mi e98 (by decide)).trans c1767
              have c1769 := (t1642.mi e1158 (by decide)).trans c1768
              have c1770 := (t1643.mi e1620 (by decide)).trans c1769
              have c1771 := (t1644.mi e1647 (by decide)).trans c1770
              have c1772 := (t1723.mi e1663 (by decide)).trans c1771
              have c1773 := (t1724.mi e1703 (by decide)).trans c1772
              have c1774 := (t1725.fi e1732 (by decide) (by decide)).trans c1773
              have c1775 := (h24.mi e49 (by decide)).trans q27
              have c1776 := (t100.mi e76 (by decide)).trans c1775
              have c1777 := (t101.mi e98 (by decide)).trans c1776
              have c1778 := (t1642.mi e1158 (by decide)).trans c1777
              have c1779 := (t1643.mi e1620 (by decide)).trans c1778
              have c1780 := (t1644.mi e1647 (by decide)).trans c1779
              have c1781 := (t1723.mi e1663 (by decide)).trans c1780
              have c1782 := (t1724.mi e1703 (by decide)).trans c1781
              have c1783 := (t1725.fi e1732 (by decide) (by decide)).trans c1782
              have z1788 := t1725.1
              have t1789 := t1725.x e1732
              refine k_p276 H1731 t1789 (h1734.ot) (fun z hz => by cases hz; exact ⟨by omega, by unfold LvC; rw [c1774, c1783, c1760, c1755]; omega⟩) (fun σ1784 H1785 e1786 c1787 => ?_)
              refine k_aload_n rfl ?_
              refine k_lload rfl ?_
              have t1790 := t1744.x e1786
              refine k_putL kg245 H1785 t1790 fk245 (fun σ1791 H1792 e1793 c1794 => ?_)
              refine k_aload_n rfl ?_
              refine k_aload_n rfl ?_
              have t1795 := t1790.x e1793
              have t1800 := t38.x e49
              have t1801 := t1800.x e76
              have t1802 := t1801.x e98
              have t1803 := t1802.x e1158
              have t1804 := t1803.x e1620
              have t1805 := t1804.x e1647
              have t1806 := t1805.x e1663
              have t1807 := t1806.x e1703
              have t1808 := t1807.x e1732
              have t1809 := t1808.x e1786
              have t1810 := t1809.x e1793
              refine k_putR kp246 H1792 t1795 fk246 (rfo246 (t1810)) (fun σ1796 H1797 e1798 c1799 => ?_)
              refine k_aload_n rfl ?_
              refine k_areturn ?_
              have X1811 : ExC [0, 1, 2, 60, 61, 62, 63, 64, 65, 66, 67, 68, 69, 70, 72, 73, 74, 75, 76, 242, 243, 244, 246, 270, 271, 272, 273, 275, 276, 277, 278, 279, 280, 330, 331, 332, 333, 334, 999] σ0 σ1728 := X1726.tr (e1732.mo (by decide))
              have X1812 : ExC [0, 1, 2, 60, 61, 62, 63, 64, 65, 66, 67, 68, 69, 70, 72, 73, 74, 75, 76, 242, 243, 244, 246, 270, 271, 272, 273, 275, 276, 277, 278, 279, 280, 330, 331, 332, 333, 334, 999] σ0 σ1784 := X1811.tr (e1786.mo (by decide))
              have X1813 : ExC [0, 1, 2, 60, 61, 62, 63, 64, 65, 66, 67, 68, 69, 70, 72, 73, 74, 75, 76, 242, 243, 244, 246, 270, 271, 272, 273, 275, 276, 277, 278, 279, 280, 330, 331, 332, 333, 334, 999] σ0 σ1791 := X1812.tr (e1793.mo (by decide))
              have X1814 : ExC [0, 1, 2, 60, 61, 62, 63, 64, 65, 66, 67, 68, 69, 70, 72, 73, 74, 75, 76, 242, 243, 244, 246, 270, 271, 272, 273, 275, 276, 277, 278, 279, 280, 330, 331, 332, 333, 334, 999] σ0 σ1796 := X1813.tr (e1798.mo (by decide))
              have t1815 := t1789.x e1786
              have t1816 := t1815.x e1793
              have t1817 := t1816.x e1798
              have R1818 : RdC p0 none (-38) (-22 + 8 * (d : Int)) (-997) σ0 σ1784 := R1763.tr ⟨(e1786.gw H1731.1 (by decide)), (e1786.cou (u := 0) H1731.1 t1744 (by decide) (by rw [e1786.cn (by decide)]; omega))⟩ (by omega) (by omega) (by omega) (by omega)
              have R1819 : RdC p0 none (-38) (-22 + 8 * (d : Int)) (-997) σ0 σ1791 := R1818.tr ⟨(e1793.gw H1785.1 (by decide)), (e1793.cou (u := 0) H1785.1 t1790 (by decide) (by rw [e1793.cn (by decide)]; omega))⟩ (by omega) (by omega) (by omega) (by omega)
              have R1820 : RdC p0 none (-38) (-22 + 8 * (d : Int)) (-997) σ0 σ1796 := R1819.tr ⟨(e1798.gw H1792.1 (by decide)), (e1798.cou (u := 0) H1792.1 t1795 (by decide) (by rw [e1798.cn (by decide)]; omega))⟩ (by omega) (by omega) (by omega) (by omega)
              have c1821 := (t1744.mi e1786 (by decide)).trans c1747
              have c1822 := (t1790.mi e1793 (by decide)).trans c1821
              have c1823 := (t1795.mi e1798 (by decide)).trans c1822
              have c1824 := (t1744.mi e1786 (by decide)).trans c1741
              have c1825 := (t1790.mi e1793 (by decide)).trans c1824
              have c1826 := (t1795.mi e1798 (by decide)).trans c1825
              have c1827 := (t1789.mi e1786 (by decide)).trans c1783
              have c1828 := (t1815.mi e1793 (by decide)).trans c1827
              have c1829 := (t1816.mi e1798 (by decide)).trans c1828
              have c1830 := (t1789.mi e1786 (by decide)).trans c1774
              have c1831 := (t1815.mi e1793 (by decide)).trans c1830
              have c1832 := (t1816.mi e1798 (by decide)).trans c1831
              have S1864 : ∀ s, ReC σ0 p0 s → ReC σ1796 p0 (forY d (stY (d - 1)) s) := by
                intro s hs
                have y1833 := q28 _ hs
                have y1835 := q52 _ y1833
                have y1837 := q79 _ y1835
                rw [h70] at y1837
                have y1839 := y1837.x H75.1 t85 e98 (by decide)
                have f1840 := q114 _ y1839
                have f1841 := q1128 _ y1839
                have f1842 := q1146 _ y1839
                have y1843 := q1161 _ y1839
                rw [h1152] at y1843
                have f1845 := q1186 _ y1843
                have y1846 := q1624 _ y1843
                have y1848 := y1846.x H1619.1 t1630 e1647 (by decide)
                have y1849 := q1666 _ y1848
                rw [h1650] at y1849
                have f1851 := q1691 _ y1849
                have y1852 := q1706 _ y1849
                rw [h1697] at y1852
                have y1854 := q1738 _ y1852
                have y1856 := y1854.x H1731.1 t1744 e1786 (by decide)
                have y1857 := y1856.x H1785.1 t1790 e1793 (by decide)
                have y1858 := y1857.x H1792.1 t1795 e1798 (by decide)
                have g1859 := neY f1840 h122 h121
                have g1860 := nrY f1841 (q1136 (by omega))
                have g1861 := f1842.symm.trans (h1149.trans h1148)
                have g1862 := neY f1845 h1189 h1188
                have g1863 := f1851.symm.trans (h1694.trans h1693)
                refine y1858.eq ?_
                all_goals try simp only [forY, fo1Y, fo2Y, fo3Y, g1859, g1860, g1861, g1862, g1863, or_false, false_or, or_true, true_or, and_false, false_and, and_true, true_and, not_true, not_false_iff, ↓reduceIte, Int.reduceEq, Int.reduceLE, Int.reduceLT, Int.reduceNeg]
                all_goals first | rfl | (exfalso; omega)
              exact ⟨_, rfl, H1797, X1814, t1817, (R1820.mo (by omega) (by omega) (by omega)), (by omega), (by rw [c1829] <;> omega), (by rw [c1832] <;> omega), S1864⟩
            · refine k_nil ?_
              refine hB _ _ _ _ (kgoC (is := KX7_readFor_118) rfl ?_)
              refine k_aload_n rfl ?_
              refine k_aload_n rfl ?_
              refine k_iload_n rfl ?_
              refine k_inv (P := (P_X7_readForExps d)) (Q := (Q_X7_readForExps d)) rfl rfl rfl rfl (Nat.le_of_ble_eq_true rfl) (t1672.rc (by decide)) ⟨_, _, rfl, H1662, t1672, (by omega), (by omega), (rd_cd.st H0 h_0_0 X1683 R1680.1 (by decide)), (R1680.2.2.2.1 rd_at), (rd_bg.st H0 h_0_0 X1683 R1680 (by decide) (by omega) (by omega) (by omega)), (by omega)⟩ (fun w1865 σ1866 q1867 => ?_)
              obtain ⟨a1868, rfl, H1869, e1870, h1872, R1871, q1873, q1874, q1875, q1876⟩ := q1867
              have t1882 := t1672.x e1870
              obtain ⟨x1877, e1878, c1879, h1880, h1881⟩ := cg242 H1869.1 t1882
              obtain ⟨x1883, e1884, c1885, h1886, h1887⟩ := cg243 H1869.1 t1882
              have z1888 := congrArg Int32.toInt c1879
              have z1889 := congrArg Int32.toInt c1885
              refine k_st (st' := [.inr (.inr (some a1868)), .inr (.inr (some a20))]) rfl ?_
              have z1890 := R1680.1.1
              obtain ⟨x1891, e1892, c1893, h1894, h1895⟩ := cg272 H1869.1 h1872
              rw [c1893] at q1874
              obtain ⟨x1896, e1897, c1898, h1899, h1900⟩ := cg270 H1869.1 h1872
              rw [c1898] at q1875
              have R1901 : RdC p0 none (-28) (1 + 8 * (d : Int)) (-996) σ0 σ1866 := R1680.tr ⟨R1871.1, R1871.2⟩ (by omega) (by omega) (by omega) (by omega)
              have z1902 := R1901.2.2.1
              have z1903 := R1901.2.2.2.1 rd_at
              have c1904 := (h24.mi e49 (by decide)).trans q26
              have c1905 := (t100.mi e76 (by decide)).trans c1904
              have c1906 := (t101.mi e98 (by decide)).trans c1905
              have c1907 := (t1642.mi e1158 (by decide)).trans c1906
              have c1908 := (t1643.mi e1620 (by decide)).trans c1907
              have c1909 := (t1644.mi e1647 (by decide)).trans c1908
              have t1910 := t1644.x e1647
              have c1911 := (t1910.mi e1663 (by decide)).trans c1909
              have t1912 := t1910.x e1663
              have c1913 := (t1912.fi e1870 (by decide) (by decide)).trans c1911
              have c1914 := (h24.mi e49 (by decide)).trans q27
              have c1915 := (t100.mi e76 (by decide)).trans c1914
              have c1916 := (t101.mi e98 (by decide)).trans c1915
              have c1917 := (t1642.mi e1158 (by decide)).trans c1916
              have c1918 := (t1643.mi e1620 (by decide)).trans c1917
              have c1919 := (t1644.mi e1647 (by decide)).trans c1918
              have c1920 := (t1910.mi e1663 (by decide)).trans c1919
              have c1921 := (t1912.fi e1870 (by decide) (by decide)).trans c1920
              have z1926 := t1912.1
              have t1927 := t1912.x e1870
              refine k_p278 H1869 t1927 (h1872.ot) (fun z hz => by cases hz; exact ⟨by omega, by unfold LvC; rw [c1913, c1921, c1898, c1893]; omega⟩) (fun σ1922 H1923 e1924 c1925 => ?_)
              refine k_nil ?_
              refine hB _ _ _ _ (kgoC (is := KX7_readFor_127) rfl ?_)
              refine k_aload_n rfl ?_
              refine k_iconst (m := 1) rfl (fun x1928 h1929 => ?_)
              have t1930 := t1882.x e1924
              have R1931 : RdC p0 none (-28) (1 + 8 * (d : Int)) (-996) σ0 σ1922 := R1901.tr ⟨(e1924.gw H1869.1 (by decide)), (e1924.cou (u := 0) H1869.1 t1882 (by decide) (by rw [e1924.cn (by decide)]; omega))⟩ (by omega) (by omega) (by omega) (by omega)
              have c1932 := (t1882.mi e1924 (by decide)).trans c1885
              have X1933 : ExC [0, 1, 2, 60, 61, 62, 63, 64, 65, 66, 67, 68, 69, 70, 72, 73, 74, 75, 76, 242, 243, 244, 246, 270, 271, 272, 273, 275, 276, 277, 278, 279, 280, 330, 331, 332, 333, 334, 999] σ0 σ1866 := X1683.tr (e1870.mo (by decide))
              have X1934 : ExC [0, 1, 2, 60, 61, 62, 63, 64, 65, 66, 67, 68, 69, 70, 72, 73, 74, 75, 76, 242, 243, 244, 246, 270, 271, 272, 273, 275, 276, 277, 278, 279, 280, 330, 331, 332, 333, 334, 999] σ0 σ1922 := X1933.tr (e1924.mo (by decide))
              have c1935 := (t1882.mi e1924 (by decide)).trans c1879
              have z1936 := congrArg Int32.toInt c1935
              have z1937 := congrArg Int32.toInt c1932
              refine k_inv (P := P_X7_expect) (Q := Q_X7_expect) rfl rfl rfl rfl (Nat.le_of_ble_eq_true rfl) (t1930.rc (by decide)) ⟨_, _, rfl, H1923, t1930, (by omega), (by omega), (rd_cd.st H0 h_0_0 X1934 R1931.1 (by decide)), (R1931.2.2.2.1 rd_at), (rd_bg.st H0 h_0_0 X1934 R1931 (by decide) (by omega) (by omega) (by omega))⟩ (fun w1938 σ1939 q1940 => ?_)
              obtain ⟨rfl, H1941, e1942, R1943, q1944, q1945⟩ := q1940
              have t1951 := t1930.x e1942
              obtain ⟨x1946, e1947, c1948, h1949, h1950⟩ := cg242 H1941.1 t1951
              obtain ⟨x1952, e1953, c1954, h1955, h1956⟩ := cg243 H1941.1 t1951
              have z1957 := congrArg Int32.toInt c1948
              have z1958 := congrArg Int32.toInt c1954
              refine k_st (st' := []) rfl ?_
              have R1959 : RdC p0 none (-36) (1 + 8 * (d : Int)) (-996) σ0 σ1939 := R1931.tr ⟨R1943.1, R1943.2⟩ (by omega) (by omega) (by omega) (by omega)
              have z1960 := R1959.2.2.1
              have z1961 := R1959.2.2.2.1 rd_at
              refine k_aload_n rfl ?_
              refine k_aload_n rfl ?_
              refine k_aload_n rfl ?_
              refine k_iload_n rfl ?_
              have t1962 := t1927.x e1924
              have t1963 := t1962.x e1942
              have X1964 : ExC [0, 1, 2, 60, 61, 62, 63, 64, 65, 66, 67, 68, 69, 70, 72, 73, 74, 75, 76, 242, 243, 244, 246, 270, 271, 272, 273, 275, 276, 277, 278, 279, 280, 330, 331, 332, 333, 334, 999] σ0 σ1939 := X1934.tr (e1942.mo (by decide))
              refine k_inv (P := (P_X7_readInner d)) (Q := (Q_X7_readInner d)) rfl rfl rfl rfl (Nat.le_of_ble_eq_true rfl) (t1951.rc (by decide)) ⟨_, _, _, rfl, H1941, t1951, t1963, (by omega), (by omega), (rd_cd.st H0 h_0_0 X1964 R1959.1 (by decide)), (R1959.2.2.2.1 rd_at), (rd_bg.st H0 h_0_0 X1964 R1959 (by decide) (by omega) (by omega) (by omega)), (by omega)⟩ (fun w1965 σ1966 q1967 => ?_)
              obtain ⟨a1968, rfl, H1969, e1970, h1972, R1971, q1973, q1974, q1975, q1976⟩ := q1967
              have t1982 := t1951.x e1970
              obtain ⟨x1977, e1978, c1979, h1980, h1981⟩ := cg242 H1969.1 t1982
              obtain ⟨x1983, e1984, c1985, h1986, h1987⟩ := cg243 H1969.1 t1982
              have z1988 := congrArg Int32.toInt c1979
              have z1989 := congrArg Int32.toInt c1985
              refine k_st (st' := [.inr (.inr (some a1968)), .inr (.inr (some a20))]) rfl ?_
              have z1990 := R1959.1.1
              obtain ⟨x1991, e1992, c1993, h1994, h1995⟩ := cg272 H1969.1 h1972
              rw [c1993] at q1974
              obtain ⟨x1996, e1997, c1998, h1999, h2000⟩ := cg270 H1969.1 h1972
              rw [c1998] at q1975
              have R2001 : RdC p0 none (-36) (4 + 8 * (d : Int)) (-993) σ0 σ1966 := R1959.tr ⟨R1971.1, R1971.2⟩ (by omega) (by omega) (by omega) (by omega)
              have z2002 := R2001.2.2.1
              have z2003 := R2001.2.2.2.1 rd_at
              have c2004 := (t1927.mi e1924 (by decide)).trans c1913
              have c2005 := (t1962.mi e1942 (by decide)).trans c2004
              have c2006 := (t1963.fi e1970 (by decide) (by decide)).trans c2005
              have c2007 := (t1927.mi e1924 (by decide)).trans c1921
              have c2008 := (t1962.mi e1942 (by decide)).trans c2007
              have c2009 := (t1963.fi e1970 (by decide) (by decide)).trans c2008
              have z2014 := t1963.1
              have t2015 := t1963.x e1970
              refine k_p276 H1969 t2015 (h1972.ot) (fun z hz => by cases hz; exact ⟨by omega, by unfold LvC; rw [c2006, c2009, c1998, c1993]; omega⟩) (fun σ2010 H2011 e2012 c2013 => ?_)
              refine k_aload_n rfl ?_
              refine k_lload rfl ?_
              have t2016 := t1982.x e2012
              refine k_putL kg245 H2011 t2016 fk245 (fun σ2017 H2018 e2019 c2020 => ?_)
              refine k_aload_n rfl ?_
              refine k_aload_n rfl ?_
              have t2021 := t2016.x e2019
              have t2026 := t38.x e49
              have t2027 := t2026.x e76
              have t2028 := t2027.x e98
              have t2029 := t2028.x e1158
              have t2030 := t2029.x e1620
              have t2031 := t2030.x e1647
              have t2032 := t2031.x e1663
              have t2033 := t2032.x e1870
              have t2034 := t2033.x e1924
              have t2035 := t2034.x e1942
              have t2036 := t2035.x e1970
              have t2037 := t2036.x e2012
              have t2038 := t2037.x e2019
              refine k_putR kp246 H2018 t2021 fk246 (rfo246 (t2038)) (fun σ2022 H2023 e2024 c2025 => ?_)
              refine k_aload_n rfl ?_
              refine k_areturn ?_
              have X2039 : ExC [0, 1, 2, 60, 61, 62, 63, 64, 65, 66, 67, 68, 69, 70, 72, 73, 74, 75, 76, 242, 243, 244, 246, 270, 271, 272, 273, 275, 276, 277, 278, 279, 280, 330, 331, 332, 333, 334, 999] σ0 σ1966 := X1964.tr (e1970.mo (by decide))
              have X2040 : ExC [0, 1, 2, 60, 61, 62, 63, 64, 65, 66, 67, 68, 69, 70, 72, 73, 74, 75, 76, 242, 243, 244, 246, 270, 271, 272, 273, 275, 276, 277, 278, 279, 280, 330, 331, 332, 333, 334, 999] σ0 σ2010 := X2039.tr (e2012.mo (by decide))
              have X2041 : ExC [0, 1, 2, 60, 61, 62, 63, 64, 65, 66, 67, 68, 69, 70, 72, 73, 74, 75, 76, 242, 243, 244, 246, 270, 271, 272, 273, 275, 276, 277, 278, 279, 280, 330, 331, 332, 333, 334, 999] σ0 σ2017 := X2040.tr (e2019.mo (by decide))
              have X2042 : ExC [0, 1, 2, 60, 61, 62, 63, 64, 65, 66, 67, 68, 69, 70, 72, 73, 74, 75, 76, 242, 243, 244, 246, 270, 271, 272, 273, 275, 276, 277, 278, 279, 280, 330, 331, 332, 333, 334, 999] σ0 σ2022 := X2041.tr (e2024.mo (by decide))
              have t2043 := t2015.x e2012
              have t2044 := t2043.x e2019
              have t2045 := t2044.x e2024
              have R2046 : RdC p0 none (-36) (4 + 8 * (d : Int)) (-993) σ0 σ2010 := R2001.tr ⟨(e2012.gw H1969.1 (by decide)), (e2012.cou (u := 0) H1969.1 t1982 (by decide) (by rw [e2012.cn (by decide)]; omega))⟩ (by omega) (by omega) (by omega) (by omega)
              have R2047 : RdC p0 none (-36) (4 + 8 * (d : Int)) (-993) σ0 σ2017 := R2046.tr ⟨(e2019.gw H2011.1 (by decide)), (e2019.cou (u := 0) H2011.1 t2016 (by decide) (by rw [e2019.cn (by decide)]; omega))⟩ (by omega) (by omega) (by omega) (by omega)
              have R2048 : RdC p0 none (-36) (4 + 8 * (d : Int)) (-993) σ0 σ2022 := R2047.tr ⟨(e2024.gw H2018.1 (by decide)), (e2024.cou (u := 0) H2018.1 t2021 (by decide) (by rw [e2024.cn (by decide)]; omega))⟩ (by omega) (by omega) (by omega) (by omega)
              have c2049 := (t1982.mi e2012 (by decide)).trans c1985
              have c2050 := (t2016.mi e2019 (by decide)).trans c2049
              have c2051 := (t2021.mi e2024 (by decide)).trans c2050
              have c2052 := (t1982.mi e2012 (by decide)).trans c1979
              have c2053 := (t2016.mi e2019 (by decide)).trans c2052
              have c2054 := (t2021.mi e2024 (by decide)).trans c2053
              have c2055 := (t2015.mi e2012 (by decide)).trans c2009
              have c2056 := (t2043.mi e2019 (by decide)).trans c2055
              have c2057 := (t2044.mi e2024 (by decide)).trans c2056
              have c2058 := (t2015.mi e2012 (by decide)).trans c2006
              have c2059 := (t2043.mi e2019 (by decide)).trans c2058
              have c2060 := (t2044.mi e2024 (by decide)).trans c2059
              have S2095 : ∀ s, ReC σ0 p0 s → ReC σ2022 p0 (forY d (stY (d - 1)) s) := by
                intro s hs
                have y2061 := q28 _ hs
                have y2063 := q52 _ y2061
                have y2065 := q79 _ y2063
                rw [h70] at y2065
                have y2067 := y2065.x H75.1 t85 e98 (by decide)
                have f2068 := q114 _ y2067
                have f2069 := q1128 _ y2067
                have f2070 := q1146 _ y2067
                have y2071 := q1161 _ y2067
                rw [h1152] at y2071
                have f2073 := q1186 _ y2071
                have y2074 := q1624 _ y2071
                have y2076 := y2074.x H1619.1 t1630 e1647 (by decide)
                have y2077 := q1666 _ y2076
                rw [h1650] at y2077
                have f2079 := q1691 _ y2077
                have y2080 := q1876 _ y2077
                have y2082 := y2080.x H1869.1 t1882 e1924 (by decide)
                have y2083 := q1945 _ y2082
                rw [h1929] at y2083
                have y2085 := q1976 _ y2083
                have y2087 := y2085.x H1969.1 t1982 e2012 (by decide)
                have y2088 := y2087.x H2011.1 t2016 e2019 (by decide)
                have y2089 := y2088.x H2018.1 t2021 e2024 (by decide)
                have g2090 := neY f2068 h122 h121
                have g2091 := nrY f2069 (q1136 (by omega))
                have g2092 := f2070.symm.trans (h1149.trans h1148)
                have g2093 := neY f2073 h1189 h1188
                have g2094 := neY f2079 h1694 h1693
                refine y2089.eq ?_
                all_goals try simp only [forY, fo1Y, fo2Y, fo3Y, g2090, g2091, g2092, g2093, g2094, or_false, false_or, or_true, true_or, and_false, false_and, and_true, true_and, not_true, not_false_iff, ↓reduceIte, Int.reduceEq, Int.reduceLE, Int.reduceLT, Int.reduceNeg]
                all_goals first | rfl | (exfalso; omega)
              exact ⟨_, rfl, H2023, X2042, t2045, (R2048.mo (by omega) (by omega) (by omega)), (by omega), (by rw [c2057] <;> omega), (by rw [c2060] <;> omega), S2095⟩
        · refine k_nil ?_
          refine hB _ _ _ _ (kgoC (is := KX7_readFor_74) rfl ?_)
          refine k_aload_n rfl ?_
          refine k_aload_n rfl ?_
          refine k_iload_n rfl ?_
          refine k_inv (P := (P_X7_readForExps d)) (Q := (Q_X7_readForExps d)) rfl rfl rfl rfl (Nat.le_of_ble_eq_true rfl) (t102.rc (by decide)) ⟨_, _, rfl, H97, t102, (by omega), (by omega), (rd_cd.st H0 h_0_0 X106 R103.1 (by decide)), (R103.2.2.2.1 rd_at), (rd_bg.st H0 h_0_0 X106 R103 (by decide) (by omega) (by omega) (by omega)), (by omega)⟩ (fun w2096 σ2097 q2098 => ?_)
          obtain ⟨a2099, rfl, H2100, e2101, h2103, R2102, q2104, q2105, q2106, q2107⟩ := q2098
          have t2113 := t102.x e2101
          obtain ⟨x2108, e2109, c2110, h2111, h2112⟩ := cg242 H2100.1 t2113
          obtain ⟨x2114, e2115, c2116, h2117, h2118⟩ := cg243 H2100.1 t2113
          have z2119 := congrArg Int32.toInt c2110
          have z2120 := congrArg Int32.toInt c2116
          refine k_st (st' := [.inr (.inr (some a2099)), .inr (.inr (some a20))]) rfl ?_
          have z2121 := R103.1.1
          obtain ⟨x2122, e2123, c2124, h2125, h2126⟩ := cg272 H2100.1 h2103
          rw [c2124] at q2105
          obtain ⟨x2127, e2128, c2129, h2130, h2131⟩ := cg270 H2100.1 h2103
          rw [c2129] at q2106
          have R2132 : RdC p0 none (-12) (8 + 8 * (d : Int)) (-997) σ0 σ2097 := R103.tr ⟨R2102.1, R2102.2⟩ (by omega) (by omega) (by omega) (by omega)
          have z2133 := R2132.2.2.1
          have z2134 := R2132.2.2.2.1 rd_at
          have c2135 := (h24.mi e49 (by decide)).trans q26
          have c2136 := (t100.mi e76 (by decide)).trans c2135
          have c2137 := (t101.mi e98 (by decide)).trans c2136
          have t2138 := t101.x e98
          have c2139 := (t2138.fi e2101 (by decide) (by decide)).trans c2137
          have c2140 := (h24.mi e49 (by decide)).trans q27
          have c2141 := (t100.mi e76 (by decide)).trans c2140
          have c2142 := (t101.mi e98 (by decide)).trans c2141
          have c2143 := (t2138.fi e2101 (by decide) (by decide)).trans c2142
          have z2148 := t2138.1
          have t2149 := t2138.x e2101
          refine k_p277 H2100 t2149 (h2103.ot) (fun z hz => by cases hz; exact ⟨by omega, by unfold LvC; rw [c2139, c2143, c2129, c2124]; omega⟩) (fun σ2144 H2145 e2146 c2147 => ?_)
          refine k_nil ?_
          refine hB _ _ _ _ (kgoC (is := KX7_readFor_83) rfl ?_)
          refine k_aload_n rfl ?_
          refine k_iconst (m := 4) rfl (fun x2150 h2151 => ?_)
          have t2152 := t2113.x e2146
          have R2153 : RdC p0 none (-12) (8 + 8 * (d : Int)) (-997) σ0 σ2144 := R2132.tr ⟨(e2146.gw H2100.1 (by decide)), (e2146.cou (u := 0) H2100.1 t2113 (by decide) (by rw [e2146.cn (by decide)]; omega))⟩ (by omega) (by omega) (by omega) (by omega)
          have c2154 := (t2113.mi e2146 (by decide)).trans c2116
          have X2155 : ExC [0, 1, 2, 60, 61, 62, 63, 64, 65, 66, 67, 68, 69, 70, 72, 73, 74, 75, 76, 242, 243, 244, 246, 270, 271, 272, 273, 275, 276, 277, 278, 279, 280, 330, 331, 332, 333, 334, 999] σ0 σ2097 := X106.tr (e2101.mo (by decide))
          have X2156 : ExC [0, 1, 2, 60, 61, 62, 63, 64, 65, 66, 67, 68, 69, 70, 72, 73, 74, 75, 76, 242, 243, 244, 246, 270, 271, 272, 273, 275, 276, 277, 278, 279, 280, 330, 331, 332, 333, 334, 999] σ0 σ2144 := X2155.tr (e2146.mo (by decide))
          have c2157 := (t2113.mi e2146 (by decide)).trans c2110
          have z2158 := congrArg Int32.toInt c2157
          have z2159 := congrArg Int32.toInt c2154
          refine k_inv (P := P_X7_expect) (Q := Q_X7_expect) rfl rfl rfl rfl (Nat.le_of_ble_eq_true rfl) (t2152.rc (by decide)) ⟨_, _, rfl, H2145, t2152, (by omega), (by omega), (rd_cd.st H0 h_0_0 X2156 R2153.1 (by decide)), (R2153.2.2.2.1 rd_at), (rd_bg.st H0 h_0_0 X2156 R2153 (by decide) (by omega) (by omega) (by omega))⟩ (fun w2160 σ2161 q2162 => ?_)
          obtain ⟨rfl, H2163, e2164, R2165, q2166, q2167⟩ := q2162
          have t2173 := t2152.x e2164
          obtain ⟨x2168, e2169, c2170, h2171, h2172⟩ := cg242 H2163.1 t2173
          obtain ⟨x2174, e2175, c2176, h2177, h2178⟩ := cg243 H2163.1 t2173
          have z2179 := congrArg Int32.toInt c2170
          have z2180 := congrArg Int32.toInt c2176
          refine k_st (st' := []) rfl ?_
          have R2181 : RdC p0 none (-20) (8 + 8 * (d : Int)) (-997) σ0 σ2161 := R2153.tr ⟨R2165.1, R2165.2⟩ (by omega) (by omega) (by omega) (by omega)
          have z2182 := R2181.2.2.1
          have z2183 := R2181.2.2.2.1 rd_at
          refine k_aload_n rfl ?_
          have X2184 : ExC [0, 1, 2, 60, 61, 62, 63, 64, 65, 66, 67, 68, 69, 70, 72, 73, 74, 75, 76, 242, 243, 244, 246, 270, 271, 272, 273, 275, 276, 277, 278, 279, 280, 330, 331, 332, 333, 334, 999] σ0 σ2161 := X2156.tr (e2164.mo (by decide))
          refine k_inv (P := P_X7_code) (Q := Q_X7_code) rfl rfl rfl rfl (Nat.le_of_ble_eq_true rfl) (t2173.rc (by decide)) ⟨_, rfl, H2163, t2173, (rd_cd.st H0 h_0_0 X2184 R2181.1 (by decide))⟩ (fun w2185 σ2186 q2187 => ?_)
          obtain ⟨x2188, rfl, rfl, q2189, q2190, q2191, q2192⟩ := q2187
          refine k_st (st' := [.inl x2188]) rfl ?_
          refine k_iconst (m := 4) rfl (fun x2193 h2194 => ?_)
          refine k_ic_eq (fun h2195 => ?_) (fun h2195 => ?_)
          · have h2196 : x2174.toInt = 0 := by omega
            refine hB _ _ _ _ (kgoC (is := KX7_readFor_105) rfl ?_)
            refine k_aload_n rfl ?_
            refine k_iconst (m := 4) rfl (fun x2197 h2198 => ?_)
            have R2199 := R2181.nf (-1000) (-1000) (by rw [c2176]; omega)
            refine k_inv (P := P_X7_expect) (Q := Q_X7_expect) rfl rfl rfl rfl (Nat.le_of_ble_eq_true rfl) (t2173.rc (by decide)) ⟨_, _, rfl, H2163, t2173, (by omega), (by omega), (rd_cd.st H0 h_0_0 X2184 R2199.1 (by decide)), (R2199.2.2.2.1 rd_at), (rd_bg.stn H0 h_0_0 X2184 R2199 (by decide) (by rw [c2176]; omega) (by omega))⟩ (fun w2200 σ2201 q2202 => ?_)
            obtain ⟨rfl, H2203, e2204, R2205, q2206, q2207⟩ := q2202
            have t2213 := t2173.x e2204
            obtain ⟨x2208, e2209, c2210, h2211, h2212⟩ := cg242 H2203.1 t2213
            obtain ⟨x2214, e2215, c2216, h2217, h2218⟩ := cg243 H2203.1 t2213
            have z2219 := congrArg Int32.toInt c2210
            have z2220 := congrArg Int32.toInt c2216
            refine k_st (st' := []) rfl ?_
            have R2221 : RdC p0 none (-28) (-20) (-1000) σ0 σ2201 := R2199.tr ⟨R2205.1, R2205.2⟩ (by omega) (by omega) (by omega) (by omega)
            have z2222 := R2221.2.2.1
            have z2223 := R2221.2.2.2.1 rd_at
            refine k_aload_n rfl ?_
            have X2224 : ExC [0, 1, 2, 60, 61, 62, 63, 64, 65, 66, 67, 68, 69, 70, 72, 73, 74, 75, 76, 242, 243, 244, 246, 270, 271, 272, 273, 275, 276, 277, 278, 279, 280, 330, 331, 332, 333, 334, 999] σ0 σ2201 := X2184.tr (e2204.mo (by decide))
            refine k_inv (P := P_X7_code) (Q := Q_X7_code) rfl rfl rfl rfl (Nat.le_of_ble_eq_true rfl) (t2213.rc (by decide)) ⟨_, rfl, H2203, t2213, (rd_cd.st H0 h_0_0 X2224 R2221.1 (by decide))⟩ (fun w2225 σ2226 q2227 => ?_)
            obtain ⟨x2228, rfl, rfl, q2229, q2230, q2231, q2232⟩ := q2227
            refine k_st (st' := [.inl x2228]) rfl ?_
            refine k_iconst (m := 1) rfl (fun x2233 h2234 => ?_)
            refine k_ic_eq (fun h2235 => ?_) (fun h2235 => ?_)
            · have h2236 : x2214.toInt = 0 := by omega
              refine hB _ _ _ _ (kgoC (is := KX7_readFor_127) rfl ?_)
              refine k_aload_n rfl ?_
              refine k_iconst (m := 1) rfl (fun x2237 h2238 => ?_)
              have R2239 := R2221.nf (-1000) (-1000) (by rw [c2216]; omega)
              refine k_inv (P := P_X7_expect) (Q := Q_X7_expect) rfl rfl rfl rfl (Nat.le_of_ble_eq_true rfl) (t2213.rc (by decide)) ⟨_, _, rfl, H2203, t2213, (by omega), (by omega), (rd_cd.st H0 h_0_0 X2224 R2239.1 (by decide)), (R2239.2.2.2.1 rd_at), (rd_bg.stn H0 h_0_0 X2224 R2239 (by decide) (by rw [c2216]; omega) (by omega))⟩ (fun w2240 σ2241 q2242 => ?_)
              obtain ⟨rfl, H2243, e2244, R2245, q2246, q2247⟩ := q2242
              have t2253 := t2213.x e2244
              obtain ⟨x2248, e2249, c2250, h2251, h2252⟩ := cg242 H2243.1 t2253
              obtain ⟨x2254, e2255, c2256, h2257, h2258⟩ := cg243 H2243.1 t2253
              have z2259 := congrArg Int32.toInt c2250
              have z2260 := congrArg Int32.toInt c2256
              refine k_st (st' := []) rfl ?_
              have R2261 : RdC p0 none (-36) (-28) (-1000) σ0 σ2241 := R2239.tr ⟨R2245.1, R2245.2⟩ (by omega) (by omega) (by omega) (by omega)
              have z2262 := R2261.2.2.1
              have z2263 := R2261.2.2.2.1 rd_at
              refine k_aload_n rfl ?_
              refine k_aload_n rfl ?_
              refine k_aload_n rfl ?_
              refine k_iload_n rfl ?_
              have t2264 := t2149.x e2146
              have t2265 := t2264.x e2164
              have t2266 := t2265.x e2204
              have t2267 := t2266.x e2244
              have X2268 : ExC [0, 1, 2, 60, 61, 62, 63, 64, 65, 66, 67, 68, 69, 70, 72, 73, 74, 75, 76, 242, 243, 244, 246, 270, 271, 272, 273, 275, 276, 277, 278, 279, 280, 330, 331, 332, 333, 334, 999] σ0 σ2241 := X2224.tr (e2244.mo (by decide))
              refine k_inv (P := (P_X7_readInner d)) (Q := (Q_X7_readInner d)) rfl rfl rfl rfl (Nat.le_of_ble_eq_true rfl) (t2253.rc (by decide)) ⟨_, _, _, rfl, H2243, t2253, t2267, (by omega), (by omega), (rd_cd.st H0 h_0_0 X2268 R2261.1 (by decide)), (R2261.2.2.2.1 rd_at), (rd_bg.st H0 h_0_0 X2268 R2261 (by decide) (by omega) (by omega) (by omega)), (by omega)⟩ (fun w2269 σ2270 q2271 => ?_)
              obtain ⟨a2272, rfl, H2273, e2274, h2276, R2275, q2277, q2278, q2279, q2280⟩ := q2271
              have t2286 := t2253.x e2274
              obtain ⟨x2281, e2282, c2283, h2284, h2285⟩ := cg242 H2273.1 t2286
              obtain ⟨x2287, e2288, c2289, h2290, h2291⟩ := cg243 H2273.1 t2286
              have z2292 := congrArg Int32.toInt c2283
              have z2293 := congrArg Int32.toInt c2289
              refine k_st (st' := [.inr (.inr (some a2272)), .inr (.inr (some a20))]) rfl ?_
              have z2294 := R2261.1.1
              obtain ⟨x2295, e2296, c2297, h2298, h2299⟩ := cg272 H2273.1 h2276
              rw [c2297] at q2278
              obtain ⟨x2300, e2301, c2302, h2303, h2304⟩ := cg270 H2273.1 h2276
              rw [c2302] at q2279
              have R2305 : RdC p0 none (-36) (-20 + 8 * (d : Int)) (-997) σ0 σ2270 := R2261.tr ⟨R2275.1, R2275.2⟩ (by omega) (by omega) (by omega) (by omega)
              have z2306 := R2305.2.2.1
              have z2307 := R2305.2.2.2.1 rd_at
              have c2308 := (t2149.mi e2146 (by decide)).trans c2139
              have c2309 := (t2264.mi e2164 (by decide)).trans c2308
              have c2310 := (t2265.mi e2204 (by decide)).trans c2309
              have c2311 := (t2266.mi e2244 (by decide)).trans c2310
              have c2312 := (t2267.fi e2274 (by decide) (by decide)).trans c2311
              have c2313 := (t2149.mi e2146 (by decide)).trans c2143
              have c2314 := (t2264.mi e2164 (by decide)).trans c2313
              have c2315 := (t2265.mi e2204 (by decide)).trans c2314
              have c2316 := (t2266.mi e2244 (by decide)).trans c2315
              have c2317 := (t2267.fi e2274 (by decide) (by decide)).trans c2316
              have z2322 := t2267.1
              have t2323 := t2267.x e2274
              refine k_p276 H2273 t2323 (h2276.ot) (fun z hz => by cases hz; exact ⟨by omega, by unfold LvC; rw [c2312, c2317, c2302, c2297]; omega⟩) (fun σ2318 H2319 e2320 c2321 => ?_)
              refine k_aload_n rfl ?_
              refine k_lload rfl ?_
              have t2324 := t2286.x e2320
              refine k_putL kg245 H2319 t2324 fk245 (fun σ2325 H2326 e2327 c2328 => ?_)
              refine k_aload_n rfl ?_
              refine k_aload_n rfl ?_
              have t2329 := t2324.x e2327
              have t2334 := t38.x e49
              have t2335 := t2334.x e76
              have t2336 := t2335.x e98
              have t2337 := t2336.x e2101
              have t2338 := t2337.x e2146
              have t2339 := t2338.x e2164
              have t2340 := t2339.x e2204
              have t2341 := t2340.x e2244
              have t2342 := t2341.x e2274
              have t2343 := t2342.x e2320
              have t2344 := t2343.x e2327
              refine k_putR kp246 H2326 t2329 fk246 (rfo246 (t2344)) (fun σ2330 H2331 e2332 c2333 => ?_)
              refine k_aload_n rfl ?_
              refine k_areturn ?_
              have X2345 : ExC [0, 1, 2, 60, 61, 62, 63, 64, 65, 66, 67, 68, 69, 70, 72, 73, 74, 75, 76, 242, 243, 244, 246, 270, 271, 272, 273, 275, 276, 277, 278, 279, 280, 330, 331, 332, 333, 334, 999] σ0 σ2270 := X2268.tr (e2274.mo (by decide))
              have X2346 : ExC [0, 1, 2, 60, 61, 62, 63, 64, 65, 66, 67, 68, 69, 70, 72, 73, 74, 75, 76, 242, 243, 244, 246, 270, 271, 272, 273, 275, 276, 277, 278, 279, 280, 330, 331, 332, 333, 334, 999] σ0 σ2318 := X2345.tr (e2320.mo (by decide))
              have X2347 : ExC [0, 1, 2, 60, 61, 62, 63, 64, 65, 66, 67, 68, 69, 70, 72, 73, 74, 75, 76, 242, 243, 244, 246, 270, 271, 272, 273, 275, 276, 277, 278, 279, 280, 330, 331, 332, 333, 334, 999] σ0 σ2325 := X2346.tr (e2327.mo (by decide))
              have X2348 : ExC [0, 1, 2, 60, 61, 62, 63, 64, 65, 66, 67, 68, 69, 70, 72, 73, 74, 75, 76, 242, 243, 244, 246, 270, 271, 272, 273, 275, 276, 277, 278, 279, 280, 330, 331, 332, 333, 334, 999] σ0 σ2330 := X2347.tr (e2332.mo (by decide))
              have t2349 := t2323.x e2320
              have t2350 := t2349.x e2327
              have t2351 := t2350.x e2332
              have R2352 : RdC p0 none (-36) (-20 + 8 * (d : Int)) (-997) σ0 σ2318 := R2305.tr ⟨(e2320.gw H2273.1 (by decide)), (e2320.cou (u := 0) H2273.1 t2286 (by decide) (by rw [e2320.cn (by decide)]; omega))⟩ (by omega) (by omega) (by omega) (by omega)
              have R2353 : RdC p0 none (-36) (-20 + 8 * (d : Int)) (-997) σ0 σ2325 := R2352.tr ⟨(e2327.gw H2319.1 (by decide)), (e2327.cou (u := 0) H2319.1 t2324 (by decide) (by rw [e2327.cn (by decide)]; omega))⟩ (by omega) (by omega) (by omega) (by omega)
              have R2354 : RdC p0 none (-36) (-20 + 8 * (d : Int)) (-997) σ0 σ2330 := R2353.tr ⟨(e2332.gw H2326.1 (by decide)), (e2332.cou (u := 0) H2326.1 t2329 (by decide) (by rw [e2332.cn (by decide)]; omega))⟩ (by omega) (by omega) (by omega) (by omega)
              have c2355 := (t2286.mi e2320 (by decide)).trans c2289
              have c2356 := (t2324.mi e2327 (by decide)).trans c2355
              have c2357 := (t2329.mi e2332 (by decide)).trans c2356
              have c2358 := (t2286.mi e2320 (by decide)).trans c2283
              have c2359 := (t2324.mi e2327 (by decide)).trans c2358
              have c2360 := (t2329.mi e2332 (by decide)).trans c2359
              have c2361 := (t2323.mi e2320 (by decide)).trans c2317
              have c2362 := (t2349.mi e2327 (by decide)).trans c2361
              have c2363 := (t2350.mi e2332 (by decide)).trans c2362
              have c2364 := (t2323.mi e2320 (by decide)).trans c2312
              have c2365 := (t2349.mi e2327 (by decide)).trans c2364
              have c2366 := (t2350.mi e2332 (by decide)).trans c2365
              have S2398 : ∀ s, ReC σ0 p0 s → ReC σ2330 p0 (forY d (stY (d - 1)) s) := by
                intro s hs
                have y2367 := q28 _ hs
                have y2369 := q52 _ y2367
                have y2371 := q79 _ y2369
                rw [h70] at y2371
                have y2373 := y2371.x H75.1 t85 e98 (by decide)
                have f2374 := q114 _ y2373
                have f2375 := q1128 _ y2373
                have f2376 := q1146 _ y2373
                have y2377 := q2107 _ y2373
                have y2379 := y2377.x H2100.1 t2113 e2146 (by decide)
                have y2380 := q2167 _ y2379
                rw [h2151] at y2380
                have f2382 := q2192 _ y2380
                have y2383 := q2207 _ y2380
                rw [h2198] at y2383
                have f2385 := q2232 _ y2383
                have y2386 := q2247 _ y2383
                rw [h2238] at y2386
                have y2388 := q2280 _ y2386
                have y2390 := y2388.x H2273.1 t2286 e2320 (by decide)
                have y2391 := y2390.x H2319.1 t2324 e2327 (by decide)
                have y2392 := y2391.x H2326.1 t2329 e2332 (by decide)
                have g2393 := neY f2374 h122 h121
                have g2394 := nrY f2375 (q1136 (by omega))
                have g2395 := neY f2376 h1149 h1148
                have g2396 := f2382.symm.trans (h2195.trans h2194)
                have g2397 := f2385.symm.trans (h2235.trans h2234)
                refine y2392.eq ?_
                all_goals try simp only [forY, fo1Y, fo2Y, fo3Y, g2393, g2394, g2395, g2396, g2397, or_false, false_or, or_true, true_or, and_false, false_and, and_true, true_and, not_true, not_false_iff, ↓reduceIte, Int.reduceEq, Int.reduceLE, Int.reduceLT, Int.reduceNeg]
                all_goals first | rfl | (exfalso; omega)
              exact ⟨_, rfl, H2331, X2348, t2351, (R2354.mo (by omega) (by omega) (by omega)), (by omega), (by rw [c2363] <;> omega), (by rw [c2366] <;> omega), S2398⟩
            · refine k_nil ?_
              refine hB _ _ _ _ (kgoC (is := KX7_readFor_118) rfl ?_)
              refine k_aload_n rfl ?_
              refine k_aload_n rfl ?_
              refine k_iload_n rfl ?_
              refine k_inv (P := (P_X7_readForExps d)) (Q := (Q_X7_readForExps d)) rfl rfl rfl rfl (Nat.le_of_ble_eq_true rfl) (t2213.rc (by decide)) ⟨_, _, rfl, H2203, t2213, (by omega), (by omega), (rd_cd.st H0 h_0_0 X2224 R2221.1 (by decide)), (R2221.2.2.2.1 rd_at), (rd_bg.st H0 h_0_0 X2224 R2221 (by decide) (by omega) (by omega) (by omega)), (by omega)⟩ (fun w2399 σ2400 q2401 => ?_)
              obtain ⟨a2402, rfl, H2403, e2404, h2406, R2405, q2407, q2408, q2409, q2410⟩ := q2401
              have t2416 := t2213.x e2404
              obtain ⟨x2411, e2412, c2413, h2414, h2415⟩ := cg242 H2403.1 t2416
              obtain ⟨x2417, e2418, c2419, h2420, h2421⟩ := cg243 H2403.1 t2416
              have z2422 := congrArg Int32.toInt c2413
              have z2423 := congrArg Int32.toInt c2419
              refine k_st (st' := [.inr (.inr (some a2402)), .inr (.inr (some a20))]) rfl ?_
              have z2424 := R2221.1.1
              obtain ⟨x2425, e2426, c2427, h2428, h2429⟩ := cg272 H2403.1 h2406
              rw [c2427] at q2408
              obtain ⟨x2430, e2431, c2432, h2433, h2434⟩ := cg270 H2403.1 h2406
              rw [c2432] at q2409
              have R2435 : RdC p0 none (-26) (-6 + 8 * (d : Int)) (-997) σ0 σ2400 := R2221.tr ⟨R2405.1, R2405.2⟩ (by omega) (by omega) (by omega) (by omega)
              have z2436 := R2435.2.2.1
              have z2437 := R2435.2.2.2.1 rd_at
              have c2438 := (t2149.mi e2146 (by decide)).trans c2139
              have t2439 := t2149.x e2146
              have c2440 := (t2439.mi e2164 (by decide)).trans c2438
              have t2441 := t2439.x e2164
              have c2442 := (t2441.mi e2204 (by decide)).trans c2440
              have t2443 := t2441.x e2204
              have c2444 := (t2443.fi e2404 (by decide) (by decide)).trans c2442
              have c2445 := (t2149.mi e2146 (by decide)).trans c2143
              have c2446 := (t2439.mi e2164 (by decide)).trans c2445
              have c2447 := (t2441.mi e2204 (by decide)).trans c2446
              have c2448 := (t2443.fi e2404 (by decide) (by decide)).trans c2447
              have z2453 := t2443.1
              have t2454 := t2443.x e2404
              refine k_p278 H2403 t2454 (h2406.ot) (fun z hz => by cases hz; exact ⟨by omega, by unfold LvC; rw [c2444, c2448, c2432, c2427]; omega⟩) (fun σ2449 H2450 e2451 c2452 => ?_)
              refine k_nil ?_
              refine hB _ _ _ _ (kgoC (is := KX7_readFor_127) rfl ?_)
              refine k_aload_n rfl ?_
              refine k_iconst (m := 1) rfl (fun x2455 h2456 => ?_)
              have t2457 := t2416.x e2451
              have R2458 : RdC p0 none (-26) (-6 + 8 * (d : Int)) (-997) σ0 σ2449 := R2435.tr ⟨(e2451.gw H2403.1 (by decide)), (e2451.cou (u := 0) H2403.1 t2416 (by decide) (by rw [e2451.cn (by decide)]; omega))⟩ (by omega) (by omega) (by omega) (by omega)
              have c2459 := (t2416.mi e2451 (by decide)).trans c2419
              have X2460 : ExC [0, 1, 2, 60, 61, 62, 63, 64, 65, 66, 67, 68, 69, 70, 72, 73, 74, 75, 76, 242, 243, 244, 246, 270, 271, 272, 273, 275, 276, 277, 278, 279, 280, 330, 331, 332, 333, 334, 999] σ0 σ2400 := X2224.tr (e2404.mo (by decide))
              have X2461 : ExC [0, 1, 2, 60, 61, 62, 63, 64, 65, 66, 67, 68, 69, 70, 72, 73, 74, 75, 76, 242, 243, 244, 246, 270, 271, 272, 273, 275, 276, 277, 278, 279, 280, 330, 331, 332, 333, 334, 999] σ0 σ2449 := X2460.tr (e2451.mo (by decide))
              have c2462 := (t2416.mi e2451 (by decide)).trans c2413
              have z2463 := congrArg Int32.toInt c2462
              have z2464 := congrArg Int32.toInt c2459
              refine k_inv (P := P_X7_expect) (Q := Q_X7_expect) rfl rfl rfl rfl (Nat.le_of_ble_eq_true rfl) (t2457.rc (by decide)) ⟨_, _, rfl, H2450, t2457, (by omega), (by omega), (rd_cd.st H0 h_0_0 X2461 R2458.1 (by decide)), (R2458.2.2.2.1 rd_at), (rd_bg.st H0 h_0_0 X2461 R2458 (by decide) (by omega) (by omega) (by omega))⟩ (fun w2465 σ2466 q2467 => ?_)
              obtain ⟨rfl, H2468, e2469, R2470, q2471, q2472⟩ := q2467
              have t2478 := t2457.x e2469
              obtain ⟨x2473, e2474, c2475, h2476, h2477⟩ := cg242 H2468.1 t2478
              obtain ⟨x2479, e2480, c2481, h2482, h2483⟩ := cg243 H2468.1 t2478
              have z2484 := congrArg Int32.toInt c2475
              have z2485 := congrArg Int32.toInt c2481
              refine k_st (st' := []) rfl ?_
              have R2486 : RdC p0 none (-34) (-6 + 8 * (d : Int)) (-997) σ0 σ2466 := R2458.tr ⟨R2470.1, R2470.2⟩ (by omega) (by omega) (by omega) (by omega)
              have z2487 := R2486.2.2.1
              have z2488 := R2486.2.2.2.1 rd_at
              refine k_aload_n rfl ?_
              refine k_aload_n rfl ?_
              refine k_aload_n rfl ?_
              refine k_iload_n rfl ?_
              have t2489 := t2454.x e2451
              have t2490 := t2489.x e2469
              have X2491 : ExC [0, 1, 2, 60, 61, 62, 63, 64, 65, 66, 67, 68, 69, 70, 72, 73, 74, 75, 76, 242, 243, 244, 246, 270, 271, 272, 273, 275, 276, 277, 278, 279, 280, 330, 331, 332, 333, 334, 999] σ0 σ2466 := X2461.tr (e2469.mo (by decide))
              refine k_inv (P := (P_X7_readInner d)) (Q := (Q_X7_readInner d)) rfl rfl rfl rfl (Nat.le_of_ble_eq_true rfl) (t2478.rc (by decide)) ⟨_, _, _, rfl, H2468, t2478, t2490, (by omega), (by omega), (rd_cd.st H0 h_0_0 X2491 R2486.1 (by decide)), (R2486.2.2.2.1 rd_at), (rd_bg.st H0 h_0_0 X2491 R2486 (by decide) (by omega) (by omega) (by omega)), (by omega)⟩ (fun w2492 σ2493 q2494 => ?_)
              obtain ⟨a2495, rfl, H2496, e2497, h2499, R2498, q2500, q2501, q2502, q2503⟩ := q2494
              have t2509 := t2478.x e2497
              obtain ⟨x2504, e2505, c2506, h2507, h2508⟩ := cg242 H2496.1 t2509
              obtain ⟨x2510, e2511, c2512, h2513, h2514⟩ := cg243 H2496.1 t2509
              have z2515 := congrArg Int32.toInt c2506
              have z2516 := congrArg Int32.toInt c2512
              refine k_st (st' := [.inr (.inr (some a2495)), .inr (.inr (some a20))]) rfl ?_
              have z2517 := R2486.1.1
              obtain ⟨x2518, e2519, c2520, h2521, h2522⟩ := cg272 H2496.1 h2499
              rw [c2520] at q2501
              obtain ⟨x2523, e2524, c2525, h2526, h2527⟩ := cg270 H2496.1 h2499
              rw [c2525] at q2502
              have R2528 : RdC p0 none (-34) (-3 + 8 * (d : Int)) (-994) σ0 σ2493 := R2486.tr ⟨R2498.1, R2498.2⟩ (by omega) (by omega) (by omega) (by omega)
              have z2529 := R2528.2.2.1
              have z2530 := R2528.2.2.2.1 rd_at
              have c2531 := (t2454.mi e2451 (by decide)).trans c2444
              have c2532 := (t2489.mi e2469 (by decide)).trans c2531
              have c2533 := (t2490.fi e2497 (by decide) (by decide)).trans c2532
              have c2534 := (t2454.mi e2451 (by decide)).trans c2448
              have c2535 := (t2489.mi e2469 (by decide)).trans c2534
              have c2536 := (t2490.fi e2497 (by decide) (by decide)).trans c2535
              have z2541 := t2490.1
              have t2542 := t2490.x e2497
              refine k_p276 H2496 t2542 (h2499.ot) (fun z hz => by cases hz; exact ⟨by omega, by unfold LvC; rw [c2533, c2536, c2525, c2520]; omega⟩) (fun σ2537 H2538 e2539 c2540 => ?_)
              refine k_aload_n rfl ?_
              refine k_lload rfl ?_
              have t2543 := t2509.x e2539
              refine k_putL kg245 H2538 t2543 fk245 (fun σ2544 H2545 e2546 c2547 => ?_)
              refine k_aload_n rfl ?_
              refine k_aload_n rfl ?_
              have t2548 := t2543.x e2546
              have t2553 := t38.x e49
              have t2554 := t2553.x e76
              have t2555 := t2554.x e98
              have t2556 := t2555.x e2101
              have t2557 := t2556.x e2146
              have t2558 := t2557.x e2164
              have t2559 := t2558.x e2204
              have t2560 := t2559.x e2404
              have t2561 := t2560.x e2451
              have t2562 := t2561.x e2469
              have t2563 := t2562.x e2497
              have t2564 := t2563.x e2539
              have t2565 := t2564.x e2546
              refine k_putR kp246 H2545 t2548 fk246 (rfo246 (t2565)) (fun σ2549 H2550 e2551 c2552 => ?_)
              refine k_aload_n rfl ?_
              refine k_areturn ?_
              have X2566 : ExC [0, 1, 2, 60, 61, 62, 63, 64, 65, 66, 67, 68, 69, 70, 72, 73, 74, 75, 76, 242, 243, 244, 246, 270, 271, 272, 273, 275, 276, 277, 278, 279, 280, 330, 331, 332, 333, 334, 999] σ0 σ2493 := X2491.tr (e2497.mo (by decide))
              have X2567 : ExC [0, 1, 2, 60, 61, 62, 63, 64, 65, 66, 67, 68, 69, 70, 72, 73, 74, 75, 76, 242, 243, 244, 246, 270, 271, 272, 273, 275, 276, 277, 278, 279, 280, 330, 331, 332, 333, 334, 999] σ0 σ2537 := X2566.tr (e2539.mo (by decide))
              have X2568 : ExC [0, 1, 2, 60, 61, 62, 63, 64, 65, 66, 67, 68, 69, 70, 72, 73, 74, 75, 76, 242, 243, 244, 246, 270, 271, 272, 273, 275, 276, 277, 278, 279, 280, 330, 331, 332, 333, 334, 999] σ0 σ2544 := X2567.tr (e2546.mo (by decide))
              have X2569 : ExC [0, 1, 2, 60, 61, 62, 63, 64, 65, 66, 67, 68, 69, 70, 72, 73, 74, 75, 76, 242, 243, 244, 246, 270, 271, 272, 273, 275, 276, 277, 278, 279, 280, 330, 331, 332, 333, 334, 999] σ0 σ2549 := X2568.tr (e2551.mo (by decide))
              have t2570 := t2542.x e2539
              have t2571 := t2570.x e2546
              have t2572 := t2571.x e2551
              have R2573 : RdC p0 none (-34) (-3 + 8 * (d : Int)) (-994) σ0 σ2537 := R2528.tr ⟨(e2539.gw H2496.1 (by decide)), (e2539.cou (u := 0) H2496.1 t2509 (by decide) (by rw [e2539.cn (by decide)]; omega))⟩ (by omega) (by omega) (by omega) (by omega)
              have R2574 : RdC p0 none (-34) (-3 + 8 * (d : Int)) (-994) σ0 σ2544 := R2573.tr ⟨(e2546.gw H2538.1 (by decide)), (e2546.cou (u := 0) H2538.1 t2543 (by decide) (by rw [e2546.cn (by decide)]; omega))⟩ (by omega) (by omega) (by omega) (by omega)
              have R2575 : RdC p0 none (-34) (-3 + 8 * (d : Int)) (-994) σ0 σ2549 := R2574.tr ⟨(e2551.gw H2545.1 (by decide)), (e2551.cou (u := 0) H2545.1 t2548 (by decide) (by rw [e2551.cn (by decide)]; omega))⟩ (by omega) (by omega) (by omega) (by omega)
              have c2576 := (t2509.mi e2539 (by decide)).trans c2512
              have c2577 := (t2543.mi e2546 (by decide)).trans c2576
              have c2578 := (t2548.mi e2551 (by decide)).trans c2577
              have c2579 := (t2509.mi e2539 (by decide)).trans c2506
              have c2580 := (t2543.mi e2546 (by decide)).trans c2579
              have c2581 := (t2548.mi e2551 (by decide)).trans c2580
              have c2582 := (t2542.mi e2539 (by decide)).trans c2536
              have c2583 := (t2570.mi e2546 (by decide)).trans c2582
              have c2584 := (t2571.mi e2551 (by decide)).trans c2583
              have c2585 := (t2542.mi e2539 (by decide)).trans c2533
              have c2586 := (t2570.mi e2546 (by decide)).trans c2585
              have c2587 := (t2571.mi e2551 (by decide)).trans c2586
              have S2622 : ∀ s, ReC σ0 p0 s → ReC σ2549 p0 (forY d (stY (d - 1)) s) := by
                intro s hs
                have y2588 := q28 _ hs
                have y2590 := q52 _ y2588
                have y2592 := q79 _ y2590
                rw [h70] at y2592
                have y2594 := y2592.x H75.1 t85 e98 (by decide)
                have f2595 := q114 _ y2594
                have f2596 := q1128 _ y2594
                have f2597 := q1146 _ y2594
                have y2598 := q2107 _ y2594
                have y2600 := y2598.x H2100.1 t2113 e2146 (by decide)
                have y2601 := q2167 _ y2600
                rw [h2151] at y2601
                have f2603 := q2192 _ y2601
                have y2604 := q2207 _ y2601
                rw [h2198] at y2604
                have f2606 := q2232 _ y2604
                have y2607 := q2410 _ y2604
                have y2609 := y2607.x H2403.1 t2416 e2451 (by decide)
                have y2610 := q2472 _ y2609
                rw [h2456] at y2610
                have y2612 := q2503 _ y2610
                have y2614 := y2612.x H2496.1 t2509 e2539 (by decide)
                have y2615 := y2614.x H2538.1 t2543 e2546 (by decide)
                have y2616 := y2615.x H2545.1 t2548 e2551 (by decide)
                have g2617 := neY f2595 h122 h121
                have g2618 := nrY f2596 (q1136 (by omega))
                have g2619 := neY f2597 h1149 h1148
                have g2620 := f2603.symm.trans (h2195.trans h2194)
                have g2621 := neY f2606 h2235 h2234
                refine y2616.eq ?_
                all_goals try simp only [forY, fo1Y, fo2Y, fo3Y, g2617, g2618, g2619, g2620, g2621, or_false, false_or, or_true, true_or, and_false, false_and, and_true, true_and, not_true, not_false_iff, ↓reduceIte, Int.reduceEq, Int.reduceLE, Int.reduceLT, Int.reduceNeg]
                all_goals first | rfl | (exfalso; omega)
              exact ⟨_, rfl, H2550, X2569, t2572, (R2575.mo (by omega) (by omega) (by omega)), (by omega), (by rw [c2584] <;> omega), (by rw [c2587] <;> omega), S2622⟩
          · refine k_nil ?_
            refine hB _ _ _ _ (kgoC (is := KX7_readFor_96) rfl ?_)
            refine k_aload_n rfl ?_
            refine k_aload_n rfl ?_
            refine k_iload_n rfl ?_
            refine k_inv (P := (P_X7_readExp d)) (Q := (Q_X7_readExp d)) rfl rfl rfl rfl (Nat.le_of_ble_eq_true rfl) (t2173.rc (by decide)) ⟨_, _, rfl, H2163, t2173, (by omega), (by omega), (rd_cd.st H0 h_0_0 X2184 R2181.1 (by decide)), (R2181.2.2.2.1 rd_at), (rd_bg.st H0 h_0_0 X2184 R2181 (by decide) (by omega) (by omega) (by omega)), (by omega)⟩ (fun w2623 σ2624 q2625 => ?_)
            obtain ⟨a2626, rfl, H2627, e2628, h2630, R2629, q2631, q2632⟩ := q2625
            have t2638 := t2173.x e2628
            obtain ⟨x2633, e2634, c2635, h2636, h2637⟩ := cg242 H2627.1 t2638
            obtain ⟨x2639, e2640, c2641, h2642, h2643⟩ := cg243 H2627.1 t2638
            have z2644 := congrArg Int32.toInt c2635
            have z2645 := congrArg Int32.toInt c2641
            refine k_st (st' := [.inr (.inr (some a2626)), .inr (.inr (some a20))]) rfl ?_
            have z2646 := R2181.1.1
            have R2647 : RdC p0 none (-20) (9 + 8 * (d : Int)) (-996) σ0 σ2624 := R2181.tr ⟨R2629.1, R2629.2⟩ (by omega) (by omega) (by omega) (by omega)
            have z2648 := R2647.2.2.1
            have z2649 := R2647.2.2.2.1 rd_at
            have t2650 := t2149.x e2146
            have t2651 := t2650.x e2164
            have t2652 := t2651.x e2628
            refine k_putR kp279 H2627 t2652 fk279 (rf279 h2630) (fun σ2653 H2654 e2655 c2656 => ?_)
            refine k_nil ?_
            refine hB _ _ _ _ (kgoC (is := KX7_readFor_105) rfl ?_)
            refine k_aload_n rfl ?_
            refine k_iconst (m := 4) rfl (fun x2657 h2658 => ?_)
            have t2659 := t2638.x e2655
            have R2660 : RdC p0 none (-20) (9 + 8 * (d : Int)) (-996) σ0 σ2653 := R2647.tr ⟨(e2655.gw H2627.1 (by decide)), (e2655.cou (u := 0) H2627.1 t2638 (by decide) (by rw [e2655.cn (by decide)]; omega))⟩ (by omega) (by omega) (by omega) (by omega)
            have c2661 := (t2638.mi e2655 (by decide)).trans c2641
            have X2662 : ExC [0, 1, 2, 60, 61, 62, 63, 64, 65, 66, 67, 68, 69, 70, 72, 73, 74, 75, 76, 242, 243, 244, 246, 270, 271, 272, 273, 275, 276, 277, 278, 279, 280, 330, 331, 332, 333, 334, 999] σ0 σ2624 := X2184.tr (e2628.mo (by decide))
            have X2663 : ExC [0, 1, 2, 60, 61, 62, 63, 64, 65, 66, 67, 68, 69, 70, 72, 73, 74, 75, 76, 242, 243, 244, 246, 270, 271, 272, 273, 275, 276, 277, 278, 279, 280, 330, 331, 332, 333, 334, 999] σ0 σ2653 := X2662.tr (e2655.mo (by decide))
            have c2664 := (t2638.mi e2655 (by decide)).trans c2635
            have z2665 := congrArg Int32.toInt c2664
            have z2666 := congrArg Int32.toInt c2661
            refine k_inv (P := P_X7_expect) (Q := Q_X7_expect) rfl rfl rfl rfl (Nat.le_of_ble_eq_true rfl) (t2659.rc (by decide)) ⟨_, _, rfl, H2654, t2659, (by omega), (by omega), (rd_cd.st H0 h_0_0 X2663 R2660.1 (by decide)), (R2660.2.2.2.1 rd_at), (rd_bg.st H0 h_0_0 X2663 R2660 (by decide) (by omega) (by omega) (by omega))⟩ (fun w2667 σ2668 q2669 => ?_)
            obtain ⟨rfl, H2670, e2671, R2672, q2673, q2674⟩ := q2669
            have t2680 := t2659.x e2671
            obtain ⟨x2675, e2676, c2677, h2678, h2679⟩ := cg242 H2670.1 t2680
            obtain ⟨x2681, e2682, c2683, h2684, h2685⟩ := cg243 H2670.1 t2680
            have z2686 := congrArg Int32.toInt c2677
            have z2687 := congrArg Int32.toInt c2683
            refine k_st (st' := []) rfl ?_
            have R2688 : RdC p0 none (-28) (9 + 8 * (d : Int)) (-996) σ0 σ2668 := R2660.tr ⟨R2672.1, R2672.2⟩ (by omega) (by omega) (by omega) (by omega)
            have z2689 := R2688.2.2.1
            have z2690 := R2688.2.2.2.1 rd_at
            refine k_aload_n rfl ?_
            have X2691 : ExC [0, 1, 2, 60, 61, 62, 63, 64, 65, 66, 67, 68, 69, 70, 72, 73, 74, 75, 76, 242, 243, 244, 246, 270, 271, 272, 273, 275, 276, 277, 278, 279, 280, 330, 331, 332, 333, 334, 999] σ0 σ2668 := X2663.tr (e2671.mo (by decide))
            refine k_inv (P := P_X7_code) (Q := Q_X7_code) rfl rfl rfl rfl (Nat.le_of_ble_eq_true rfl) (t2680.rc (by decide)) ⟨_, rfl, H2670, t2680, (rd_cd.st H0 h_0_0 X2691 R2688.1 (by decide))⟩ (fun w2692 σ2693 q2694 => ?_)
            obtain ⟨x2695, rfl, rfl, q2696, q2697, q2698, q2699⟩ := q2694
            refine k_st (st' := [.inl x2695]) rfl ?_
            refine k_iconst (m := 1) rfl (fun x2700 h2701 => ?_)
            refine k_ic_eq (fun h2702 => ?_) (fun h2702 => ?_)
            · have h2703 : x2681.toInt = 0 := by omega
              refine hB _ _ _ _ (kgoC (is := KX7_readFor_127) rfl ?_)
              refine k_aload_n rfl ?_
              refine k_iconst (m := 1) rfl (fun x2704 h2705 => ?_)
              have R2706 := R2688.nf (-1000) (-1000) (by rw [c2683]; omega)
              refine k_inv (P := P_X7_expect) (Q := Q_X7_expect) rfl rfl rfl rfl (Nat.le_of_ble_eq_true rfl) (t2680.rc (by decide)) ⟨_, _, rfl, H2670, t2680, (by omega), (by omega), (rd_cd.st H0 h_0_0 X2691 R2706.1 (by decide)), (R2706.2.2.2.1 rd_at), (rd_bg.stn H0 h_0_0 X2691 R2706 (by decide) (by rw [c2683]; omega) (by omega))⟩ (fun w2707 σ2708 q2709 => ?_)
              obtain ⟨rfl, H2710, e2711, R2712, q2713, q2714⟩ := q2709
              have t2720 := t2680.x e2711
              obtain ⟨x2715, e2716, c2717, h2718, h2719⟩ := cg242 H2710.1 t2720
              obtain ⟨x2721, e2722, c2723, h2724, h2725⟩ := cg243 H2710.1 t2720
              have z2726 := congrArg Int32.toInt c2717
              have z2727 := congrArg Int32.toInt c2723
              refine k_st (st' := []) rfl ?_
              have R2728 : RdC p0 none (-36) (-28) (-1000) σ0 σ2708 := R2706.tr ⟨R2712.1, R2712.2⟩ (by omega) (by omega) (by omega) (by omega)
              have z2729 := R2728.2.2.1
              have z2730 := R2728.2.2.2.1 rd_at
              refine k_aload_n rfl ?_
              refine k_aload_n rfl ?_
              refine k_aload_n rfl ?_
              refine k_iload_n rfl ?_
              have t2731 := t2652.x e2655
              have t2732 := t2731.x e2671
              have t2733 := t2732.x e2711
              have X2734 : ExC [0, 1, 2, 60, 61, 62, 63, 64, 65, 66, 67, 68, 69, 70, 72, 73, 74, 75, 76, 242, 243, 244, 246, 270, 271, 272, 273, 275, 276, 277, 278, 279, 280, 330, 331, 332, 333, 334, 999] σ0 σ2708 := X2691.tr (e2711.mo (by decide))
              refine k_inv (P := (P_X7_readInner d)) (Q := (Q_X7_readInner d)) rfl rfl rfl rfl (Nat.le_of_ble_eq_true rfl) (t2720.rc (by decide)) ⟨_, _, _, rfl, H2710, t2720, t2733, (by omega), (by omega), (rd_cd.st H0 h_0_0 X2734 R2728.1 (by decide)), (R2728.2.2.2.1 rd_at), (rd_bg.st H0 h_0_0 X2734 R2728 (by decide) (by omega) (by omega) (by omega)), (by omega)⟩ (fun w2735 σ2736 q2737 => ?_)
              obtain ⟨a2738, rfl, H2739, e2740, h2742, R2741, q2743, q2744, q2745, q2746⟩ := q2737
              have t2752 := t2720.x e2740
              obtain ⟨x2747, e2748, c2749, h2750, h2751⟩ := cg242 H2739.1 t2752
              obtain ⟨x2753, e2754, c2755, h2756, h2757⟩ := cg243 H2739.1 t2752
              have z2758 := congrArg Int32.toInt c2749
              have z2759 := congrArg Int32.toInt c2755
              refine k_st (st' := [.inr (.inr (some a2738)), .inr (.inr (some a20))]) rfl ?_
              have z2760 := R2728.1.1
              obtain ⟨x2761, e2762, c2763, h2764, h2765⟩ := cg272 H2739.1 h2742
              rw [c2763] at q2744
              obtain ⟨x2766, e2767, c2768, h2769, h2770⟩ := cg270 H2739.1 h2742
              rw [c2768] at q2745
              have R2771 : RdC p0 none (-36) (-20 + 8 * (d : Int)) (-997) σ0 σ2736 := R2728.tr ⟨R2741.1, R2741.2⟩ (by omega) (by omega) (by omega) (by omega)
              have z2772 := R2771.2.2.1
              have z2773 := R2771.2.2.2.1 rd_at
              have c2774 := (t2149.mi e2146 (by decide)).trans c2139
              have c2775 := (t2650.mi e2164 (by decide)).trans c2774
              have c2776 := (t2651.mi e2628 (by decide)).trans c2775
              have c2777 := (t2652.mi e2655 (by decide)).trans c2776
              have c2778 := (t2731.mi e2671 (by decide)).trans c2777
              have c2779 := (t2732.mi e2711 (by decide)).trans c2778
              have c2780 := (t2733.fi e2740 (by decide) (by decide)).trans c2779
              have c2781 := (t2149.mi e2146 (by decide)).trans c2143
              have c2782 := (t2650.mi e2164 (by decide)).trans c2781
              have c2783 := (t2651.mi e2628 (by decide)).trans c2782
              have c2784 := (t2652.mi e2655 (by decide)).trans c2783
              have c2785 := (t2731.mi e2671 (by decide)).trans c2784
              have c2786 := (t2732.mi e2711 (by decide)).trans c2785
              have c2787 := (t2733.fi e2740 (by decide) (by decide)).trans c2786
              have z2792 := t2733.1
              have t2793 := t2733.x e2740
              refine k_p276 H2739 t2793 (h2742.ot) (fun z hz => by cases hz; exact ⟨by omega, by unfold LvC; rw [c2780, c2787, c2768, c2763]; omega⟩) (fun σ2788 H2789 e2790 c2791 => ?_)
              refine k_aload_n rfl ?_
              refine k_lload rfl ?_
              have t2794 := t2752.x e2790
              refine k_putL kg245 H2789 t2794 fk245 (fun σ2795 H2796 e2797 c2798 => ?_)
              refine k_aload_n rfl ?_
              refine k_aload_n rfl ?_
              have t2799 := t2794.x e2797
              have t2804 := t38.x e49
              have t2805 := t2804.x e76
              have t2806 := t2805.x e98
              have t2807 := t2806.x e2101
              have t2808 := t2807.x e2146
              have t2809 := t2808.x e2164
              have t2810 := t2809.x e2628
              have t2811 := t2810.x e2655
              have t2812 := t2811.x e2671
              have t2813 := t2812.x e2711
              have t2814 := t2813.x e2740
              have t2815 := t2814.x e2790
              have t2816 := t2815.x e2797
              refine k_putR kp246 H2796 t2799 fk246 (rfo246 (t2816)) (fun σ2800 H2801 e2802 c2803 => ?_)
              refine k_aload_n rfl ?_
              refine k_areturn ?_
              have X2817 : ExC [0, 1, 2, 60, 61, 62, 63, 64, 65, 66, 67, 68, 69, 70, 72, 73, 74, 75, 76, 242, 243, 244, 246, 270, 271, 272, 273, 275, 276, 277, 278, 279, 280, 330, 331, 332, 333, 334, 999] σ0 σ2736 := X2734.tr (e2740.mo (by decide))
              have X2818 : ExC [0, 1, 2, 60, 61, 62, 63, 64, 65, 66, 67, 68, 69, 70, 72, 73, 74, 75, 76, 242, 243, 244, 246, 270, 271, 272, 273, 275, 276, 277, 278, 279, 280, 330, 331, 332, 333, 334, 999] σ0 σ2788 := X2817.tr (e2790.mo (by decide))
              have X2819 : ExC [0, 1, 2, 60, 61, 62, 63, 64, 65, 66, 67, 68, 69, 70, 72, 73, 74, 75, 76, 242, 243, 244, 246, 270, 271, 272, 273, 275, 276, 277, 278, 279, 280, 330, 331, 332, 333, 334, 999] σ0 σ2795 := X2818.tr (e2797.mo (by decide))
              have X2820 : ExC [0, 1, 2, 60, 61, 62, 63, 64, 65, 66, 67, 68, 69, 70, 72, 73, 74, 75, 76, 242, 243, 244, 246, 270, 271, 272, 273, 275, 276, 277, 278, 279, 280, 330, 331, 332, 333, 334, 999] σ0 σ2800 := X2819.tr (e2802.mo (by decide))
              have t2821 := t2793.x e2790
              have t2822 := t2821.x e2797
              have t2823 := t2822.x e2802
              have R2824 : RdC p0 none (-36) (-20 + 8 * (d : Int)) (-997) σ0 σ2788 := R2771.tr ⟨(e2790.gw H2739.1 (by decide)), (e2790.cou (u := 0) H2739.1 t2752 (by decide) (by rw [e2790.cn (by decide)]; omega))⟩ (by omega) (by omega) (by omega) (by omega)
              have R2825 : RdC p0 none (-36) (-20 + 8 * (d : Int)) (-997) σ0 σ2795 := R2824.tr ⟨(e2797.gw H2789.1 (by decide)), (e2797.cou (u := 0) H2789.1 t2794 (by decide) (by rw [e2797.cn (by decide)]; omega))⟩ (by omega) (by omega) (by omega) (by omega)
              have R2826 : RdC p0 none (-36) (-20 + 8 * (d : Int)) (-997) σ0 σ2800 := R2825.tr ⟨(e2802.gw H2796.1 (by decide)), (e2802.cou (u := 0) H2796.1 t2799 (by decide) (by rw [e2802.cn (by decide)]; omega))⟩ (by omega) (by omega) (by omega) (by omega)
              have c2827 := (t2752.mi e2790 (by decide)).trans c2755
              have c2828 := (t2794.mi e2797 (by decide)).trans c2827
              have c2829 := (t2799.mi e2802 (by decide)).trans c2828
              have c2830 := (t2752.mi e2790 (by decide)).trans c2749
              have c2831 := (t2794.mi e2797 (by decide)).trans c2830
              have c2832 := (t2799.mi e2802 (by decide)).trans c2831
              have c2833 := (t2793.mi e2790 (by decide)).trans c2787
              have c2834 := (t2821.mi e2797 (by decide)).trans c2833
              have c2835 := (t2822.mi e2802 (by decide)).trans c2834
              have c2836 := (t2793.mi e2790 (by decide)).trans c2780
              have c2837 := (t2821.mi e2797 (by decide)).trans c2836
              have c2838 := (t2822.mi e2802 (by decide)).trans c2837
              have S2873 : ∀ s, ReC σ0 p0 s → ReC σ2800 p0 (forY d (stY (d - 1)) s) := by
                intro s hs
                have y2839 := q28 _ hs
                have y2841 := q52 _ y2839
                have y2843 := q79 _ y2841
                rw [h70] at y2843
                have y2845 := y2843.x H75.1 t85 e98 (by decide)
                have f2846 := q114 _ y2845
                have f2847 := q1128 _ y2845
                have f2848 := q1146 _ y2845
                have y2849 := q2107 _ y2845
                have y2851 := y2849.x H2100.1 t2113 e2146 (by decide)
                have y2852 := q2167 _ y2851
                rw [h2151] at y2852
                have f2854 := q2192 _ y2852
                have y2855 := q2632 _ y2852
                have y2857 := y2855.x H2627.1 t2638 e2655 (by decide)
                have y2858 := q2674 _ y2857
                rw [h2658] at y2858
                have f2860 := q2699 _ y2858
                have y2861 := q2714 _ y2858
                rw [h2705] at y2861
                have y2863 := q2746 _ y2861
                have y2865 := y2863.x H2739.1 t2752 e2790 (by decide)
                have y2866 := y2865.x H2789.1 t2794 e2797 (by decide)
                have y2867 := y2866.x H2796.1 t2799 e2802 (by decide)
                have g2868 := neY f2846 h122 h121
                have g2869 := nrY f2847 (q1136 (by omega))
                have g2870 := neY f2848 h1149 h1148
                have g2871 := neY f2854 h2195 h2194
                have g2872 := f2860.symm.trans (h2702.trans h2701)
                refine y2867.eq ?_
                all_goals try simp only [forY, fo1Y, fo2Y, fo3Y, g2868, g2869, g2870, g2871, g2872, or_false, false_or, or_true, true_or, and_false, false_and, and_true, true_and, not_true, not_false_iff, ↓reduceIte, Int.reduceEq, Int.reduceLE, Int.reduceLT, Int.reduceNeg]
                all_goals first | rfl | (exfalso; omega)
              exact ⟨_, rfl, H2801, X2820, t2823, (R2826.mo (by omega) (by omega) (by omega)), (by omega), (by rw [c2835] <;> omega), (by rw [c2838] <;> omega), S2873⟩
            · refine k_nil ?_
              refine hB _ _ _ _ (kgoC (is := KX7_readFor_118) rfl ?_)
              refine k_aload_n rfl ?_
              refine k_aload_n rfl ?_
              refine k_iload_n rfl ?_
              refine k_inv (P := (P_X7_readForExps d)) (Q := (Q_X7_readForExps d)) rfl rfl rfl rfl (Nat.le_of_ble_eq_true rfl) (t2680.rc (by decide)) ⟨_, _, rfl, H2670, t2680, (by omega), (by omega), (rd_cd.st H0 h_0_0 X2691 R2688.1 (by decide)), (R2688.2.2.2.1 rd_at), (rd_bg.st H0 h_0_0 X2691 R2688 (by decide) (by omega) (by omega) (by omega)), (by omega)⟩ (fun w2874 σ2875 q2876 => ?_)
              obtain ⟨a2877, rfl, H2878, e2879, h2881, R2880, q2882, q2883, q2884, q2885⟩ := q2876
              have t2891 := t2680.x e2879
              obtain ⟨x2886, e2887, c2888, h2889, h2890⟩ := cg242 H2878.1 t2891
              obtain ⟨x2892, e2893, c2894, h2895, h2896⟩ := cg243 H2878.1 t2891
              have z2897 := congrArg Int32.toInt c2888
              have z2898 := congrArg Int32.toInt c2894
              refine k_st (st' := [.inr (.inr (some a2877)), .inr (.inr (some a20))]) rfl ?_
              have z2899 := R2688.1.1
              obtain ⟨x2900, e2901, c2902, h2903, h2904⟩ := cg272 H2878.1 h2881
              rw [c2902] at q2883
              obtain ⟨x2905, e2906, c2907, h2908, h2909⟩ := cg270 H2878.1 h2881
              rw [c2907] at q2884
              have R2910 : RdC p0 none (-26) (12 + 8 * (d : Int)) (-993) σ0 σ2875 := R2688.tr ⟨R2880.1, R2880.2⟩ (by omega) (by omega) (by omega) (by omega)
              have z2911 := R2910.2.2.1
              have z2912 := R2910.2.2.2.1 rd_at
              have c2913 := (t2149.mi e2146 (by decide)).trans c2139
              have c2914 := (t2650.mi e2164 (by decide)).trans c2913
              have c2915 := (t2651.mi e2628 (by decide)).trans c2914
              have c2916 := (t2652.mi e2655 (by decide)).trans c2915
              have t2917 := t2652.x e2655
              have c2918 := (t2917.mi e2671 (by decide)).trans c2916
              have t2919 := t2917.x e2671
              have c2920 := (t2919.fi e2879 (by decide) (by decide)).trans c2918
              have c2921 := (t2149.mi e2146 (by decide)).trans c2143
              have c2922 := (t2650.mi e2164 (by decide)).trans c2921
              have c2923 := (t2651.mi e2628 (by decide)).trans c2922
              have c2924 := (t2652.mi e2655 (by decide)).trans c2923
              have c2925 := (t2917.mi e2671 (by decide)).trans c2924
              have c2926 := (t2919.fi e2879 (by decide) (by decide)).trans c2925
              have z2931 := t2919.1
              have t2932 := t2919.x e2879
              refine k_p278 H2878 t2932 (h2881.ot) (fun z hz => by cases hz; exact ⟨by omega, by unfold LvC; rw [c2920, c2926, c2907, c2902]; omega⟩) (fun σ2927 H2928 e2929 c2930 => ?_)
              refine k_nil ?_
              refine hB _ _ _ _ (kgoC (is := KX7_readFor_127) rfl ?_)
              refine k_aload_n rfl ?_
              refine k_iconst (m := 1) rfl (fun x2933 h2934 => ?_)
              have t2935 := t2891.x e2929
              have R2936 : RdC p0 none (-26) (12 + 8 * (d : Int)) (-993) σ0 σ2927 := R2910.tr ⟨(e2929.gw H2878.1 (by decide)), (e2929.cou (u := 0) H2878.1 t2891 (by decide) (by rw [e2929.cn (by decide)]; omega))⟩ (by omega) (by omega) (by omega) (by omega)
              have c2937 := (t2891.mi e2929 (by decide)).trans c2894
              have X2938 : ExC [0, 1, 2, 60, 61, 62, 63, 64, 65, 66, 67, 68, 69, 70, 72, 73, 74, 75, 76, 242, 243, 244, 246, 270, 271, 272, 273, 275, 276, 277, 278, 279, 280, 330, 331, 332, 333, 334, 999] σ0 σ2875 := X2691.tr (e2879.mo (by decide))
              have X2939 : ExC [0, 1, 2, 60, 61, 62, 63, 64, 65, 66, 67, 68, 69, 70, 72, 73, 74, 75, 76, 242, 243, 244, 246, 270, 271, 272, 273, 275, 276, 277, 278, 279, 280, 330, 331, 332, 333, 334, 999] σ0 σ2927 := X2938.tr (e2929.mo (by decide))
              have c2940 := (t2891.mi e2929 (by decide)).trans c2888
              have z2941 := congrArg Int32.toInt c2940
              have z2942 := congrArg Int32.toInt c2937
              refine k_inv (P := P_X7_expect) (Q := Q_X7_expect) rfl rfl rfl rfl (Nat.le_of_ble_eq_true rfl) (t2935.rc (by decide)) ⟨_, _, rfl, H2928, t2935, (by omega), (by omega), (rd_cd.st H0 h_0_0 X2939 R2936.1 (by decide)), (R2936.2.2.2.1 rd_at), (rd_bg.st H0 h_0_0 X2939 R2936 (by decide) (by omega) (by omega) (by omega))⟩ (fun w2943 σ2944 q2945 => ?_)
              obtain ⟨rfl, H2946, e2947, R2948, q2949, q2950⟩ := q2945
              have t2956 := t2935.x e2947
              obtain ⟨x2951, e2952, c2953, h2954, h2955⟩ := cg242 H2946.1 t2956
              obtain ⟨x2957, e2958, c2959, h2960, h2961⟩ := cg243 H2946.1 t2956
              have z2962 := congrArg Int32.toInt c2953
              have z2963 := congrArg Int32.toInt c2959
              refine k_st (st' := []) rfl ?_
              have R2964 : RdC p0 none (-34) (12 + 8 * (d : Int)) (-993) σ0 σ2944 := R2936.tr ⟨R2948.1, R2948.2⟩ (by omega) (by omega) (by omega) (by omega)
              have z2965 := R2964.2.2.1
              have z2966 := R2964.2.2.2.1 rd_at
              refine k_aload_n rfl ?_
              refine k_aload_n rfl ?_
              refine k_aload_n rfl ?_
              refine k_iload_n rfl ?_
              have t2967 := t2932.x e2929
              have t2968 := t2967.x e2947
              have X2969 : ExC [0, 1, 2, 60, 61, 62, 63, 64, 65, 66, 67, 68, 69, 70, 72, 73, 74, 75, 76, 242, 243, 244, 246, 270, 271, 272, 273, 275, 276, 277, 278, 279, 280, 330, 331, 332, 333, 334, 999] σ0 σ2944 := X2939.tr (e2947.mo (by decide))
              refine k_inv (P := (P_X7_readInner d)) (Q := (Q_X7_readInner d)) rfl rfl rfl rfl (Nat.le_of_ble_eq_true rfl) (t2956.rc (by decide)) ⟨_, _, _, rfl, H2946, t2956, t2968, (by omega), (by omega), (rd_cd.st H0 h_0_0 X2969 R2964.1 (by decide)), (R2964.2.2.2.1 rd_at), (rd_bg.st H0 h_0_0 X2969 R2964 (by decide) (by omega) (by omega) (by omega)), (by omega)⟩ (fun w2970 σ2971 q2972 => ?_)
              obtain ⟨a2973, rfl, H2974, e2975, h2977, R2976, q2978, q2979, q2980, q2981⟩ := q2972
              have t2987 := t2956.x e2975
              obtain ⟨x2982, e2983, c2984, h2985, h2986⟩ := cg242 H2974.1 t2987
              obtain ⟨x2988, e2989, c2990, h2991, h2992⟩ := cg243 H2974.1 t2987
              have z2993 := congrArg Int32.toInt c2984
              have z2994 := congrArg Int32.toInt c2990
              refine k_st (st' := [.inr (.inr (some a2973)), .inr (.inr (some a20))]) rfl ?_
              have z2995 := R2964.1.1
              obtain ⟨x2996, e2997, c2998, h2999, h3000⟩ := cg272 H2974.1 h2977
              rw [c2998] at q2979
              obtain ⟨x3001, e3002, c3003, h3004, h3005⟩ := cg270 H2974.1 h2977
              rw [c3003] at q2980
              have R3006 : RdC p0 none (-34) (15 + 8 * (d : Int)) (-990) σ0 σ2971 := R2964.tr ⟨R2976.1, R2976.2⟩ (by omega) (by omega) (by omega) (by omega)
              have z3007 := R3006.2.2.1
              have z3008 := R3006.2.2.2.1 rd_at
              have c3009 := (t2932.mi e2929 (by decide)).trans c2920
              have c3010 := (t2967.mi e2947 (by decide)).trans c3009
              have c3011 := (t2968.fi e2975 (by decide) (by decide)).trans c3010
              have c3012 := (t2932.mi e2929 (by decide)).trans c2926
              have c3013 := (t2967.mi e2947 (by decide)).trans c3012
              have c3014 := (t2968.fi e2975 (by decide) (by decide)).trans c3013
              have z3019 := t2968.1
              have t3020 := t2968.x e2975
              refine k_p276 H2974 t3020 (h2977.ot) (fun z hz => by cases hz; exact ⟨by omega, by unfold LvC; rw [c3011, c3014, c3003, c2998]; omega⟩) (fun σ3015 H3016 e3017 c3018 => ?_)
              refine k_aload_n rfl ?_
              refine k_lload rfl ?_
              have t3021 := t2987.x e3017
              refine k_putL kg245 H3016 t3021 fk245 (fun σ3022 H3023 e3024 c3025 => ?_)
              refine k_aload_n rfl ?_
              refine k_aload_n rfl ?_
              have t3026 := t3021.x e3024
              have t3031 := t38.x e49
              have t3032 := t3031.x e76
              have t3033 := t3032.x e98
              have t3034 := t3033.x e2101
              have t3035 := t3034.x e2146
              have t3036 := t3035.x e2164
              have t3037 := t3036.x e2628
              have t3038 := t3037.x e2655
              have t3039 := t3038.x e2671
              have t3040 := t3039.x e2879
              have t3041 := t3040.x e2929
              have t3042 := t3041.x e2947
              have t3043 := t3042.x e2975
              have t3044 := t3043.x e3017
              have t3045 := t3044.x e3024
              refine k_putR kp246 H3023 t3026 fk246 (rfo246 (t3045)) (fun σ3027 H3028 e3029 c3030 => ?_)
              refine k_aload_n rfl ?_
              refine k_areturn ?_
              have X3046 : ExC [0, 1, 2, 60, 61, 62, 63, 64, 65, 66, 67, 68, 69, 70, 72, 73, 74, 75, 76, 242, 243, 244, 246, 270, 271, 272, 273, 275, 276, 277, 278, 279, 280, 330, 331, 332, 333, 334, 999] σ0 σ2971 := X2969.tr (e2975.mo (by decide))
              have X3047 : ExC [0, 1, 2, 60, 61, 62, 63, 64, 65, 66, 67, 68, 69, 70, 72, 73, 74, 75, 76, 242, 243, 244, 246, 270, 271, 272, 273, 275, 276, 277, 278, 279, 280, 330, 331, 332, 333, 334, 999] σ0 σ3015 := X3046.tr (e3017.mo (by decide))
              have X3048 : ExC [0, 1, 2, 60, 61, 62, 63, 64, 65, 66, 67, 68, 69, 70, 72, 73, 74, 75, 76, 242, 243, 244, 246, 270, 271, 272, 273, 275, 276, 277, 278, 279, 280, 330, 331, 332, 333, 334, 999] σ0 σ3022 := X3047.tr (e3024.mo (by decide))
              have X3049 : ExC [0, 1, 2, 60, 61, 62, 63, 64, 65, 66, 67, 68, 69, 70, 72, 73, 74, 75, 76, 242, 243, 244, 246, 270, 271, 272, 273, 275, 276, 277, 278, 279, 280, 330, 331, 332, 333, 334, 999] σ0 σ3027 := X3048.tr (e3029.mo (by decide))
              have t3050 := t3020.x e3017
              have t3051 := t3050.x e3024
              have t3052 := t3051.x e3029
              have R3053 : RdC p0 none (-34) (15 + 8 * (d : Int)) (-990) σ0 σ3015 := R3006.tr ⟨(e3017.gw H2974.1 (by decide)), (e3017.cou (u := 0) H2974.1 t2987 (by decide) (by rw [e3017.cn (by decide)]; omega))⟩ (by omega) (by omega) (by omega) (by omega)
              have R3054 : RdC p0 none (-34) (15 + 8 * (d : Int)) (-990) σ0 σ3022 := R3053.tr ⟨(e3024.gw H3016.1 (by decide)), (e3024.cou (u := 0) H3016.1 t3021 (by decide) (by rw [e3024.cn (by decide)]; omega))⟩ (by omega) (by omega) (by omega) (by omega)
              have R3055 : RdC p0 none (-34) (15 + 8 * (d : Int)) (-990) σ0 σ3027 := R3054.tr ⟨(e3029.gw H3023.1 (by decide)), (e3029.cou (u := 0) H3023.1 t3026 (by decide) (by rw [e3029.cn (by decide)]; omega))⟩ (by omega) (by omega) (by omega) (by omega)
              have c3056 := (t2987.mi e3017 (by decide)).trans c2990
              have c3057 := (t3021.mi e3024 (by decide)).trans c3056
              have c3058 := (t3026.mi e3029 (by decide)).trans c3057
              have c3059 := (t2987.mi e3017 (by decide)).trans c2984
              have c3060 := (t3021.mi e3024 (by decide)).trans c3059
              have c3061 := (t3026.mi e3029 (by decide)).trans c3060
              have c3062 := (t3020.mi e3017 (by decide)).trans c3014
              have c3063 := (t3050.mi e3024 (by decide)).trans c3062
              have c3064 := (t3051.mi e3029 (by decide)).trans c3063
              have c3065 := (t3020.mi e3017 (by decide)).trans c3011
              have c3066 := (t3050.mi e3024 (by decide)).trans c3065
              have c3067 := (t3051.mi e3029 (by decide)).trans c3066
              have S3105 : ∀ s, ReC σ0 p0 s → ReC σ3027 p0 (forY d (stY (d - 1)) s) := by
                intro s hs
                have y3068 := q28 _ hs
                have y3070 := q52 _ y3068
                have y3072 := q79 _ y3070
                rw [h70] at y3072
                have y3074 := y3072.x H75.1 t85 e98 (by decide)
                have f3075 := q114 _ y3074
                have f3076 := q1128 _ y3074
                have f3077 := q1146 _ y3074
                have y3078 := q2107 _ y3074
                have y3080 := y3078.x H2100.1 t2113 e2146 (by decide)
                have y3081 := q2167 _ y3080
                rw [h2151] at y3081
                have f3083 := q2192 _ y3081
                have y3084 := q2632 _ y3081
                have y3086 := y3084.x H2627.1 t2638 e2655 (by decide)
                have y3087 := q2674 _ y3086
                rw [h2658] at y3087
                have f3089 := q2699 _ y3087
                have y3090 := q2885 _ y3087
                have y3092 := y3090.x H2878.1 t2891 e2929 (by decide)
                have y3093 := q2950 _ y3092
                rw [h2934] at y3093
                have y3095 := q2981 _ y3093
                have y3097 := y3095.x H2974.1 t2987 e3017 (by decide)
                have y3098 := y3097.x H3016.1 t3021 e3024 (by decide)
                have y3099 := y3098.x H3023.1 t3026 e3029 (by decide)
                have g3100 := neY f3075 h122 h121
                have g3101 := nrY f3076 (q1136 (by omega))
                have g3102 := neY f3077 h1149 h1148
                have g3103 := neY f3083 h2195 h2194
                have g3104 := neY f3089 h2702 h2701
                refine y3099.eq ?_
                all_goals try simp only [forY, fo1Y, fo2Y, fo3Y, g3100, g3101, g3102, g3103, g3104, or_false, false_or, or_true, true_or, and_false, false_and, and_true, true_and, not_true, not_false_iff, ↓reduceIte, Int.reduceEq, Int.reduceLE, Int.reduceLT, Int.reduceNeg]
                all_goals first | rfl | (exfalso; omega)
              exact ⟨_, rfl, H3028, X3049, t3052, (R3055.mo (by omega) (by omega) (by omega)), (by omega), (by rw [c3064] <;> omega), (by rw [c3067] <;> omega), S3105⟩
      · have h3106 := q1135 (by omega)
        have h3107 : x86.toInt = 0 := by omega
        refine k_if_eq (fun h3108 => by exfalso; omega) (fun h3108 => ?_)
        refine k_nil ?_
        refine hB _ _ _ _ (kgoC (is := KX7_readFor_52) rfl ?_)
        refine k_aload_n rfl ?_
        refine k_aload_n rfl ?_
        refine k_bipush (m := 93) rfl (fun x3109 h3110 => ?_)
        refine k_iload_n rfl ?_
        have R3111 := R103.nf (-1000) (-1000) (by rw [c104]; omega)
        refine k_inv (P := (P_X7_readVariable d)) (Q := (Q_X7_readVariable d)) rfl rfl rfl rfl (Nat.le_of_ble_eq_true rfl) (t102.rc (by decide)) ⟨_, _, _, rfl, H97, t102, (by omega), (by omega), (by omega), (by omega), (rd_cd.st H0 h_0_0 X106 R3111.1 (by decide)), (R3111.2.2.2.1 rd_at), ((show BgC σ96 p0 (23 + 8 * (d : Int)) 0 from (rd_bg.stn H0 h_0_0 X106 R3111 (by decide) (by rw [c104]; omega) (by omega))).1 (by rw [c104]; omega)), (by rw [c104]; omega), (by omega)⟩ (fun w3112 σ3113 q3114 => ?_)
        obtain ⟨a3115, rfl, H3116, e3117, h3119, R3118, q3120, q3121, q3122, q3123⟩ := q3114
        have t3129 := t102.x e3117
        obtain ⟨x3124, e3125, c3126, h3127, h3128⟩ := cg242 H3116.1 t3129
        obtain ⟨x3130, e3131, c3132, h3133, h3134⟩ := cg243 H3116.1 t3129
        have z3135 := congrArg Int32.toInt c3126
        have z3136 := congrArg Int32.toInt c3132
        refine k_st (st' := [.inr (.inr (some a3115)), .inr (.inr (some a20))]) rfl ?_
        have z3137 := R3111.1.1
        obtain ⟨x3138, e3139, c3140, h3141, h3142⟩ := cg272 H3116.1 h3119
        rw [c3140] at q3121
        obtain ⟨x3143, e3144, c3145, h3146, h3147⟩ := cg270 H3116.1 h3119
        rw [c3145] at q3122
        have R3148 : RdC p0 none (-14) (9 + 8 * (d : Int)) (-1000) σ0 σ3113 := R3111.tr ⟨R3118.1, R3118.2⟩ (by omega) (by omega) (by omega) (by omega)
        have z3149 := R3148.2.2.1
        have z3150 := R3148.2.2.2.1 rd_at
        have c3151 := (h24.mi e49 (by decide)).trans q26
        have c3152 := (t100.mi e76 (by decide)).trans c3151
        have c3153 := (t101.mi e98 (by decide)).trans c3152
        have t3154 := t101.x e98
        have c3155 := (t3154.fi e3117 (by decide) (by decide)).trans c3153
        have c3156 := (h24.mi e49 (by decide)).trans q27
        have c3157 := (t100.mi e76 (by decide)).trans c3156
        have c3158 := (t101.mi e98 (by decide)).trans c3157
        have c3159 := (t3154.fi e3117 (by decide) (by decide)).trans c3158
        have z3164 := t3154.1
        have t3165 := t3154.x e3117
        refine k_p277 H3116 t3165 (h3119.ot) (fun z hz => by cases hz; exact ⟨by omega, by unfold LvC; rw [c3155, c3159, c3145, c3140]; omega⟩) (fun σ3160 H3161 e3162 c3163 => ?_)
        refine k_goto ?_
        refine hB _ _ _ _ (kgoC (is := KX7_readFor_83) rfl ?_)
        refine k_aload_n rfl ?_
        refine k_iconst (m := 4) rfl (fun x3166 h3167 => ?_)
        have t3168 := t3129.x e3162
        have R3169 : RdC p0 none (-14) (9 + 8 * (d : Int)) (-1000) σ0 σ3160 := R3148.tr ⟨(e3162.gw H3116.1 (by decide)), (e3162.cou (u := 0) H3116.1 t3129 (by decide) (by rw [e3162.cn (by decide)]; omega))⟩ (by omega) (by omega) (by omega) (by omega)
        have c3170 := (t3129.mi e3162 (by decide)).trans c3132
        have X3171 : ExC [0, 1, 2, 60, 61, 62, 63, 64, 65, 66, 67, 68, 69, 70, 72, 73, 74, 75, 76, 242, 243, 244, 246, 270, 271, 272, 273, 275, 276, 277, 278, 279, 280, 330, 331, 332, 333, 334, 999] σ0 σ3113 := X106.tr (e3117.mo (by decide))
        have X3172 : ExC [0, 1, 2, 60, 61, 62, 63, 64, 65, 66, 67, 68, 69, 70, 72, 73, 74, 75, 76, 242, 243, 244, 246, 270, 271, 272, 273, 275, 276, 277, 278, 279, 280, 330, 331, 332, 333, 334, 999] σ0 σ3160 := X3171.tr (e3162.mo (by decide))
        have c3173 := (t3129.mi e3162 (by decide)).trans c3126
        have z3174 := congrArg Int32.toInt c3173
        have z3175 := congrArg Int32.toInt c3170
        refine k_inv (P := P_X7_expect) (Q := Q_X7_expect) rfl rfl rfl rfl (Nat.le_of_ble_eq_true rfl) (t3168.rc (by decide)) ⟨_, _, rfl, H3161, t3168, (by omega), (by omega), (rd_cd.st H0 h_0_0 X3172 R3169.1 (by decide)), (R3169.2.2.2.1 rd_at), (rd_bg.st H0 h_0_0 X3172 R3169 (by decide) (by omega) (by omega) (by omega))⟩ (fun w3176 σ3177 q3178 => ?_)
        obtain ⟨rfl, H3179, e3180, R3181, q3182, q3183⟩ := q3178
        have t3189 := t3168.x e3180
        obtain ⟨x3184, e3185, c3186, h3187, h3188⟩ := cg242 H3179.1 t3189
        obtain ⟨x3190, e3191, c3192, h3193, h3194⟩ := cg243 H3179.1 t3189
        have z3195 := congrArg Int32.toInt c3186
        have z3196 := congrArg Int32.toInt c3192
        refine k_st (st' := []) rfl ?_
        have R3197 : RdC p0 none (-22) (9 + 8 * (d : Int)) (-1000) σ0 σ3177 := R3169.tr ⟨R3181.1, R3181.2⟩ (by omega) (by omega) (by omega) (by omega)
        have z3198 := R3197.2.2.1
        have z3199 := R3197.2.2.2.1 rd_at
        refine k_aload_n rfl ?_
        have X3200 : ExC [0, 1, 2, 60, 61, 62, 63, 64, 65, 66, 67, 68, 69, 70, 72, 73, 74, 75, 76, 242, 243, 244, 246, 270, 271, 272, 273, 275, 276, 277, 278, 279, 280, 330, 331, 332, 333, 334, 999] σ0 σ3177 := X3172.tr (e3180.mo (by decide))
        refine k_inv (P := P_X7_code) (Q := Q_X7_code) rfl rfl rfl rfl (Nat.le_of_ble_eq_true rfl) (t3189.rc (by decide)) ⟨_, rfl, H3179, t3189, (rd_cd.st H0 h_0_0 X3200 R3197.1 (by decide))⟩ (fun w3201 σ3202 q3203 => ?_)
        obtain ⟨x3204, rfl, rfl, q3205, q3206, q3207, q3208⟩ := q3203
        refine k_st (st' := [.inl x3204]) rfl ?_
        refine k_iconst (m := 4) rfl (fun x3209 h3210 => ?_)
        refine k_ic_eq (fun h3211 => ?_) (fun h3211 => ?_)
        · have h3212 : x3190.toInt = 0 := by omega
          refine hB _ _ _ _ (kgoC (is := KX7_readFor_105) rfl ?_)
          refine k_aload_n rfl ?_
          refine k_iconst (m := 4) rfl (fun x3213 h3214 => ?_)
          have R3215 := R3197.nf (-1000) (-1000) (by rw [c3192]; omega)
          refine k_inv (P := P_X7_expect) (Q := Q_X7_expect) rfl rfl rfl rfl (Nat.le_of_ble_eq_true rfl) (t3189.rc (by decide)) ⟨_, _, rfl, H3179, t3189, (by omega), (by omega), (rd_cd.st H0 h_0_0 X3200 R3215.1 (by decide)), (R3215.2.2.2.1 rd_at), (rd_bg.stn H0 h_0_0 X3200 R3215 (by decide) (by rw [c3192]; omega) (by omega))⟩ (fun w3216 σ3217 q3218 => ?_)
          obtain ⟨rfl, H3219, e3220, R3221, q3222, q3223⟩ := q3218
          have t3229 := t3189.x e3220
          obtain ⟨x3224, e3225, c3226, h3227, h3228⟩ := cg242 H3219.1 t3229
          obtain ⟨x3230, e3231, c3232, h3233, h3234⟩ := cg243 H3219.1 t3229
          have z3235 := congrArg Int32.toInt c3226
          have z3236 := congrArg Int32.toInt c3232
          refine k_st (st' := []) rfl ?_
          have R3237 : RdC p0 none (-30) (-22) (-1000) σ0 σ3217 := R3215.tr ⟨R3221.1, R3221.2⟩ (by omega) (by omega) (by omega) (by omega)
          have z3238 := R3237.2.2.1
          have z3239 := R3237.2.2.2.1 rd_at
          refine k_aload_n rfl ?_
          have X3240 : ExC [0, 1, 2, 60, 61, 62, 63, 64, 65, 66, 67, 68, 69, 70, 72, 73, 74, 75, 76, 242, 243, 244, 246, 270, 271, 272, 273, 275, 276, 277, 278, 279, 280, 330, 331, 332, 333, 334, 999] σ0 σ3217 := X3200.tr (e3220.mo (by decide))
          refine k_inv (P := P_X7_code) (Q := Q_X7_code) rfl rfl rfl rfl (Nat.le_of_ble_eq_true rfl) (t3229.rc (by decide)) ⟨_, rfl, H3219, t3229, (rd_cd.st H0 h_0_0 X3240 R3237.1 (by decide))⟩ (fun w3241 σ3242 q3243 => ?_)
          obtain ⟨x3244, rfl, rfl, q3245, q3246, q3247, q3248⟩ := q3243
          refine k_st (st' := [.inl x3244]) rfl ?_
          refine k_iconst (m := 1) rfl (fun x3249 h3250 => ?_)
          refine k_ic_eq (fun h3251 => ?_) (fun h3251 => ?_)
          · have h3252 : x3230.toInt = 0 := by omega
            refine hB _ _ _ _ (kgoC (is := KX7_readFor_127) rfl ?_)
            refine k_aload_n rfl ?_
            refine k_iconst (m := 1) rfl (fun x3253 h3254 => ?_)
            have R3255 := R3237.nf (-1000) (-1000) (by rw [c3232]; omega)
            refine k_inv (P := P_X7_expect) (Q := Q_X7_expect) rfl rfl rfl rfl (Nat.le_of_ble_eq_true rfl) (t3229.rc (by decide)) ⟨_, _, rfl, H3219, t3229, (by omega), (by omega), (rd_cd.st H0 h_0_0 X3240 R3255.1 (by decide)), (R3255.2.2.2.1 rd_at), (rd_bg.stn H0 h_0_0 X3240 R3255 (by decide) (by rw [c3232]; omega) (by omega))⟩ (fun w3256 σ3257 q3258 => ?_)
            obtain ⟨rfl, H3259, e3260, R3261, q3262, q3263⟩ := q3258
            have t3269 := t3229.x e3260
            obtain ⟨x3264, e3265, c3266, h3267, h3268⟩ := cg242 H3259.1 t3269
            obtain ⟨x3270, e3271, c3272, h3273, h3274⟩ := cg243 H3259.1 t3269
            have z3275 := congrArg Int32.toInt c3266
            have z3276 := congrArg Int32.toInt c3272
            refine k_st (st' := []) rfl ?_
            have R3277 : RdC p0 none (-38) (-30) (-1000) σ0 σ3257 := R3255.tr ⟨R3261.1, R3261.2⟩ (by omega) (by omega) (by omega) (by omega)
            have z3278 := R3277.2.2.1
            have z3279 := R3277.2.2.2.1 rd_at
            refine k_aload_n rfl ?_
            refine k_aload_n rfl ?_
            refine k_aload_n rfl ?_
            refine k_iload_n rfl ?_
            have t3280 := t3165.x e3162
            have t3281 := t3280.x e3180
            have t3282 := t3281.x e3220
            have t3283 := t3282.x e3260
            have X3284 : ExC [0, 1, 2, 60, 61, 62, 63, 64, 65, 66, 67, 68, 69, 70, 72, 73, 74, 75, 76, 242, 243, 244, 246, 270, 271, 272, 273, 275, 276, 277, 278, 279, 280, 330, 331, 332, 333, 334, 999] σ0 σ3257 := X3240.tr (e3260.mo (by decide))
            refine k_inv (P := (P_X7_readInner d)) (Q := (Q_X7_readInner d)) rfl rfl rfl rfl (Nat.le_of_ble_eq_true rfl) (t3269.rc (by decide)) ⟨_, _, _, rfl, H3259, t3269, t3283, (by omega), (by omega), (rd_cd.st H0 h_0_0 X3284 R3277.1 (by decide)), (R3277.2.2.2.1 rd_at), (rd_bg.st H0 h_0_0 X3284 R3277 (by decide) (by omega) (by omega) (by omega)), (by omega)⟩ (fun w3285 σ3286 q3287 => ?_)
            obtain ⟨a3288, rfl, H3289, e3290, h3292, R3291, q3293, q3294, q3295, q3296⟩ := q3287
            have t3302 := t3269.x e3290
            obtain ⟨x3297, e3298, c3299, h3300, h3301⟩ := cg242 H3289.1 t3302
            obtain ⟨x3303, e3304, c3305, h3306, h3307⟩ := cg243 H3289.1 t3302
            have z3308 := congrArg Int32.toInt c3299
            have z3309 := congrArg Int32.toInt c3305
            refine k_st (st' := [.inr (.inr (some a3288)), .inr (.inr (some a20))]) rfl ?_
            have z3310 := R3277.1.1
            obtain ⟨x3311, e3312, c3313, h3314, h3315⟩ := cg272 H3289.1 h3292
            rw [c3313] at q3294
            obtain ⟨x3316, e3317, c3318, h3319, h3320⟩ := cg270 H3289.1 h3292
            rw [c3318] at q3295
            have R3321 : RdC p0 none (-38) (-22 + 8 * (d : Int)) (-997) σ0 σ3286 := R3277.tr ⟨R3291.1, R3291.2⟩ (by omega) (by omega) (by omega) (by omega)
            have z3322 := R3321.2.2.1
            have z3323 := R3321.2.2.2.1 rd_at
            have c3324 := (t3165.mi e3162 (by decide)).trans c3155
            have c3325 := (t3280.mi e3180 (by decide)).trans c3324
            have c3326 := (t3281.mi e3220 (by decide)).trans c3325
            have c3327 := (t3282.mi e3260 (by decide)).trans c3326
            have c3328 := (t3283.fi e3290 (by decide) (by decide)).trans c3327
            have c3329 := (t3165.mi e3162 (by decide)).trans c3159
            have c3330 := (t3280.mi e3180 (by decide)).trans c3329
            have c3331 := (t3281.mi e3220 (by decide)).trans c3330
            have c3332 := (t3282.mi e3260 (by decide)).trans c3331
            have c3333 := (t3283.fi e3290 (by decide) (by decide)).trans c3332
            have z3338 := t3283.1
            have t3339 := t3283.x e3290
            refine k_p276 H3289 t3339 (h3292.ot) (fun z hz => by cases hz; exact ⟨by omega, by unfold LvC; rw [c3328, c3333, c3318, c3313]; omega⟩) (fun σ3334 H3335 e3336 c3337 => ?_)
            refine k_aload_n rfl ?_
            refine k_lload rfl ?_
            have t3340 := t3302.x e3336
            refine k_putL kg245 H3335 t3340 fk245 (fun σ3341 H3342 e3343 c3344 => ?_)
            refine k_aload_n rfl ?_
            refine k_aload_n rfl ?_
            have t3345 := t3340.x e3343
            have t3350 := t38.x e49
            have t3351 := t3350.x e76
            have t3352 := t3351.x e98
            have t3353 := t3352.x e3117
            have t3354 := t3353.x e3162
            have t3355 := t3354.x e3180
            have t3356 := t3355.x e3220
            have t3357 := t3356.x e3260
            have t3358 := t3357.x e3290
            have t3359 := t3358.x e3336
            have t3360 := t3359.x e3343
            refine k_putR kp246 H3342 t3345 fk246 (rfo246 (t3360)) (fun σ3346 H3347 e3348 c3349 => ?_)
            refine k_aload_n rfl ?_
            refine k_areturn ?_
            have X3361 : ExC [0, 1, 2, 60, 61, 62, 63, 64, 65, 66, 67, 68, 69, 70, 72, 73, 74, 75, 76, 242, 243, 244, 246, 270, 271, 272, 273, 275, 276, 277, 278, 279, 280, 330, 331, 332, 333, 334, 999] σ0 σ3286 := X3284.tr (e3290.mo (by decide))
            have X3362 : ExC [0, 1, 2, 60, 61, 62, 63, 64, 65, 66, 67, 68, 69, 70, 72, 73, 74, 75, 76, 242, 243, 244, 246, 270, 271, 272, 273, 275, 276, 277, 278, 279, 280, 330, 331, 332, 333, 334, 999] σ0 σ3334 := X3361.tr (e3336.mo (by decide))
            have X3363 : ExC [0, 1, 2, 60, 61, 62, 63, 64, 65, 66, 67, 68, 69, 70, 72, 73, 74, 75, 76, 242, 243, 244, 246, 270, 271, 272, 273, 275, 276, 277, 278, 279, 280, 330, 331, 332, 333, 334, 999] σ0 σ3341 := X3362.tr (e3343.mo (by decide))
            have X3364 : ExC [0, 1, 2, 60, 61, 62, 63, 64, 65, 66, 67, 68, 69, 70, 72, 73, 74, 75, 76, 242, 243, 244, 246, 270, 271, 272, 273, 275, 276, 277, 278, 279, 280, 330, 331, 332, 333, 334, 999] σ0 σ3346 := X3363.tr (e3348.mo (by decide))
            have t3365 := t3339.x e3336
            have t3366 := t3365.x e3343
            have t3367 := t3366.x e3348
            have R3368 : RdC p0 none (-38) (-22 + 8 * (d : Int)) (-997) σ0 σ3334 := R3321.tr ⟨(e3336.gw H3289.1 (by decide)), (e3336.cou (u := 0) H3289.1 t3302 (by decide) (by rw [e3336.cn (by decide)]; omega))⟩ (by omega) (by omega) (by omega) (by omega)
            have R3369 : RdC p0 none (-38) (-22 + 8 * (d : Int)) (-997) σ0 σ3341 := R3368.tr ⟨(e3343.gw H3335.1 (by decide)), (e3343.cou (u := 0) H3335.1 t3340 (by decide) (by rw [e3343.cn (by decide)]; omega))⟩ (by omega) (by omega) (by omega) (by omega)
            have R3370 : RdC p0 none (-38) (-22 + 8 * (d : Int)) (-997) σ0 σ3346 := R3369.tr ⟨(e3348.gw H3342.1 (by decide)), (e3348.cou (u := 0) H3342.1 t3345 (by decide) (by rw [e3348.cn (by decide)]; omega))⟩ (by omega) (by omega) (by omega) (by omega)
            have c3371 := (t3302.mi e3336 (by decide)).trans c3305
            have c3372 := (t3340.mi e3343 (by decide)).trans c3371
            have c3373 := (t3345.mi e3348 (by decide)).trans c3372
            have c3374 := (t3302.mi e3336 (by decide)).trans c3299
            have c3375 := (t3340.mi e3343 (by decide)).trans c3374
            have c3376 := (t3345.mi e3348 (by decide)).trans c3375
            have c3377 := (t3339.mi e3336 (by decide)).trans c3333
            have c3378 := (t3365.mi e3343 (by decide)).trans c3377
            have c3379 := (t3366.mi e3348 (by decide)).trans c3378
            have c3380 := (t3339.mi e3336 (by decide)).trans c3328
            have c3381 := (t3365.mi e3343 (by decide)).trans c3380
            have c3382 := (t3366.mi e3348 (by decide)).trans c3381
            have S3412 : ∀ s, ReC σ0 p0 s → ReC σ3346 p0 (forY d (stY (d - 1)) s) := by
              intro s hs
              have y3383 := q28 _ hs
              have y3385 := q52 _ y3383
              have y3387 := q79 _ y3385
              rw [h70] at y3387
              have y3389 := y3387.x H75.1 t85 e98 (by decide)
              have f3390 := q114 _ y3389
              have f3391 := q1128 _ y3389
              have y3392 := q3123 _ y3389
              have y3394 := y3392.x H3116.1 t3129 e3162 (by decide)
              have y3395 := q3183 _ y3394
              rw [h3167] at y3395
              have f3397 := q3208 _ y3395
              have y3398 := q3223 _ y3395
              rw [h3214] at y3398
              have f3400 := q3248 _ y3398
              have y3401 := q3263 _ y3398
              rw [h3254] at y3401
              have y3403 := q3296 _ y3401
              have y3405 := y3403.x H3289.1 t3302 e3336 (by decide)
              have y3406 := y3405.x H3335.1 t3340 e3343 (by decide)
              have y3407 := y3406.x H3342.1 t3345 e3348 (by decide)
              have g3408 := neY f3390 h122 h121
              have g3409 := rgY f3391 (q1135 (by omega))
              have g3410 := f3397.symm.trans (h3211.trans h3210)
              have g3411 := f3400.symm.trans (h3251.trans h3250)
              refine y3407.eq ?_
              all_goals try simp only [forY, fo1Y, fo2Y, fo3Y, g3408, g3409, g3410, g3411, or_false, false_or, or_true, true_or, and_false, false_and, and_true, true_and, not_true, not_false_iff, ↓reduceIte, Int.reduceEq, Int.reduceLE, Int.reduceLT, Int.reduceNeg]
              all_goals first | rfl | (exfalso; omega)
            exact ⟨_, rfl, H3347, X3364, t3367, (R3370.mo (by omega) (by omega) (by omega)), (by omega), (by rw [c3379] <;> omega), (by rw [c3382] <;> omega), S3412⟩
          · refine k_nil ?_
            refine hB _ _ _ _ (kgoC (is := KX7_readFor_118) rfl ?_)
            refine k_aload_n rfl ?_
            refine k_aload_n rfl ?_
            refine k_iload_n rfl ?_
            refine k_inv (P := (P_X7_readForExps d)) (Q := (Q_X7_readForExps d)) rfl rfl rfl rfl (Nat.le_of_ble_eq_true rfl) (t3229.rc (by decide)) ⟨_, _, rfl, H3219, t3229, (by omega), (by omega), (rd_cd.st H0 h_0_0 X3240 R3237.1 (by decide)), (R3237.2.2.2.1 rd_at), (rd_bg.st H0 h_0_0 X3240 R3237 (by decide) (by omega) (by omega) (by omega)), (by omega)⟩ (fun w3413 σ3414 q3415 => ?_)
            obtain ⟨a3416, rfl, H3417, e3418, h3420, R3419, q3421, q3422, q3423, q3424⟩ := q3415
            have t3430 := t3229.x e3418
            obtain ⟨x3425, e3426, c3427, h3428, h3429⟩ := cg242 H3417.1 t3430
            obtain ⟨x3431, e3432, c3433, h3434, h3435⟩ := cg243 H3417.1 t3430
            have z3436 := congrArg Int32.toInt c3427
            have z3437 := congrArg Int32.toInt c3433
            refine k_st (st' := [.inr (.inr (some a3416)), .inr (.inr (some a20))]) rfl ?_
            have z3438 := R3237.1.1
            obtain ⟨x3439, e3440, c3441, h3442, h3443⟩ := cg272 H3417.1 h3420
            rw [c3441] at q3422
            obtain ⟨x3444, e3445, c3446, h3447, h3448⟩ := cg270 H3417.1 h3420
            rw [c3446] at q3423
            have R3449 : RdC p0 none (-28) (-8 + 8 * (d : Int)) (-997) σ0 σ3414 := R3237.tr ⟨R3419.1, R3419.2⟩ (by omega) (by omega) (by omega) (by omega)
            have z3450 := R3449.2.2.1
            have z3451 := R3449.2.2.2.1 rd_at
            have c3452 := (t3165.mi e3162 (by decide)).trans c3155
            have t3453 := t3165.x e3162
            have c3454 := (t3453.mi e3180 (by decide)).trans c3452
            have t3455 := t3453.x e3180
            have c3456 := (t3455.mi e3220 (by decide)).trans c3454
            have t3457 := t3455.x e3220
            have c3458 := (t3457.fi e3418 (by decide) (by decide)).trans c3456
            have c3459 := (t3165.mi e3162 (by decide)).trans c3159
            have c3460 := (t3453.mi e3180 (by decide)).trans c3459
            have c3461 := (t3455.mi e3220 (by decide)).trans c3460
            have c3462 := (t3457.fi e3418 (by decide) (by decide)).trans c3461
            have z3467 := t3457.1
            have t3468 := t3457.x e3418
            refine k_p278 H3417 t3468 (h3420.ot) (fun z hz => by cases hz; exact ⟨by omega, by unfold LvC; rw [c3458, c3462, c3446, c3441]; omega⟩) (fun σ3463 H3464 e3465 c3466 => ?_)
            refine k_nil ?_
            refine hB _ _ _ _ (kgoC (is := KX7_readFor_127) rfl ?_)
            refine k_aload_n rfl ?_
            refine k_iconst (m := 1) rfl (fun x3469 h3470 => ?_)
            have t3471 := t3430.x e3465
            have R3472 : RdC p0 none (-28) (-8 + 8 * (d : Int)) (-997) σ0 σ3463 := R3449.tr ⟨(e3465.gw H3417.1 (by decide)), (e3465.cou (u := 0) H3417.1 t3430 (by decide) (by rw [e3465.cn (by decide)]; omega))⟩ (by omega) (by omega) (by omega) (by omega)
            have c3473 := (t3430.mi e3465 (by decide)).trans c3433
            have X3474 : ExC [0, 1, 2, 60, 61, 62, 63, 64, 65, 66, 67, 68, 69, 70, 72, 73, 74, 75, 76, 242, 243, 244, 246, 270, 271, 272, 273, 275, 276, 277, 278, 279, 280, 330, 331, 332, 333, 334, 999] σ0 σ3414 := X3240.tr (e3418.mo (by decide))
            have X3475 : ExC [0, 1, 2, 60, 61, 62, 63, 64, 65, 66, 67, 68, 69, 70, 72, 73, 74, 75, 76, 242, 243, 244, 246, 270, 271, 272, 273, 275, 276, 277, 278, 279, 280, 330, 331, 332, 333, 334, 999] σ0 σ3463 := X3474.tr (e3465.mo (by decide))
            have c3476 := (t3430.mi e3465 (by decide)).trans c3427
            have z3477 := congrArg Int32.toInt c3476
            have z3478 := congrArg Int32.toInt c3473
            refine k_inv (P := P_X7_expect) (Q := Q_X7_expect) rfl rfl rfl rfl (Nat.le_of_ble_eq_true rfl) (t3471.rc (by decide)) ⟨_, _, rfl, H3464, t3471, (by omega), (by omega), (rd_cd.st H0 h_0_0 X3475 R3472.1 (by decide)), (R3472.2.2.2.1 rd_at), (rd_bg.st H0 h_0_0 X3475 R3472 (by decide) (by omega) (by omega) (by omega))⟩ (fun w3479 σ3480 q3481 => ?_)
            obtain ⟨rfl, H3482, e3483, R3484, q3485, q3486⟩ := q3481
            have t3492 := t3471.x e3483
            obtain ⟨x3487, e3488, c3489, h3490, h3491⟩ := cg242 H3482.1 t3492
            obtain ⟨x3493, e3494, c3495, h3496, h3497⟩ := cg243 H3482.1 t3492
            have z3498 := congrArg Int32.toInt c3489
            have z3499 := congrArg Int32.toInt c3495
            refine k_st (st' := []) rfl ?_
            have R3500 : RdC p0 none (-36) (-8 + 8 * (d : Int)) (-997) σ0 σ3480 := R3472.tr ⟨R3484.1, R3484.2⟩ (by omega) (by omega) (by omega) (by omega)
            have z3501 := R3500.2.2.1
            have z3502 := R3500.2.2.2.1 rd_at
            refine k_aload_n rfl ?_
            refine k_aload_n rfl ?_
            refine k_aload_n rfl ?_
            refine k_iload_n rfl ?_
            have t3503 := t3468.x e3465
            have t3504 := t3503.x e3483
            have X3505 : ExC [0, 1, 2, 60, 61, 62, 63, 64, 65, 66, 67, 68, 69, 70, 72, 73, 74, 75, 76, 242, 243, 244, 246, 270, 271, 272, 273, 275, 276, 277, 278, 279, 280, 330, 331, 332, 333, 334, 999] σ0 σ3480 := X3475.tr (e3483.mo (by decide))
            refine k_inv (P := (P_X7_readInner d)) (Q := (Q_X7_readInner d)) rfl rfl rfl rfl (Nat.le_of_ble_eq_true rfl) (t3492.rc (by decide)) ⟨_, _, _, rfl, H3482, t3492, t3504, (by omega), (by omega), (rd_cd.st H0 h_0_0 X3505 R3500.1 (by decide)), (R3500.2.2.2.1 rd_at), (rd_bg.st H0 h_0_0 X3505 R3500 (by decide) (by omega) (by omega) (by omega)), (by omega)⟩ (fun w3506 σ3507 q3508 => ?_)
            obtain ⟨a3509, rfl, H3510, e3511, h3513, R3512, q3514, q3515, q3516, q3517⟩ := q3508
            have t3523 := t3492.x e3511
            obtain ⟨x3518, e3519, c3520, h3521, h3522⟩ := cg242 H3510.1 t3523
            obtain ⟨x3524, e3525, c3526, h3527, h3528⟩ := cg243 H3510.1 t3523
            have z3529 := congrArg Int32.toInt c3520
            have z3530 := congrArg Int32.toInt c3526
            refine k_st (st' := [.inr (.inr (some a3509)), .inr (.inr (some a20))]) rfl ?_
            have z3531 := R3500.1.1
            obtain ⟨x3532, e3533, c3534, h3535, h3536⟩ := cg272 H3510.1 h3513
            rw [c3534] at q3515
            obtain ⟨x3537, e3538, c3539, h3540, h3541⟩ := cg270 H3510.1 h3513
            rw [c3539] at q3516
            have R3542 : RdC p0 none (-36) (-5 + 8 * (d : Int)) (-994) σ0 σ3507 := R3500.tr ⟨R3512.1, R3512.2⟩ (by omega) (by omega) (by omega) (by omega)
            have z3543 := R3542.2.2.1
            have z3544 := R3542.2.2.2.1 rd_at
            have c3545 := (t3468.mi e3465 (by decide)).trans c3458
            have c3546 := (t3503.mi e3483 (by decide)).trans c3545
            have c3547 := (t3504.fi e3511 (by decide) (by decide)).trans c3546
            have c3548 := (t3468.mi e3465 (by decide)).trans c3462
            have c3549 := (t3503.mi e3483 (by decide)).trans c3548
            have c3550 := (t3504.fi e3511 (by decide) (by decide)).trans c3549
            have z3555 := t3504.1
            have t3556 := t3504.x e3511
            refine k_p276 H3510 t3556 (h3513.ot) (fun z hz => by cases hz; exact ⟨by omega, by unfold LvC; rw [c3547, c3550, c3539, c3534]; omega⟩) (fun σ3551 H3552 e3553 c3554 => ?_)
            refine k_aload_n rfl ?_
            refine k_lload rfl ?_
            have t3557 := t3523.x e3553
            refine k_putL kg245 H3552 t3557 fk245 (fun σ3558 H3559 e3560 c3561 => ?_)
            refine k_aload_n rfl ?_
            refine k_aload_n rfl ?_
            have t3562 := t3557.x e3560
            have t3567 := t38.x e49
            have t3568 := t3567.x e76
            have t3569 := t3568.x e98
            have t3570 := t3569.x e3117
            have t3571 := t3570.x e3162
            have t3572 := t3571.x e3180
            have t3573 := t3572.x e3220
            have t3574 := t3573.x e3418
            have t3575 := t3574.x e3465
            have t3576 := t3575.x e3483
            have t3577 := t3576.x e3511
            have t3578 := t3577.x e3553
            have t3579 := t3578.x e3560
            refine k_putR kp246 H3559 t3562 fk246 (rfo246 (t3579)) (fun σ3563 H3564 e3565 c3566 => ?_)
            refine k_aload_n rfl ?_
            refine k_areturn ?_
            have X3580 : ExC [0, 1, 2, 60, 61, 62, 63, 64, 65, 66, 67, 68, 69, 70, 72, 73, 74, 75, 76, 242, 243, 244, 246, 270, 271, 272, 273, 275, 276, 277, 278, 279, 280, 330, 331, 332, 333, 334, 999] σ0 σ3507 := X3505.tr (e3511.mo (by decide))
            have X3581 : ExC [0, 1, 2, 60, 61, 62, 63, 64, 65, 66, 67, 68, 69, 70, 72, 73, 74, 75, 76, 242, 243, 244, 246, 270, 271, 272, 273, 275, 276, 277, 278, 279, 280, 330, 331, 332, 333, 334, 999] σ0 σ3551 := X3580.tr (e3553.mo (by decide))
            have X3582 : ExC [0, 1, 2, 60, 61, 62, 63, 64, 65, 66, 67, 68, 69, 70, 72, 73, 74, 75, 76, 242, 243, 244, 246, 270, 271, 272, 273, 275, 276, 277, 278, 279, 280, 330, 331, 332, 333, 334, 999] σ0 σ3558 := X3581.tr (e3560.mo (by decide))
            have X3583 : ExC [0, 1, 2, 60, 61, 62, 63, 64, 65, 66, 67, 68, 69, 70, 72, 73, 74, 75, 76, 242, 243, 244, 246, 270, 271, 272, 273, 275, 276, 277, 278, 279, 280, 330, 331, 332, 333, 334, 999] σ0 σ3563 := X3582.tr (e3565.mo (by decide))
            have t3584 := t3556.x e3553
            have t3585 := t3584.x e3560
            have t3586 := t3585.x e3565
            have R3587 : RdC p0 none (-36) (-5 + 8 * (d : Int)) (-994) σ0 σ3551 := R3542.tr ⟨(e3553.gw H3510.1 (by decide)), (e3553.cou (u := 0) H3510.1 t3523 (by decide) (by rw [e3553.cn (by decide)]; omega))⟩ (by omega) (by omega) (by omega) (by omega)
            have R3588 : RdC p0 none (-36) (-5 + 8 * (d : Int)) (-994) σ0 σ3558 := R3587.tr ⟨(e3560.gw H3552.1 (by decide)), (e3560.cou (u := 0) H3552.1 t3557 (by decide) (by rw [e3560.cn (by decide)]; omega))⟩ (by omega) (by omega) (by omega) (by omega)
            have R3589 : RdC p0 none (-36) (-5 + 8 * (d : Int)) (-994) σ0 σ3563 := R3588.tr ⟨(e3565.gw H3559.1 (by decide)), (e3565.cou (u := 0) H3559.1 t3562 (by decide) (by rw [e3565.cn (by decide)]; omega))⟩ (by omega) (by omega) (by omega) (by omega)
            have c3590 := (t3523.mi e3553 (by decide)).trans c3526
            have c3591 := (t3557.mi e3560 (by decide)).trans c3590
            have c3592 := (t3562.mi e3565 (by decide)).trans c3591
            have c3593 := (t3523.mi e3553 (by decide)).trans c3520
            have c3594 := (t3557.mi e3560 (by decide)).trans c3593
            have c3595 := (t3562.mi e3565 (by decide)).trans c3594
            have c3596 := (t3556.mi e3553 (by decide)).trans c3550
            have c3597 := (t3584.mi e3560 (by decide)).trans c3596
            have c3598 := (t3585.mi e3565 (by decide)).trans c3597
            have c3599 := (t3556.mi e3553 (by decide)).trans c3547
            have c3600 := (t3584.mi e3560 (by decide)).trans c3599
            have c3601 := (t3585.mi e3565 (by decide)).trans c3600
            have S3634 : ∀ s, ReC σ0 p0 s → ReC σ3563 p0 (forY d (stY (d - 1)) s) := by
              intro s hs
              have y3602 := q28 _ hs
              have y3604 := q52 _ y3602
              have y3606 := q79 _ y3604
              rw [h70] at y3606
              have y3608 := y3606.x H75.1 t85 e98 (by decide)
              have f3609 := q114 _ y3608
              have f3610 := q1128 _ y3608
              have y3611 := q3123 _ y3608
              have y3613 := y3611.x H3116.1 t3129 e3162 (by decide)
              have y3614 := q3183 _ y3613
              rw [h3167] at y3614
              have f3616 := q3208 _ y3614
              have y3617 := q3223 _ y3614
              rw [h3214] at y3617
              have f3619 := q3248 _ y3617
              have y3620 := q3424 _ y3617
              have y3622 := y3620.x H3417.1 t3430 e3465 (by decide)
              have y3623 := q3486 _ y3622
              rw [h3470] at y3623
              have y3625 := q3517 _ y3623
              have y3627 := y3625.x H3510.1 t3523 e3553 (by decide)
              have y3628 := y3627.x H3552.1 t3557 e3560 (by decide)
              have y3629 := y3628.x H3559.1 t3562 e3565 (by decide)
              have g3630 := neY f3609 h122 h121
              have g3631 := rgY f3610 (q1135 (by omega))
              have g3632 := f3616.symm.trans (h3211.trans h3210)
              have g3633 := neY f3619 h3251 h3250
              refine y3629.eq ?_
              all_goals try simp only [forY, fo1Y, fo2Y, fo3Y, g3630, g3631, g3632, g3633, or_false, false_or, or_true, true_or, and_false, false_and, and_true, true_and, not_true, not_false_iff, ↓reduceIte, Int.reduceEq, Int.reduceLE, Int.reduceLT, Int.reduceNeg]
              all_goals first | rfl | (exfalso; omega)
            exact ⟨_, rfl, H3564, X3583, t3586, (R3589.mo (by omega) (by omega) (by omega)), (by omega), (by rw [c3598] <;> omega), (by rw [c3601] <;> omega), S3634⟩
        · refine k_nil ?_
          refine hB _ _ _ _ (kgoC (is := KX7_readFor_96) rfl ?_)
          refine k_aload_n rfl ?_
          refine k_aload_n rfl ?_
          refine k_iload_n rfl ?_
          refine k_inv (P := (P_X7_readExp d)) (Q := (Q_X7_readExp d)) rfl rfl rfl rfl (Nat.le_of_ble_eq_true rfl) (t3189.rc (by decide)) ⟨_, _, rfl, H3179, t3189, (by omega), (by omega), (rd_cd.st H0 h_0_0 X3200 R3197.1 (by decide)), (R3197.2.2.2.1 rd_at), (rd_bg.st H0 h_0_0 X3200 R3197 (by decide) (by omega) (by omega) (by omega)), (by omega)⟩ (fun w3635 σ3636 q3637 => ?_)
          obtain ⟨a3638, rfl, H3639, e3640, h3642, R3641, q3643, q3644⟩ := q3637
          have t3650 := t3189.x e3640
          obtain ⟨x3645, e3646, c3647, h3648, h3649⟩ := cg242 H3639.1 t3650
          obtain ⟨x3651, e3652, c3653, h3654, h3655⟩ := cg243 H3639.1 t3650
          have z3656 := congrArg Int32.toInt c3647
          have z3657 := congrArg Int32.toInt c3653
          refine k_st (st' := [.inr (.inr (some a3638)), .inr (.inr (some a20))]) rfl ?_
          have z3658 := R3197.1.1
          have R3659 : RdC p0 none (-22) (10 + 8 * (d : Int)) (-999) σ0 σ3636 := R3197.tr ⟨R3641.1, R3641.2⟩ (by omega) (by omega) (by omega) (by omega)
          have z3660 := R3659.2.2.1
          have z3661 := R3659.2.2.2.1 rd_at
          have t3662 := t3165.x e3162
          have t3663 := t3662.x e3180
          have t3664 := t3663.x e3640
          refine k_putR kp279 H3639 t3664 fk279 (rf279 h3642) (fun σ3665 H3666 e3667 c3668 => ?_)
          refine k_nil ?_
          refine hB _ _ _ _ (kgoC (is := KX7_readFor_105) rfl ?_)
          refine k_aload_n rfl ?_
          refine k_iconst (m := 4) rfl (fun x3669 h3670 => ?_)
          have t3671 := t3650.x e3667
          have R3672 : RdC p0 none (-22) (10 + 8 * (d : Int)) (-999) σ0 σ3665 := R3659.tr ⟨(e3667.gw H3639.1 (by decide)), (e3667.cou (u := 0) H3639.1 t3650 (by decide) (by rw [e3667.cn (by decide)]; omega))⟩ (by omega) (by omega) (by omega) (by omega)
          have c3673 := (t3650.mi e3667 (by decide)).trans c3653
          have X3674 : ExC [0, 1, 2, 60, 61, 62, 63, 64, 65, 66, 67, 68, 69, 70, 72, 73, 74, 75, 76, 242, 243, 244, 246, 270, 271, 272, 273, 275, 276, 277, 278, 279, 280, 330, 331, 332, 333, 334, 999] σ0 σ3636 := X3200.tr (e3640.mo (by decide))
          have X3675 : ExC [0, 1, 2, 60, 61, 62, 63, 64, 65, 66, 67, 68, 69, 70, 72, 73, 74, 75, 76, 242, 243, 244, 246, 270, 271, 272, 273, 275, 276, 277, 278, 279, 280, 330, 331, 332, 333, 334, 999] σ0 σ3665 := X3674.tr (e3667.mo (by decide))
          have c3676 := (t3650.mi e3667 (by decide)).trans c3647
          have z3677 := congrArg Int32.toInt c3676
          have z3678 := congrArg Int32.toInt c3673
          refine k_inv (P := P_X7_expect) (Q := Q_X7_expect) rfl rfl rfl rfl (Nat.le_of_ble_eq_true rfl) (t3671.rc (by decide)) ⟨_, _, rfl, H3666, t3671, (by omega), (by omega), (rd_cd.st H0 h_0_0 X3675 R3672.1 (by decide)), (R3672.2.2.2.1 rd_at), (rd_bg.st H0 h_0_0 X3675 R3672 (by decide) (by omega) (by omega) (by omega))⟩ (fun w3679 σ3680 q3681 => ?_)
          obtain ⟨rfl, H3682, e3683, R3684, q3685, q3686⟩ := q3681
          have t3692 := t3671.x e3683
          obtain ⟨x3687, e3688, c3689, h3690, h3691⟩ := cg242 H3682.1 t3692
          obtain ⟨x3693, e3694, c3695, h3696, h3697⟩ := cg243 H3682.1 t3692
          have z3698 := congrArg Int32.toInt c3689
          have z3699 := congrArg Int32.toInt c3695
          refine k_st (st' := []) rfl ?_
          have R3700 : RdC p0 none (-30) (10 + 8 * (d : Int)) (-999) σ0 σ3680 := R3672.tr ⟨R3684.1, R3684.2⟩ (by omega) (by omega) (by omega) (by omega)
          have z3701 := R3700.2.2.1
          have z3702 := R3700.2.2.2.1 rd_at
          refine k_aload_n rfl ?_
          have X3703 : ExC [0, 1, 2, 60, 61, 62, 63, 64, 65, 66, 67, 68, 69, 70, 72, 73, 74, 75, 76, 242, 243, 244, 246, 270, 271, 272, 273, 275, 276, 277, 278, 279, 280, 330, 331, 332, 333, 334, 999] σ0 σ3680 := X3675.tr (e3683.mo (by decide))
          refine k_inv (P := P_X7_code) (Q := Q_X7_code) rfl rfl rfl rfl (Nat.le_of_ble_eq_true rfl) (t3692.rc (by decide)) ⟨_, rfl, H3682, t3692, (rd_cd.st H0 h_0_0 X3703 R3700.1 (by decide))⟩ (fun w3704 σ3705 q3706 => ?_)
          obtain ⟨x3707, rfl, rfl, q3708, q3709, q3710, q3711⟩ := q3706
          refine k_st (st' := [.inl x3707]) rfl ?_
          refine k_iconst (m := 1) rfl (fun x3712 h3713 => ?_)
          refine k_ic_eq (fun h3714 => ?_) (fun h3714 => ?_)
          · have h3715 : x3693.toInt = 0 := by omega
            refine hB _ _ _ _ (kgoC (is := KX7_readFor_127) rfl ?_)
            refine k_aload_n rfl ?_
            refine k_iconst (m := 1) rfl (fun x3716 h3717 => ?_)
            have R3718 := R3700.nf (-1000) (-1000) (by rw [c3695]; omega)
            refine k_inv (P := P_X7_expect) (Q := Q_X7_expect) rfl rfl rfl rfl (Nat.le_of_ble_eq_true rfl) (t3692.rc (by decide)) ⟨_, _, rfl, H3682, t3692, (by omega), (by omega), (rd_cd.st H0 h_0_0 X3703 R3718.1 (by decide)), (R3718.2.2.2.1 rd_at), (rd_bg.stn H0 h_0_0 X3703 R3718 (by decide) (by rw [c3695]; omega) (by omega))⟩ (fun w3719 σ3720 q3721 => ?_)
            obtain ⟨rfl, H3722, e3723, R3724, q3725, q3726⟩ := q3721
            have t3732 := t3692.x e3723
            obtain ⟨x3727, e3728, c3729, h3730, h3731⟩ := cg242 H3722.1 t3732
            obtain ⟨x3733, e3734, c3735, h3736, h3737⟩ := cg243 H3722.1 t3732
            have z3738 := congrArg Int32.toInt c3729
            have z3739 := congrArg Int32.toInt c3735
            refine k_st (st' := []) rfl ?_
            have R3740 : RdC p0 none (-38) (-30) (-1000) σ0 σ3720 := R3718.tr ⟨R3724.1, R3724.2⟩ (by omega) (by omega) (by omega) (by omega)
            have z3741 := R3740.2.2.1
            have z3742 := R3740.2.2.2.1 rd_at
            refine k_aload_n rfl ?_
            refine k_aload_n rfl ?_
            refine k_aload_n rfl ?_
            refine k_iload_n rfl ?_
            have t3743 := t3664.x e3667
            have t3744 := t3743.x e3683
            have t3745 := t3744.x e3723
            have X3746 : ExC [0, 1, 2, 60, 61, 62, 63, 64, 65, 66, 67, 68, 69, 70, 72, 73, 74, 75, 76, 242, 243, 244, 246, 270, 271, 272, 273, 275, 276, 277, 278, 279, 280, 330, 331, 332, 333, 334, 999] σ0 σ3720 := X3703.tr (e3723.mo (by decide))
            refine k_inv (P := (P_X7_readInner d)) (Q := (Q_X7_readInner d)) rfl rfl rfl rfl (Nat.le_of_ble_eq_true rfl) (t3732.rc (by decide)) ⟨_, _, _, rfl, H3722, t3732, t3745, (by omega), (by omega), (rd_cd.st H0 h_0_0 X3746 R3740.1 (by decide)), (R3740.2.2.2.1 rd_at), (rd_bg.st H0 h_0_0 X3746 R3740 (by decide) (by omega) (by omega) (by omega)), (by omega)⟩ (fun w3747 σ3748 q3749 => ?_)
            obtain ⟨a3750, rfl, H3751, e3752, h3754, R3753, q3755, q3756, q3757, q3758⟩ := q3749
            have t3764 := t3732.x e3752
            obtain ⟨x3759, e3760, c3761, h3762, h3763⟩ := cg242 H3751.1 t3764
            obtain ⟨x3765, e3766, c3767, h3768, h3769⟩ := cg243 H3751.1 t3764
            have z3770 := congrArg Int32.toInt c3761
            have z3771 := congrArg Int32.toInt c3767
            refine k_st (st' := [.inr (.inr (some a3750)), .inr (.inr (some a20))]) rfl ?_
            have z3772 := R3740.1.1
            obtain ⟨x3773, e3774, c3775, h3776, h3777⟩ := cg272 H3751.1 h3754
            rw [c3775] at q3756
            obtain ⟨x3778, e3779, c3780, h3781, h3782⟩ := cg270 H3751.1 h3754
            rw [c3780] at q3757
            have R3783 : RdC p0 none (-38) (-22 + 8 * (d : Int)) (-997) σ0 σ3748 := R3740.tr ⟨R3753.1, R3753.2⟩ (by omega) (by omega) (by omega) (by omega)
            have z3784 := R3783.2.2.1
            have z3785 := R3783.2.2.2.1 rd_at
            have c3786 := (t3165.mi e3162 (by decide)).trans c3155
            have c3787 := (t3662.mi e3180 (by decide)).trans c3786
            have c3788 := (t3663.mi e3640 (by decide)).trans c3787
            have c3789 := (t3664.mi e3667 (by decide)).trans c3788
            have c3790 := (t3743.mi e3683 (by decide)).trans c3789
            have c3791 := (t3744.mi e3723 (by decide)).trans c3790
            have c3792 := (t3745.fi e3752 (by decide) (by decide)).trans c3791
            have c3793 := (t3165.mi e3162 (by decide)).trans c3159
            have c3794 := (t3662.mi e3180 (by decide)).trans c3793
            have c3795 := (t3663.mi e3640 (by decide)).trans c3794
            have c3796 := (t3664.mi e3667 (by decide)).trans c3795
            have c3797 := (t3743.mi e3683 (by decide)).trans c3796
            have c3798 := (t3744.mi e3723 (by decide)).trans c3797
            have c3799 := (t3745.fi e3752 (by decide) (by decide)).trans c3798
            have z3804 := t3745.1
            have t3805 := t3745.x e3752
            refine k_p276 H3751 t3805 (h3754.ot) (fun z hz => by cases hz; exact ⟨by omega, by unfold LvC; rw [c3792, c3799, c3780, c3775]; omega⟩) (fun σ3800 H3801 e3802 c3803 => ?_)
            refine k_aload_n rfl ?_
            refine k_lload rfl ?_
            have t3806 := t3764.x e3802
            refine k_putL kg245 H3801 t3806 fk245 (fun σ3807 H3808 e3809 c3810 => ?_)
            refine k_aload_n rfl ?_
            refine k_aload_n rfl ?_
            have t3811 := t3806.x e3809
            have t3816 := t38.x e49
            have t3817 := t3816.x e76
            have t3818 := t3817.x e98
            have t3819 := t3818.x e3117
            have t3820 := t3819.x e3162
            have t3821 := t3820.x e3180
            have t3822 := t3821.x e3640
            have t3823 := t3822.x e3667
            have t3824 := t3823.x e3683
            have t3825 := t3824.x e3723
            have t3826 := t3825.x e3752
            have t3827 := t3826.x e3802
            have t3828 := t3827.x e3809
            refine k_putR kp246 H3808 t3811 fk246 (rfo246 (t3828)) (fun σ3812 H3813 e3814 c3815 => ?_)
            refine k_aload_n rfl ?_
            refine k_areturn ?_
            have X3829 : ExC [0, 1, 2, 60, 61, 62, 63, 64, 65, 66, 67, 68, 69, 70, 72, 73, 74, 75, 76, 242, 243, 244, 246, 270, 271, 272, 273, 275, 276, 277, 278, 279, 280, 330, 331, 332, 333, 334, 999] σ0 σ3748 := X3746.tr (e3752.mo (by decide))
            have X3830 : ExC [0, 1, 2, 60, 61, 62, 63, 64, 65, 66, 67, 68, 69, 70, 72, 73, 74, 75, 76, 242, 243, 244, 246, 270, 271, 272, 273, 275, 276, 277, 278, 279, 280, 330, 331, 332, 333, 334, 999] σ0 σ3800 := X3829.tr (e3802.mo (by decide))
            have X3831 : ExC [0, 1, 2, 60, 61, 62, 63, 64, 65, 66, 67, 68, 69, 70, 72, 73, 74, 75, 76, 242, 243, 244, 246, 270, 271, 272, 273, 275, 276, 277, 278, 279, 280, 330, 331, 332, 333, 334, 999] σ0 σ3807 := X3830.tr (e3809.mo (by decide))
            have X3832 : ExC [0, 1, 2, 60, 61, 62, 63, 64, 65, 66, 67, 68, 69, 70, 72, 73, 74, 75, 76, 242, 243, 244, 246, 270, 271, 272, 273, 275, 276, 277, 278, 279, 280, 330, 331, 332, 333, 334, 999] σ0 σ3812 := X3831.tr (e3814.mo (by decide))
            have t3833 := t3805.x e3802
            have t3834 := t3833.x e3809
            have t3835 := t3834.x e3814
            have R3836 : RdC p0 none (-38) (-22 + 8 * (d : Int)) (-997) σ0 σ3800 := R3783.tr ⟨(e3802.gw H3751.1 (by decide)), (e3802.cou (u := 0) H3751.1 t3764 (by decide) (by rw [e3802.cn (by decide)]; omega))⟩ (by omega) (by omega) (by omega) (by omega)
            have R3837 : RdC p0 none (-38) (-22 + 8 * (d : Int)) (-997) σ0 σ3807 := R3836.tr ⟨(e3809.gw H3801.1 (by decide)), (e3809.cou (u := 0) H3801.1 t3806 (by decide) (by rw [e3809.cn (by decide)]; omega))⟩ (by omega) (by omega) (by omega) (by omega)
            have R3838 : RdC p0 none (-38) (-22 + 8 * (d : Int)) (-997) σ0 σ3812 := R3837.tr ⟨(e3814.gw H3808.1 (by decide)), (e3814.cou (u := 0) H3808.1 t3811 (by decide) (by rw [e3814.cn (by decide)]; omega))⟩ (by omega) (by omega) (by omega) (by omega)
            have c3839 := (t3764.mi e3802 (by decide)).trans c3767
            have c3840 := (t3806.mi e3809 (by decide)).trans c3839
            have c3841 := (t3811.mi e3814 (by decide)).trans c3840
            have c3842 := (t3764.mi e3802 (by decide)).trans c3761
            have c3843 := (t3806.mi e3809 (by decide)).trans c3842
            have c3844 := (t3811.mi e3814 (by decide)).trans c3843
            have c3845 := (t3805.mi e3802 (by decide)).trans c3799
            have c3846 := (t3833.mi e3809 (by decide)).trans c3845
            have c3847 := (t3834.mi e3814 (by decide)).trans c3846
            have c3848 := (t3805.mi e3802 (by decide)).trans c3792
            have c3849 := (t3833.mi e3809 (by decide)).trans c3848
            have c3850 := (t3834.mi e3814 (by decide)).trans c3849
            have S3883 : ∀ s, ReC σ0 p0 s → ReC σ3812 p0 (forY d (stY (d - 1)) s) := by
              intro s hs
              have y3851 := q28 _ hs
              have y3853 := q52 _ y3851
              have y3855 := q79 _ y3853
              rw [h70] at y3855
              have y3857 := y3855.x H75.1 t85 e98 (by decide)
              have f3858 := q114 _ y3857
              have f3859 := q1128 _ y3857
              have y3860 := q3123 _ y3857
              have y3862 := y3860.x H3116.1 t3129 e3162 (by decide)
              have y3863 := q3183 _ y3862
              rw [h3167] at y3863
              have f3865 := q3208 _ y3863
              have y3866 := q3644 _ y3863
              have y3868 := y3866.x H3639.1 t3650 e3667 (by decide)
              have y3869 := q3686 _ y3868
              rw [h3670] at y3869
              have f3871 := q3711 _ y3869
              have y3872 := q3726 _ y3869
              rw [h3717] at y3872
              have y3874 := q3758 _ y3872
              have y3876 := y3874.x H3751.1 t3764 e3802 (by decide)
              have y3877 := y3876.x H3801.1 t3806 e3809 (by decide)
              have y3878 := y3877.x H3808.1 t3811 e3814 (by decide)
              have g3879 := neY f3858 h122 h121
              have g3880 := rgY f3859 (q1135 (by omega))
              have g3881 := neY f3865 h3211 h3210
              have g3882 := f3871.symm.trans (h3714.trans h3713)
              refine y3878.eq ?_
              all_goals try simp only [forY, fo1Y, fo2Y, fo3Y, g3879, g3880, g3881, g3882, or_false, false_or, or_true, true_or, and_false, false_and, and_true, true_and, not_true, not_false_iff, ↓reduceIte, Int.reduceEq, Int.reduceLE, Int.reduceLT, Int.reduceNeg]
              all_goals first | rfl | (exfalso; omega)
            exact ⟨_, rfl, H3813, X3832, t3835, (R3838.mo (by omega) (by omega) (by omega)), (by omega), (by rw [c3847] <;> omega), (by rw [c3850] <;> omega), S3883⟩
          · refine k_nil ?_
            refine hB _ _ _ _ (kgoC (is := KX7_readFor_118) rfl ?_)
            refine k_aload_n rfl ?_
            refine k_aload_n rfl ?_
            refine k_iload_n rfl ?_
            refine k_inv (P := (P_X7_readForExps d)) (Q := (Q_X7_readForExps d)) rfl rfl rfl rfl (Nat.le_of_ble_eq_true rfl) (t3692.rc (by decide)) ⟨_, _, rfl, H3682, t3692, (by omega), (by omega), (rd_cd.st H0 h_0_0 X3703 R3700.1 (by decide)), (R3700.2.2.2.1 rd_at), (rd_bg.st H0 h_0_0 X3703 R3700 (by decide) (by omega) (by omega) (by omega)), (by omega)⟩ (fun w3884 σ3885 q3886 => ?_)
            obtain ⟨a3887, rfl, H3888, e3889, h3891, R3890, q3892, q3893, q3894, q3895⟩ := q3886
            have t3901 := t3692.x e3889
            obtain ⟨x3896, e3897, c3898, h3899, h3900⟩ := cg242 H3888.1 t3901
            obtain ⟨x3902, e3903, c3904, h3905, h3906⟩ := cg243 H3888.1 t3901
            have z3907 := congrArg Int32.toInt c3898
            have z3908 := congrArg Int32.toInt c3904
            refine k_st (st' := [.inr (.inr (some a3887)), .inr (.inr (some a20))]) rfl ?_
            have z3909 := R3700.1.1
            obtain ⟨x3910, e3911, c3912, h3913, h3914⟩ := cg272 H3888.1 h3891
            rw [c3912] at q3893
            obtain ⟨x3915, e3916, c3917, h3918, h3919⟩ := cg270 H3888.1 h3891
            rw [c3917] at q3894
            have R3920 : RdC p0 none (-28) (13 + 8 * (d : Int)) (-996) σ0 σ3885 := R3700.tr ⟨R3890.1, R3890.2⟩ (by omega) (by omega) (by omega) (by omega)
            have z3921 := R3920.2.2.1
            have z3922 := R3920.2.2.2.1 rd_at
            have c3923 := (t3165.mi e3162 (by decide)).trans c3155
            have c3924 := (t3662.mi e3180 (by decide)).trans c3923
            have c3925 := (t3663.mi e3640 (by decide)).trans c3924
            have c3926 := (t3664.mi e3667 (by decide)).trans c3925
            have t3927 := t3664.x e3667
            have c3928 := (t3927.mi e3683 (by decide)).trans c3926
            have t3929 := t3927.x e3683
            have c3930 := (t3929.fi e3889 (by decide) (by decide)).trans c3928
            have c3931 := (t3165.mi e3162 (by decide)).trans c3159
            have c3932 := (t3662.mi e3180 (by decide)).trans c3931
            have c3933 := (t3663.mi e3640 (by decide)).trans c3932
            have c3934 := (t3664.mi e3667 (by decide)).trans c3933
            have c3935 := (t3927.mi e3683 (by decide)).trans c3934
            have c3936 := (t3929.fi e3889 (by decide) (by decide)).trans c3935
            have z3941 := t3929.1
            have t3942 := t3929.x e3889
            refine k_p278 H3888 t3942 (h3891.ot) (fun z hz => by cases hz; exact ⟨by omega, by unfold LvC; rw [c3930, c3936, c3917, c3912]; omega⟩) (fun σ3937 H3938 e3939 c3940 => ?_)
            refine k_nil ?_
            refine hB _ _ _ _ (kgoC (is := KX7_readFor_127) rfl ?_)
            refine k_aload_n rfl ?_
            refine k_iconst (m := 1) rfl (fun x3943 h3944 => ?_)
            have t3945 := t3901.x e3939
            have R3946 : RdC p0 none (-28) (13 + 8 * (d : Int)) (-996) σ0 σ3937 := R3920.tr ⟨(e3939.gw H3888.1 (by decide)), (e3939.cou (u := 0) H3888.1 t3901 (by decide) (by rw [e3939.cn (by decide)]; omega))⟩ (by omega) (by omega) (by omega) (by omega)
            have c3947 := (t3901.mi e3939 (by decide)).trans c3904
            have X3948 : ExC [0, 1, 2, 60, 61, 62, 63, 64, 65, 66, 67, 68, 69, 70, 72, 73, 74, 75, 76, 242, 243, 244, 246, 270, 271, 272, 273, 275, 276, 277, 278, 279, 280, 330, 331, 332, 333, 334, 999] σ0 σ3885 := X3703.tr (e3889.mo (by decide))
            have X3949 : ExC [0, 1, 2, 60, 61, 62, 63, 64, 65, 66, 67, 68, 69, 70, 72, 73, 74, 75, 76, 242, 243, 244, 246, 270, 271, 272, 273, 275, 276, 277, 278, 279, 280, 330, 331, 332, 333, 334, 999] σ0 σ3937 := X3948.tr (e3939.mo (by decide))
            have c3950 := (t3901.mi e3939 (by decide)).trans c3898
            have z3951 := congrArg Int32.toInt c3950
            have z3952 := congrArg Int32.toInt c3947
            refine k_inv (P := P_X7_expect) (Q := Q_X7_expect) rfl rfl rfl rfl (Nat.le_of_ble_eq_true rfl) (t3945.rc (by decide)) ⟨_, _, rfl, H3938, t3945, (by omega), (by omega), (rd_cd.st H0 h_0_0 X3949 R3946.1 (by decide)), (R3946.2.2.2.1 rd_at), (rd_bg.st H0 h_0_0 X3949 R3946 (by decide) (by omega) (by omega) (by omega))⟩ (fun w3953 σ3954 q3955 => ?_)
            obtain ⟨rfl, H3956, e3957, R3958, q3959, q3960⟩ := q3955
            have t3966 := t3945.x e3957
            obtain ⟨x3961, e3962, c3963, h3964, h3965⟩ := cg242 H3956.1 t3966
            obtain ⟨x3967, e3968, c3969, h3970, h3971⟩ := cg243 H3956.1 t3966
            have z3972 := congrArg Int32.toInt c3963
            have z3973 := congrArg Int32.toInt c3969
            refine k_st (st' := []) rfl ?_
            have R3974 : RdC p0 none (-36) (13 + 8 * (d : Int)) (-996) σ0 σ3954 := R3946.tr ⟨R3958.1, R3958.2⟩ (by omega) (by omega) (by omega) (by omega)
            have z3975 := R3974.2.2.1
            have z3976 := R3974.2.2.2.1 rd_at
            refine k_aload_n rfl ?_
            refine k_aload_n rfl ?_
            refine k_aload_n rfl ?_
            refine k_iload_n rfl ?_
            have t3977 := t3942.x e3939
            have t3978 := t3977.x e3957
            have X3979 : ExC [0, 1, 2, 60, 61, 62, 63, 64, 65, 66, 67, 68, 69, 70, 72, 73, 74, 75, 76, 242, 243, 244, 246, 270, 271, 272, 273, 275, 276, 277, 278, 279, 280, 330, 331, 332, 333, 334, 999] σ0 σ3954 := X3949.tr (e3957.mo (by decide))
            refine k_inv (P := (P_X7_readInner d)) (Q := (Q_X7_readInner d)) rfl rfl rfl rfl (Nat.le_of_ble_eq_true rfl) (t3966.rc (by decide)) ⟨_, _, _, rfl, H3956, t3966, t3978, (by omega), (by omega), (rd_cd.st H0 h_0_0 X3979 R3974.1 (by decide)), (R3974.2.2.2.1 rd_at), (rd_bg.st H0 h_0_0 X3979 R3974 (by decide) (by omega) (by omega) (by omega)), (by omega)⟩ (fun w3980 σ3981 q3982 => ?_)
            obtain ⟨a3983, rfl, H3984, e3985, h3987, R3986, q3988, q3989, q3990, q3991⟩ := q3982
            have t3997 := t3966.x e3985
            obtain ⟨x3992, e3993, c3994, h3995, h3996⟩ := cg242 H3984.1 t3997
            obtain ⟨x3998, e3999, c4000, h4001, h4002⟩ := cg243 H3984.1 t3997
            have z4003 := congrArg Int32.toInt c3994
            have z4004 := congrArg Int32.toInt c4000
            refine k_st (st' := [.inr (.inr (some a3983)), .inr (.inr (some a20))]) rfl ?_
            have z4005 := R3974.1.1
            obtain ⟨x4006, e4007, c4008, h4009, h4010⟩ := cg272 H3984.1 h3987
            rw [c4008] at q3989
            obtain ⟨x4011, e4012, c4013, h4014, h4015⟩ := cg270 H3984.1 h3987
            rw [c4013] at q3990
            have R4016 : RdC p0 none (-36) (16 + 8 * (d : Int)) (-993) σ0 σ3981 := R3974.tr ⟨R3986.1, R3986.2⟩ (by omega) (by omega) (by omega) (by omega)
            have z4017 := R4016.2.2.1
            have z4018 := R4016.2.2.2.1 rd_at
            have c4019 := (t3942.mi e3939 (by decide)).trans c3930
            have c4020 := (t3977.mi e3957 (by decide)).trans c4019
            have c4021 := (t3978.fi e3985 (by decide) (by decide)).trans c4020
            have c4022 := (t3942.mi e3939 (by decide)).trans c3936
            have c4023 := (t3977.mi e3957 (by decide)).trans c4022
            have c4024 := (t3978.fi e3985 (by decide) (by decide)).trans c4023
            have z4029 := t3978.1
            have t4030 := t3978.x e3985
            refine k_p276 H3984 t4030 (h3987.ot) (fun z hz => by cases hz; exact ⟨by omega, by unfold LvC; rw [c4021, c4024, c4013, c4008]; omega⟩) (fun σ4025 H4026 e4027 c4028 => ?_)
            refine k_aload_n rfl ?_
            refine k_lload rfl ?_
            have t4031 := t3997.x e4027
            refine k_putL kg245 H4026 t4031 fk245 (fun σ4032 H4033 e4034 c4035 => ?_)
            refine k_aload_n rfl ?_
            refine k_aload_n rfl ?_
            have t4036 := t4031.x e4034
            have t4041 := t38.x e49
            have t4042 := t4041.x e76
            have t4043 := t4042.x e98
            have t4044 := t4043.x e3117
            have t4045 := t4044.x e3162
            have t4046 := t4045.x e3180
            have t4047 := t4046.x e3640
            have t4048 := t4047.x e3667
            have t4049 := t4048.x e3683
            have t4050 := t4049.x e3889
            have t4051 := t4050.x e3939
            have t4052 := t4051.x e3957
            have t4053 := t4052.x e3985
            have t4054 := t4053.x e4027
            have t4055 := t4054.x e4034
            refine k_putR kp246 H4033 t4036 fk246 (rfo246 (t4055)) (fun σ4037 H4038 e4039 c4040 => ?_)
            refine k_aload_n rfl ?_
            refine k_areturn ?_
            have X4056 : ExC [0, 1, 2, 60, 61, 62, 63, 64, 65, 66, 67, 68, 69, 70, 72, 73, 74, 75, 76, 242, 243, 244, 246, 270, 271, 272, 273, 275, 276, 277, 278, 279, 280, 330, 331, 332, 333, 334, 999] σ0 σ3981 := X3979.tr (e3985.mo (by decide))
            have X4057 : ExC [0, 1, 2, 60, 61, 62, 63, 64, 65, 66, 67, 68, 69, 70, 72, 73, 74, 75, 76, 242, 243, 244, 246, 270, 271, 272, 273, 275, 276, 277, 278, 279, 280, 330, 331, 332, 333, 334, 999] σ0 σ4025 := X4056.tr (e4027.mo (by decide))
            have X4058 : ExC [0, 1, 2, 60, 61, 62, 63, 64, 65, 66, 67, 68, 69, 70, 72, 73, 74, 75, 76, 242, 243, 244, 246, 270, 271, 272, 273, 275, 276, 277, 278, 279, 280, 330, 331, 332, 333, 334, 999] σ0 σ4032 := X4057.tr (e4034.mo (by decide))
            have X4059 : ExC [0, 1, 2, 60, 61, 62, 63, 64, 65, 66, 67, 68, 69, 70, 72, 73, 74, 75, 76, 242, 243, 244, 246, 270, 271, 272, 273, 275, 276, 277, 278, 279, 280, 330, 331, 332, 333, 334, 999] σ0 σ4037 := X4058.tr (e4039.mo (by decide))
            have t4060 := t4030.x e4027
            have t4061 := t4060.x e4034
            have t4062 := t4061.x e4039
            have R4063 : RdC p0 none (-36) (16 + 8 * (d : Int)) (-993) σ0 σ4025 := R4016.tr ⟨(e4027.gw H3984.1 (by decide)), (e4027.cou (u := 0) H3984.1 t3997 (by decide) (by rw [e4027.cn (by decide)]; omega))⟩ (by omega) (by omega) (by omega) (by omega)
            have R4064 : RdC p0 none (-36) (16 + 8 * (d : Int)) (-993) σ0 σ4032 := R4063.tr ⟨(e4034.gw H4026.1 (by decide)), (e4034.cou (u := 0) H4026.1 t4031 (by decide) (by rw [e4034.cn (by decide)]; omega))⟩ (by omega) (by omega) (by omega) (by omega)
            have R4065 : RdC p0 none (-36) (16 + 8 * (d : Int)) (-993) σ0 σ4037 := R4064.tr ⟨(e4039.gw H4033.1 (by decide)), (e4039.cou (u := 0) H4033.1 t4036 (by decide) (by rw [e4039.cn (by decide)]; omega))⟩ (by omega) (by omega) (by omega) (by omega)
            have c4066 := (t3997.mi e4027 (by decide)).trans c4000
            have c4067 := (t4031.mi e4034 (by decide)).trans c4066
            have c4068 := (t4036.mi e4039 (by decide)).trans c4067
            have c4069 := (t3997.mi e4027 (by decide)).trans c3994
            have c4070 := (t4031.mi e4034 (by decide)).trans c4069
            have c4071 := (t4036.mi e4039 (by decide)).trans c4070
            have c4072 := (t4030.mi e4027 (by decide)).trans c4024
            have c4073 := (t4060.mi e4034 (by decide)).trans c4072
            have c4074 := (t4061.mi e4039 (by decide)).trans c4073
            have c4075 := (t4030.mi e4027 (by decide)).trans c4021
            have c4076 := (t4060.mi e4034 (by decide)).trans c4075
            have c4077 := (t4061.mi e4039 (by decide)).trans c4076
            have S4113 : ∀ s, ReC σ0 p0 s → ReC σ4037 p0 (forY d (stY (d - 1)) s) := by
              intro s hs
              have y4078 := q28 _ hs
              have y4080 := q52 _ y4078
              have y4082 := q79 _ y4080
              rw [h70] at y4082
              have y4084 := y4082.x H75.1 t85 e98 (by decide)
              have f4085 := q114 _ y4084
              have f4086 := q1128 _ y4084
              have y4087 := q3123 _ y4084
              have y4089 := y4087.x H3116.1 t3129 e3162 (by decide)
              have y4090 := q3183 _ y4089
              rw [h3167] at y4090
              have f4092 := q3208 _ y4090
              have y4093 := q3644 _ y4090
              have y4095 := y4093.x H3639.1 t3650 e3667 (by decide)
              have y4096 := q3686 _ y4095
              rw [h3670] at y4096
              have f4098 := q3711 _ y4096
              have y4099 := q3895 _ y4096
              have y4101 := y4099.x H3888.1 t3901 e3939 (by decide)
              have y4102 := q3960 _ y4101
              rw [h3944] at y4102
              have y4104 := q3991 _ y4102
              have y4106 := y4104.x H3984.1 t3997 e4027 (by decide)
              have y4107 := y4106.x H4026.1 t4031 e4034 (by decide)
              have y4108 := y4107.x H4033.1 t4036 e4039 (by decide)
              have g4109 := neY f4085 h122 h121
              have g4110 := rgY f4086 (q1135 (by omega))
              have g4111 := neY f4092 h3211 h3210
              have g4112 := neY f4098 h3714 h3713
              refine y4108.eq ?_
              all_goals try simp only [forY, fo1Y, fo2Y, fo3Y, g4109, g4110, g4111, g4112, or_false, false_or, or_true, true_or, and_false, false_and, and_true, true_and, not_true, not_false_iff, ↓reduceIte, Int.reduceEq, Int.reduceLE, Int.reduceLT, Int.reduceNeg]
              all_goals first | rfl | (exfalso; omega)
            exact ⟨_, rfl, H4038, X4059, t4062, (R4065.mo (by omega) (by omega) (by omega)), (by omega), (by rw [c4074] <;> omega), (by rw [c4077] <;> omega), S4113⟩
theorem lg_X7_readFor (d : Nat) : ∀ (As : List AvC) (σ : CsC), (P_X7_readFor d) As σ → lgC As ≤ rX7_readFor.2.2.1 := by
  rintro As σ ⟨p0, p1, rfl, -⟩
  exact Nat.le_of_ble_eq_true rfl
theorem s_X7_readFor (l : Launch) (d : Nat) (h_X7_readVariable : CMetC l (13 * d + 37) 141 (P_X7_readVariable d) (Q_X7_readVariable d)) (h_X7_readInner : CMetC l (13 * d + 37) 148 (P_X7_readInner d) (Q_X7_readInner d)) (h_X7_readForExps : CMetC l (13 * d + 37) 158 (P_X7_readForExps d) (Q_X7_readForExps d)) (h_X7_readExp : CMetC l (13 * d + 36) 164 (P_X7_readExp d) (Q_X7_readExp d)) : CMetC l (13 * d + 38) 157 (P_X7_readFor d) (Q_X7_readFor d) :=
  CMetC.of KX7_readFor [(142, P_X7_begin, Q_X7_begin), (128, P_X7_accept, Q_X7_accept), (129, P_X7_expect, Q_X7_expect), (125, P_X7_code, Q_X7_code), (141, (P_X7_readVariable d), (Q_X7_readVariable d)), (148, (P_X7_readInner d), (Q_X7_readInner d)), (158, (P_X7_readForExps d), (Q_X7_readForExps d)), (164, (P_X7_readExp d), (Q_X7_readExp d)), (132, P_X7_isType, Q_X7_isType)] hX7_readFor (by decide) (by omega) okX7_readFor (cc1C (m_X7_begin l) (by omega) (cc1C (m_X7_accept l) (by omega) (cc1C (m_X7_expect l) (by omega) (cc1C (m_X7_code l) (by omega) (cc1C h_X7_readVariable (by omega) (cc1C h_X7_readInner (by omega) (cc1C h_X7_readForExps (by omega) (cc1C h_X7_readExp (by omega) (cc1C (m_X7_isType l) (by omega) cc0C))))))))) (lg_X7_readFor d) (b_X7_readFor d)
