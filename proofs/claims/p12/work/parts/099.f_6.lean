set_option maxRecDepth 100000 in
set_option maxHeartbeats 4000000 in
theorem b_X7_readTry (d : Nat) : TbC KX7_readTry [(142, P_X7_begin, Q_X7_begin), (128, P_X7_accept, Q_X7_accept), (143, (P_X7_readBody d), (Q_X7_readBody d)), (125, P_X7_code, Q_X7_code), (130, P_X7_takes, Q_X7_takes), (129, P_X7_expect, Q_X7_expect), (137, P_X7_declare, Q_X7_declare), (138, P_X7_know, Q_X7_know), (127, P_X7_raise, Q_X7_raise)] (P_X7_readTry d) (Q_X7_readTry d) := by
  · rintro As σ0 ⟨p0, p1, rfl, H0, h_0_0, h_1_0, h_1_1, rd_cd, rd_at, rd_bl, rd_lv, rd_tk, rd_dp⟩ hgr G hB hW
    change G 0 [(0, .inr (.inr (some p0))), (1, .inl p1)] [] σ0
    obtain ⟨x1, e2, c3, h4, h5⟩ := cg242 H0.1 h_0_0
    obtain ⟨x6, e7, c8, h9, h10⟩ := cg243 H0.1 h_0_0
    have z11 := congrArg Int32.toInt c3
    have z12 := congrArg Int32.toInt c8
    have h13 : x6.toInt = 0 := by rw [← c8]; exact rd_lv
    have rd_bg : BgC σ0 p0 (24 + 8 * (d : Int)) 1000000 := ⟨fun _ => rd_bl, fun z => absurd rd_lv z⟩
    refine hB _ _ _ _ (kgoC (is := KX7_readTry_0) rfl ?_)
    refine k_aload_n rfl ?_
    refine k_bipush (m := 68) rfl (fun x14 h15 => ?_)
    refine k_iload_n rfl ?_
    have R16 := (RdC.rf : RdC p0 none 0 0 0 σ0 σ0).nf (-1000) (-1000) (by rw [c8]; omega)
    refine k_inv (P := P_X7_begin) (Q := Q_X7_begin) rfl rfl rfl rfl (Nat.le_of_ble_eq_true rfl) (h_0_0.rc (by decide)) ⟨_, _, _, rfl, H0, h_0_0, (by omega), (by omega), (rd_cd.st H0 h_0_0 (ExC.rf : ExC [0, 1, 2, 60, 61, 62, 63, 64, 65, 66, 67, 68, 69, 70, 72, 73, 74, 75, 76, 242, 243, 244, 246, 270, 271, 272, 273, 275, 276, 277, 278, 279, 280, 330, 331, 332, 333, 334, 999] σ0 σ0) R16.1 (by decide)), (R16.2.2.2.1 rd_at), (rd_bg.stn H0 h_0_0 (ExC.rf : ExC [0, 1, 2, 60, 61, 62, 63, 64, 65, 66, 67, 68, 69, 70, 72, 73, 74, 75, 76, 242, 243, 244, 246, 270, 271, 272, 273, 275, 276, 277, 278, 279, 280, 330, 331, 332, 333, 334, 999] σ0 σ0) R16 (by decide) (by rw [c8]; omega) (by omega)), (by omega)⟩ (fun w17 σ18 q19 => ?_)
    obtain ⟨a20, rfl, H21, e22, h24, R23, q25, q26, q27, q28⟩ := q19
    have c29 := (h_0_0.mi e22 (by decide)).trans c3
    have c30 := (h_0_0.mi e22 (by decide)).trans c8
    have z31 := congrArg Int32.toInt c29
    have z32 := congrArg Int32.toInt c30
    refine k_st (st' := [.inr (.inr (some a20))]) rfl ?_
    have z33 := R16.1.1
    refine k_astore_n (ls' := [(2, .inr (.inr (some a20))), (0, .inr (.inr (some p0))), (1, .inl p1)]) rfl ?_
    refine k_aload_n rfl ?_
    have t34 := h_0_0.x e22
    obtain ⟨o37, e35, c36, t38⟩ := cg246 H21.1 t34
    refine k_get kg246 t34 e35 ?_
    refine k_astore_n (ls' := [(3, .inr (.inr o37)), (2, .inr (.inr (some a20))), (0, .inr (.inr (some p0))), (1, .inl p1)]) rfl ?_
    refine k_aload_n rfl ?_
    obtain ⟨y41, e39, c40⟩ := cg245 (σ := σ18) (a := p0)
    refine k_get kg245 t34 e39 ?_
    refine k_lstore (ls' := [(4, .inr (.inl y41)), (3, .inr (.inr o37)), (2, .inr (.inr (some a20))), (0, .inr (.inr (some p0))), (1, .inl p1)]) rfl ?_
    refine k_aload_n rfl ?_
    have R42 : RdC p0 none (2) (2) (-998) σ0 σ18 := R16.tr ⟨R23.1, R23.2⟩ (by omega) (by omega) (by omega) (by omega)
    have R43 := R42.nf (-1000) (-1000) (by rw [c30]; omega)
    have X44 : ExC [0, 1, 2, 60, 61, 62, 63, 64, 65, 66, 67, 68, 69, 70, 72, 73, 74, 75, 76, 242, 243, 244, 246, 270, 271, 272, 273, 275, 276, 277, 278, 279, 280, 330, 331, 332, 333, 334, 999] σ0 σ18 := ExC.rf.tr (e22.mo (by decide))
    refine k_inv (P := P_X7_accept) (Q := Q_X7_accept) rfl rfl rfl rfl (Nat.le_of_ble_eq_true rfl) (t34.rc (by decide)) ⟨_, rfl, H21, t34, (rd_cd.st H0 h_0_0 X44 R43.1 (by decide)), (R43.2.2.2.1 rd_at), (rd_bg.stn H0 h_0_0 X44 R43 (by decide) (by rw [c30]; omega) (by omega)), (by have ct := R43.2.2.1; rw [c30, c29, ct]; omega)⟩ (fun w45 σ46 q47 => ?_)
    obtain ⟨rfl, H48, e49, R50, q51, q52⟩ := q47
    have t58 := t34.x e49
    obtain ⟨x53, e54, c55, h56, h57⟩ := cg242 H48.1 t58
    obtain ⟨x59, e60, c61, h62, h63⟩ := cg243 H48.1 t58
    have z64 := congrArg Int32.toInt c55
    have z65 := congrArg Int32.toInt c61
    refine k_st (st' := []) rfl ?_
    have R66 : RdC p0 none (-6) (2) (-1000) σ0 σ46 := R43.tr ⟨R50.1, R50.2⟩ (by omega) (by omega) (by omega) (by omega)
    have z67 := R66.2.2.1
    have z68 := R66.2.2.2.1 rd_at
    refine k_aload_n rfl ?_
    refine k_aload_n rfl ?_
    have t73 := h24.x e49
    refine k_putR kp246 H48 t58 fk246 (rf246 t73) (fun σ69 H70 e71 c72 => ?_)
    refine k_aload_n rfl ?_
    refine k_aload_n rfl ?_
    refine k_iload_n rfl ?_
    have t74 := t58.x e71
    have R75 : RdC p0 none (-6) (2) (-1000) σ0 σ69 := R66.tr ⟨(e71.gw H48.1 (by decide)), (e71.cou (u := 0) H48.1 t58 (by decide) (by rw [e71.cn (by decide)]; omega))⟩ (by omega) (by omega) (by omega) (by omega)
    have c76 := (t58.mi e71 (by decide)).trans c61
    have X77 : ExC [0, 1, 2, 60, 61, 62, 63, 64, 65, 66, 67, 68, 69, 70, 72, 73, 74, 75, 76, 242, 243, 244, 246, 270, 271, 272, 273, 275, 276, 277, 278, 279, 280, 330, 331, 332, 333, 334, 999] σ0 σ46 := X44.tr (e49.mo (by decide))
    have X78 : ExC [0, 1, 2, 60, 61, 62, 63, 64, 65, 66, 67, 68, 69, 70, 72, 73, 74, 75, 76, 242, 243, 244, 246, 270, 271, 272, 273, 275, 276, 277, 278, 279, 280, 330, 331, 332, 333, 334, 999] σ0 σ69 := X77.tr (e71.mo (by decide))
    have c79 := (t58.mi e71 (by decide)).trans c55
    have z80 := congrArg Int32.toInt c79
    have z81 := congrArg Int32.toInt c76
    refine k_inv (P := (P_X7_readBody d)) (Q := (Q_X7_readBody d)) rfl rfl rfl rfl (Nat.le_of_ble_eq_true rfl) (t74.rc (by decide)) ⟨_, _, rfl, H70, t74, (by omega), (by omega), (rd_cd.st H0 h_0_0 X78 R75.1 (by decide)), (R75.2.2.2.1 rd_at), (rd_bg.st H0 h_0_0 X78 R75 (by decide) (by omega) (by omega) (by omega)), (by omega)⟩ (fun w82 σ83 q84 => ?_)
    obtain ⟨a85, rfl, H86, e87, h89, R88, q90, q91, q92, q93⟩ := q84
    have t99 := t74.x e87
    obtain ⟨x94, e95, c96, h97, h98⟩ := cg242 H86.1 t99
    obtain ⟨x100, e101, c102, h103, h104⟩ := cg243 H86.1 t99
    have z105 := congrArg Int32.toInt c96
    have z106 := congrArg Int32.toInt c102
    refine k_st (st' := [.inr (.inr (some a85)), .inr (.inr (some a20))]) rfl ?_
    have z107 := R75.1.1
    obtain ⟨x108, e109, c110, h111, h112⟩ := cg272 H86.1 h89
    rw [c110] at q91
    obtain ⟨x113, e114, c115, h116, h117⟩ := cg270 H86.1 h89
    rw [c115] at q92
    have R118 : RdC p0 none (-12) (12 + 8 * (d : Int)) (-998) σ0 σ83 := R75.tr ⟨R88.1, R88.2⟩ (by omega) (by omega) (by omega) (by omega)
    have z119 := R118.2.2.1
    have z120 := R118.2.2.2.1 rd_at
    have c121 := (h24.mi e49 (by decide)).trans q26
    have c122 := (t73.mi e71 (by decide)).trans c121
    have t123 := t73.x e71
    have c124 := (t123.fi e87 (by decide) (by decide)).trans c122
    have c125 := (h24.mi e49 (by decide)).trans q27
    have c126 := (t73.mi e71 (by decide)).trans c125
    have c127 := (t123.fi e87 (by decide) (by decide)).trans c126
    have z132 := t123.1
    have t133 := t123.x e87
    refine k_p276 H86 t133 (h89.ot) (fun z hz => by cases hz; exact ⟨by omega, by unfold LvC; rw [c124, c127, c115, c110]; omega⟩) (fun σ128 H129 e130 c131 => ?_)
    refine k_aload_n rfl ?_
    have t134 := t99.x e130
    have R135 : RdC p0 none (-12) (12 + 8 * (d : Int)) (-998) σ0 σ128 := R118.tr ⟨(e130.gw H86.1 (by decide)), (e130.cou (u := 0) H86.1 t99 (by decide) (by rw [e130.cn (by decide)]; omega))⟩ (by omega) (by omega) (by omega) (by omega)
    have c136 := (t99.mi e130 (by decide)).trans c102
    have X137 : ExC [0, 1, 2, 60, 61, 62, 63, 64, 65, 66, 67, 68, 69, 70, 72, 73, 74, 75, 76, 242, 243, 244, 246, 270, 271, 272, 273, 275, 276, 277, 278, 279, 280, 330, 331, 332, 333, 334, 999] σ0 σ83 := X78.tr (e87.mo (by decide))
    have X138 : ExC [0, 1, 2, 60, 61, 62, 63, 64, 65, 66, 67, 68, 69, 70, 72, 73, 74, 75, 76, 242, 243, 244, 246, 270, 271, 272, 273, 275, 276, 277, 278, 279, 280, 330, 331, 332, 333, 334, 999] σ0 σ128 := X137.tr (e130.mo (by decide))
    refine k_inv (P := P_X7_code) (Q := Q_X7_code) rfl rfl rfl rfl (Nat.le_of_ble_eq_true rfl) (t134.rc (by decide)) ⟨_, rfl, H129, t134, (rd_cd.st H0 h_0_0 X138 R135.1 (by decide))⟩ (fun w139 σ140 q141 => ?_)
    obtain ⟨x142, rfl, rfl, q143, q144, q145, q146⟩ := q141
    refine k_st (st' := [.inl x142]) rfl ?_
    have z147 := R135.2.2.1
    have z148 := R135.2.2.2.1 rd_at
    have c149 := (t99.mi e130 (by decide)).trans c96
    have z150 := congrArg Int32.toInt c149
    have z151 := congrArg Int32.toInt c136
    refine k_bipush (m := 69) rfl (fun x152 h153 => ?_)
    refine k_ic_eq (fun h154 => ?_) (fun h154 => ?_)
    · have h155 : x100.toInt = 0 := by omega
      refine hB _ _ _ _ (kgoC (is := KX7_readTry_60) rfl ?_)
      refine k_aload_n rfl ?_
      refine k_bipush (m := 69) rfl (fun x156 h157 => ?_)
      have R158 := R135.nf (-1000) (-1000) (by rw [c136]; omega)
      refine k_inv (P := P_X7_takes) (Q := Q_X7_takes) rfl rfl rfl rfl (Nat.le_of_ble_eq_true rfl) (t134.rc (by decide)) ⟨_, _, rfl, H129, t134, (by omega), (by omega), (rd_cd.st H0 h_0_0 X138 R158.1 (by decide)), (R158.2.2.2.1 rd_at), (rd_bg.stn H0 h_0_0 X138 R158 (by decide) (by rw [c136]; omega) (by omega))⟩ (fun w159 σ160 q161 => ?_)
      obtain ⟨x162, rfl, H163, e164, h166, h167, R165, q168, q169⟩ := q161
      have t175 := t134.x e164
      obtain ⟨x170, e171, c172, h173, h174⟩ := cg242 H163.1 t175
      obtain ⟨x176, e177, c178, h179, h180⟩ := cg243 H163.1 t175
      have z181 := congrArg Int32.toInt c172
      have z182 := congrArg Int32.toInt c178
      refine k_st (st' := [.inl x162]) rfl ?_
      rcases (by omega : x162.toInt = 0 ∨ x162.toInt = 1) with g183 | g183
      · have R184 : RdC p0 none (-12) (-12) (-1000) σ0 σ160 := R158.tr ⟨R165.1, R165.2⟩ (by omega) (by omega) (by omega) (by omega)
        have z185 := R184.2.2.1
        have z186 := R184.2.2.2.1 rd_at
        refine k_if_eq (fun h187 => ?_) (fun h187 => by exfalso; omega)
        refine hB _ _ _ _ (kgoC (is := KX7_readTry_113) rfl ?_)
        refine k_aload_n rfl ?_
        refine k_bipush (m := 70) rfl (fun x188 h189 => ?_)
        have X190 : ExC [0, 1, 2, 60, 61, 62, 63, 64, 65, 66, 67, 68, 69, 70, 72, 73, 74, 75, 76, 242, 243, 244, 246, 270, 271, 272, 273, 275, 276, 277, 278, 279, 280, 330, 331, 332, 333, 334, 999] σ0 σ160 := X138.tr (e164.mo (by decide))
        refine k_inv (P := P_X7_takes) (Q := Q_X7_takes) rfl rfl rfl rfl (Nat.le_of_ble_eq_true rfl) (t175.rc (by decide)) ⟨_, _, rfl, H163, t175, (by omega), (by omega), (rd_cd.st H0 h_0_0 X190 R184.1 (by decide)), (R184.2.2.2.1 rd_at), (rd_bg.st H0 h_0_0 X190 R184 (by decide) (by omega) (by omega) (by omega))⟩ (fun w191 σ192 q193 => ?_)
        obtain ⟨x194, rfl, H195, e196, h198, h199, R197, q200, q201⟩ := q193
        have t207 := t175.x e196
        obtain ⟨x202, e203, c204, h205, h206⟩ := cg242 H195.1 t207
        obtain ⟨x208, e209, c210, h211, h212⟩ := cg243 H195.1 t207
        have z213 := congrArg Int32.toInt c204
        have z214 := congrArg Int32.toInt c210
        refine k_st (st' := [.inl x194]) rfl ?_
        rcases (by omega : x194.toInt = 0 ∨ x194.toInt = 1) with g215 | g215
        · have R216 : RdC p0 none (-12) (-12) (-1000) σ0 σ192 := R184.tr ⟨R197.1, R197.2⟩ (by omega) (by omega) (by omega) (by omega)
          have z217 := R216.2.2.1
          have z218 := R216.2.2.2.1 rd_at
          refine k_if_eq (fun h219 => ?_) (fun h219 => by exfalso; omega)
          refine hB _ _ _ _ (kgoC (is := KX7_readTry_131) rfl ?_)
          refine k_aload_n rfl ?_
          refine k_aload_n rfl ?_
          have t224 := t38.x e49
          have t225 := t224.x e71
          have t226 := t225.x e87
          have t227 := t226.x e130
          have t228 := t227.x e164
          have t229 := t228.x e196
          refine k_putR kp246 H195 t207 fk246 (rfo246 (t229)) (fun σ220 H221 e222 c223 => ?_)
          refine k_aload_n rfl ?_
          refine k_areturn ?_
          have X230 : ExC [0, 1, 2, 60, 61, 62, 63, 64, 65, 66, 67, 68, 69, 70, 72, 73, 74, 75, 76, 242, 243, 244, 246, 270, 271, 272, 273, 275, 276, 277, 278, 279, 280, 330, 331, 332, 333, 334, 999] σ0 σ192 := X190.tr (e196.mo (by decide))
          have X231 : ExC [0, 1, 2, 60, 61, 62, 63, 64, 65, 66, 67, 68, 69, 70, 72, 73, 74, 75, 76, 242, 243, 244, 246, 270, 271, 272, 273, 275, 276, 277, 278, 279, 280, 330, 331, 332, 333, 334, 999] σ0 σ220 := X230.tr (e222.mo (by decide))
          have t232 := t133.x e130
          have t233 := t232.x e164
          have t234 := t233.x e196
          have t235 := t234.x e222
          have R236 : RdC p0 none (-12) (-12) (-1000) σ0 σ220 := R216.tr ⟨(e222.gw H195.1 (by decide)), (e222.cou (u := 0) H195.1 t207 (by decide) (by rw [e222.cn (by decide)]; omega))⟩ (by omega) (by omega) (by omega) (by omega)
          have c237 := (t207.mi e222 (by decide)).trans c210
          have c238 := (t207.mi e222 (by decide)).trans c204
          have c239 := (t133.mi e130 (by decide)).trans c127
          have c240 := (t232.mi e164 (by decide)).trans c239
          have c241 := (t233.mi e196 (by decide)).trans c240
          have c242 := (t234.mi e222 (by decide)).trans c241
          have c243 := (t133.mi e130 (by decide)).trans c124
          have c244 := (t232.mi e164 (by decide)).trans c243
          have c245 := (t233.mi e196 (by decide)).trans c244
          have c246 := (t234.mi e222 (by decide)).trans c245
          have S264 : ∀ s, ReC σ0 p0 s → ReC σ220 p0 (tryY (rwY (d - 1)) s) := by
            intro s hs
            have y247 := q28 _ hs
            have y249 := q52 _ y247
            have y251 := y249.x H48.1 t58 e71 (by decide)
            have y252 := q93 _ y251
            have y254 := y252.x H86.1 t99 e130 (by decide)
            have f255 := q146 _ y254
            obtain ⟨y256, f257⟩ := q169 _ y254
            rw [h157] at y256
            rw [h157] at f257
            rw [tkY_n (f257.2 (by omega))] at y256
            obtain ⟨y258, f259⟩ := q201 _ y256
            rw [h189] at y258
            rw [h189] at f259
            rw [tkY_n (f259.2 (by omega))] at y258
            have y260 := y258.x H195.1 t207 e222 (by decide)
            have g261 := f255.symm.trans (h154.trans h153)
            have g262 := f257.2 (by omega)
            have g263 := f259.2 (by omega)
            refine y260.eq ?_
            all_goals try simp only [tryY, tr1Y, tr2Y, tr3Y, g261, g262, g263, or_false, false_or, or_true, true_or, and_false, false_and, and_true, true_and, not_true, not_false_iff, ↓reduceIte, Int.reduceEq, Int.reduceLE, Int.reduceLT, Int.reduceNeg]
            all_goals first | rfl | (exfalso; omega)
          exact ⟨_, rfl, H221, X231, t235, (R236.mo (by omega) (by omega) (by omega)), (by omega), (by rw [c242] <;> omega), (by rw [c246] <;> omega), S264⟩
        · have R265 := R184.nf (-1000) (-1000) (q200 (by omega)).1
          have R266 : RdC p0 none (-20) (-12) (-1000) σ0 σ192 := R265.tr ⟨(q200 (by omega)).2.1, (q200 (by omega)).2.2⟩ (by omega) (by omega) (by omega) (by omega)
          have z267 := R266.2.2.1
          have z268 := R266.2.2.2.1 rd_at
          refine k_if_eq (fun h269 => by exfalso; omega) (fun h269 => ?_)
          refine k_nil ?_
          refine hB _ _ _ _ (kgoC (is := KX7_readTry_122) rfl ?_)
          refine k_aload_n rfl ?_
          refine k_aload_n rfl ?_
          refine k_iload_n rfl ?_
          have X270 : ExC [0, 1, 2, 60, 61, 62, 63, 64, 65, 66, 67, 68, 69, 70, 72, 73, 74, 75, 76, 242, 243, 244, 246, 270, 271, 272, 273, 275, 276, 277, 278, 279, 280, 330, 331, 332, 333, 334, 999] σ0 σ192 := X190.tr (e196.mo (by decide))
          refine k_inv (P := (P_X7_readBody d)) (Q := (Q_X7_readBody d)) rfl rfl rfl rfl (Nat.le_of_ble_eq_true rfl) (t207.rc (by decide)) ⟨_, _, rfl, H195, t207, (by omega), (by omega), (rd_cd.st H0 h_0_0 X270 R266.1 (by decide)), (R266.2.2.2.1 rd_at), (rd_bg.st H0 h_0_0 X270 R266 (by decide) (by omega) (by omega) (by omega)), (by omega)⟩ (fun w271 σ272 q273 => ?_)
          obtain ⟨a274, rfl, H275, e276, h278, R277, q279, q280, q281, q282⟩ := q273
          have t288 := t207.x e276
          obtain ⟨x283, e284, c285, h286, h287⟩ := cg242 H275.1 t288
          obtain ⟨x289, e290, c291, h292, h293⟩ := cg243 H275.1 t288
          have z294 := congrArg Int32.toInt c285
          have z295 := congrArg Int32.toInt c291
          refine k_st (st' := [.inr (.inr (some a274)), .inr (.inr (some a20))]) rfl ?_
          have z296 := R266.1.1
          obtain ⟨x297, e298, c299, h300, h301⟩ := cg272 H275.1 h278
          rw [c299] at q280
          obtain ⟨x302, e303, c304, h305, h306⟩ := cg270 H275.1 h278
          rw [c304] at q281
          have R307 : RdC p0 none (-26) (-2 + 8 * (d : Int)) (-998) σ0 σ272 := R266.tr ⟨R277.1, R277.2⟩ (by omega) (by omega) (by omega) (by omega)
          have z308 := R307.2.2.1
          have z309 := R307.2.2.2.1 rd_at
          have c310 := (t133.mi e130 (by decide)).trans c124
          have t311 := t133.x e130
          have c312 := (t311.mi e164 (by decide)).trans c310
          have t313 := t311.x e164
          have c314 := (t313.mi e196 (by decide)).trans c312
          have t315 := t313.x e196
          have c316 := (t315.fi e276 (by decide) (by decide)).trans c314
          have c317 := (t133.mi e130 (by decide)).trans c127
          have c318 := (t311.mi e164 (by decide)).trans c317
          have c319 := (t313.mi e196 (by decide)).trans c318
          have c320 := (t315.fi e276 (by decide) (by decide)).trans c319
          have z325 := t315.1
          have t326 := t315.x e276
          refine k_p278 H275 t326 (h278.ot) (fun z hz => by cases hz; exact ⟨by omega, by unfold LvC; rw [c316, c320, c304, c299]; omega⟩) (fun σ321 H322 e323 c324 => ?_)
          refine k_nil ?_
          refine hB _ _ _ _ (kgoC (is := KX7_readTry_131) rfl ?_)
          refine k_aload_n rfl ?_
          refine k_aload_n rfl ?_
          have t327 := t288.x e323
          have t332 := t38.x e49
          have t333 := t332.x e71
          have t334 := t333.x e87
          have t335 := t334.x e130
          have t336 := t335.x e164
          have t337 := t336.x e196
          have t338 := t337.x e276
          have t339 := t338.x e323
          refine k_putR kp246 H322 t327 fk246 (rfo246 (t339)) (fun σ328 H329 e330 c331 => ?_)
          refine k_aload_n rfl ?_
          refine k_areturn ?_
          have X340 : ExC [0, 1, 2, 60, 61, 62, 63, 64, 65, 66, 67, 68, 69, 70, 72, 73, 74, 75, 76, 242, 243, 244, 246, 270, 271, 272, 273, 275, 276, 277, 278, 279, 280, 330, 331, 332, 333, 334, 999] σ0 σ272 := X270.tr (e276.mo (by decide))
          have X341 : ExC [0, 1, 2, 60, 61, 62, 63, 64, 65, 66, 67, 68, 69, 70, 72, 73, 74, 75, 76, 242, 243, 244, 246, 270, 271, 272, 273, 275, 276, 277, 278, 279, 280, 330, 331, 332, 333, 334, 999] σ0 σ321 := X340.tr (e323.mo (by decide))
          have X342 : ExC [0, 1, 2, 60, 61, 62, 63, 64, 65, 66, 67, 68, 69, 70, 72, 73, 74, 75, 76, 242, 243, 244, 246, 270, 271, 272, 273, 275, 276, 277, 278, 279, 280, 330, 331, 332, 333, 334, 999] σ0 σ328 := X341.tr (e330.mo (by decide))
          have t343 := t326.x e323
          have t344 := t343.x e330
          have R345 : RdC p0 none (-26) (-2 + 8 * (d : Int)) (-998) σ0 σ321 := R307.tr ⟨(e323.gw H275.1 (by decide)), (e323.cou (u := 0) H275.1 t288 (by decide) (by rw [e323.cn (by decide)]; omega))⟩ (by omega) (by omega) (by omega) (by omega)
          have R346 : RdC p0 none (-26) (-2 + 8 * (d : Int)) (-998) σ0 σ328 := R345.tr ⟨(e330.gw H322.1 (by decide)), (e330.cou (u := 0) H322.1 t327 (by decide) (by rw [e330.cn (by decide)]; omega))⟩ (by omega) (by omega) (by omega) (by omega)
          have c347 := (t288.mi e323 (by decide)).trans c291
          have c348 := (t327.mi e330 (by decide)).trans c347
          have c349 := (t288.mi e323 (by decide)).trans c285
          have c350 := (t327.mi e330 (by decide)).trans c349
          have c351 := (t326.mi e323 (by decide)).trans c320
          have c352 := (t343.mi e330 (by decide)).trans c351
          have c353 := (t326.mi e323 (by decide)).trans c316
          have c354 := (t343.mi e330 (by decide)).trans c353
          have S375 : ∀ s, ReC σ0 p0 s → ReC σ328 p0 (tryY (rwY (d - 1)) s) := by
            intro s hs
            have y355 := q28 _ hs
            have y357 := q52 _ y355
            have y359 := y357.x H48.1 t58 e71 (by decide)
            have y360 := q93 _ y359
            have y362 := y360.x H86.1 t99 e130 (by decide)
            have f363 := q146 _ y362
            obtain ⟨y364, f365⟩ := q169 _ y362
            rw [h157] at y364
            rw [h157] at f365
            rw [tkY_n (f365.2 (by omega))] at y364
            obtain ⟨y366, f367⟩ := q201 _ y364
            rw [h189] at y366
            rw [h189] at f367
            rw [tkY_y (f367.1 (by omega))] at y366
            have y368 := q282 _ y366
            have y370 := y368.x H275.1 t288 e323 (by decide)
            have y371 := y370.x H322.1 t327 e330 (by decide)
            have g372 := f363.symm.trans (h154.trans h153)
            have g373 := f365.2 (by omega)
            have g374 := f367.1 (by omega)
            refine y371.eq ?_
            all_goals try simp only [tryY, tr1Y, tr2Y, tr3Y, g372, g373, g374, or_false, false_or, or_true, true_or, and_false, false_and, and_true, true_and, not_true, not_false_iff, ↓reduceIte, Int.reduceEq, Int.reduceLE, Int.reduceLT, Int.reduceNeg]
            all_goals first | rfl | (exfalso; omega)
          exact ⟨_, rfl, H329, X342, t344, (R346.mo (by omega) (by omega) (by omega)), (by omega), (by rw [c352] <;> omega), (by rw [c354] <;> omega), S375⟩
      · have R376 := R158.nf (-1000) (-1000) (q168 (by omega)).1
        have R377 : RdC p0 none (-20) (-12) (-1000) σ0 σ160 := R376.tr ⟨(q168 (by omega)).2.1, (q168 (by omega)).2.2⟩ (by omega) (by omega) (by omega) (by omega)
        have z378 := R377.2.2.1
        have z379 := R377.2.2.2.1 rd_at
        refine k_if_eq (fun h380 => by exfalso; omega) (fun h380 => ?_)
        refine k_nil ?_
        refine hB _ _ _ _ (kgoC (is := KX7_readTry_69) rfl ?_)
        refine k_aload_n rfl ?_
        refine k_iconst (m := 0) rfl (fun x381 h382 => ?_)
        have X383 : ExC [0, 1, 2, 60, 61, 62, 63, 64, 65, 66, 67, 68, 69, 70, 72, 73, 74, 75, 76, 242, 243, 244, 246, 270, 271, 272, 273, 275, 276, 277, 278, 279, 280, 330, 331, 332, 333, 334, 999] σ0 σ160 := X138.tr (e164.mo (by decide))
        refine k_inv (P := P_X7_expect) (Q := Q_X7_expect) rfl rfl rfl rfl (Nat.le_of_ble_eq_true rfl) (t175.rc (by decide)) ⟨_, _, rfl, H163, t175, (by omega), (by omega), (rd_cd.st H0 h_0_0 X383 R377.1 (by decide)), (R377.2.2.2.1 rd_at), (rd_bg.st H0 h_0_0 X383 R377 (by decide) (by omega) (by omega) (by omega))⟩ (fun w384 σ385 q386 => ?_)
        obtain ⟨rfl, H387, e388, R389, q390, q391⟩ := q386
        have t397 := t175.x e388
        obtain ⟨x392, e393, c394, h395, h396⟩ := cg242 H387.1 t397
        obtain ⟨x398, e399, c400, h401, h402⟩ := cg243 H387.1 t397
        have z403 := congrArg Int32.toInt c394
        have z404 := congrArg Int32.toInt c400
        refine k_st (st' := []) rfl ?_
        have R405 : RdC p0 none (-28) (-12) (-1000) σ0 σ385 := R377.tr ⟨R389.1, R389.2⟩ (by omega) (by omega) (by omega) (by omega)
        have z406 := R405.2.2.1
        have z407 := R405.2.2.2.1 rd_at
        refine k_aload_n rfl ?_
        refine k_aload_n rfl ?_
        refine k_iconst (m := 3) rfl (fun x408 h409 => ?_)
        refine k_iconst (m := 0) rfl (fun x410 h411 => ?_)
        refine k_iconst (m := 1) rfl (fun x412 h413 => ?_)
        have X414 : ExC [0, 1, 2, 60, 61, 62, 63, 64, 65, 66, 67, 68, 69, 70, 72, 73, 74, 75, 76, 242, 243, 244, 246, 270, 271, 272, 273, 275, 276, 277, 278, 279, 280, 330, 331, 332, 333, 334, 999] σ0 σ385 := X383.tr (e388.mo (by decide))
        refine k_inv (P := P_X7_declare) (Q := Q_X7_declare) rfl rfl rfl rfl (Nat.le_of_ble_eq_true rfl) (t397.rc (by decide)) ⟨_, _, _, _, rfl, H387, t397, (by omega), (by omega), (by omega), (by omega), (rd_cd.st H0 h_0_0 X414 R405.1 (by decide)), (R405.2.2.2.1 rd_at), (rd_bg.st H0 h_0_0 X414 R405 (by decide) (by omega) (by omega) (by omega))⟩ (fun w415 σ416 q417 => ?_)
        obtain ⟨x418, rfl, H419, e420, h422, h423, R421, q424⟩ := q417
        have t430 := t397.x e420
        obtain ⟨x425, e426, c427, h428, h429⟩ := cg242 H419.1 t430
        obtain ⟨x431, e432, c433, h434, h435⟩ := cg243 H419.1 t430
        have z436 := congrArg Int32.toInt c427
        have z437 := congrArg Int32.toInt c433
        refine k_st (st' := [.inl x418, .inr (.inr (some a20))]) rfl ?_
        have t438 := t133.x e130
        have t439 := t438.x e164
        have t440 := t439.x e388
        have t441 := t440.x e420
        have c446 := (t133.mi e130 (by decide)).trans c124
        have c447 := (t438.mi e164 (by decide)).trans c446
        have c448 := (t439.mi e388 (by decide)).trans c447
        have c449 := (t440.mi e420 (by decide)).trans c448
        refine k_p280 H419 t441 (by omega) (by omega) (by rw [c449]; omega) (fun σ442 H443 e444 c445 => ?_)
        refine k_aload_n rfl ?_
        refine k_aload_n rfl ?_
        have t450 := t441.x e444
        refine k_get kg280 t450 (congrArg (Sum.inl : Int32 → AvC) c445) ?_
        have t451 := t430.x e444
        refine k_inv (P := P_X7_know) (Q := Q_X7_know) rfl rfl rfl rfl (Nat.le_of_ble_eq_true rfl) (t451.rc (by decide)) ⟨_, _, rfl, H443, t451⟩ (fun w452 σ453 q454 => ?_)
        obtain ⟨rfl, H455, e456⟩ := q454
        have c457 := (t430.mi e444 (by decide)).trans c427
        have c458 := (t451.mi e456 (by decide)).trans c457
        have c459 := (t430.mi e444 (by decide)).trans c433
        have c460 := (t451.mi e456 (by decide)).trans c459
        have z461 := congrArg Int32.toInt c458
        have z462 := congrArg Int32.toInt c460
        refine k_st (st' := []) rfl ?_
        refine k_aload_n rfl ?_
        refine k_iconst (m := 1) rfl (fun x463 h464 => ?_)
        have t465 := t451.x e456
        have R466 : RdC p0 none (-34) (-12) (-1000) σ0 σ416 := R405.tr ⟨R421.1, R421.2⟩ (by omega) (by omega) (by omega) (by omega)
        have R467 : RdC p0 none (-34) (-12) (-1000) σ0 σ442 := R466.tr ⟨(e444.gw H419.1 (by decide)), (e444.cou (u := 0) H419.1 t430 (by decide) (by rw [e444.cn (by decide)]; omega))⟩ (by omega) (by omega) (by omega) (by omega)
        have R468 : RdC p0 none (-34) (-12) (-1000) σ0 σ453 := R467.tr ⟨(e456.gw H443.1 (by decide)), (e456.cou (u := 0) H443.1 t451 (by decide) (by rw [e456.cn (by decide)]; omega))⟩ (by omega) (by omega) (by omega) (by omega)
        have X469 : ExC [0, 1, 2, 60, 61, 62, 63, 64, 65, 66, 67, 68, 69, 70, 72, 73, 74, 75, 76, 242, 243, 244, 246, 270, 271, 272, 273, 275, 276, 277, 278, 279, 280, 330, 331, 332, 333, 334, 999] σ0 σ416 := X414.tr (e420.mo (by decide))
        have X470 : ExC [0, 1, 2, 60, 61, 62, 63, 64, 65, 66, 67, 68, 69, 70, 72, 73, 74, 75, 76, 242, 243, 244, 246, 270, 271, 272, 273, 275, 276, 277, 278, 279, 280, 330, 331, 332, 333, 334, 999] σ0 σ442 := X469.tr (e444.mo (by decide))
        have X471 : ExC [0, 1, 2, 60, 61, 62, 63, 64, 65, 66, 67, 68, 69, 70, 72, 73, 74, 75, 76, 242, 243, 244, 246, 270, 271, 272, 273, 275, 276, 277, 278, 279, 280, 330, 331, 332, 333, 334, 999] σ0 σ453 := X470.tr (e456.mo (by decide))
        refine k_inv (P := P_X7_expect) (Q := Q_X7_expect) rfl rfl rfl rfl (Nat.le_of_ble_eq_true rfl) (t465.rc (by decide)) ⟨_, _, rfl, H455, t465, (by omega), (by omega), (rd_cd.st H0 h_0_0 X471 R468.1 (by decide)), (R468.2.2.2.1 rd_at), (rd_bg.st H0 h_0_0 X471 R468 (by decide) (by omega) (by omega) (by omega))⟩ (fun w472 σ473 q474 => ?_)
        obtain ⟨rfl, H475, e476, R477, q478, q479⟩ := q474
        have t485 := t465.x e476
        obtain ⟨x480, e481, c482, h483, h484⟩ := cg242 H475.1 t485
        obtain ⟨x486, e487, c488, h489, h490⟩ := cg243 H475.1 t485
        have z491 := congrArg Int32.toInt c482
        have z492 := congrArg Int32.toInt c488
        refine k_st (st' := []) rfl ?_
        have R493 : RdC p0 none (-42) (-12) (-1000) σ0 σ473 := R468.tr ⟨R477.1, R477.2⟩ (by omega) (by omega) (by omega) (by omega)
        have z494 := R493.2.2.1
        have z495 := R493.2.2.2.1 rd_at
        refine k_aload_n rfl ?_
        refine k_aload_n rfl ?_
        refine k_iload_n rfl ?_
        have X496 : ExC [0, 1, 2, 60, 61, 62, 63, 64, 65, 66, 67, 68, 69, 70, 72, 73, 74, 75, 76, 242, 243, 244, 246, 270, 271, 272, 273, 275, 276, 277, 278, 279, 280, 330, 331, 332, 333, 334, 999] σ0 σ473 := X471.tr (e476.mo (by decide))
        refine k_inv (P := (P_X7_readBody d)) (Q := (Q_X7_readBody d)) rfl rfl rfl rfl (Nat.le_of_ble_eq_true rfl) (t485.rc (by decide)) ⟨_, _, rfl, H475, t485, (by omega), (by omega), (rd_cd.st H0 h_0_0 X496 R493.1 (by decide)), (R493.2.2.2.1 rd_at), (rd_bg.st H0 h_0_0 X496 R493 (by decide) (by omega) (by omega) (by omega)), (by omega)⟩ (fun w497 σ498 q499 => ?_)
        obtain ⟨a500, rfl, H501, e502, h504, R503, q505, q506, q507, q508⟩ := q499
        have t514 := t485.x e502
        obtain ⟨x509, e510, c511, h512, h513⟩ := cg242 H501.1 t514
        obtain ⟨x515, e516, c517, h518, h519⟩ := cg243 H501.1 t514
        have z520 := congrArg Int32.toInt c511
        have z521 := congrArg Int32.toInt c517
        refine k_st (st' := [.inr (.inr (some a500)), .inr (.inr (some a20))]) rfl ?_
        have z522 := R493.1.1
        obtain ⟨x523, e524, c525, h526, h527⟩ := cg272 H501.1 h504
        rw [c525] at q506
        obtain ⟨x528, e529, c530, h531, h532⟩ := cg270 H501.1 h504
        rw [c530] at q507
        have R533 : RdC p0 none (-48) (-10 + 8 * (d : Int)) (-998) σ0 σ498 := R493.tr ⟨R503.1, R503.2⟩ (by omega) (by omega) (by omega) (by omega)
        have z534 := R533.2.2.1
        have z535 := R533.2.2.2.1 rd_at
        have c536 := (t441.mi e444 (by decide)).trans c449
        have c537 := (t450.mi e456 (by decide)).trans c536
        have t538 := t450.x e456
        have c539 := (t538.mi e476 (by decide)).trans c537
        have t540 := t538.x e476
        have c541 := (t540.fi e502 (by decide) (by decide)).trans c539
        have c542 := (t133.mi e130 (by decide)).trans c127
        have c543 := (t438.mi e164 (by decide)).trans c542
        have c544 := (t439.mi e388 (by decide)).trans c543
        have c545 := (t440.mi e420 (by decide)).trans c544
        have c546 := (t441.mi e444 (by decide)).trans c545
        have c547 := (t450.mi e456 (by decide)).trans c546
        have c548 := (t538.mi e476 (by decide)).trans c547
        have c549 := (t540.fi e502 (by decide) (by decide)).trans c548
        have z554 := t540.1
        have t555 := t540.x e502
        refine k_p277 H501 t555 (h504.ot) (fun z hz => by cases hz; exact ⟨by omega, by unfold LvC; rw [c541, c549, c530, c525]; omega⟩) (fun σ550 H551 e552 c553 => ?_)
        refine k_aload_n rfl ?_
        refine k_lload rfl ?_
        have t556 := t514.x e552
        refine k_putL kg245 H551 t556 fk245 (fun σ557 H558 e559 c560 => ?_)
        refine k_nil ?_
        refine hB _ _ _ _ (kgoC (is := KX7_readTry_113) rfl ?_)
        refine k_aload_n rfl ?_
        refine k_bipush (m := 70) rfl (fun x561 h562 => ?_)
        have t563 := t556.x e559
        have R564 : RdC p0 none (-48) (-10 + 8 * (d : Int)) (-998) σ0 σ550 := R533.tr ⟨(e552.gw H501.1 (by decide)), (e552.cou (u := 0) H501.1 t514 (by decide) (by rw [e552.cn (by decide)]; omega))⟩ (by omega) (by omega) (by omega) (by omega)
        have R565 : RdC p0 none (-48) (-10 + 8 * (d : Int)) (-998) σ0 σ557 := R564.tr ⟨(e559.gw H551.1 (by decide)), (e559.cou (u := 0) H551.1 t556 (by decide) (by rw [e559.cn (by decide)]; omega))⟩ (by omega) (by omega) (by omega) (by omega)
        have c566 := (t514.mi e552 (by decide)).trans c517
        have c567 := (t556.mi e559 (by decide)).trans c566
        have X568 : ExC [0, 1, 2, 60, 61, 62, 63, 64, 65, 66, 67, 68, 69, 70, 72, 73, 74, 75, 76, 242, 243, 244, 246, 270, 271, 272, 273, 275, 276, 277, 278, 279, 280, 330, 331, 332, 333, 334, 999] σ0 σ498 := X496.tr (e502.mo (by decide))
        have X569 : ExC [0, 1, 2, 60, 61, 62, 63, 64, 65, 66, 67, 68, 69, 70, 72, 73, 74, 75, 76, 242, 243, 244, 246, 270, 271, 272, 273, 275, 276, 277, 278, 279, 280, 330, 331, 332, 333, 334, 999] σ0 σ550 := X568.tr (e552.mo (by decide))
        have X570 : ExC [0, 1, 2, 60, 61, 62, 63, 64, 65, 66, 67, 68, 69, 70, 72, 73, 74, 75, 76, 242, 243, 244, 246, 270, 271, 272, 273, 275, 276, 277, 278, 279, 280, 330, 331, 332, 333, 334, 999] σ0 σ557 := X569.tr (e559.mo (by decide))
        have c571 := (t514.mi e552 (by decide)).trans c511
        have c572 := (t556.mi e559 (by decide)).trans c571
        have z573 := congrArg Int32.toInt c572
        have z574 := congrArg Int32.toInt c567
        refine k_inv (P := P_X7_takes) (Q := Q_X7_takes) rfl rfl rfl rfl (Nat.le_of_ble_eq_true rfl) (t563.rc (by decide)) ⟨_, _, rfl, H558, t563, (by omega), (by omega), (rd_cd.st H0 h_0_0 X570 R565.1 (by decide)), (R565.2.2.2.1 rd_at), (rd_bg.st H0 h_0_0 X570 R565 (by decide) (by omega) (by omega) (by omega))⟩ (fun w575 σ576 q577 => ?_)
        obtain ⟨x578, rfl, H579, e580, h582, h583, R581, q584, q585⟩ := q577
        have t591 := t563.x e580
        obtain ⟨x586, e587, c588, h589, h590⟩ := cg242 H579.1 t591
        obtain ⟨x592, e593, c594, h595, h596⟩ := cg243 H579.1 t591
        have z597 := congrArg Int32.toInt c588
        have z598 := congrArg Int32.toInt c594
        refine k_st (st' := [.inl x578]) rfl ?_
        rcases (by omega : x578.toInt = 0 ∨ x578.toInt = 1) with g599 | g599
        · have R600 : RdC p0 none (-48) (-10 + 8 * (d : Int)) (-998) σ0 σ576 := R565.tr ⟨R581.1, R581.2⟩ (by omega) (by omega) (by omega) (by omega)
          have z601 := R600.2.2.1
          have z602 := R600.2.2.2.1 rd_at
          refine k_if_eq (fun h603 => ?_) (fun h603 => by exfalso; omega)
          refine hB _ _ _ _ (kgoC (is := KX7_readTry_131) rfl ?_)
          refine k_aload_n rfl ?_
          refine k_aload_n rfl ?_
          have t608 := t38.x e49
          have t609 := t608.x e71
          have t610 := t609.x e87
          have t611 := t610.x e130
          have t612 := t611.x e164
          have t613 := t612.x e388
          have t614 := t613.x e420
          have t615 := t614.x e444
          have t616 := t615.x e456
          have t617 := t616.x e476
          have t618 := t617.x e502
          have t619 := t618.x e552
          have t620 := t619.x e559
          have t621 := t620.x e580
          refine k_putR kp246 H579 t591 fk246 (rfo246 (t621)) (fun σ604 H605 e606 c607 => ?_)
          refine k_aload_n rfl ?_
          refine k_areturn ?_
          have X622 : ExC [0, 1, 2, 60, 61, 62, 63, 64, 65, 66, 67, 68, 69, 70, 72, 73, 74, 75, 76, 242, 243, 244, 246, 270, 271, 272, 273, 275, 276, 277, 278, 279, 280, 330, 331, 332, 333, 334, 999] σ0 σ576 := X570.tr (e580.mo (by decide))
          have X623 : ExC [0, 1, 2, 60, 61, 62, 63, 64, 65, 66, 67, 68, 69, 70, 72, 73, 74, 75, 76, 242, 243, 244, 246, 270, 271, 272, 273, 275, 276, 277, 278, 279, 280, 330, 331, 332, 333, 334, 999] σ0 σ604 := X622.tr (e606.mo (by decide))
          have t624 := t555.x e552
          have t625 := t624.x e559
          have t626 := t625.x e580
          have t627 := t626.x e606
          have R628 : RdC p0 none (-48) (-10 + 8 * (d : Int)) (-998) σ0 σ604 := R600.tr ⟨(e606.gw H579.1 (by decide)), (e606.cou (u := 0) H579.1 t591 (by decide) (by rw [e606.cn (by decide)]; omega))⟩ (by omega) (by omega) (by omega) (by omega)
          have c629 := (t591.mi e606 (by decide)).trans c594
          have c630 := (t591.mi e606 (by decide)).trans c588
          have c631 := (t555.mi e552 (by decide)).trans c549
          have c632 := (t624.mi e559 (by decide)).trans c631
          have c633 := (t625.mi e580 (by decide)).trans c632
          have c634 := (t626.mi e606 (by decide)).trans c633
          have c635 := (t555.mi e552 (by decide)).trans c541
          have c636 := (t624.mi e559 (by decide)).trans c635
          have c637 := (t625.mi e580 (by decide)).trans c636
          have c638 := (t626.mi e606 (by decide)).trans c637
          have S668 : ∀ s, ReC σ0 p0 s → ReC σ604 p0 (tryY (rwY (d - 1)) s) := by
            intro s hs
            have y639 := q28 _ hs
            have y641 := q52 _ y639
            have y643 := y641.x H48.1 t58 e71 (by decide)
            have y644 := q93 _ y643
            have y646 := y644.x H86.1 t99 e130 (by decide)
            have f647 := q146 _ y646
            obtain ⟨y648, f649⟩ := q169 _ y646
            rw [h157] at y648
            rw [h157] at f649
            rw [tkY_y (f649.1 (by omega))] at y648
            have y650 := q391 _ y648
            rw [h382] at y650
            have y652 := q424 _ y650
            rw [h409] at y652
            rw [h411] at y652
            rw [h413] at y652
            have y654 := y652.x H419.1 t430 e444 (by decide)
            have y655 := y654.x H443.1 t451 e456 (by decide)
            have y656 := q479 _ y655
            rw [h464] at y656
            have y658 := q508 _ y656
            have y660 := y658.x H501.1 t514 e552 (by decide)
            have y661 := y660.x H551.1 t556 e559 (by decide)
            obtain ⟨y662, f663⟩ := q585 _ y661
            rw [h562] at y662
            rw [h562] at f663
            rw [tkY_n (f663.2 (by omega))] at y662
            have y664 := y662.x H579.1 t591 e606 (by decide)
            have g665 := f647.symm.trans (h154.trans h153)
            have g666 := f649.1 (by omega)
            have g667 := f663.2 (by omega)
            refine y664.eq ?_
            all_goals try simp only [tryY, tr1Y, tr2Y, tr3Y, g665, g666, g667, or_false, false_or, or_true, true_or, and_false, false_and, and_true, true_and, not_true, not_false_iff, ↓reduceIte, Int.reduceEq, Int.reduceLE, Int.reduceLT, Int.reduceNeg]
            all_goals first | rfl | (exfalso; omega)
          exact ⟨_, rfl, H605, X623, t627, (R628.mo (by omega) (by omega) (by omega)), (by omega), (by rw [c634] <;> omega), (by rw [c638] <;> omega), S668⟩
        · have R669 := R565.nf (-1000) (-1000) (q584 (by omega)).1
          have R670 : RdC p0 none (-56) (-48) (-1000) σ0 σ576 := R669.tr ⟨(q584 (by omega)).2.1, (q584 (by omega)).2.2⟩ (by omega) (by omega) (by omega) (by omega)
          have z671 := R670.2.2.1
          have z672 := R670.2.2.2.1 rd_at
          refine k_if_eq (fun h673 => by exfalso; omega) (fun h673 => ?_)
          refine k_nil ?_
          refine hB _ _ _ _ (kgoC (is := KX7_readTry_122) rfl ?_)
          refine k_aload_n rfl ?_
          refine k_aload_n rfl ?_
          refine k_iload_n rfl ?_
          have X674 : ExC [0, 1, 2, 60, 61, 62, 63, 64, 65, 66, 67, 68, 69, 70, 72, 73, 74, 75, 76, 242, 243, 244, 246, 270, 271, 272, 273, 275, 276, 277, 278, 279, 280, 330, 331, 332, 333, 334, 999] σ0 σ576 := X570.tr (e580.mo (by decide))
          refine k_inv (P := (P_X7_readBody d)) (Q := (Q_X7_readBody d)) rfl rfl rfl rfl (Nat.le_of_ble_eq_true rfl) (t591.rc (by decide)) ⟨_, _, rfl, H579, t591, (by omega), (by omega), (rd_cd.st H0 h_0_0 X674 R670.1 (by decide)), (R670.2.2.2.1 rd_at), (rd_bg.st H0 h_0_0 X674 R670 (by decide) (by omega) (by omega) (by omega)), (by omega)⟩ (fun w675 σ676 q677 => ?_)
          obtain ⟨a678, rfl, H679, e680, h682, R681, q683, q684, q685, q686⟩ := q677
          have t692 := t591.x e680
          obtain ⟨x687, e688, c689, h690, h691⟩ := cg242 H679.1 t692
          obtain ⟨x693, e694, c695, h696, h697⟩ := cg243 H679.1 t692
          have z698 := congrArg Int32.toInt c689
          have z699 := congrArg Int32.toInt c695
          refine k_st (st' := [.inr (.inr (some a678)), .inr (.inr (some a20))]) rfl ?_
          have z700 := R670.1.1
          obtain ⟨x701, e702, c703, h704, h705⟩ := cg272 H679.1 h682
          rw [c703] at q684
          obtain ⟨x706, e707, c708, h709, h710⟩ := cg270 H679.1 h682
          rw [c708] at q685
          have R711 : RdC p0 none (-62) (-38 + 8 * (d : Int)) (-998) σ0 σ676 := R670.tr ⟨R681.1, R681.2⟩ (by omega) (by omega) (by omega) (by omega)
          have z712 := R711.2.2.1
          have z713 := R711.2.2.2.1 rd_at
          have c714 := (t555.mi e552 (by decide)).trans c541
          have t715 := t555.x e552
          have c716 := (t715.mi e559 (by decide)).trans c714
          have t717 := t715.x e559
          have c718 := (t717.mi e580 (by decide)).trans c716
          have t719 := t717.x e580
          have c720 := (t719.fi e680 (by decide) (by decide)).trans c718
          have c721 := (t555.mi e552 (by decide)).trans c549
          have c722 := (t715.mi e559 (by decide)).trans c721
          have c723 := (t717.mi e580 (by decide)).trans c722
          have c724 := (t719.fi e680 (by decide) (by decide)).trans c723
          have z729 := t719.1
          have t730 := t719.x e680
          refine k_p278 H679 t730 (h682.ot) (fun z hz => by cases hz; exact ⟨by omega, by unfold LvC; rw [c720, c724, c708, c703]; omega⟩) (fun σ725 H726 e727 c728 => ?_)
          refine k_nil ?_
          refine hB _ _ _ _ (kgoC (is := KX7_readTry_131) rfl ?_)
          refine k_aload_n rfl ?_
          refine k_aload_n rfl ?_
          have t731 := t692.x e727
          have t736 := t38.x e49
          have t737 := t736.x e71
          have t738 := t737.x e87
          have t739 := t738.x e130
          have t740 := t739.x e164
          have t741 := t740.x e388
          have t742 := t741.x e420
          have t743 := t742.x e444
          have t744 := t743.x e456
          have t745 := t744.x e476
          have t746 := t745.x e502
          have t747 := t746.x e552
          have t748 := t747.x e559
          have t749 := t748.x e580
          have t750 := t749.x e680
          have t751 := t750.x e727
          refine k_putR kp246 H726 t731 fk246 (rfo246 (t751)) (fun σ732 H733 e734 c735 => ?_)
          refine k_aload_n rfl ?_
          refine k_areturn ?_
          have X752 : ExC [0, 1, 2, 60, 61, 62, 63, 64, 65, 66, 67, 68, 69, 70, 72, 73, 74, 75, 76, 242, 243, 244, 246, 270, 271, 272, 273, 275, 276, 277, 278, 279, 280, 330, 331, 332, 333, 334, 999] σ0 σ676 := X674.tr (e680.mo (by decide))
          have X753 : ExC [0, 1, 2, 60, 61, 62, 63, 64, 65, 66, 67, 68, 69, 70, 72, 73, 74, 75, 76, 242, 243, 244, 246, 270, 271, 272, 273, 275, 276, 277, 278, 279, 280, 330, 331, 332, 333, 334, 999] σ0 σ725 := X752.tr (e727.mo (by decide))
          have X754 : ExC [0, 1, 2, 60, 61, 62, 63, 64, 65, 66, 67, 68, 69, 70, 72, 73, 74, 75, 76, 242, 243, 244, 246, 270, 271, 272, 273, 275, 276, 277, 278, 279, 280, 330, 331, 332, 333, 334, 999] σ0 σ732 := X753.tr (e734.mo (by decide))
          have t755 := t730.x e727
          have t756 := t755.x e734
          have R757 : RdC p0 none (-62) (-38 + 8 * (d : Int)) (-998) σ0 σ725 := R711.tr ⟨(e727.gw H679.1 (by decide)), (e727.cou (u := 0) H679.1 t692 (by decide) (by rw [e727.cn (by decide)]; omega))⟩ (by omega) (by omega) (by omega) (by omega)
          have R758 : RdC p0 none (-62) (-38 + 8 * (d : Int)) (-998) σ0 σ732 := R757.tr ⟨(e734.gw H726.1 (by decide)), (e734.cou (u := 0) H726.1 t731 (by decide) (by rw [e734.cn (by decide)]; omega))⟩ (by omega) (by omega) (by omega) (by omega)
          have c759 := (t692.mi e727 (by decide)).trans c695
          have c760 := (t731.mi e734 (by decide)).trans c759
          have c761 := (t692.mi e727 (by decide)).trans c689
          have c762 := (t731.mi e734 (by decide)).trans c761
          have c763 := (t730.mi e727 (by decide)).trans c724
          have c764 := (t755.mi e734 (by decide)).trans c763
          have c765 := (t730.mi e727 (by decide)).trans c720
          have c766 := (t755.mi e734 (by decide)).trans c765
          have S799 : ∀ s, ReC σ0 p0 s → ReC σ732 p0 (tryY (rwY (d - 1)) s) := by
            intro s hs
            have y767 := q28 _ hs
            have y769 := q52 _ y767
            have y771 := y769.x H48.1 t58 e71 (by decide)
            have y772 := q93 _ y771
            have y774 := y772.x H86.1 t99 e130 (by decide)
            have f775 := q146 _ y774
            obtain ⟨y776, f777⟩ := q169 _ y774
            rw [h157] at y776
            rw [h157] at f777
            rw [tkY_y (f777.1 (by omega))] at y776
            have y778 := q391 _ y776
            rw [h382] at y778
            have y780 := q424 _ y778
            rw [h409] at y780
            rw [h411] at y780
            rw [h413] at y780
            have y782 := y780.x H419.1 t430 e444 (by decide)
            have y783 := y782.x H443.1 t451 e456 (by decide)
            have y784 := q479 _ y783
            rw [h464] at y784
            have y786 := q508 _ y784
            have y788 := y786.x H501.1 t514 e552 (by decide)
            have y789 := y788.x H551.1 t556 e559 (by decide)
            obtain ⟨y790, f791⟩ := q585 _ y789
            rw [h562] at y790
            rw [h562] at f791
            rw [tkY_y (f791.1 (by omega))] at y790
            have y792 := q686 _ y790
            have y794 := y792.x H679.1 t692 e727 (by decide)
            have y795 := y794.x H726.1 t731 e734 (by decide)
            have g796 := f775.symm.trans (h154.trans h153)
            have g797 := f777.1 (by omega)
            have g798 := f791.1 (by omega)
            refine y795.eq ?_
            all_goals try simp only [tryY, tr1Y, tr2Y, tr3Y, g796, g797, g798, or_false, false_or, or_true, true_or, and_false, false_and, and_true, true_and, not_true, not_false_iff, ↓reduceIte, Int.reduceEq, Int.reduceLE, Int.reduceLT, Int.reduceNeg]
            all_goals first | rfl | (exfalso; omega)
          exact ⟨_, rfl, H733, X754, t756, (R758.mo (by omega) (by omega) (by omega)), (by omega), (by rw [c764] <;> omega), (by rw [c766] <;> omega), S799⟩
    · refine k_nil ?_
      refine hB _ _ _ _ (kgoC (is := KX7_readTry_46) rfl ?_)
      refine k_aload_n rfl ?_
      refine k_inv (P := P_X7_code) (Q := Q_X7_code) rfl rfl rfl rfl (Nat.le_of_ble_eq_true rfl) (t134.rc (by decide)) ⟨_, rfl, H129, t134, (rd_cd.st H0 h_0_0 X138 R135.1 (by decide))⟩ (fun w800 σ801 q802 => ?_)
      obtain ⟨x803, rfl, rfl, q804, q805, q806, q807⟩ := q802
      refine k_st (st' := [.inl x803]) rfl ?_
      refine k_bipush (m := 70) rfl (fun x808 h809 => ?_)
      refine k_ic_eq (fun h810 => ?_) (fun h810 => ?_)
      · have h811 : x100.toInt = 0 := by omega
        refine hB _ _ _ _ (kgoC (is := KX7_readTry_60) rfl ?_)
        refine k_aload_n rfl ?_
        refine k_bipush (m := 69) rfl (fun x812 h813 => ?_)
        have R814 := R135.nf (-1000) (-1000) (by rw [c136]; omega)
        refine k_inv (P := P_X7_takes) (Q := Q_X7_takes) rfl rfl rfl rfl (Nat.le_of_ble_eq_true rfl) (t134.rc (by decide)) ⟨_, _, rfl, H129, t134, (by omega), (by omega), (rd_cd.st H0 h_0_0 X138 R814.1 (by decide)), (R814.2.2.2.1 rd_at), (rd_bg.stn H0 h_0_0 X138 R814 (by decide) (by rw [c136]; omega) (by omega))⟩ (fun w815 σ816 q817 => ?_)
        obtain ⟨x818, rfl, H819, e820, h822, h823, R821, q824, q825⟩ := q817
        have t831 := t134.x e820
        obtain ⟨x826, e827, c828, h829, h830⟩ := cg242 H819.1 t831
        obtain ⟨x832, e833, c834, h835, h836⟩ := cg243 H819.1 t831
        have z837 := congrArg Int32.toInt c828
        have z838 := congrArg Int32.toInt c834
        refine k_st (st' := [.inl x818]) rfl ?_
        rcases (by omega : x818.toInt = 0 ∨ x818.toInt = 1) with g839 | g839
        · have R840 : RdC p0 none (-12) (-12) (-1000) σ0 σ816 := R814.tr ⟨R821.1, R821.2⟩ (by omega) (by omega) (by omega) (by omega)
          have z841 := R840.2.2.1
          have z842 := R840.2.2.2.1 rd_at
          refine k_if_eq (fun h843 => ?_) (fun h843 => by exfalso; omega)
          refine hB _ _ _ _ (kgoC (is := KX7_readTry_113) rfl ?_)
          refine k_aload_n rfl ?_
          refine k_bipush (m := 70) rfl (fun x844 h845 => ?_)
          have X846 : ExC [0, 1, 2, 60, 61, 62, 63, 64, 65, 66, 67, 68, 69, 70, 72, 73, 74, 75, 76, 242, 243, 244, 246, 270, 271, 272, 273, 275, 276, 277, 278, 279, 280, 330, 331, 332, 333, 334, 999] σ0 σ816 := X138.tr (e820.mo (by decide))
          refine k_inv (P := P_X7_takes) (Q := Q_X7_takes) rfl rfl rfl rfl (Nat.le_of_ble_eq_true rfl) (t831.rc (by decide)) ⟨_, _, rfl, H819, t831, (by omega), (by omega), (rd_cd.st H0 h_0_0 X846 R840.1 (by decide)), (R840.2.2.2.1 rd_at), (rd_bg.st H0 h_0_0 X846 R840 (by decide) (by omega) (by omega) (by omega))⟩ (fun w847 σ848 q849 => ?_)
          obtain ⟨x850, rfl, H851, e852, h854, h855, R853, q856, q857⟩ := q849
          have t863 := t831.x e852
          obtain ⟨x858, e859, c860, h861, h862⟩ := cg242 H851.1 t863
          obtain ⟨x864, e865, c866, h867, h868⟩ := cg243 H851.1 t863
          have z869 := congrArg Int32.toInt c860
          have z870 := congrArg Int32.toInt c866
          refine k_st (st' := [.inl x850]) rfl ?_
          rcases (by omega : x850.toInt = 0 ∨ x850.toInt = 1) with g871 | g871
          · have R872 : RdC p0 none (-12) (-12) (-1000) σ0 σ848 := R840.tr ⟨R853.1, R853.2⟩ (by omega) (by omega) (by omega) (by omega)
            have z873 := R872.2.2.1
            have z874 := R872.2.2.2.1 rd_at
            refine k_if_eq (fun h875 => ?_) (fun h875 => by exfalso; omega)
            refine hB _ _ _ _ (kgoC (is := KX7_readTry_131) rfl ?_)
            refine k_aload_n rfl ?_
            refine k_aload_n rfl ?_
            have t880 := t38.x e49
            have t881 := t880.x e71
            have t882 := t881.x e87
            have t883 := t882.x e130
            have t884 := t883.x e820
            have t885 := t884.x e852
            refine k_putR kp246 H851 t863 fk246 (rfo246 (t885)) (fun σ876 H877 e878 c879 => ?_)
            refine k_aload_n rfl ?_
            refine k_areturn ?_
            have X886 : ExC [0, 1, 2, 60, 61, 62, 63, 64, 65, 66, 67, 68, 69, 70, 72, 73, 74, 75, 76, 242, 243, 244, 246, 270, 271, 272, 273, 275, 276, 277, 278, 279, 280, 330, 331, 332, 333, 334, 999] σ0 σ848 := X846.tr (e852.mo (by decide))
            have X887 : ExC [0, 1, 2, 60, 61, 62, 63, 64, 65, 66, 67, 68, 69, 70, 72, 73, 74, 75, 76, 242, 243, 244, 246, 270, 271, 272, 273, 275, 276, 277, 278, 279, 280, 330, 331, 332, 333, 334, 999] σ0 σ876 := X886.tr (e878.mo (by decide))
            have t888 := t133.x e130
            have t889 := t888.x e820
            have t890 := t889.x e852
            have t891 := t890.x e878
            have R892 : RdC p0 none (-12) (-12) (-1000) σ0 σ876 := R872.tr ⟨(e878.gw H851.1 (by decide)), (e878.cou (u := 0) H851.1 t863 (by decide) (by rw [e878.cn (by decide)]; omega))⟩ (by omega) (by omega) (by omega) (by omega)
            have c893 := (t863.mi e878 (by decide)).trans c866
            have c894 := (t863.mi e878 (by decide)).trans c860
            have c895 := (t133.mi e130 (by decide)).trans c127
            have c896 := (t888.mi e820 (by decide)).trans c895
            have c897 := (t889.mi e852 (by decide)).trans c896
            have c898 := (t890.mi e878 (by decide)).trans c897
            have c899 := (t133.mi e130 (by decide)).trans c124
            have c900 := (t888.mi e820 (by decide)).trans c899
            have c901 := (t889.mi e852 (by decide)).trans c900
            have c902 := (t890.mi e878 (by decide)).trans c901
            have S922 : ∀ s, ReC σ0 p0 s → ReC σ876 p0 (tryY (rwY (d - 1)) s) := by
              intro s hs
              have y903 := q28 _ hs
              have y905 := q52 _ y903
              have y907 := y905.x H48.1 t58 e71 (by decide)
              have y908 := q93 _ y907
              have y910 := y908.x H86.1 t99 e130 (by decide)
              have f911 := q146 _ y910
              have f912 := q807 _ y910
              obtain ⟨y913, f914⟩ := q825 _ y910
              rw [h813] at y913
              rw [h813] at f914
              rw [tkY_n (f914.2 (by omega))] at y913
              obtain ⟨y915, f916⟩ := q857 _ y913
              rw [h845] at y915
              rw [h845] at f916
              rw [tkY_n (f916.2 (by omega))] at y915
              have y917 := y915.x H851.1 t863 e878 (by decide)
              have g918 := neY f911 h154 h153
              have g919 := f912.symm.trans (h810.trans h809)
              have g920 := f914.2 (by omega)
              have g921 := f916.2 (by omega)
              refine y917.eq ?_
              all_goals try simp only [tryY, tr1Y, tr2Y, tr3Y, g918, g919, g920, g921, or_false, false_or, or_true, true_or, and_false, false_and, and_true, true_and, not_true, not_false_iff, ↓reduceIte, Int.reduceEq, Int.reduceLE, Int.reduceLT, Int.reduceNeg]
              all_goals first | rfl | (exfalso; omega)
            exact ⟨_, rfl, H877, X887, t891, (R892.mo (by omega) (by omega) (by omega)), (by omega), (by rw [c898] <;> omega), (by rw [c902] <;> omega), S922⟩
          · have R923 := R840.nf (-1000) (-1000) (q856 (by omega)).1
            have R924 : RdC p0 none (-20) (-12) (-1000) σ0 σ848 := R923.tr ⟨(q856 (by omega)).2.1, (q856 (by omega)).2.2⟩ (by omega) (by omega) (by omega) (by omega)
            have z925 := R924.2.2.1
            have z926 := R924.2.2.2.1 rd_at
            refine k_if_eq (fun h927 => by exfalso; omega) (fun h927 => ?_)
            refine k_nil ?_
            refine hB _ _ _ _ (kgoC (is := KX7_readTry_122) rfl ?_)
            refine k_aload_n rfl ?_
            refine k_aload_n rfl ?_
            refine k_iload_n rfl ?_
            have X928 : ExC [0, 1, 2, 60, 61, 62, 63, 64, 65, 66, 67, 68, 69, 70, 72, 73, 74, 75, 76, 242, 243, 244, 246, 270, 271, 272, 273, 275, 276, 277, 278, 279, 280, 330, 331, 332, 333, 334, 999] σ0 σ848 := X846.tr (e852.mo (by decide))
            refine k_inv (P := (P_X7_readBody d)) (Q := (Q_X7_readBody d)) rfl rfl rfl rfl (Nat.le_of_ble_eq_true rfl) (t863.rc (by decide)) ⟨_, _, rfl, H851, t863, (by omega), (by omega), (rd_cd.st H0 h_0_0 X928 R924.1 (by decide)), (R924.2.2.2.1 rd_at), (rd_bg.st H0 h_0_0 X928 R924 (by decide) (by omega) (by omega) (by omega)), (by omega)⟩ (fun w929 σ930 q931 => ?_)
            obtain ⟨a932, rfl, H933, e934, h936, R935, q937, q938, q939, q940⟩ := q931
            have t946 := t863.x e934
            obtain ⟨x941, e942, c943, h944, h945⟩ := cg242 H933.1 t946
            obtain ⟨x947, e948, c949, h950, h951⟩ := cg243 H933.1 t946
            have z952 := congrArg Int32.toInt c943
            have z953 := congrArg Int32.toInt c949
            refine k_st (st' := [.inr (.inr (some a932)), .inr (.inr (some a20))]) rfl ?_
            have z954 := R924.1.1
            obtain ⟨x955, e956, c957, h958, h959⟩ := cg272 H933.1 h936
            rw [c957] at q938
            obtain ⟨x960, e961, c962, h963, h964⟩ := cg270 H933.1 h936
            rw [c962] at q939
            have R965 : RdC p0 none (-26) (-2 + 8 * (d : Int)) (-998) σ0 σ930 := R924.tr ⟨R935.1, R935.2⟩ (by omega) (by omega) (by omega) (by omega)
            have z966 := R965.2.2.1
            have z967 := R965.2.2.2.1 rd_at
            have c968 := (t133.mi e130 (by decide)).trans c124
            have t969 := t133.x e130
            have c970 := (t969.mi e820 (by decide)).trans c968
            have t971 := t969.x e820
            have c972 := (t971.mi e852 (by decide)).trans c970
            have t973 := t971.x e852
            have c974 := (t973.fi e934 (by decide) (by decide)).trans c972
            have c975 := (t133.mi e130 (by decide)).trans c127
            have c976 := (t969.mi e820 (by decide)).trans c975
            have c977 := (t971.mi e852 (by decide)).trans c976
            have c978 := (t973.fi e934 (by decide) (by decide)).trans c977
            have z983 := t973.1
            have t984 := t973.x e934
            refine k_p278 H933 t984 (h936.ot) (fun z hz => by cases hz; exact ⟨by omega, by unfold LvC; rw [c974, c978, c962, c957]; omega⟩) (fun σ979 H980 e981 c982 => ?_)
            refine k_nil ?_
            refine hB _ _ _ _ (kgoC (is := KX7_readTry_131) rfl ?_)
            refine k_aload_n rfl ?_
            refine k_aload_n rfl ?_
            have t985 := t946.x e981
            have t990 := t38.x e49
            have t991 := t990.x e71
            have t992 := t991.x e87
            have t993 := t992.x e130
            have t994 := t993.x e820
            have t995 := t994.x e852
            have t996 := t995.x e934
            have t997 := t996.x e981
            refine k_putR kp246 H980 t985 fk246 (rfo246 (t997)) (fun σ986 H987 e988 c989 => ?_)
            refine k_aload_n rfl ?_
            refine k_areturn ?_
            have X998 : ExC [0, 1, 2, 60, 61, 62, 63, 64, 65, 66, 67, 68, 69, 70, 72, 73, 74, 75, 76, 242, 243, 244, 246, 270, 271, 272, 273, 275, 276, 277, 278, 279, 280, 330, 331, 332, 333, 334, 999] σ0 σ930 := X928.tr (e934.mo (by decide))
            have X999 : ExC [0, 1, 2, 60, 61, 62, 63, 64, 65, 66, 67, 68, 69, 70, 72, 73, 74, 75, 76, 242, 243, 244, 246, 270, 271, 272, 273, 275, 276, 277, 278, 279, 280, 330, 331, 332, 333, 334, 999] σ0 σ979 := X998.tr (e981.mo (by decide))
            have X1000 : ExC [0, 1, 2, 60, 61, 62, 63, 64, 65, 66, 67, 68, 69, 70, 72, 73, 74, 75, 76, 242, 243, 244, 246, 270, 271, 272, 273, 275, 276, 277, 278, 279, 280, 330, 331, 332, 333, 334, 999] σ0 σ986 := X999.tr (e988.mo (by decide))
            have t1001 := t984.x e981
            have t1002 := t1001.x e988
            have R1003 : RdC p0 none (-26) (-2 + 8 * (d : Int)) (-998) σ0 σ979 := R965.tr ⟨(e981.gw H933.1 (by decide)), (e981.cou (u := 0) H933.1 t946 (by decide) (by rw [e981.cn (by decide)]; omega))⟩ (by omega) (by omega) (by omega) (by omega)
            have R1004 : RdC p0 none (-26) (-2 + 8 * (d : Int)) (-998) σ0 σ986 := R1003.tr ⟨(e988.gw H980.1 (by decide)), (e988.cou (u := 0) H980.1 t985 (by decide) (by rw [e988.cn (by decide)]; omega))⟩ (by omega) (by omega) (by omega) (by omega)
            have c1005 := (t946.mi e981 (by decide)).trans c949
            have c1006 := (t985.mi e988 (by decide)).trans c1005
            have c1007 := (t946.mi e981 (by decide)).trans c943
            have c1008 := (t985.mi e988 (by decide)).trans c1007
            have c1009 := (t984.mi e981 (by decide)).trans c978
            have c1010 := (t1001.mi e988 (by decide)).trans c1009
            have c1011 := (t984.mi e981 (by decide)).trans c974
            have c1012 := (t1001.mi e988 (by decide)).trans c1011
            have S1035 : ∀ s, ReC σ0 p0 s → ReC σ986 p0 (tryY (rwY (d - 1)) s) := by
              intro s hs
              have y1013 := q28 _ hs
              have y1015 := q52 _ y1013
              have y1017 := y1015.x H48.1 t58 e71 (by decide)
              have y1018 := q93 _ y1017
              have y1020 := y1018.x H86.1 t99 e130 (by decide)
              have f1021 := q146 _ y1020
              have f1022 := q807 _ y1020
              obtain ⟨y1023, f1024⟩ := q825 _ y1020
              rw [h813] at y1023
              rw [h813] at f1024
              rw [tkY_n (f1024.2 (by omega))] at y1023
              obtain ⟨y1025, f1026⟩ := q857 _ y1023
              rw [h845] at y1025
              rw [h845] at f1026
              rw [tkY_y (f1026.1 (by omega))] at y1025
              have y1027 := q940 _ y1025
              have y1029 := y1027.x H933.1 t946 e981 (by decide)
              have y1030 := y1029.x H980.1 t985 e988 (by decide)
              have g1031 := neY f1021 h154 h153
              have g1032 := f1022.symm.trans (h810.trans h809)
              have g1033 := f1024.2 (by omega)
              have g1034 := f1026.1 (by omega)
              refine y1030.eq ?_
              all_goals try simp only [tryY, tr1Y, tr2Y, tr3Y, g1031, g1032, g1033, g1034, or_false, false_or, or_true, true_or, and_false, false_and, and_true, true_and, not_true, not_false_iff, ↓reduceIte, Int.reduceEq, Int.reduceLE, Int.reduceLT, Int.reduceNeg]
              all_goals first | rfl | (exfalso; omega)
            exact ⟨_, rfl, H987, X1000, t1002, (R1004.mo (by omega) (by omega) (by omega)), (by omega), (by rw [c1010] <;> omega), (by rw [c1012] <;> omega), S1035⟩
        · have R1036 := R814.nf (-1000) (-1000) (q824 (by omega)).1
          have R1037 : RdC p0 none (-20) (-12) (-1000) σ0 σ816 := R1036.tr ⟨(q824 (by omega)).2.1, (q824 (by omega)).2.2⟩ (by omega) (by omega) (by omega) (by omega)
          have z1038 := R1037.2.2.1
          have z1039 := R1037.2.2.2.1 rd_at
          refine k_if_eq (fun h1040 => by exfalso; omega) (fun h1040 => ?_)
          refine k_nil ?_
          refine hB _ _ _ _ (kgoC (is := KX7_readTry_69) rfl ?_)
          refine k_aload_n rfl ?_
          refine k_iconst (m := 0) rfl (fun x1041 h1042 => ?_)
          have X1043 : ExC [0, 1, 2, 60, 61, 62, 63, 64, 65, 66, 67, 68, 69, 70, 72, 73, 74, 75, 76, 242, 243, 244, 246, 270, 271, 272, 273, 275, 276, 277, 278, 279, 280, 330, 331, 332, 333, 334, 999] σ0 σ816 := X138.tr (e820.mo (by decide))
          refine k_inv (P := P_X7_expect) (Q := Q_X7_expect) rfl rfl rfl rfl (Nat.le_of_ble_eq_true rfl) (t831.rc (by decide)) ⟨_, _, rfl, H819, t831, (by omega), (by omega), (rd_cd.st H0 h_0_0 X1043 R1037.1 (by decide)), (R1037.2.2.2.1 rd_at), (rd_bg.st H0 h_0_0 X1043 R1037 (by decide) (by omega) (by omega) (by omega))⟩ (fun w1044 σ1045 q1046 => ?_)
          obtain ⟨rfl, H1047, e1048, R1049, q1050, q1051⟩ := q1046
          have t1057 := t831.x e1048
          obtain ⟨x1052, e1053, c1054, h1055, h1056⟩ := cg242 H1047.1 t1057
          obtain ⟨x1058, e1059, c1060, h1061, h1062⟩ := cg243 H1047.1 t1057
          have z1063 := congrArg Int32.toInt c1054
          have z1064 := congrArg Int32.toInt c1060
          refine k_st (st' := []) rfl ?_
          have R1065 : RdC p0 none (-28) (-12) (-1000) σ0 σ1045 := R1037.tr ⟨R1049.1, R1049.2⟩ (by omega) (by omega) (by omega) (by omega)
          have z1066 := R1065.2.2.1
          have z1067 := R1065.2.2.2.1 rd_at
          refine k_aload_n rfl ?_
          refine k_aload_n rfl ?_
          refine k_iconst (m := 3) rfl (fun x1068 h1069 => ?_)
          refine k_iconst (m := 0) rfl (fun x1070 h1071 => ?_)
          refine k_iconst (m := 1) rfl (fun x1072 h1073 => ?_)
          have X1074 : ExC [0, 1, 2, 60, 61, 62, 63, 64, 65, 66, 67, 68, 69, 70, 72, 73, 74, 75, 76, 242, 243, 244, 246, 270, 271, 272, 273, 275, 276, 277, 278, 279, 280, 330, 331, 332, 333, 334, 999] σ0 σ1045 := X1043.tr (e1048.mo (by decide))
          refine k_inv (P := P_X7_declare) (Q := Q_X7_declare) rfl rfl rfl rfl (Nat.le_of_ble_eq_true rfl) (t1057.rc (by decide)) ⟨_, _, _, _, rfl, H1047, t1057, (by omega), (by omega), (by omega), (by omega), (rd_cd.st H0 h_0_0 X1074 R1065.1 (by decide)), (R1065.2.2.2.1 rd_at), (rd_bg.st H0 h_0_0 X1074 R1065 (by decide) (by omega) (by omega) (by omega))⟩ (fun w1075 σ1076 q1077 => ?_)
          obtain ⟨x1078, rfl, H1079, e1080, h1082, h1083, R1081, q1084⟩ := q1077
          have t1090 := t1057.x e1080
          obtain ⟨x1085, e1086, c1087, h1088, h1089⟩ := cg242 H1079.1 t1090
          obtain ⟨x1091, e1092, c1093, h1094, h1095⟩ := cg243 H1079.1 t1090
          have z1096 := congrArg Int32.toInt c1087
          have z1097 := congrArg Int32.toInt c1093
          refine k_st (st' := [.inl x1078, .inr (.inr (some a20))]) rfl ?_
          have t1098 := t133.x e130
          have t1099 := t1098.x e820
          have t1100 := t1099.x e1048
          have t1101 := t1100.x e1080
          have c1106 := (t133.mi e130 (by decide)).trans c124
          have c1107 := (t1098.mi e820 (by decide)).trans c1106
          have c1108 := (t1099.mi e1048 (by decide)).trans c1107
          have c1109 := (t1100.mi e1080 (by decide)).trans c1108
          refine k_p280 H1079 t1101 (by omega) (by omega) (by rw [c1109]; omega) (fun σ1102 H1103 e1104 c1105 => ?_)
          refine k_aload_n rfl ?_
          refine k_aload_n rfl ?_
          have t1110 := t1101.x e1104
          refine k_get kg280 t1110 (congrArg (Sum.inl : Int32 → AvC) c1105) ?_
          have t1111 := t1090.x e1104
          refine k_inv (P := P_X7_know) (Q := Q_X7_know) rfl rfl rfl rfl (Nat.le_of_ble_eq_true rfl) (t1111.rc (by decide)) ⟨_, _, rfl, H1103, t1111⟩ (fun w1112 σ1113 q1114 => ?_)
          obtain ⟨rfl, H1115, e1116⟩ := q1114
          have c1117 := (t1090.mi e1104 (by decide)).trans c1087
          have c1118 := (t1111.mi e1116 (by decide)).trans c1117
          have c1119 := (t1090.mi e1104 (by decide)).trans c1093
          have c1120 := (t1111.mi e1116 (by decide)).trans c1119
          have z1121 := congrArg Int32.toInt c1118
          have z1122 := congrArg Int32.toInt c1120
          refine k_st (st' := []) rfl ?_
          refine k_aload_n rfl ?_
          refine k_iconst (m := 1) rfl (fun x1123 h1124 => ?_)
          have t1125 := t1111.x e1116
          have R1126 : RdC p0 none (-34) (-12) (-1000) σ0 σ1076 := R1065.tr ⟨R1081.1, R1081.2⟩ (by omega) (by omega) (by omega) (by omega)
          have R1127 : RdC p0 none (-34) (-12) (-1000) σ0 σ1102 := R1126.tr ⟨(e1104.gw H1079.1 (by decide)), (e1104.cou (u := 0) H1079.1 t1090 (by decide) (by rw [e1104.cn (by decide)]; omega))⟩ (by omega) (by omega) (by omega) (by omega)
          have R1128 : RdC p0 none (-34) (-12) (-1000) σ0 σ1113 := R1127.tr ⟨(e1116.gw H1103.1 (by decide)), (e1116.cou (u := 0) H1103.1 t1111 (by decide) (by rw [e1116.cn (by decide)]; omega))⟩ (by omega) (by omega) (by omega) (by omega)
          have X1129 : ExC [0, 1, 2, 60, 61, 62, 63, 64, 65, 66, 67, 68, 69, 70, 72, 73, 74, 75, 76, 242, 243, 244, 246, 270, 271, 272, 273, 275, 276, 277, 278, 279, 280, 330, 331, 332, 333, 334, 999] σ0 σ1076 := X1074.tr (e1080.mo (by decide))
          have X1130 : ExC [0, 1, 2, 60, 61, 62, 63, 64, 65, 66, 67, 68, 69, 70, 72, 73, 74, 75, 76, 242, 243, 244, 246, 270, 271, 272, 273, 275, 276, 277, 278, 279, 280, 330, 331, 332, 333, 334, 999] σ0 σ1102 := X1129.tr (e1104.mo (by decide))
          have X1131 : ExC [0, 1, 2, 60, 61, 62, 63, 64, 65, 66, 67, 68, 69, 70, 72, 73, 74, 75, 76, 242, 243, 244, 246, 270, 271, 272, 273, 275, 276, 277, 278, 279, 280, 330, 331, 332, 333, 334, 999] σ0 σ1113 := X1130.tr (e1116.mo (by decide))
          refine k_inv (P := P_X7_expect) (Q := Q_X7_expect) rfl rfl rfl rfl (Nat.le_of_ble_eq_true rfl) (t1125.rc (by decide)) ⟨_, _, rfl, H1115, t1125, (by omega), (by omega), (rd_cd.st H0 h_0_0 X1131 R1128.1 (by decide)), (R1128.2.2.2.1 rd_at), (rd_bg.st H0 h_0_0 X1131 R1128 (by decide) (by omega) (by omega) (by omega))⟩ (fun w1132 σ1133 q1134 => ?_)
          obtain ⟨rfl, H1135, e1136, R1137, q1138, q1139⟩ := q1134
          have t1145 := t1125.x e1136
          obtain ⟨x1140, e1141, c1142, h1143, h1144⟩ := cg242 H1135.1 t1145
          obtain ⟨x1146, e1147, c1148, h1149, h1150⟩ := cg243 H1135.1 t1145
          have z1151 := congrArg Int32.toInt c1142
          have z1152 := congrArg Int32.toInt c1148
          refine k_st (st' := []) rfl ?_
          have R1153 : RdC p0 none (-42) (-12) (-1000) σ0 σ1133 := R1128.tr ⟨R1137.1, R1137.2⟩ (by omega) (by omega) (by omega) (by omega)
          have z1154 := R1153.2.2.1
          have z1155 := R1153.2.2.2.1 rd_at
          refine k_aload_n rfl ?_
          refine k_aload_n rfl ?_
          refine k_iload_n rfl ?_
          have X1156 : ExC [0, 1, 2, 60, 61, 62, 63, 64, 65, 66, 67, 68, 69, 70, 72, 73, 74, 75, 76, 242, 243, 244, 246, 270, 271, 272, 273, 275, 276, 277, 278, 279, 280, 330, 331, 332, 333, 334, 999] σ0 σ1133 := X1131.tr (e1136.mo (by decide))
          refine k_inv (P := (P_X7_readBody d)) (Q := (Q_X7_readBody d)) rfl rfl rfl rfl (Nat.le_of_ble_eq_true rfl) (t1145.rc (by decide)) ⟨_, _, rfl, H1135, t1145, (by omega), (by omega), (rd_cd.st H0 h_0_0 X1156 R1153.1 (by decide)), (R1153.2.2.2.1 rd_at), (rd_bg.st H0 h_0_0 X1156 R1153 (by decide) (by omega) (by omega) (by omega)), (by omega)⟩ (fun w1157 σ1158 q1159 => ?_)
          obtain ⟨a1160, rfl, H1161, e1162, h1164, R1163, q1165, q1166, q1167, q1168⟩ := q1159
          have t1174 := t1145.x e1162
          obtain ⟨x1169, e1170, c1171, h1172, h1173⟩ := cg242 H1161.1 t1174
          obtain ⟨x1175, e1176, c1177, h1178, h1179⟩ := cg243 H1161.1 t1174
          have z1180 := congrArg Int32.toInt c1171
          have z1181 := congrArg Int32.toInt c1177
          refine k_st (st' := [.inr (.inr (some a1160)), .inr (.inr (some a20))]) rfl ?_
          have z1182 := R1153.1.1
          obtain ⟨x1183, e1184, c1185, h1186, h1187⟩ := cg272 H1161.1 h1164
          rw [c1185] at q1166
          obtain ⟨x1188, e1189, c1190, h1191, h1192⟩ := cg270 H1161.1 h1164
          rw [c1190] at q1167
          have R1193 : RdC p0 none (-48) (-10 + 8 * (d : Int)) (-998) σ0 σ1158 := R1153.tr ⟨R1163.1, R1163.2⟩ (by omega) (by omega) (by omega) (by omega)
          have z1194 := R1193.2.2.1
          have z1195 := R1193.2.2.2.1 rd_at
          have c1196 := (t1101.mi e1104 (by decide)).trans c1109
          have c1197 := (t1110.mi e1116 (by decide)).trans c1196
          have t1198 := t1110.x e1116
          have c1199 := (t1198.mi e1136 (by decide)).trans c1197
          have t1200 := t1198.x e1136
          have c1201 := (t1200.fi e1162 (by decide) (by decide)).trans c1199
          have c1202 := (t133.mi e130 (by decide)).trans c127
          have c1203 := (t1098.mi e820 (by decide)).trans c1202
          have c1204 := (t1099.mi e1048 (by decide)).trans c1203
          have c1205 := (t1100.mi e1080 (by decide)).trans c1204
          have c1206 := (t1101.mi e1104 (by decide)).trans c1205
          have c1207 := (t1110.mi e1116 (by decide)).trans c1206
          have c1208 := (t1198.mi e1136 (by decide)).trans c1207
          have c1209 := (t1200.fi e1162 (by decide) (by decide)).trans c1208
          have z1214 := t1200.1
          have t1215 := t1200.x e1162
          refine k_p277 H1161 t1215 (h1164.ot) (fun z hz => by cases hz; exact ⟨by omega, by unfold LvC; rw [c1201, c1209, c1190, c1185]; omega⟩) (fun σ1210 H1211 e1212 c1213 => ?_)
          refine k_aload_n rfl ?_
          refine k_lload rfl ?_
          have t1216 := t1174.x e1212
          refine k_putL kg245 H1211 t1216 fk245 (fun σ1217 H1218 e1219 c1220 => ?_)
          refine k_nil ?_
          refine hB _ _ _ _ (kgoC (is := KX7_readTry_113) rfl ?_)
          refine k_aload_n rfl ?_
          refine k_bipush (m := 70) rfl (fun x1221 h1222 => ?_)
          have t1223 := t1216.x e1219
          have R1224 : RdC p0 none (-48) (-10 + 8 * (d : Int)) (-998) σ0 σ1210 := R1193.tr ⟨(e1212.gw H1161.1 (by decide)), (e1212.cou (u := 0) H1161.1 t1174 (by decide) (by rw [e1212.cn (by decide)]; omega))⟩ (by omega) (by omega) (by omega) (by omega)
          have R1225 : RdC p0 none (-48) (-10 + 8 * (d : Int)) (-998) σ0 σ1217 := R1224.tr ⟨(e1219.gw H1211.1 (by decide)), (e1219.cou (u := 0) H1211.1 t1216 (by decide) (by rw [e1219.cn (by decide)]; omega))⟩ (by omega) (by omega) (by omega) (by omega)
          have c1226 := (t1174.mi e1212 (by decide)).trans c1177
          have c1227 := (t1216.mi e1219 (by decide)).trans c1226
          have X1228 : ExC [0, 1, 2, 60, 61, 62, 63, 64, 65, 66, 67, 68, 69, 70, 72, 73, 74, 75, 76, 242, 243, 244, 246, 270, 271, 272, 273, 275, 276, 277, 278, 279, 280, 330, 331, 332, 333, 334, 999] σ0 σ1158 := X1156.tr (e1162.mo (by decide))
          have X1229 : ExC [0, 1, 2, 60, 61, 62, 63, 64, 65, 66, 67, 68, 69, 70, 72, 73, 74, 75, 76, 242, 243, 244, 246, 270, 271, 272, 273, 275, 276, 277, 278, 279, 280, 330, 331, 332, 333, 334, 999] σ0 σ1210 := X1228.tr (e1212.mo (by decide))
          have X1230 : ExC [0, 1, 2, 60, 61, 62, 63, 64, 65, 66, 67, 68, 69, 70, 72, 73, 74, 75, 76, 242, 243, 244, 246, 270, 271, 272, 273, 275, 276, 277, 278, 279, 280, 330, 331, 332, 333, 334, 999] σ0 σ1217 := X1229.tr (e1219.mo (by decide))
          have c1231 := (t1174.mi e1212 (by decide)).trans c1171
          have c1232 := (t1216.mi e1219 (by decide)).trans c1231
          have z1233 := congrArg Int32.toInt c1232
          have z1234 := congrArg Int32.toInt c1227
          refine k_inv (P := P_X7_takes) (Q := Q_X7_takes) rfl rfl rfl rfl (Nat.le_of_ble_eq_true rfl) (t1223.rc (by decide)) ⟨_, _, rfl, H1218, t1223, (by omega), (by omega), (rd_cd.st H0 h_0_0 X1230 R1225.1 (by decide)), (R1225.2.2.2.1 rd_at), (rd_bg.st H0 h_0_0 X1230 R1225 (by decide) (by omega) (by omega) (by omega))⟩ (fun w1235 σ1236 q1237 => ?_)
          obtain ⟨x1238, rfl, H1239, e1240, h1242, h1243, R1241, q1244, q1245⟩ := q1237
          have t1251 := t1223.x e1240
          obtain ⟨x1246, e1247, c1248, h1249, h1250⟩ := cg242 H1239.1 t1251
          obtain ⟨x1252, e1253, c1254, h1255, h1256⟩ := cg243 H1239.1 t1251
          have z1257 := congrArg Int32.toInt c1248
          have z1258 := congrArg Int32.toInt c1254
          refine k_st (st' := [.inl x1238]) rfl ?_
          rcases (by omega : x1238.toInt = 0 ∨ x1238.toInt = 1) with g1259 | g1259
          · have R1260 : RdC p0 none (-48) (-10 + 8 * (d : Int)) (-998) σ0 σ1236 := R1225.tr ⟨R1241.1, R1241.2⟩ (by omega) (by omega) (by omega) (by omega)
            have z1261 := R1260.2.2.1
            have z1262 := R1260.2.2.2.1 rd_at
            refine k_if_eq (fun h1263 => ?_) (fun h1263 => by exfalso; omega)
            refine hB _ _ _ _ (kgoC (is := KX7_readTry_131) rfl ?_)
            refine k_aload_n rfl ?_
            refine k_aload_n rfl ?_
            have t1268 := t38.x e49
            have t1269 := t1268.x e71
            have t1270 := t1269.x e87
            have t1271 := t1270.x e130
            have t1272 := t1271.x e820
            have t1273 := t1272.x e1048
            have t1274 := t1273.x e1080
            have t1275 := t1274.x e1104
            have t1276 := t1275.x e1116
            have t1277 := t1276.x e1136
            have t1278 := t1277.x e1162
            have t1279 := t1278.x e1212
            have t1280 := t1279.x e1219
            have t1281 := t1280.x e1240
            refine k_putR kp246 H1239 t1251 fk246 (rfo246 (t1281)) (fun σ1264 H1265 e1266 c1267 => ?_)
            refine k_aload_n rfl ?_
            refine k_areturn ?_
            have X1282 : ExC [0, 1, 2, 60, 61, 62, 63, 64, 65, 66, 67, 68, 69, 70, 72, 73, 74, 75, 76, 242, 243, 244, 246, 270, 271, 272, 273, 275, 276, 277, 278, 279, 280, 330, 331, 332, 333, 334, 999] σ0 σ1236 := X1230.tr (e1240.mo (by decide))
            have X1283 : ExC [0, 1, 2, 60, 61, 62, 63, 64, 65, 66, 67, 68, 69, 70, 72, 73, 74, 75, 76, 242, 243, 244, 246, 270, 271, 272, 273, 275, 276, 277, 278, 279, 280, 330, 331, 332, 333, 334, 999] σ0 σ1264 := X1282.tr (e1266.mo (by decide))
            have t1284 := t1215.x e1212
            have t1285 := t1284.x e1219
            have t1286 := t1285.x e1240
            have t1287 := t1286.x e1266
            have R1288 : RdC p0 none (-48) (-10 + 8 * (d : Int)) (-998) σ0 σ1264 := R1260.tr ⟨(e1266.gw H1239.1 (by decide)), (e1266.cou (u := 0) H1239.1 t1251 (by decide) (by rw [e1266.cn (by decide)]; omega))⟩ (by omega) (by omega) (by omega) (by omega)
            have c1289 := (t1251.mi e1266 (by decide)).trans c1254
            have c1290 := (t1251.mi e1266 (by decide)).trans c1248
            have c1291 := (t1215.mi e1212 (by decide)).trans c1209
            have c1292 := (t1284.mi e1219 (by decide)).trans c1291
            have c1293 := (t1285.mi e1240 (by decide)).trans c1292
            have c1294 := (t1286.mi e1266 (by decide)).trans c1293
            have c1295 := (t1215.mi e1212 (by decide)).trans c1201
            have c1296 := (t1284.mi e1219 (by decide)).trans c1295
            have c1297 := (t1285.mi e1240 (by decide)).trans c1296
            have c1298 := (t1286.mi e1266 (by decide)).trans c1297
            have S1330 : ∀ s, ReC σ0 p0 s → ReC σ1264 p0 (tryY (rwY (d - 1)) s) := by
              intro s hs
              have y1299 := q28 _ hs
              have y1301 := q52 _ y1299
              have y1303 := y1301.x H48.1 t58 e71 (by decide)
              have y1304 := q93 _ y1303
              have y1306 := y1304.x H86.1 t99 e130 (by decide)
              have f1307 := q146 _ y1306
              have f1308 := q807 _ y1306
              obtain ⟨y1309, f1310⟩ := q825 _ y1306
              rw [h813] at y1309
              rw [h813] at f1310
              rw [tkY_y (f1310.1 (by omega))] at y1309
              have y1311 := q1051 _ y1309
              rw [h1042] at y1311
              have y1313 := q1084 _ y1311
              rw [h1069] at y1313
              rw [h1071] at y1313
              rw [h1073] at y1313
              have y1315 := y1313.x H1079.1 t1090 e1104 (by decide)
              have y1316 := y1315.x H1103.1 t1111 e1116 (by decide)
              have y1317 := q1139 _ y1316
              rw [h1124] at y1317
              have y1319 := q1168 _ y1317
              have y1321 := y1319.x H1161.1 t1174 e1212 (by decide)
              have y1322 := y1321.x H1211.1 t1216 e1219 (by decide)
              obtain ⟨y1323, f1324⟩ := q1245 _ y1322
              rw [h1222] at y1323
              rw [h1222] at f1324
              rw [tkY_n (f1324.2 (by omega))] at y1323
              have y1325 := y1323.x H1239.1 t1251 e1266 (by decide)
              have g1326 := neY f1307 h154 h153
              have g1327 := f1308.symm.trans (h810.trans h809)
              have g1328 := f1310.1 (by omega)
              have g1329 := f1324.2 (by omega)
              refine y1325.eq ?_
              all_goals try simp only [tryY, tr1Y, tr2Y, tr3Y, g1326, g1327, g1328, g1329, or_false, false_or, or_true, true_or, and_false, false_and, and_true, true_and, not_true, not_false_iff, ↓reduceIte, Int.reduceEq, Int.reduceLE, Int.reduceLT, Int.reduceNeg]
              all_goals first | rfl | (exfalso; omega)
            exact ⟨_, rfl, H1265, X1283, t1287, (R1288.mo (by omega) (by omega) (by omega)), (by omega), (by rw [c1294] <;> omega), (by rw [c1298] <;> omega), S1330⟩
          · have R1331 := R1225.nf (-1000) (-1000) (q1244 (by omega)).1
            have R1332 : RdC p0 none (-56) (-48) (-1000) σ0 σ1236 := R1331.tr ⟨(q1244 (by omega)).2.1, (q1244 (by omega)).2.2⟩ (by omega) (by omega) (by omega) (by omega)
            have z1333 := R1332.2.2.1
            have z1334 := R1332.2.2.2.1 rd_at
            refine k_if_eq (fun h1335 => by exfalso; omega) (fun h1335 => ?_)
            refine k_nil ?_
            refine hB _ _ _ _ (kgoC (is := KX7_readTry_122) rfl ?_)
            refine k_aload_n rfl ?_
            refine k_aload_n rfl ?_
            refine k_iload_n rfl ?_
            have X1336 : ExC [0, 1, 2, 60, 61, 62, 63, 64, 65, 66, 67, 68, 69, 70, 72, 73, 74, 75, 76, 242, 243, 244, 246, 270, 271, 272, 273, 275, 276, 277, 278, 279, 280, 330, 331, 332, 333, 334, 999] σ0 σ1236 := X1230.tr (e1240.mo (by decide))
            refine k_inv (P := (P_X7_readBody d)) (Q := (Q_X7_readBody d)) rfl rfl rfl rfl (Nat.le_of_ble_eq_true rfl) (t1251.rc (by decide)) ⟨_, _, rfl, H1239, t1251, (by omega), (by omega), (rd_cd.st H0 h_0_0 X1336 R1332.1 (by decide)), (R1332.2.2.2.1 rd_at), (rd_bg.st H0 h_0_0 X1336 R1332 (by decide) (by omega) (by omega) (by omega)), (by omega)⟩ (fun w1337 σ1338 q1339 => ?_)
            obtain ⟨a1340, rfl, H1341, e1342, h1344, R1343, q1345, q1346, q1347, q1348⟩ := q1339
            have t1354 := t1251.x e1342
            obtain ⟨x1349, e1350, c1351, h1352, h1353⟩ := cg242 H1341.1 t1354
            obtain ⟨x1355, e1356, c1357, h1358, h1359⟩ := cg243 H1341.1 t1354
            have z1360 := congrArg Int32.toInt c1351
            have z1361 := congrArg Int32.toInt c1357
            refine k_st (st' := [.inr (.inr (some a1340)), .inr (.inr (some a20))]) rfl ?_
            have z1362 := R1332.1.1
            obtain ⟨x1363, e1364, c1365, h1366, h1367⟩ := cg272 H1341.1 h1344
            rw [c1365] at q1346
            obtain ⟨x1368, e1369, c1370, h1371, h1372⟩ := cg270 H1341.1 h1344
            rw [c1370] at q1347
            have R1373 : RdC p0 none (-62) (-38 + 8 * (d : Int)) (-998) σ0 σ1338 := R1332.tr ⟨R1343.1, R1343.2⟩ (by omega) (by omega) (by omega) (by omega)
            have z1374 := R1373.2.2.1
            have z1375 := R1373.2.2.2.1 rd_at
            have c1376 := (t1215.mi e1212 (by decide)).trans c1201
            have t1377 := t1215.x e1212
            have c1378 := (t1377.mi e1219 (by decide)).trans c1376
            have t1379 := t1377.x e1219
            have c1380 := (t1379.mi e1240 (by decide)).trans c1378
            have t1381 := t1379.x e1240
            have c1382 := (t1381.fi e1342 (by decide) (by decide)).trans c1380
            have c1383 := (t1215.mi e1212 (by decide)).trans c1209
            have c1384 := (t1377.mi e1219 (by decide)).trans c1383
            have c1385 := (t1379.mi e1240 (by decide)).trans c1384
            have c1386 := (t1381.fi e1342 (by decide) (by decide)).trans c1385
            have z1391 := t1381.1
            have t1392 := t1381.x e1342
            refine k_p278 H1341 t1392 (h1344.ot) (fun z hz => by cases hz; exact ⟨by omega, by unfold LvC; rw [c1382, c1386, c1370, c1365]; omega⟩) (fun σ1387 H1388 e1389 c1390 => ?_)
            refine k_nil ?_
            refine hB _ _ _ _ (kgoC (is := KX7_readTry_131) rfl ?_)
            refine k_aload_n rfl ?_
            refine k_aload_n rfl ?_
            have t1393 := t1354.x e1389
            have t1398 := t38.x e49
            have t1399 := t1398.x e71
            have t1400 := t1399.x e87
            have t1401 := t1400.x e130
            have t1402 := t1401.x e820
            have t1403 := t1402.x e1048
            have t1404 := t1403.x e1080
            have t1405 := t1404.x e1104
            have t1406 := t1405.x e1116
            have t1407 := t1406.x e1136
            have t1408 := t1407.x e1162
            have t1409 := t1408.x e1212
            have t1410 := t1409.x e1219
            have t1411 := t1410.x e1240
            have t1412 := t1411.x e1342
            have t1413 := t1412.x e1389
            refine k_putR kp246 H1388 t1393 fk246 (rfo246 (t1413)) (fun σ1394 H1395 e1396 c1397 => ?_)
            refine k_aload_n rfl ?_
            refine k_areturn ?_
            have X1414 : ExC [0, 1, 2, 60, 61, 62, 63, 64, 65, 66, 67, 68, 69, 70, 72, 73, 74, 75, 76, 242, 243, 244, 246, 270, 271, 272, 273, 275, 276, 277, 278, 279, 280, 330, 331, 332, 333, 334, 999] σ0 σ1338 := X1336.tr (e1342.mo (by decide))
            have X1415 : ExC [0, 1, 2, 60, 61, 62, 63, 64, 65, 66, 67, 68, 69, 70, 72, 73, 74, 75, 76, 242, 243, 244, 246, 270, 271, 272, 273, 275, 276, 277, 278, 279, 280, 330, 331, 332, 333, 334, 999] σ0 σ1387 := X1414.tr (e1389.mo (by decide))
            have X1416 : ExC [0, 1, 2, 60, 61, 62, 63, 64, 65, 66, 67, 68, 69, 70, 72, 73, 74, 75, 76, 242, 243, 244, 246, 270, 271, 272, 273, 275, 276, 277, 278, 279, 280, 330, 331, 332, 333, 334, 999] σ0 σ1394 := X1415.tr (e1396.mo (by decide))
            have t1417 := t1392.x e1389
            have t1418 := t1417.x e1396
            have R1419 : RdC p0 none (-62) (-38 + 8 * (d : Int)) (-998) σ0 σ1387 := R1373.tr ⟨(e1389.gw H1341.1 (by decide)), (e1389.cou (u := 0) H1341.1 t1354 (by decide) (by rw [e1389.cn (by decide)]; omega))⟩ (by omega) (by omega) (by omega) (by omega)
            have R1420 : RdC p0 none (-62) (-38 + 8 * (d : Int)) (-998) σ0 σ1394 := R1419.tr ⟨(e1396.gw H1388.1 (by decide)), (e1396.cou (u := 0) H1388.1 t1393 (by decide) (by rw [e1396.cn (by decide)]; omega))⟩ (by omega) (by omega) (by omega) (by omega)
            have c1421 := (t1354.mi e1389 (by decide)).trans c1357
            have c1422 := (t1393.mi e1396 (by decide)).trans c1421
            have c1423 := (t1354.mi e1389 (by decide)).trans c1351
            have c1424 := (t1393.mi e1396 (by decide)).trans c1423
            have c1425 := (t1392.mi e1389 (by decide)).trans c1386
            have c1426 := (t1417.mi e1396 (by decide)).trans c1425
            have c1427 := (t1392.mi e1389 (by decide)).trans c1382
            have c1428 := (t1417.mi e1396 (by decide)).trans c1427
            have S1463 : ∀ s, ReC σ0 p0 s → ReC σ1394 p0 (tryY (rwY (d - 1)) s) := by
              intro s hs
              have y1429 := q28 _ hs
              have y1431 := q52 _ y1429
              have y1433 := y1431.x H48.1 t58 e71 (by decide)
              have y1434 := q93 _ y1433
              have y1436 := y1434.x H86.1 t99 e130 (by decide)
              have f1437 := q146 _ y1436
              have f1438 := q807 _ y1436
              obtain ⟨y1439, f1440⟩ := q825 _ y1436
              rw [h813] at y1439
              rw [h813] at f1440
              rw [tkY_y (f1440.1 (by omega))] at y1439
              have y1441 := q1051 _ y1439
              rw [h1042] at y1441
              have y1443 := q1084 _ y1441
              rw [h1069] at y1443
              rw [h1071] at y1443
              rw [h1073] at y1443
              have y1445 := y1443.x H1079.1 t1090 e1104 (by decide)
              have y1446 := y1445.x H1103.1 t1111 e1116 (by decide)
              have y1447 := q1139 _ y1446
              rw [h1124] at y1447
              have y1449 := q1168 _ y1447
              have y1451 := y1449.x H1161.1 t1174 e1212 (by decide)
              have y1452 := y1451.x H1211.1 t1216 e1219 (by decide)
              obtain ⟨y1453, f1454⟩ := q1245 _ y1452
              rw [h1222] at y1453
              rw [h1222] at f1454
              rw [tkY_y (f1454.1 (by omega))] at y1453
              have y1455 := q1348 _ y1453
              have y1457 := y1455.x H1341.1 t1354 e1389 (by decide)
              have y1458 := y1457.x H1388.1 t1393 e1396 (by decide)
              have g1459 := neY f1437 h154 h153
              have g1460 := f1438.symm.trans (h810.trans h809)
              have g1461 := f1440.1 (by omega)
              have g1462 := f1454.1 (by omega)
              refine y1458.eq ?_
              all_goals try simp only [tryY, tr1Y, tr2Y, tr3Y, g1459, g1460, g1461, g1462, or_false, false_or, or_true, true_or, and_false, false_and, and_true, true_and, not_true, not_false_iff, ↓reduceIte, Int.reduceEq, Int.reduceLE, Int.reduceLT, Int.reduceNeg]
              all_goals first | rfl | (exfalso; omega)
            exact ⟨_, rfl, H1395, X1416, t1418, (R1420.mo (by omega) (by omega) (by omega)), (by omega), (by rw [c1426] <;> omega), (by rw [c1428] <;> omega), S1463⟩
      · refine k_nil ?_
        refine hB _ _ _ _ (kgoC (is := KX7_readTry_55) rfl ?_)
        refine k_aload_n rfl ?_
        refine k_iconst (m := 2) rfl (fun x1464 h1465 => ?_)
        refine k_inv (P := P_X7_raise) (Q := Q_X7_raise) rfl rfl rfl rfl (Nat.le_of_ble_eq_true rfl) (t134.rc (by decide)) ⟨_, _, rfl, H129, t134, (by omega), (by omega), (rd_cd.st H0 h_0_0 X138 R135.1 (by decide)), (R135.2.2.2.1 rd_at), (rd_bg.st H0 h_0_0 X138 R135 (by decide) (by omega) (by omega) (by omega))⟩ (fun w1466 σ1467 q1468 => ?_)
        obtain ⟨rfl, H1469, e1470, R1471, q1472, q1473⟩ := q1468
        have c1474 := (t134.mi e1470 (by decide)).trans c149
        have t1480 := t134.x e1470
        obtain ⟨x1475, e1476, c1477, h1478, h1479⟩ := cg243 H1469.1 t1480
        have z1481 := congrArg Int32.toInt c1474
        have z1482 := congrArg Int32.toInt c1477
        refine k_st (st' := []) rfl ?_
        have h1483 : 1 ≤ x1475.toInt := by have hq := q1472; rw [c1477] at hq; omega
        refine k_nil ?_
        refine hB _ _ _ _ (kgoC (is := KX7_readTry_60) rfl ?_)
        refine k_aload_n rfl ?_
        refine k_bipush (m := 69) rfl (fun x1484 h1485 => ?_)
        have R1486 : RdC p0 none (-12) (12 + 8 * (d : Int)) (-998) σ0 σ1467 := R135.tr ⟨R1471.1, R1471.2⟩ (by omega) (by omega) (by omega) (by omega)
        have X1487 : ExC [0, 1, 2, 60, 61, 62, 63, 64, 65, 66, 67, 68, 69, 70, 72, 73, 74, 75, 76, 242, 243, 244, 246, 270, 271, 272, 273, 275, 276, 277, 278, 279, 280, 330, 331, 332, 333, 334, 999] σ0 σ1467 := X138.tr (e1470.mo (by decide))
        refine k_inv (P := P_X7_takes) (Q := Q_X7_takes) rfl rfl rfl rfl (Nat.le_of_ble_eq_true rfl) (t1480.rc (by decide)) ⟨_, _, rfl, H1469, t1480, (by omega), (by omega), (rd_cd.st H0 h_0_0 X1487 R1486.1 (by decide)), (R1486.2.2.2.1 rd_at), (rd_bg.st H0 h_0_0 X1487 R1486 (by decide) (by omega) (by omega) (by omega))⟩ (fun w1488 σ1489 q1490 => ?_)
        obtain ⟨x1491, rfl, H1492, e1493, h1495, h1496, R1494, q1497, q1498⟩ := q1490
        have t1504 := t1480.x e1493
        obtain ⟨x1499, e1500, c1501, h1502, h1503⟩ := cg242 H1492.1 t1504
        obtain ⟨x1505, e1506, c1507, h1508, h1509⟩ := cg243 H1492.1 t1504
        have z1510 := congrArg Int32.toInt c1501
        have z1511 := congrArg Int32.toInt c1507
        refine k_st (st' := [.inl x1491]) rfl ?_
        rcases (by omega : x1491.toInt = 0 ∨ x1491.toInt = 1) with g1512 | g1512
        · have R1513 : RdC p0 none (-12) (12 + 8 * (d : Int)) (-998) σ0 σ1489 := R1486.tr ⟨R1494.1, R1494.2⟩ (by omega) (by omega) (by omega) (by omega)
          have z1514 := R1513.2.2.1
          have z1515 := R1513.2.2.2.1 rd_at
          refine k_if_eq (fun h1516 => ?_) (fun h1516 => by exfalso; omega)
          refine hB _ _ _ _ (kgoC (is := KX7_readTry_113) rfl ?_)
          refine k_aload_n rfl ?_
          refine k_bipush (m := 70) rfl (fun x1517 h1518 => ?_)
          have X1519 : ExC [0, 1, 2, 60, 61, 62, 63, 64, 65, 66, 67, 68, 69, 70, 72, 73, 74, 75, 76, 242, 243, 244, 246, 270, 271, 272, 273, 275, 276, 277, 278, 279, 280, 330, 331, 332, 333, 334, 999] σ0 σ1489 := X1487.tr (e1493.mo (by decide))
          refine k_inv (P := P_X7_takes) (Q := Q_X7_takes) rfl rfl rfl rfl (Nat.le_of_ble_eq_true rfl) (t1504.rc (by decide)) ⟨_, _, rfl, H1492, t1504, (by omega), (by omega), (rd_cd.st H0 h_0_0 X1519 R1513.1 (by decide)), (R1513.2.2.2.1 rd_at), (rd_bg.st H0 h_0_0 X1519 R1513 (by decide) (by omega) (by omega) (by omega))⟩ (fun w1520 σ1521 q1522 => ?_)
          obtain ⟨x1523, rfl, H1524, e1525, h1527, h1528, R1526, q1529, q1530⟩ := q1522
          have t1536 := t1504.x e1525
          obtain ⟨x1531, e1532, c1533, h1534, h1535⟩ := cg242 H1524.1 t1536
          obtain ⟨x1537, e1538, c1539, h1540, h1541⟩ := cg243 H1524.1 t1536
          have z1542 := congrArg Int32.toInt c1533
          have z1543 := congrArg Int32.toInt c1539
          refine k_st (st' := [.inl x1523]) rfl ?_
          rcases (by omega : x1523.toInt = 0 ∨ x1523.toInt = 1) with g1544 | g1544
          · have R1545 : RdC p0 none (-12) (12 + 8 * (d : Int)) (-998) σ0 σ1521 := R1513.tr ⟨R1526.1, R1526.2⟩ (by omega) (by omega) (by omega) (by omega)
            have z1546 := R1545.2.2.1
            have z1547 := R1545.2.2.2.1 rd_at
            refine k_if_eq (fun h1548 => ?_) (fun h1548 => by exfalso; omega)
            refine hB _ _ _ _ (kgoC (is := KX7_readTry_131) rfl ?_)
            refine k_aload_n rfl ?_
            refine k_aload_n rfl ?_
            have t1553 := t38.x e49
            have t1554 := t1553.x e71
            have t1555 := t1554.x e87
            have t1556 := t1555.x e130
            have t1557 := t1556.x e1470
            have t1558 := t1557.x e1493
            have t1559 := t1558.x e1525
            refine k_putR kp246 H1524 t1536 fk246 (rfo246 (t1559)) (fun σ1549 H1550 e1551 c1552 => ?_)
            refine k_aload_n rfl ?_
            refine k_areturn ?_
            have X1560 : ExC [0, 1, 2, 60, 61, 62, 63, 64, 65, 66, 67, 68, 69, 70, 72, 73, 74, 75, 76, 242, 243, 244, 246, 270, 271, 272, 273, 275, 276, 277, 278, 279, 280, 330, 331, 332, 333, 334, 999] σ0 σ1521 := X1519.tr (e1525.mo (by decide))
            have X1561 : ExC [0, 1, 2, 60, 61, 62, 63, 64, 65, 66, 67, 68, 69, 70, 72, 73, 74, 75, 76, 242, 243, 244, 246, 270, 271, 272, 273, 275, 276, 277, 278, 279, 280, 330, 331, 332, 333, 334, 999] σ0 σ1549 := X1560.tr (e1551.mo (by decide))
            have t1562 := t133.x e130
            have t1563 := t1562.x e1470
            have t1564 := t1563.x e1493
            have t1565 := t1564.x e1525
            have t1566 := t1565.x e1551
            have R1567 : RdC p0 none (-12) (12 + 8 * (d : Int)) (-998) σ0 σ1549 := R1545.tr ⟨(e1551.gw H1524.1 (by decide)), (e1551.cou (u := 0) H1524.1 t1536 (by decide) (by rw [e1551.cn (by decide)]; omega))⟩ (by omega) (by omega) (by omega) (by omega)
            have c1568 := (t1536.mi e1551 (by decide)).trans c1539
            have c1569 := (t1536.mi e1551 (by decide)).trans c1533
            have c1570 := (t133.mi e130 (by decide)).trans c127
            have c1571 := (t1562.mi e1470 (by decide)).trans c1570
            have c1572 := (t1563.mi e1493 (by decide)).trans c1571
            have c1573 := (t1564.mi e1525 (by decide)).trans c1572
            have c1574 := (t1565.mi e1551 (by decide)).trans c1573
            have c1575 := (t133.mi e130 (by decide)).trans c124
            have c1576 := (t1562.mi e1470 (by decide)).trans c1575
            have c1577 := (t1563.mi e1493 (by decide)).trans c1576
            have c1578 := (t1564.mi e1525 (by decide)).trans c1577
            have c1579 := (t1565.mi e1551 (by decide)).trans c1578
            have S1601 : ∀ s, ReC σ0 p0 s → ReC σ1549 p0 (tryY (rwY (d - 1)) s) := by
              intro s hs
              have y1580 := q28 _ hs
              have y1582 := q52 _ y1580
              have y1584 := y1582.x H48.1 t58 e71 (by decide)
              have y1585 := q93 _ y1584
              have y1587 := y1585.x H86.1 t99 e130 (by decide)
              have f1588 := q146 _ y1587
              have f1589 := q807 _ y1587
              have y1590 := q1473 _ y1587
              rw [h1465] at y1590
              obtain ⟨y1592, f1593⟩ := q1498 _ y1590
              rw [h1485] at y1592
              rw [h1485] at f1593
              rw [tkY_n (f1593.2 (by omega))] at y1592
              obtain ⟨y1594, f1595⟩ := q1530 _ y1592
              rw [h1518] at y1594
              rw [h1518] at f1595
              rw [tkY_n (f1595.2 (by omega))] at y1594
              have y1596 := y1594.x H1524.1 t1536 e1551 (by decide)
              have g1597 := neY f1588 h154 h153
              have g1598 := neY f1589 h810 h809
              have g1599 := f1593.2 (by omega)
              have g1600 := f1595.2 (by omega)
              refine y1596.eq ?_
              all_goals try simp only [tryY, tr1Y, tr2Y, tr3Y, g1597, g1598, g1599, g1600, or_false, false_or, or_true, true_or, and_false, false_and, and_true, true_and, not_true, not_false_iff, ↓reduceIte, Int.reduceEq, Int.reduceLE, Int.reduceLT, Int.reduceNeg]
              all_goals first | rfl | (exfalso; omega)
            exact ⟨_, rfl, H1550, X1561, t1566, (R1567.mo (by omega) (by omega) (by omega)), (by omega), (by rw [c1574] <;> omega), (by rw [c1579] <;> omega), S1601⟩
          · have R1602 := R1513.nf (-1000) (-1000) (q1529 (by omega)).1
            have R1603 : RdC p0 none (-20) (-12) (-1000) σ0 σ1521 := R1602.tr ⟨(q1529 (by omega)).2.1, (q1529 (by omega)).2.2⟩ (by omega) (by omega) (by omega) (by omega)
            have z1604 := R1603.2.2.1
            have z1605 := R1603.2.2.2.1 rd_at
            refine k_if_eq (fun h1606 => by exfalso; omega) (fun h1606 => ?_)
            refine k_nil ?_
            refine hB _ _ _ _ (kgoC (is := KX7_readTry_122) rfl ?_)
            refine k_aload_n rfl ?_
            refine k_aload_n rfl ?_
            refine k_iload_n rfl ?_
            have X1607 : ExC [0, 1, 2, 60, 61, 62, 63, 64, 65, 66, 67, 68, 69, 70, 72, 73, 74, 75, 76, 242, 243, 244, 246, 270, 271, 272, 273, 275, 276, 277, 278, 279, 280, 330, 331, 332, 333, 334, 999] σ0 σ1521 := X1519.tr (e1525.mo (by decide))
            refine k_inv (P := (P_X7_readBody d)) (Q := (Q_X7_readBody d)) rfl rfl rfl rfl (Nat.le_of_ble_eq_true rfl) (t1536.rc (by decide)) ⟨_, _, rfl, H1524, t1536, (by omega), (by omega), (rd_cd.st H0 h_0_0 X1607 R1603.1 (by decide)), (R1603.2.2.2.1 rd_at), (rd_bg.st H0 h_0_0 X1607 R1603 (by decide) (by omega) (by omega) (by omega)), (by omega)⟩ (fun w1608 σ1609 q1610 => ?_)
            obtain ⟨a1611, rfl, H1612, e1613, h1615, R1614, q1616, q1617, q1618, q1619⟩ := q1610
            have t1625 := t1536.x e1613
            obtain ⟨x1620, e1621, c1622, h1623, h1624⟩ := cg242 H1612.1 t1625
            obtain ⟨x1626, e1627, c1628, h1629, h1630⟩ := cg243 H1612.1 t1625
            have z1631 := congrArg Int32.toInt c1622
            have z1632 := congrArg Int32.toInt c1628
            refine k_st (st' := [.inr (.inr (some a1611)), .inr (.inr (some a20))]) rfl ?_
            have z1633 := R1603.1.1
            obtain ⟨x1634, e1635, c1636, h1637, h1638⟩ := cg272 H1612.1 h1615
            rw [c1636] at q1617
            obtain ⟨x1639, e1640, c1641, h1642, h1643⟩ := cg270 H1612.1 h1615
            rw [c1641] at q1618
            have R1644 : RdC p0 none (-26) (-2 + 8 * (d : Int)) (-998) σ0 σ1609 := R1603.tr ⟨R1614.1, R1614.2⟩ (by omega) (by omega) (by omega) (by omega)
            have z1645 := R1644.2.2.1
            have z1646 := R1644.2.2.2.1 rd_at
            have c1647 := (t133.mi e130 (by decide)).trans c124
            have t1648 := t133.x e130
            have c1649 := (t1648.mi e1470 (by decide)).trans c1647
            have t1650 := t1648.x e1470
            have c1651 := (t1650.mi e1493 (by decide)).trans c1649
            have t1652 := t1650.x e1493
            have c1653 := (t1652.mi e1525 (by decide)).trans c1651
            have t1654 := t1652.x e1525
            have c1655 := (t1654.fi e1613 (by decide) (by decide)).trans c1653
            have c1656 := (t133.mi e130 (by decide)).trans c127
            have c1657 := (t1648.mi e1470 (by decide)).trans c1656
            have c1658 := (t1650.mi e1493 (by decide)).trans c1657
            have c1659 := (t1652.mi e1525 (by decide)).trans c1658
            have c1660 := (t1654.fi e1613 (by decide) (by decide)).trans c1659
            have z1665 := t1654.1
            have t1666 := t1654.x e1613
            refine k_p278 H1612 t1666 (h1615.ot) (fun z hz => by cases hz; exact ⟨by omega, by unfold LvC; rw [c1655, c1660, c1641, c1636]; omega⟩) (fun σ1661 H1662 e1663 c1664 => ?_)
            refine k_nil ?_
            refine hB _ _ _ _ (kgoC (is := KX7_readTry_131) rfl ?_)
            refine k_aload_n rfl ?_
            refine k_aload_n rfl ?_
            have t1667 := t1625.x e1663
            have t1672 := t38.x e49
            have t1673 := t1672.x e71
            have t1674 := t1673.x e87
            have t1675 := t1674.x e130
            have t1676 := t1675.x e1470
            have t1677 := t1676.x e1493
            have t1678 := t1677.x e1525
            have t1679 := t1678.x e1613
            have t1680 := t1679.x e1663
            refine k_putR kp246 H1662 t1667 fk246 (rfo246 (t1680)) (fun σ1668 H1669 e1670 c1671 => ?_)
            refine k_aload_n rfl ?_
            refine k_areturn ?_
            have X1681 : ExC [0, 1, 2, 60, 61, 62, 63, 64, 65, 66, 67, 68, 69, 70, 72, 73, 74, 75, 76, 242, 243, 244, 246, 270, 271, 272, 273, 275, 276, 277, 278, 279, 280, 330, 331, 332, 333, 334, 999] σ0 σ1609 := X1607.tr (e1613.mo (by decide))
            have X1682 : ExC [0, 1, 2, 60, 61, 62, 63, 64, 65, 66, 67, 68, 69, 70, 72, 73, 74, 75, 76, 242, 243, 244, 246, 270, 271, 272, 273, 275, 276, 277, 278, 279, 280, 330, 331, 332, 333, 334, 999] σ0 σ1661 := X1681.tr (e1663.mo (by decide))
            have X1683 : ExC [0, 1, 2, 60, 61, 62, 63, 64, 65, 66, 67, 68, 69, 70, 72, 73, 74, 75, 76, 242, 243, 244, 246, 270, 271, 272, 273, 275, 276, 277, 278, 279, 280, 330, 331, 332, 333, 334, 999] σ0 σ1668 := X1682.tr (e1670.mo (by decide))
            have t1684 := t1666.x e1663
            have t1685 := t1684.x e1670
            have R1686 : RdC p0 none (-26) (-2 + 8 * (d : Int)) (-998) σ0 σ1661 := R1644.tr ⟨(e1663.gw H1612.1 (by decide)), (e1663.cou (u := 0) H1612.1 t1625 (by decide) (by rw [e1663.cn (by decide)]; omega))⟩ (by omega) (by omega) (by omega) (by omega)
            have R1687 : RdC p0 none (-26) (-2 + 8 * (d : Int)) (-998) σ0 σ1668 := R1686.tr ⟨(e1670.gw H1662.1 (by decide)), (e1670.cou (u := 0) H1662.1 t1667 (by decide) (by rw [e1670.cn (by decide)]; omega))⟩ (by omega) (by omega) (by omega) (by omega)
            have c1688 := (t1625.mi e1663 (by decide)).trans c1628
            have c1689 := (t1667.mi e1670 (by decide)).trans c1688
            have c1690 := (t1625.mi e1663 (by decide)).trans c1622
            have c1691 := (t1667.mi e1670 (by decide)).trans c1690
            have c1692 := (t1666.mi e1663 (by decide)).trans c1660
            have c1693 := (t1684.mi e1670 (by decide)).trans c1692
            have c1694 := (t1666.mi e1663 (by decide)).trans c1655
            have c1695 := (t1684.mi e1670 (by decide)).trans c1694
            have S1720 : ∀ s, ReC σ0 p0 s → ReC σ1668 p0 (tryY (rwY (d - 1)) s) := by
              intro s hs
              have y1696 := q28 _ hs
              have y1698 := q52 _ y1696
              have y1700 := y1698.x H48.1 t58 e71 (by decide)
              have y1701 := q93 _ y1700
              have y1703 := y1701.x H86.1 t99 e130 (by decide)
              have f1704 := q146 _ y1703
              have f1705 := q807 _ y1703
              have y1706 := q1473 _ y1703
              rw [h1465] at y1706
              obtain ⟨y1708, f1709⟩ := q1498 _ y1706
              rw [h1485] at y1708
              rw [h1485] at f1709
              rw [tkY_n (f1709.2 (by omega))] at y1708
              obtain ⟨y1710, f1711⟩ := q1530 _ y1708
              rw [h1518] at y1710
              rw [h1518] at f1711
              rw [tkY_y (f1711.1 (by omega))] at y1710
              have y1712 := q1619 _ y1710
              have y1714 := y1712.x H1612.1 t1625 e1663 (by decide)
              have y1715 := y1714.x H1662.1 t1667 e1670 (by decide)
              have g1716 := neY f1704 h154 h153
              have g1717 := neY f1705 h810 h809
              have g1718 := f1709.2 (by omega)
              have g1719 := f1711.1 (by omega)
              refine y1715.eq ?_
              all_goals try simp only [tryY, tr1Y, tr2Y, tr3Y, g1716, g1717, g1718, g1719, or_false, false_or, or_true, true_or, and_false, false_and, and_true, true_and, not_true, not_false_iff, ↓reduceIte, Int.reduceEq, Int.reduceLE, Int.reduceLT, Int.reduceNeg]
              all_goals first | rfl | (exfalso; omega)
            exact ⟨_, rfl, H1669, X1683, t1685, (R1687.mo (by omega) (by omega) (by omega)), (by omega), (by rw [c1693] <;> omega), (by rw [c1695] <;> omega), S1720⟩
        · have R1721 := R1486.nf (-1000) (-1000) (q1497 (by omega)).1
          have R1722 : RdC p0 none (-20) (-12) (-1000) σ0 σ1489 := R1721.tr ⟨(q1497 (by omega)).2.1, (q1497 (by omega)).2.2⟩ (by omega) (by omega) (by omega) (by omega)
          have z1723 := R1722.2.2.1
          have z1724 := R1722.2.2.2.1 rd_at
          refine k_if_eq (fun h1725 => by exfalso; omega) (fun h1725 => ?_)
          refine k_nil ?_
          refine hB _ _ _ _ (kgoC (is := KX7_readTry_69) rfl ?_)
          refine k_aload_n rfl ?_
          refine k_iconst (m := 0) rfl (fun x1726 h1727 => ?_)
          have X1728 : ExC [0, 1, 2, 60, 61, 62, 63, 64, 65, 66, 67, 68, 69, 70, 72, 73, 74, 75, 76, 242, 243, 244, 246, 270, 271, 272, 273, 275, 276, 277, 278, 279, 280, 330, 331, 332, 333, 334, 999] σ0 σ1489 := X1487.tr (e1493.mo (by decide))
          refine k_inv (P := P_X7_expect) (Q := Q_X7_expect) rfl rfl rfl rfl (Nat.le_of_ble_eq_true rfl) (t1504.rc (by decide)) ⟨_, _, rfl, H1492, t1504, (by omega), (by omega), (rd_cd.st H0 h_0_0 X1728 R1722.1 (by decide)), (R1722.2.2.2.1 rd_at), (rd_bg.st H0 h_0_0 X1728 R1722 (by decide) (by omega) (by omega) (by omega))⟩ (fun w1729 σ1730 q1731 => ?_)
          obtain ⟨rfl, H1732, e1733, R1734, q1735, q1736⟩ := q1731
          have t1742 := t1504.x e1733
          obtain ⟨x1737, e1738, c1739, h1740, h1741⟩ := cg242 H1732.1 t1742
          obtain ⟨x1743, e1744, c1745, h1746, h1747⟩ := cg243 H1732.1 t1742
          have z1748 := congrArg Int32.toInt c1739
          have z1749 := congrArg Int32.toInt c1745
          refine k_st (st' := []) rfl ?_
          have R1750 : RdC p0 none (-28) (-12) (-1000) σ0 σ1730 := R1722.tr ⟨R1734.1, R1734.2⟩ (by omega) (by omega) (by omega) (by omega)
          have z1751 := R1750.2.2.1
          have z1752 := R1750.2.2.2.1 rd_at
          refine k_aload_n rfl ?_
          refine k_aload_n rfl ?_
          refine k_iconst (m := 3) rfl (fun x1753 h1754 => ?_)
          refine k_iconst (m := 0) rfl (fun x1755 h1756 => ?_)
          refine k_iconst (m := 1) rfl (fun x1757 h1758 => ?_)
          have X1759 : ExC [0, 1, 2, 60, 61, 62, 63, 64, 65, 66, 67, 68, 69, 70, 72, 73, 74, 75, 76, 242, 243, 244, 246, 270, 271, 272, 273, 275, 276, 277, 278, 279, 280, 330, 331, 332, 333, 334, 999] σ0 σ1730 := X1728.tr (e1733.mo (by decide))
          refine k_inv (P := P_X7_declare) (Q := Q_X7_declare) rfl rfl rfl rfl (Nat.le_of_ble_eq_true rfl) (t1742.rc (by decide)) ⟨_, _, _, _, rfl, H1732, t1742, (by omega), (by omega), (by omega), (by omega), (rd_cd.st H0 h_0_0 X1759 R1750.1 (by decide)), (R1750.2.2.2.1 rd_at), (rd_bg.st H0 h_0_0 X1759 R1750 (by decide) (by omega) (by omega) (by omega))⟩ (fun w1760 σ1761 q1762 => ?_)
          obtain ⟨x1763, rfl, H1764, e1765, h1767, h1768, R1766, q1769⟩ := q1762
          have t1775 := t1742.x e1765
          obtain ⟨x1770, e1771, c1772, h1773, h1774⟩ := cg242 H1764.1 t1775
          obtain ⟨x1776, e1777, c1778, h1779, h1780⟩ := cg243 H1764.1 t1775
          have z1781 := congrArg Int32.toInt c1772
          have z1782 := congrArg Int32.toInt c1778
          refine k_st (st' := [.inl x1763, .inr (.inr (some a20))]) rfl ?_
          have t1783 := t133.x e130
          have t1784 := t1783.x e1470
          have t1785 := t1784.x e1493
          have t1786 := t1785.x e1733
          have t1787 := t1786.x e1765
          have c1792 := (t133.mi e130 (by decide)).trans c124
          have c1793 := (t1783.mi e1470 (by decide)).trans c1792
          have c1794 := (t1784.mi e1493 (by decide)).trans c1793
          have c1795 := (t1785.mi e1733 (by decide)).trans c1794
          have c1796 := (t1786.mi e1765 (by decide)).trans c1795
          refine k_p280 H1764 t1787 (by omega) (by omega) (by rw [c1796]; omega) (fun σ1788 H1789 e1790 c1791 => ?_)
          refine k_aload_n rfl ?_
          refine k_aload_n rfl ?_
          have t1797 := t1787.x e1790
          refine k_get kg280 t1797 (congrArg (Sum.inl : Int32 → AvC) c1791) ?_
          have t1798 := t1775.x e1790
          refine k_inv (P := P_X7_know) (Q := Q_X7_know) rfl rfl rfl rfl (Nat.le_of_ble_eq_true rfl) (t1798.rc (by decide)) ⟨_, _, rfl, H1789, t1798⟩ (fun w1799 σ1800 q1801 => ?_)
          obtain ⟨rfl, H1802, e1803⟩ := q1801
          have c1804 := (t1775.mi e1790 (by decide)).trans c1772
          have c1805 := (t1798.mi e1803 (by decide)).trans c1804
          have c1806 := (t1775.mi e1790 (by decide)).trans c1778
          have c1807 := (t1798.mi e1803 (by decide)).trans c1806
          have z1808 := congrArg Int32.toInt c1805
          have z1809 := congrArg Int32.toInt c1807
          refine k_st (st' := []) rfl ?_
          refine k_aload_n rfl ?_
          refine k_iconst (m := 1) rfl (fun x1810 h1811 => ?_)
          have t1812 := t1798.x e1803
          have R1813 : RdC p0 none (-34) (-12) (-1000) σ0 σ1761 := R1750.tr ⟨R1766.1, R1766.2⟩ (by omega) (by omega) (by omega) (by omega)
          have R1814 : RdC p0 none (-34) (-12) (-1000) σ0 σ1788 := R1813.tr ⟨(e1790.gw H1764.1 (by decide)), (e1790.cou (u := 0) H1764.1 t1775 (by decide) (by rw [e1790.cn (by decide)]; omega))⟩ (by omega) (by omega) (by omega) (by omega)
          have R1815 : RdC p0 none (-34) (-12) (-1000) σ0 σ1800 := R1814.tr ⟨(e1803.gw H1789.1 (by decide)), (e1803.cou (u := 0) H1789.1 t1798 (by decide) (by rw [e1803.cn (by decide)]; omega))⟩ (by omega) (by omega) (by omega) (by omega)
          have X1816 : ExC [0, 1, 2, 60, 61, 62, 63, 64, 65, 66, 67, 68, 69, 70, 72, 73, 74, 75, 76, 242, 243, 244, 246, 270, 271, 272, 273, 275, 276, 277, 278, 279, 280, 330, 331, 332, 333, 334, 999] σ0 σ1761 := X1759.tr (e1765.mo (by decide))
          have X1817 : ExC [0, 1, 2, 60, 61, 62, 63, 64, 65, 66, 67, 68, 69, 70, 72, 73, 74, 75, 76, 242, 243, 244, 246, 270, 271, 272, 273, 275, 276, 277, 278, 279, 280, 330, 331, 332, 333, 334, 999] σ0 σ1788 := X1816.tr (e1790.mo (by decide))
          have X1818 : ExC [0, 1, 2, 60, 61, 62, 63, 64, 65, 66, 67, 68, 69, 70, 72, 73, 74, 75, 76, 242, 243, 244, 246, 270, 271, 272, 273, 275, 276, 277, 278, 279, 280, 330, 331, 332, 333, 334, 999] σ0 σ1800 := X1817.tr (e1803.mo (by decide))
          refine k_inv (P := P_X7_expect) (Q := Q_X7_expect) rfl rfl rfl rfl (Nat.le_of_ble_eq_true rfl) (t1812.rc (by decide)) ⟨_, _, rfl, H1802, t1812, (by omega), (by omega), (rd_cd.st H0 h_0_0 X1818 R1815.1 (by decide)), (R1815.2.2.2.1 rd_at), (rd_bg.st H0 h_0_0 X1818 R1815 (by decide) (by omega) (by omega) (by omega))⟩ (fun w1819 σ1820 q1821 => ?_)
          obtain ⟨rfl, H1822, e1823, R1824, q1825, q1826⟩ := q1821
          have t1832 := t1812.x e1823
          obtain ⟨x1827, e1828, c1829, h1830, h1831⟩ := cg242 H1822.1 t1832
          obtain ⟨x1833, e1834, c1835, h1836, h1837⟩ := cg243 H1822.1 t1832
          have z1838 := congrArg Int32.toInt c1829
          have z1839 := congrArg Int32.toInt c1835
          refine k_st (st' := []) rfl ?_
          have R1840 : RdC p0 none (-42) (-12) (-1000) σ0 σ1820 := R1815.tr ⟨R1824.1, R1824.2⟩ (by omega) (by omega) (by omega) (by omega)
          have z1841 := R1840.2.2.1
          have z1842 := R1840.2.2.2.1 rd_at
          refine k_aload_n rfl ?_
          refine k_aload_n rfl ?_
          refine k_iload_n rfl ?_
          have X1843 : ExC [0, 1, 2, 60, 61, 62, 63, 64, 65, 66, 67, 68, 69, 70, 72, 73, 74, 75, 76, 242, 243, 244, 246, 270, 271, 272, 273, 275, 276, 277, 278, 279, 280, 330, 331, 332, 333, 334, 999] σ0 σ1820 := X1818.tr (e1823.mo (by decide))
          refine k_inv (P := (P_X7_readBody d)) (Q := (Q_X7_readBody d)) rfl rfl rfl rfl (Nat.le_of_ble_eq_true rfl) (t1832.rc (by decide)) ⟨_, _, rfl, H1822, t1832, (by omega), (by omega), (rd_cd.st H0 h_0_0 X1843 R1840.1 (by decide)), (R1840.2.2.2.1 rd_at), (rd_bg.st H0 h_0_0 X1843 R1840 (by decide) (by omega) (by omega) (by omega)), (by omega)⟩ (fun w1844 σ1845 q1846 => ?_)
          obtain ⟨a1847, rfl, H1848, e1849, h1851, R1850, q1852, q1853, q1854, q1855⟩ := q1846
          have t1861 := t1832.x e1849
          obtain ⟨x1856, e1857, c1858, h1859, h1860⟩ := cg242 H1848.1 t1861
          obtain ⟨x1862, e1863, c1864, h1865, h1866⟩ := cg243 H1848.1 t1861
          have z1867 := congrArg Int32.toInt c1858
          have z1868 := congrArg Int32.toInt c1864
          refine k_st (st' := [.inr (.inr (some a1847)), .inr (.inr (some a20))]) rfl ?_
          have z1869 := R1840.1.1
          obtain ⟨x1870, e1871, c1872, h1873, h1874⟩ := cg272 H1848.1 h1851
          rw [c1872] at q1853
          obtain ⟨x1875, e1876, c1877, h1878, h1879⟩ := cg270 H1848.1 h1851
          rw [c1877] at q1854
          have R1880 : RdC p0 none (-48) (-10 + 8 * (d : Int)) (-998) σ0 σ1845 := R1840.tr ⟨R1850.1, R1850.2⟩ (by omega) (by omega) (by omega) (by omega)
          have z1881 := R1880.2.2.1
          have z1882 := R1880.2.2.2.1 rd_at
          have c1883 := (t1787.mi e1790 (by decide)).trans c1796
          have c1884 := (t1797.mi e1803 (by decide)).trans c1883
          have t1885 := t1797.x e1803
          have c1886 := (t1885.mi e1823 (by decide)).trans c1884
          have t1887 := t1885.x e1823
          have c1888 := (t1887.fi e1849 (by decide) (by decide)).trans c1886
          have c1889 := (t133.mi e130 (by decide)).trans c127
          have c1890 := (t1783.mi e1470 (by decide)).trans c1889
          have c1891 := (t1784.mi e1493 (by decide)).trans c1890
          have c1892 := (t1785.mi e1733 (by decide)).trans c1891
          have c1893 := (t1786.mi e1765 (by decide)).trans c1892
          have c1894 := (t1787.mi e1790 (by decide)).trans c1893
          have c1895 := (t1797.mi e1803 (by decide)).trans c1894
          have c1896 := (t1885.mi e1823 (by decide)).trans c1895
          have c1897 := (t1887.fi e1849 (by decide) (by decide)).trans c1896
          have z1902 := t1887.1
          have t1903 := t1887.x e1849
          refine k_p277 H1848 t1903 (h1851.ot) (fun z hz => by cases hz; exact ⟨by omega, by unfold LvC; rw [c1888, c1897, c1877, c1872]; omega⟩) (fun σ1898 H1899 e1900 c1901 => ?_)
          refine k_aload_n rfl ?_
          refine k_lload rfl ?_
          have t1904 := t1861.x e1900
          refine k_putL kg245 H1899 t1904 fk245 (fun σ1905 H1906 e1907 c1908 => ?_)
          refine k_nil ?_
          refine hB _ _ _ _ (kgoC (is := KX7_readTry_113) rfl ?_)
          refine k_aload_n rfl ?_
          refine k_bipush (m := 70) rfl (fun x1909 h1910 => ?_)
          have t1911 := t1904.x e1907
          have R1912 : RdC p0 none (-48) (-10 + 8 * (d : Int)) (-998) σ0 σ1898 := R1880.tr ⟨(e1900.gw H1848.1 (by decide)), (e1900.cou (u := 0) H1848.1 t1861 (by decide) (by rw [e1900.cn (by decide)]; omega))⟩ (by omega) (by omega) (by omega) (by omega)
          have R1913 : RdC p0 none (-48) (-10 + 8 * (d : Int)) (-998) σ0 σ1905 := R1912.tr ⟨(e1907.gw H1899.1 (by decide)), (e1907.cou (u := 0) H1899.1 t1904 (by decide) (by rw [e1907.cn (by decide)]; omega))⟩ (by omega) (by omega) (by omega) (by omega)
          have c1914 := (t1861.mi e1900 (by decide)).trans c1864
          have c1915 := (t1904.mi e1907 (by decide)).trans c1914
          have X1916 : ExC [0, 1, 2, 60, 61, 62, 63, 64, 65, 66, 67, 68, 69, 70, 72, 73, 74, 75, 76, 242, 243, 244, 246, 270, 271, 272, 273, 275, 276, 277, 278, 279, 280, 330, 331, 332, 333, 334, 999] σ0 σ1845 := X1843.tr (e1849.mo (by decide))
          have X1917 : ExC [0, 1, 2, 60, 61, 62, 63, 64, 65, 66, 67, 68, 69, 70, 72, 73, 74, 75, 76, 242, 243, 244, 246, 270, 271, 272, 273, 275, 276, 277, 278, 279, 280, 330, 331, 332, 333, 334, 999] σ0 σ1898 := X1916.tr (e1900.mo (by decide))
          have X1918 : ExC [0, 1, 2, 60, 61, 62, 63, 64, 65, 66, 67, 68, 69, 70, 72, 73, 74, 75, 76, 242, 243, 244, 246, 270, 271, 272, 273, 275, 276, 277, 278, 279, 280, 330, 331, 332, 333, 334, 999] σ0 σ1905 := X1917.tr (e1907.mo (by decide))
          have c1919 := (t1861.mi e1900 (by decide)).trans c1858
          have c1920 := (t1904.mi e1907 (by decide)).trans c1919
          have z1921 := congrArg Int32.toInt c1920
          have z1922 := congrArg Int32.toInt c1915
          refine k_inv (P := P_X7_takes) (Q := Q_X7_takes) rfl rfl rfl rfl (Nat.le_of_ble_eq_true rfl) (t1911.rc (by decide)) ⟨_, _, rfl, H1906, t1911, (by omega), (by omega), (rd_cd.st H0 h_0_0 X1918 R1913.1 (by decide)), (R1913.2.2.2.1 rd_at), (rd_bg.st H0 h_0_0 X1918 R1913 (by decide) (by omega) (by omega) (by omega))⟩ (fun w1923 σ1924 q1925 => ?_)
          obtain ⟨x1926, rfl, H1927, e1928, h1930, h1931, R1929, q1932, q1933⟩ := q1925
          have t1939 := t1911.x e1928
          obtain ⟨x1934, e1935, c1936, h1937, h1938⟩ := cg242 H1927.1 t1939
          obtain ⟨x1940, e1941, c1942, h1943, h1944⟩ := cg243 H1927.1 t1939
          have z1945 := congrArg Int32.toInt c1936
          have z1946 := congrArg Int32.toInt c1942
          refine k_st (st' := [.inl x1926]) rfl ?_
          rcases (by omega : x1926.toInt = 0 ∨ x1926.toInt = 1) with g1947 | g1947
          · have R1948 : RdC p0 none (-48) (-10 + 8 * (d : Int)) (-998) σ0 σ1924 := R1913.tr ⟨R1929.1, R1929.2⟩ (by omega) (by omega) (by omega) (by omega)
            have z1949 := R1948.2.2.1
            have z1950 := R1948.2.2.2.1 rd_at
            refine k_if_eq (fun h1951 => ?_) (fun h1951 => by exfalso; omega)
            refine hB _ _ _ _ (kgoC (is := KX7_readTry_131) rfl ?_)
            refine k_aload_n rfl ?_
            refine k_aload_n rfl ?_
            have t1956 := t38.x e49
            have t1957 := t1956.x e71
            have t1958 := t1957.x e87
            have t1959 := t1958.x e130
            have t1960 := t1959.x e1470
            have t1961 := t1960.x e1493
            have t1962 := t1961.x e1733
            have t1963 := t1962.x e1765
            have t1964 := t1963.x e1790
            have t1965 := t1964.x e1803
            have t1966 := t1965.x e1823
            have t1967 := t1966.x e1849
            have t1968 := t1967.x e1900
            have t1969 := t1968.x e1907
            have t1970 := t1969.x e1928
            refine k_putR kp246 H1927 t1939 fk246 (rfo246 (t1970)) (fun σ1952 H1953 e1954 c1955 => ?_)
            refine k_aload_n rfl ?_
            refine k_areturn ?_
            have X1971 : ExC [0, 1, 2, 60, 61, 62, 63, 64, 65, 66, 67, 68, 69, 70, 72, 73, 74, 75, 76, 242, 243, 244, 246, 270, 271, 272, 273, 275, 276, 277, 278, 279, 280, 330, 331, 332, 333, 334, 999] σ0 σ1924 := X1918.tr (e1928.mo (by decide))
            have X1972 : ExC [0, 1, 2, 60, 61, 62, 63, 64, 65, 66, 67, 68, 69, 70, 72, 73, 74, 75, 76, 242, 243, 244, 246, 270, 271, 272, 273, 275, 276, 277, 278, 279, 280, 330, 331, 332, 333, 334, 999] σ0 σ1952 := X1971.tr (e1954.mo (by decide))
            have t1973 := t1903.x e1900
            have t1974 := t1973.x e1907
            have t1975 := t1974.x e1928
            have t1976 := t1975.x e1954
            have R1977 : RdC p0 none (-48) (-10 + 8 * (d : Int)) (-998) σ0 σ1952 := R1948.tr ⟨(e1954.gw H1927.1 (by decide)), (e1954.cou (u := 0) H1927.1 t1939 (by decide) (by rw [e1954.cn (by decide)]; omega))⟩ (by omega) (by omega) (by omega) (by omega)
            have c1978 := (t1939.mi e1954 (by decide)).trans c1942
            have c1979 := (t1939.mi e1954 (by decide)).trans c1936
            have c1980 := (t1903.mi e1900 (by decide)).trans c1897
            have c1981 := (t1973.mi e1907 (by decide)).trans c1980
            have c1982 := (t1974.mi e1928 (by decide)).trans c1981
            have c1983 := (t1975.mi e1954 (by decide)).trans c1982
            have c1984 := (t1903.mi e1900 (by decide)).trans c1888
            have c1985 := (t1973.mi e1907 (by decide)).trans c1984
            have c1986 := (t1974.mi e1928 (by decide)).trans c1985
            have c1987 := (t1975.mi e1954 (by decide)).trans c1986
            have S2021 : ∀ s, ReC σ0 p0 s → ReC σ1952 p0 (tryY (rwY (d - 1)) s) := by
              intro s hs
              have y1988 := q28 _ hs
              have y1990 := q52 _ y1988
              have y1992 := y1990.x H48.1 t58 e71 (by decide)
              have y1993 := q93 _ y1992
              have y1995 := y1993.x H86.1 t99 e130 (by decide)
              have f1996 := q146 _ y1995
              have f1997 := q807 _ y1995
              have y1998 := q1473 _ y1995
              rw [h1465] at y1998
              obtain ⟨y2000, f2001⟩ := q1498 _ y1998
              rw [h1485] at y2000
              rw [h1485] at f2001
              rw [tkY_y (f2001.1 (by omega))] at y2000
              have y2002 := q1736 _ y2000
              rw [h1727] at y2002
              have y2004 := q1769 _ y2002
              rw [h1754] at y2004
              rw [h1756] at y2004
              rw [h1758] at y2004
              have y2006 := y2004.x H1764.1 t1775 e1790 (by decide)
              have y2007 := y2006.x H1789.1 t1798 e1803 (by decide)
              have y2008 := q1826 _ y2007
              rw [h1811] at y2008
              have y2010 := q1855 _ y2008
              have y2012 := y2010.x H1848.1 t1861 e1900 (by decide)
              have y2013 := y2012.x H1899.1 t1904 e1907 (by decide)
              obtain ⟨y2014, f2015⟩ := q1933 _ y2013
              rw [h1910] at y2014
              rw [h1910] at f2015
              rw [tkY_n (f2015.2 (by omega))] at y2014
              have y2016 := y2014.x H1927.1 t1939 e1954 (by decide)
              have g2017 := neY f1996 h154 h153
              have g2018 := neY f1997 h810 h809
              have g2019 := f2001.1 (by omega)
              have g2020 := f2015.2 (by omega)
              refine y2016.eq ?_
              all_goals try simp only [tryY, tr1Y, tr2Y, tr3Y, g2017, g2018, g2019, g2020, or_false, false_or, or_true, true_or, and_false, false_and, and_true, true_and, not_true, not_false_iff, ↓reduceIte, Int.reduceEq, Int.reduceLE, Int.reduceLT, Int.reduceNeg]
              all_goals first | rfl | (exfalso; omega)
            exact ⟨_, rfl, H1953, X1972, t1976, (R1977.mo (by omega) (by omega) (by omega)), (by omega), (by rw [c1983] <;> omega), (by rw [c1987] <;> omega), S2021⟩
          · have R2022 := R1913.nf (-1000) (-1000) (q1932 (by omega)).1
            have R2023 : RdC p0 none (-56) (-48) (-1000) σ0 σ1924 := R2022.tr ⟨(q1932 (by omega)).2.1, (q1932 (by omega)).2.2⟩ (by omega) (by omega) (by omega) (by omega)
            have z2024 := R2023.2.2.1
            have z2025 := R2023.2.2.2.1 rd_at
            refine k_if_eq (fun h2026 => by exfalso; omega) (fun h2026 => ?_)
            refine k_nil ?_
            refine hB _ _ _ _ (kgoC (is := KX7_readTry_122) rfl ?_)
            refine k_aload_n rfl ?_
            refine k_aload_n rfl ?_
            refine k_iload_n rfl ?_
            have X2027 : ExC [0, 1, 2, 60, 61, 62, 63, 64, 65, 66, 67, 68, 69, 70, 72, 73, 74, 75, 76, 242, 243, 244, 246, 270, 271, 272, 273, 275, 276, 277, 278, 279, 280, 330, 331, 332, 333, 334, 999] σ0 σ1924 := X1918.tr (e1928.mo (by decide))
            refine k_inv (P := (P_X7_readBody d)) (Q := (Q_X7_readBody d)) rfl rfl rfl rfl (Nat.le_of_ble_eq_true rfl) (t1939.rc (by decide)) ⟨_, _, rfl, H1927, t1939, (by omega), (by omega), (rd_cd.st H0 h_0_0 X2027 R2023.1 (by decide)), (R2023.2.2.2.1 rd_at), (rd_bg.st H0 h_0_0 X2027 R2023 (by decide) (by omega) (by omega) (by omega)), (by omega)⟩ (fun w2028 σ2029 q2030 => ?_)
            obtain ⟨a2031, rfl, H2032, e2033, h2035, R2034, q2036, q2037, q2038, q2039⟩ := q2030
            have t2045 := t1939.x e2033
            obtain ⟨x2040, e2041, c2042, h2043, h2044⟩ := cg242 H2032.1 t2045
            obtain ⟨x2046, e2047, c2048, h2049, h2050⟩ := cg243 H2032.1 t2045
            have z2051 := congrArg Int32.toInt c2042
            have z2052 := congrArg Int32.toInt c2048
            refine k_st (st' := [.inr (.inr (some a2031)), .inr (.inr (some a20))]) rfl ?_
            have z2053 := R2023.1.1
            obtain ⟨x2054, e2055, c2056, h2057, h2058⟩ := cg272 H2032.1 h2035
            rw [c2056] at q2037
            obtain ⟨x2059, e2060, c2061, h2062, h2063⟩ := cg270 H2032.1 h2035
            rw [c2061] at q2038
            have R2064 : RdC p0 none (-62) (-38 + 8 * (d : Int)) (-998) σ0 σ2029 := R2023.tr ⟨R2034.1, R2034.2⟩ (by omega) (by omega) (by omega) (by omega)
            have z2065 := R2064.2.2.1
            have z2066 := R2064.2.2.2.1 rd_at
            have c2067 := (t1903.mi e1900 (by decide)).trans c1888
            have t2068 := t1903.x e1900
            have c2069 := (t2068.mi e1907 (by decide)).trans c2067
            have t2070 := t2068.x e1907
            have c2071 := (t2070.mi e1928 (by decide)).trans c2069
            have t2072 := t2070.x e1928
            have c2073 := (t2072.fi e2033 (by decide) (by decide)).trans c2071
            have c2074 := (t1903.mi e1900 (by decide)).trans c1897
            have c2075 := (t2068.mi e1907 (by decide)).trans c2074
            have c2076 := (t2070.mi e1928 (by decide)).trans c2075
            have c2077 := (t2072.fi e2033 (by decide) (by decide)).trans c2076
            have z2082 := t2072.1
            have t2083 := t2072.x e2033
            refine k_p278 H2032 t2083 (h2035.ot) (fun z hz => by cases hz; exact ⟨by omega, by unfold LvC; rw [c2073, c2077, c2061, c2056]; omega⟩) (fun σ2078 H2079 e2080 c2081 => ?_)
            refine k_nil ?_
            refine hB _ _ _ _ (kgoC (is := KX7_readTry_131) rfl ?_)
            refine k_aload_n rfl ?_
            refine k_aload_n rfl ?_
            have t2084 := t2045.x e2080
            have t2089 := t38.x e49
            have t2090 := t2089.x e71
            have t2091 := t2090.x e87
            have t2092 := t2091.x e130
            have t2093 := t2092.x e1470
            have t2094 := t2093.x e1493
            have t2095 := t2094.x e1733
            have t2096 := t2095.x e1765
            have t2097 := t2096.x e1790
            have t2098 := t2097.x e1803
            have t2099 := t2098.x e1823
            have t2100 := t2099.x e1849
            have t2101 := t2100.x e1900
            have t2102 := t2101.x e1907
            have t2103 := t2102.x e1928
            have t2104 := t2103.x e2033
            have t2105 := t2104.x e2080
            refine k_putR kp246 H2079 t2084 fk246 (rfo246 (t2105)) (fun σ2085 H2086 e2087 c2088 => ?_)
            refine k_aload_n rfl ?_
            refine k_areturn ?_
            have X2106 : ExC [0, 1, 2, 60, 61, 62, 63, 64, 65, 66, 67, 68, 69, 70, 72, 73, 74, 75, 76, 242, 243, 244, 246, 270, 271, 272, 273, 275, 276, 277, 278, 279, 280, 330, 331, 332, 333, 334, 999] σ0 σ2029 := X2027.tr (e2033.mo (by decide))
            have X2107 : ExC [0, 1, 2, 60, 61, 62, 63, 64, 65, 66, 67, 68, 69, 70, 72, 73, 74, 75, 76, 242, 243, 244, 246, 270, 271, 272, 273, 275, 276, 277, 278, 279, 280, 330, 331, 332, 333, 334, 999] σ0 σ2078 := X2106.tr (e2080.mo (by decide))
            have X2108 : ExC [0, 1, 2, 60, 61, 62, 63, 64, 65, 66, 67, 68, 69, 70, 72, 73, 74, 75, 76, 242, 243, 244, 246, 270, 271, 272, 273, 275, 276, 277, 278, 279, 280, 330, 331, 332, 333, 334, 999] σ0 σ2085 := X2107.tr (e2087.mo (by decide))
            have t2109 := t2083.x e2080
            have t2110 := t2109.x e2087
            have R2111 : RdC p0 none (-62) (-38 + 8 * (d : Int)) (-998) σ0 σ2078 := R2064.tr ⟨(e2080.gw H2032.1 (by decide)), (e2080.cou (u := 0) H2032.1 t2045 (by decide) (by rw [e2080.cn (by decide)]; omega))⟩ (by omega) (by omega) (by omega) (by omega)
            have R2112 : RdC p0 none (-62) (-38 + 8 * (d : Int)) (-998) σ0 σ2085 := R2111.tr ⟨(e2087.gw H2079.1 (by decide)), (e2087.cou (u := 0) H2079.1 t2084 (by decide) (by rw [e2087.cn (by decide)]; omega))⟩ (by omega) (by omega) (by omega) (by omega)
            have c2113 := (t2045.mi e2080 (by decide)).trans c2048
            have c2114 := (t2084.mi e2087 (by decide)).trans c2113
            have c2115 := (t2045.mi e2080 (by decide)).trans c2042
            have c2116 := (t2084.mi e2087 (by decide)).trans c2115
            have c2117 := (t2083.mi e2080 (by decide)).trans c2077
            have c2118 := (t2109.mi e2087 (by decide)).trans c2117
            have c2119 := (t2083.mi e2080 (by decide)).trans c2073
            have c2120 := (t2109.mi e2087 (by decide)).trans c2119
            have S2157 : ∀ s, ReC σ0 p0 s → ReC σ2085 p0 (tryY (rwY (d - 1)) s) := by
              intro s hs
              have y2121 := q28 _ hs
              have y2123 := q52 _ y2121
              have y2125 := y2123.x H48.1 t58 e71 (by decide)
              have y2126 := q93 _ y2125
              have y2128 := y2126.x H86.1 t99 e130 (by decide)
              have f2129 := q146 _ y2128
              have f2130 := q807 _ y2128
              have y2131 := q1473 _ y2128
              rw [h1465] at y2131
              obtain ⟨y2133, f2134⟩ := q1498 _ y2131
              rw [h1485] at y2133
              rw [h1485] at f2134
              rw [tkY_y (f2134.1 (by omega))] at y2133
              have y2135 := q1736 _ y2133
              rw [h1727] at y2135
              have y2137 := q1769 _ y2135
              rw [h1754] at y2137
              rw [h1756] at y2137
              rw [h1758] at y2137
              have y2139 := y2137.x H1764.1 t1775 e1790 (by decide)
              have y2140 := y2139.x H1789.1 t1798 e1803 (by decide)
              have y2141 := q1826 _ y2140
              rw [h1811] at y2141
              have y2143 := q1855 _ y2141
              have y2145 := y2143.x H1848.1 t1861 e1900 (by decide)
              have y2146 := y2145.x H1899.1 t1904 e1907 (by decide)
              obtain ⟨y2147, f2148⟩ := q1933 _ y2146
              rw [h1910] at y2147
              rw [h1910] at f2148
              rw [tkY_y (f2148.1 (by omega))] at y2147
              have y2149 := q2039 _ y2147
              have y2151 := y2149.x H2032.1 t2045 e2080 (by decide)
              have y2152 := y2151.x H2079.1 t2084 e2087 (by decide)
              have g2153 := neY f2129 h154 h153
              have g2154 := neY f2130 h810 h809
              have g2155 := f2134.1 (by omega)
              have g2156 := f2148.1 (by omega)
              refine y2152.eq ?_
              all_goals try simp only [tryY, tr1Y, tr2Y, tr3Y, g2153, g2154, g2155, g2156, or_false, false_or, or_true, true_or, and_false, false_and, and_true, true_and, not_true, not_false_iff, ↓reduceIte, Int.reduceEq, Int.reduceLE, Int.reduceLT, Int.reduceNeg]
              all_goals first | rfl | (exfalso; omega)
            exact ⟨_, rfl, H2086, X2108, t2110, (R2112.mo (by omega) (by omega) (by omega)), (by omega), (by rw [c2118] <;> omega), (by rw [c2120] <;> omega), S2157⟩
theorem lg_X7_readTry (d : Nat) : ∀ (As : List AvC) (σ : CsC), (P_X7_readTry d) As σ → lgC As ≤ rX7_readTry.2.2.1 := by
  rintro As σ ⟨p0, p1, rfl, -⟩
  exact Nat.le_of_ble_eq_true rfl
theorem s_X7_readTry (l : Launch) (d : Nat) (h_X7_readBody : CMetC l (13 * d + 38) 143 (P_X7_readBody d) (Q_X7_readBody d)) : CMetC l (13 * d + 39) 160 (P_X7_readTry d) (Q_X7_readTry d) :=
  CMetC.of KX7_readTry [(142, P_X7_begin, Q_X7_begin), (128, P_X7_accept, Q_X7_accept), (143, (P_X7_readBody d), (Q_X7_readBody d)), (125, P_X7_code, Q_X7_code), (130, P_X7_takes, Q_X7_takes), (129, P_X7_expect, Q_X7_expect), (137, P_X7_declare, Q_X7_declare), (138, P_X7_know, Q_X7_know), (127, P_X7_raise, Q_X7_raise)] hX7_readTry (by decide) (by omega) okX7_readTry (cc1C (m_X7_begin l) (by omega) (cc1C (m_X7_accept l) (by omega) (cc1C h_X7_readBody (by omega) (cc1C (m_X7_code l) (by omega) (cc1C (m_X7_takes l) (by omega) (cc1C (m_X7_expect l) (by omega) (cc1C (m_X7_declare l) (by omega) (cc1C (m_X7_know l) (by omega) (cc1C (m_X7_raise l) (by omega) cc0C))))))))) (lg_X7_readTry d) (b_X7_readTry d)
