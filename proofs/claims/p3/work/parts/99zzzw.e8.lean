set_option maxRecDepth 100000 in
set_option maxHeartbeats 4000000 in
theorem s_X7_readTry (l : Launch) (d : Nat) (h_X7_readBody : CMetC l (13 * d + 38) 143 (P_X7_readBody d) (Q_X7_readBody d)) : CMetC l (13 * d + 39) 160 (P_X7_readTry d) (Q_X7_readTry d) := by
  refine CMetC.of KX7_readTry [(142, P_X7_begin, Q_X7_begin), (128, P_X7_accept, Q_X7_accept), (143, (P_X7_readBody d), (Q_X7_readBody d)), (125, P_X7_code, Q_X7_code), (130, P_X7_takes, Q_X7_takes), (129, P_X7_expect, Q_X7_expect), (137, P_X7_declare, Q_X7_declare), (138, P_X7_know, Q_X7_know), (127, P_X7_raise, Q_X7_raise)] hX7_readTry (by decide) (by omega) okX7_readTry (cc1C (m_X7_begin l) (by omega) (cc1C (m_X7_accept l) (by omega) (cc1C h_X7_readBody (by omega) (cc1C (m_X7_code l) (by omega) (cc1C (m_X7_takes l) (by omega) (cc1C (m_X7_expect l) (by omega) (cc1C (m_X7_declare l) (by omega) (cc1C (m_X7_know l) (by omega) (cc1C (m_X7_raise l) (by omega) cc0C))))))))) ?_ ?_
  · rintro As σ ⟨p0, p1, rfl, -⟩
    exact Nat.le_of_ble_eq_true rfl
  · rintro As σ0 ⟨p0, p1, rfl, H0, h_0_0, h_1_0, h_1_1, rd_cd, rd_at, rd_bl, rd_lv, rd_tk, rd_dp⟩ hgr G hB hW
    change G 0 [(0, .inr (.inr (some p0))), (1, .inl p1)] [] σ0
    obtain ⟨x1, e2, c3, h4, h5⟩ := cg242 H0.1 h_0_0
    obtain ⟨x6, e7, c8, h9, h10⟩ := cg243 H0.1 h_0_0
    have z11 := congrArg Int32.toInt c3
    have z12 := congrArg Int32.toInt c8
    have h13 : x6.toInt = 0 := by rw [← c8]; exact rd_lv
    have rd_bg : BgC σ0 p0 (24 + 8 * (d : Int)) 1000000 := ⟨fun _ => rd_bl, fun z => absurd rd_lv z⟩
    refine hB _ _ _ _ (kgoC (is := KX7_readTry_0) rfl ?_)
    refine k_aload_n rfl ?_
    refine k_bipush (m := 68) rfl (fun x14 h15 => ?_)
    refine k_iload_n rfl ?_
    have R16 := (RdC.rf : RdC p0 none 0 0 0 σ0 σ0).nf (-1000) (-1000) (by rw [c8]; omega)
    refine k_inv (P := P_X7_begin) (Q := Q_X7_begin) rfl rfl rfl rfl (Nat.le_of_ble_eq_true rfl) (h_0_0.rc (by decide)) ⟨_, _, _, rfl, H0, h_0_0, (by omega), (by omega), (rd_cd.st H0 h_0_0 (ExC.rf : ExC [0, 1, 2, 60, 61, 62, 63, 64, 65, 66, 67, 68, 69, 70, 72, 73, 74, 75, 76, 242, 243, 244, 246, 270, 271, 272, 273, 275, 276, 277, 278, 279, 280, 330, 331, 332, 333, 334, 999] σ0 σ0) R16.1 (by decide)), (R16.2.2.2.1 rd_at), (rd_bg.stn H0 h_0_0 (ExC.rf : ExC [0, 1, 2, 60, 61, 62, 63, 64, 65, 66, 67, 68, 69, 70, 72, 73, 74, 75, 76, 242, 243, 244, 246, 270, 271, 272, 273, 275, 276, 277, 278, 279, 280, 330, 331, 332, 333, 334, 999] σ0 σ0) R16 (by decide) (by rw [c8]; omega) (by omega)), (by omega)⟩ (fun w17 σ18 q19 => ?_)
    obtain ⟨a20, rfl, H21, e22, h24, R23, q25, q26, q27⟩ := q19
    have c28 := (h_0_0.mi e22 (by decide)).trans c3
    have c29 := (h_0_0.mi e22 (by decide)).trans c8
    have z30 := congrArg Int32.toInt c28
    have z31 := congrArg Int32.toInt c29
    refine k_st (st' := [.inr (.inr (some a20))]) rfl ?_
    have z32 := R16.1.1
    refine k_astore_n (ls' := [(2, .inr (.inr (some a20))), (0, .inr (.inr (some p0))), (1, .inl p1)]) rfl ?_
    refine k_aload_n rfl ?_
    have t33 := h_0_0.x e22
    obtain ⟨o36, e34, c35, t37⟩ := cg246 H21.1 t33
    refine k_get kg246 t33 e34 ?_
    refine k_astore_n (ls' := [(3, .inr (.inr o36)), (2, .inr (.inr (some a20))), (0, .inr (.inr (some p0))), (1, .inl p1)]) rfl ?_
    refine k_aload_n rfl ?_
    obtain ⟨y40, e38, c39⟩ := cg245 (σ := σ18) (a := p0)
    refine k_get kg245 t33 e38 ?_
    refine k_lstore (ls' := [(4, .inr (.inl y40)), (3, .inr (.inr o36)), (2, .inr (.inr (some a20))), (0, .inr (.inr (some p0))), (1, .inl p1)]) rfl ?_
    refine k_aload_n rfl ?_
    have R41 : RdC p0 none (2) (2) (-998) σ0 σ18 := R16.tr ⟨R23.1, R23.2⟩ (by omega) (by omega) (by omega) (by omega)
    have R42 := R41.nf (-1000) (-1000) (by rw [c29]; omega)
    have X43 : ExC [0, 1, 2, 60, 61, 62, 63, 64, 65, 66, 67, 68, 69, 70, 72, 73, 74, 75, 76, 242, 243, 244, 246, 270, 271, 272, 273, 275, 276, 277, 278, 279, 280, 330, 331, 332, 333, 334, 999] σ0 σ18 := ExC.rf.tr (e22.mo (by decide))
    refine k_inv (P := P_X7_accept) (Q := Q_X7_accept) rfl rfl rfl rfl (Nat.le_of_ble_eq_true rfl) (t33.rc (by decide)) ⟨_, rfl, H21, t33, (rd_cd.st H0 h_0_0 X43 R42.1 (by decide)), (R42.2.2.2.1 rd_at), (rd_bg.stn H0 h_0_0 X43 R42 (by decide) (by rw [c29]; omega) (by omega)), (by have ct := R42.2.2.1; rw [c29, c28, ct]; omega)⟩ (fun w44 σ45 q46 => ?_)
    obtain ⟨rfl, H47, e48, R49, q50⟩ := q46
    have t56 := t33.x e48
    obtain ⟨x51, e52, c53, h54, h55⟩ := cg242 H47.1 t56
    obtain ⟨x57, e58, c59, h60, h61⟩ := cg243 H47.1 t56
    have z62 := congrArg Int32.toInt c53
    have z63 := congrArg Int32.toInt c59
    refine k_st (st' := []) rfl ?_
    have R64 : RdC p0 none (-6) (2) (-1000) σ0 σ45 := R42.tr ⟨R49.1, R49.2⟩ (by omega) (by omega) (by omega) (by omega)
    have z65 := R64.2.2.1
    have z66 := R64.2.2.2.1 rd_at
    refine k_aload_n rfl ?_
    refine k_aload_n rfl ?_
    have t71 := h24.x e48
    refine k_putR kp246 H47 t56 fk246 (rf246 t71) (fun σ67 H68 e69 c70 => ?_)
    refine k_aload_n rfl ?_
    refine k_aload_n rfl ?_
    refine k_iload_n rfl ?_
    have t72 := t56.x e69
    have R73 : RdC p0 none (-6) (2) (-1000) σ0 σ67 := R64.tr ⟨(e69.gw H47.1 (by decide)), (e69.cou (u := 0) H47.1 t56 (by decide) (by rw [e69.cn (by decide)]; omega))⟩ (by omega) (by omega) (by omega) (by omega)
    have c74 := (t56.mi e69 (by decide)).trans c59
    have X75 : ExC [0, 1, 2, 60, 61, 62, 63, 64, 65, 66, 67, 68, 69, 70, 72, 73, 74, 75, 76, 242, 243, 244, 246, 270, 271, 272, 273, 275, 276, 277, 278, 279, 280, 330, 331, 332, 333, 334, 999] σ0 σ45 := X43.tr (e48.mo (by decide))
    have X76 : ExC [0, 1, 2, 60, 61, 62, 63, 64, 65, 66, 67, 68, 69, 70, 72, 73, 74, 75, 76, 242, 243, 244, 246, 270, 271, 272, 273, 275, 276, 277, 278, 279, 280, 330, 331, 332, 333, 334, 999] σ0 σ67 := X75.tr (e69.mo (by decide))
    have c77 := (t56.mi e69 (by decide)).trans c53
    have z78 := congrArg Int32.toInt c77
    have z79 := congrArg Int32.toInt c74
    refine k_inv (P := (P_X7_readBody d)) (Q := (Q_X7_readBody d)) rfl rfl rfl rfl (Nat.le_of_ble_eq_true rfl) (t72.rc (by decide)) ⟨_, _, rfl, H68, t72, (by omega), (by omega), (rd_cd.st H0 h_0_0 X76 R73.1 (by decide)), (R73.2.2.2.1 rd_at), (rd_bg.st H0 h_0_0 X76 R73 (by decide) (by omega) (by omega) (by omega)), (by omega)⟩ (fun w80 σ81 q82 => ?_)
    obtain ⟨a83, rfl, H84, e85, h87, R86, q88, q89, q90⟩ := q82
    have t96 := t72.x e85
    obtain ⟨x91, e92, c93, h94, h95⟩ := cg242 H84.1 t96
    obtain ⟨x97, e98, c99, h100, h101⟩ := cg243 H84.1 t96
    have z102 := congrArg Int32.toInt c93
    have z103 := congrArg Int32.toInt c99
    refine k_st (st' := [.inr (.inr (some a83)), .inr (.inr (some a20))]) rfl ?_
    have z104 := R73.1.1
    obtain ⟨x105, e106, c107, h108, h109⟩ := cg272 H84.1 h87
    rw [c107] at q89
    obtain ⟨x110, e111, c112, h113, h114⟩ := cg270 H84.1 h87
    rw [c112] at q90
    have R115 : RdC p0 none (-12) (12 + 8 * (d : Int)) (-998) σ0 σ81 := R73.tr ⟨R86.1, R86.2⟩ (by omega) (by omega) (by omega) (by omega)
    have z116 := R115.2.2.1
    have z117 := R115.2.2.2.1 rd_at
    have c118 := (h24.mi e48 (by decide)).trans q26
    have c119 := (t71.mi e69 (by decide)).trans c118
    have t120 := t71.x e69
    have c121 := (t120.fi e85 (by decide) (by decide)).trans c119
    have c122 := (h24.mi e48 (by decide)).trans q27
    have c123 := (t71.mi e69 (by decide)).trans c122
    have c124 := (t120.fi e85 (by decide) (by decide)).trans c123
    have z129 := t120.1
    have t130 := t120.x e85
    refine k_p276 H84 t130 (h87.ot) (fun z hz => by cases hz; exact ⟨by omega, by unfold LvC; rw [c121, c124, c112, c107]; omega⟩) (fun σ125 H126 e127 c128 => ?_)
    refine k_aload_n rfl ?_
    have t131 := t96.x e127
    have R132 : RdC p0 none (-12) (12 + 8 * (d : Int)) (-998) σ0 σ125 := R115.tr ⟨(e127.gw H84.1 (by decide)), (e127.cou (u := 0) H84.1 t96 (by decide) (by rw [e127.cn (by decide)]; omega))⟩ (by omega) (by omega) (by omega) (by omega)
    have c133 := (t96.mi e127 (by decide)).trans c99
    have X134 : ExC [0, 1, 2, 60, 61, 62, 63, 64, 65, 66, 67, 68, 69, 70, 72, 73, 74, 75, 76, 242, 243, 244, 246, 270, 271, 272, 273, 275, 276, 277, 278, 279, 280, 330, 331, 332, 333, 334, 999] σ0 σ81 := X76.tr (e85.mo (by decide))
    have X135 : ExC [0, 1, 2, 60, 61, 62, 63, 64, 65, 66, 67, 68, 69, 70, 72, 73, 74, 75, 76, 242, 243, 244, 246, 270, 271, 272, 273, 275, 276, 277, 278, 279, 280, 330, 331, 332, 333, 334, 999] σ0 σ125 := X134.tr (e127.mo (by decide))
    refine k_inv (P := P_X7_code) (Q := Q_X7_code) rfl rfl rfl rfl (Nat.le_of_ble_eq_true rfl) (t131.rc (by decide)) ⟨_, rfl, H126, t131, (rd_cd.st H0 h_0_0 X135 R132.1 (by decide))⟩ (fun w136 σ137 q138 => ?_)
    obtain ⟨x139, rfl, rfl, q140, q141, q142⟩ := q138
    refine k_st (st' := [.inl x139]) rfl ?_
    have z143 := R132.2.2.1
    have z144 := R132.2.2.2.1 rd_at
    have c145 := (t96.mi e127 (by decide)).trans c93
    have z146 := congrArg Int32.toInt c145
    have z147 := congrArg Int32.toInt c133
    refine k_bipush (m := 69) rfl (fun x148 h149 => ?_)
    refine k_ic_eq (fun h150 => ?_) (fun h150 => ?_)
    · have h151 : x97.toInt = 0 := by omega
      refine hB _ _ _ _ (kgoC (is := KX7_readTry_60) rfl ?_)
      refine k_aload_n rfl ?_
      refine k_bipush (m := 69) rfl (fun x152 h153 => ?_)
      have R154 := R132.nf (-1000) (-1000) (by rw [c133]; omega)
      refine k_inv (P := P_X7_takes) (Q := Q_X7_takes) rfl rfl rfl rfl (Nat.le_of_ble_eq_true rfl) (t131.rc (by decide)) ⟨_, _, rfl, H126, t131, (by omega), (by omega), (rd_cd.st H0 h_0_0 X135 R154.1 (by decide)), (R154.2.2.2.1 rd_at), (rd_bg.stn H0 h_0_0 X135 R154 (by decide) (by rw [c133]; omega) (by omega))⟩ (fun w155 σ156 q157 => ?_)
      obtain ⟨x158, rfl, H159, e160, h162, h163, R161, q164⟩ := q157
      have t170 := t131.x e160
      obtain ⟨x165, e166, c167, h168, h169⟩ := cg242 H159.1 t170
      obtain ⟨x171, e172, c173, h174, h175⟩ := cg243 H159.1 t170
      have z176 := congrArg Int32.toInt c167
      have z177 := congrArg Int32.toInt c173
      refine k_st (st' := [.inl x158]) rfl ?_
      rcases (by omega : x158.toInt = 0 ∨ x158.toInt = 1) with g178 | g178
      · have R179 : RdC p0 none (-12) (-12) (-1000) σ0 σ156 := R154.tr ⟨R161.1, R161.2⟩ (by omega) (by omega) (by omega) (by omega)
        have z180 := R179.2.2.1
        have z181 := R179.2.2.2.1 rd_at
        refine k_if_eq (fun h182 => ?_) (fun h182 => by exfalso; omega)
        refine hB _ _ _ _ (kgoC (is := KX7_readTry_113) rfl ?_)
        refine k_aload_n rfl ?_
        refine k_bipush (m := 70) rfl (fun x183 h184 => ?_)
        have X185 : ExC [0, 1, 2, 60, 61, 62, 63, 64, 65, 66, 67, 68, 69, 70, 72, 73, 74, 75, 76, 242, 243, 244, 246, 270, 271, 272, 273, 275, 276, 277, 278, 279, 280, 330, 331, 332, 333, 334, 999] σ0 σ156 := X135.tr (e160.mo (by decide))
        refine k_inv (P := P_X7_takes) (Q := Q_X7_takes) rfl rfl rfl rfl (Nat.le_of_ble_eq_true rfl) (t170.rc (by decide)) ⟨_, _, rfl, H159, t170, (by omega), (by omega), (rd_cd.st H0 h_0_0 X185 R179.1 (by decide)), (R179.2.2.2.1 rd_at), (rd_bg.st H0 h_0_0 X185 R179 (by decide) (by omega) (by omega) (by omega))⟩ (fun w186 σ187 q188 => ?_)
        obtain ⟨x189, rfl, H190, e191, h193, h194, R192, q195⟩ := q188
        have t201 := t170.x e191
        obtain ⟨x196, e197, c198, h199, h200⟩ := cg242 H190.1 t201
        obtain ⟨x202, e203, c204, h205, h206⟩ := cg243 H190.1 t201
        have z207 := congrArg Int32.toInt c198
        have z208 := congrArg Int32.toInt c204
        refine k_st (st' := [.inl x189]) rfl ?_
        rcases (by omega : x189.toInt = 0 ∨ x189.toInt = 1) with g209 | g209
        · have R210 : RdC p0 none (-12) (-12) (-1000) σ0 σ187 := R179.tr ⟨R192.1, R192.2⟩ (by omega) (by omega) (by omega) (by omega)
          have z211 := R210.2.2.1
          have z212 := R210.2.2.2.1 rd_at
          refine k_if_eq (fun h213 => ?_) (fun h213 => by exfalso; omega)
          refine hB _ _ _ _ (kgoC (is := KX7_readTry_131) rfl ?_)
          refine k_aload_n rfl ?_
          refine k_aload_n rfl ?_
          have t218 := t37.x e48
          have t219 := t218.x e69
          have t220 := t219.x e85
          have t221 := t220.x e127
          have t222 := t221.x e160
          have t223 := t222.x e191
          refine k_putR kp246 H190 t201 fk246 (rfo246 (t223)) (fun σ214 H215 e216 c217 => ?_)
          refine k_aload_n rfl ?_
          refine k_areturn ?_
          have X224 : ExC [0, 1, 2, 60, 61, 62, 63, 64, 65, 66, 67, 68, 69, 70, 72, 73, 74, 75, 76, 242, 243, 244, 246, 270, 271, 272, 273, 275, 276, 277, 278, 279, 280, 330, 331, 332, 333, 334, 999] σ0 σ187 := X185.tr (e191.mo (by decide))
          have X225 : ExC [0, 1, 2, 60, 61, 62, 63, 64, 65, 66, 67, 68, 69, 70, 72, 73, 74, 75, 76, 242, 243, 244, 246, 270, 271, 272, 273, 275, 276, 277, 278, 279, 280, 330, 331, 332, 333, 334, 999] σ0 σ214 := X224.tr (e216.mo (by decide))
          have t226 := t130.x e127
          have t227 := t226.x e160
          have t228 := t227.x e191
          have t229 := t228.x e216
          have R230 : RdC p0 none (-12) (-12) (-1000) σ0 σ214 := R210.tr ⟨(e216.gw H190.1 (by decide)), (e216.cou (u := 0) H190.1 t201 (by decide) (by rw [e216.cn (by decide)]; omega))⟩ (by omega) (by omega) (by omega) (by omega)
          have c231 := (t201.mi e216 (by decide)).trans c204
          have c232 := (t201.mi e216 (by decide)).trans c198
          have c233 := (t130.mi e127 (by decide)).trans c124
          have c234 := (t226.mi e160 (by decide)).trans c233
          have c235 := (t227.mi e191 (by decide)).trans c234
          have c236 := (t228.mi e216 (by decide)).trans c235
          have c237 := (t130.mi e127 (by decide)).trans c121
          have c238 := (t226.mi e160 (by decide)).trans c237
          have c239 := (t227.mi e191 (by decide)).trans c238
          have c240 := (t228.mi e216 (by decide)).trans c239
          exact ⟨_, rfl, H215, X225, t229, (R230.mo (by omega) (by omega) (by omega)), (by omega), (by rw [c236] <;> omega), (by rw [c240] <;> omega)⟩
        · have R241 := R179.nf (-1000) (-1000) (q195 (by omega)).1
          have R242 : RdC p0 none (-20) (-12) (-1000) σ0 σ187 := R241.tr ⟨(q195 (by omega)).2.1, (q195 (by omega)).2.2⟩ (by omega) (by omega) (by omega) (by omega)
          have z243 := R242.2.2.1
          have z244 := R242.2.2.2.1 rd_at
          refine k_if_eq (fun h245 => by exfalso; omega) (fun h245 => ?_)
          refine k_nil ?_
          refine hB _ _ _ _ (kgoC (is := KX7_readTry_122) rfl ?_)
          refine k_aload_n rfl ?_
          refine k_aload_n rfl ?_
          refine k_iload_n rfl ?_
          have X246 : ExC [0, 1, 2, 60, 61, 62, 63, 64, 65, 66, 67, 68, 69, 70, 72, 73, 74, 75, 76, 242, 243, 244, 246, 270, 271, 272, 273, 275, 276, 277, 278, 279, 280, 330, 331, 332, 333, 334, 999] σ0 σ187 := X185.tr (e191.mo (by decide))
          refine k_inv (P := (P_X7_readBody d)) (Q := (Q_X7_readBody d)) rfl rfl rfl rfl (Nat.le_of_ble_eq_true rfl) (t201.rc (by decide)) ⟨_, _, rfl, H190, t201, (by omega), (by omega), (rd_cd.st H0 h_0_0 X246 R242.1 (by decide)), (R242.2.2.2.1 rd_at), (rd_bg.st H0 h_0_0 X246 R242 (by decide) (by omega) (by omega) (by omega)), (by omega)⟩ (fun w247 σ248 q249 => ?_)
          obtain ⟨a250, rfl, H251, e252, h254, R253, q255, q256, q257⟩ := q249
          have t263 := t201.x e252
          obtain ⟨x258, e259, c260, h261, h262⟩ := cg242 H251.1 t263
          obtain ⟨x264, e265, c266, h267, h268⟩ := cg243 H251.1 t263
          have z269 := congrArg Int32.toInt c260
          have z270 := congrArg Int32.toInt c266
          refine k_st (st' := [.inr (.inr (some a250)), .inr (.inr (some a20))]) rfl ?_
          have z271 := R242.1.1
          obtain ⟨x272, e273, c274, h275, h276⟩ := cg272 H251.1 h254
          rw [c274] at q256
          obtain ⟨x277, e278, c279, h280, h281⟩ := cg270 H251.1 h254
          rw [c279] at q257
          have R282 : RdC p0 none (-26) (-2 + 8 * (d : Int)) (-998) σ0 σ248 := R242.tr ⟨R253.1, R253.2⟩ (by omega) (by omega) (by omega) (by omega)
          have z283 := R282.2.2.1
          have z284 := R282.2.2.2.1 rd_at
          have c285 := (t130.mi e127 (by decide)).trans c121
          have t286 := t130.x e127
          have c287 := (t286.mi e160 (by decide)).trans c285
          have t288 := t286.x e160
          have c289 := (t288.mi e191 (by decide)).trans c287
          have t290 := t288.x e191
          have c291 := (t290.fi e252 (by decide) (by decide)).trans c289
          have c292 := (t130.mi e127 (by decide)).trans c124
          have c293 := (t286.mi e160 (by decide)).trans c292
          have c294 := (t288.mi e191 (by decide)).trans c293
          have c295 := (t290.fi e252 (by decide) (by decide)).trans c294
          have z300 := t290.1
          have t301 := t290.x e252
          refine k_p278 H251 t301 (h254.ot) (fun z hz => by cases hz; exact ⟨by omega, by unfold LvC; rw [c291, c295, c279, c274]; omega⟩) (fun σ296 H297 e298 c299 => ?_)
          refine k_nil ?_
          refine hB _ _ _ _ (kgoC (is := KX7_readTry_131) rfl ?_)
          refine k_aload_n rfl ?_
          refine k_aload_n rfl ?_
          have t302 := t263.x e298
          have t307 := t37.x e48
          have t308 := t307.x e69
          have t309 := t308.x e85
          have t310 := t309.x e127
          have t311 := t310.x e160
          have t312 := t311.x e191
          have t313 := t312.x e252
          have t314 := t313.x e298
          refine k_putR kp246 H297 t302 fk246 (rfo246 (t314)) (fun σ303 H304 e305 c306 => ?_)
          refine k_aload_n rfl ?_
          refine k_areturn ?_
          have X315 : ExC [0, 1, 2, 60, 61, 62, 63, 64, 65, 66, 67, 68, 69, 70, 72, 73, 74, 75, 76, 242, 243, 244, 246, 270, 271, 272, 273, 275, 276, 277, 278, 279, 280, 330, 331, 332, 333, 334, 999] σ0 σ248 := X246.tr (e252.mo (by decide))
          have X316 : ExC [0, 1, 2, 60, 61, 62, 63, 64, 65, 66, 67, 68, 69, 70, 72, 73, 74, 75, 76, 242, 243, 244, 246, 270, 271, 272, 273, 275, 276, 277, 278, 279, 280, 330, 331, 332, 333, 334, 999] σ0 σ296 := X315.tr (e298.mo (by decide))
          have X317 : ExC [0, 1, 2, 60, 61, 62, 63, 64, 65, 66, 67, 68, 69, 70, 72, 73, 74, 75, 76, 242, 243, 244, 246, 270, 271, 272, 273, 275, 276, 277, 278, 279, 280, 330, 331, 332, 333, 334, 999] σ0 σ303 := X316.tr (e305.mo (by decide))
          have t318 := t301.x e298
          have t319 := t318.x e305
          have R320 : RdC p0 none (-26) (-2 + 8 * (d : Int)) (-998) σ0 σ296 := R282.tr ⟨(e298.gw H251.1 (by decide)), (e298.cou (u := 0) H251.1 t263 (by decide) (by rw [e298.cn (by decide)]; omega))⟩ (by omega) (by omega) (by omega) (by omega)
          have R321 : RdC p0 none (-26) (-2 + 8 * (d : Int)) (-998) σ0 σ303 := R320.tr ⟨(e305.gw H297.1 (by decide)), (e305.cou (u := 0) H297.1 t302 (by decide) (by rw [e305.cn (by decide)]; omega))⟩ (by omega) (by omega) (by omega) (by omega)
          have c322 := (t263.mi e298 (by decide)).trans c266
          have c323 := (t302.mi e305 (by decide)).trans c322
          have c324 := (t263.mi e298 (by decide)).trans c260
          have c325 := (t302.mi e305 (by decide)).trans c324
          have c326 := (t301.mi e298 (by decide)).trans c295
          have c327 := (t318.mi e305 (by decide)).trans c326
          have c328 := (t301.mi e298 (by decide)).trans c291
          have c329 := (t318.mi e305 (by decide)).trans c328
          exact ⟨_, rfl, H304, X317, t319, (R321.mo (by omega) (by omega) (by omega)), (by omega), (by rw [c327] <;> omega), (by rw [c329] <;> omega)⟩
      · have R330 := R154.nf (-1000) (-1000) (q164 (by omega)).1
        have R331 : RdC p0 none (-20) (-12) (-1000) σ0 σ156 := R330.tr ⟨(q164 (by omega)).2.1, (q164 (by omega)).2.2⟩ (by omega) (by omega) (by omega) (by omega)
        have z332 := R331.2.2.1
        have z333 := R331.2.2.2.1 rd_at
        refine k_if_eq (fun h334 => by exfalso; omega) (fun h334 => ?_)
        refine k_nil ?_
        refine hB _ _ _ _ (kgoC (is := KX7_readTry_69) rfl ?_)
        refine k_aload_n rfl ?_
        refine k_iconst (m := 0) rfl (fun x335 h336 => ?_)
        have X337 : ExC [0, 1, 2, 60, 61, 62, 63, 64, 65, 66, 67, 68, 69, 70, 72, 73, 74, 75, 76, 242, 243, 244, 246, 270, 271, 272, 273, 275, 276, 277, 278, 279, 280, 330, 331, 332, 333, 334, 999] σ0 σ156 := X135.tr (e160.mo (by decide))
        refine k_inv (P := P_X7_expect) (Q := Q_X7_expect) rfl rfl rfl rfl (Nat.le_of_ble_eq_true rfl) (t170.rc (by decide)) ⟨_, _, rfl, H159, t170, (by omega), (by omega), (rd_cd.st H0 h_0_0 X337 R331.1 (by decide)), (R331.2.2.2.1 rd_at), (rd_bg.st H0 h_0_0 X337 R331 (by decide) (by omega) (by omega) (by omega))⟩ (fun w338 σ339 q340 => ?_)
        obtain ⟨rfl, H341, e342, R343, q344⟩ := q340
        have t350 := t170.x e342
        obtain ⟨x345, e346, c347, h348, h349⟩ := cg242 H341.1 t350
        obtain ⟨x351, e352, c353, h354, h355⟩ := cg243 H341.1 t350
        have z356 := congrArg Int32.toInt c347
        have z357 := congrArg Int32.toInt c353
        refine k_st (st' := []) rfl ?_
        have R358 : RdC p0 none (-28) (-12) (-1000) σ0 σ339 := R331.tr ⟨R343.1, R343.2⟩ (by omega) (by omega) (by omega) (by omega)
        have z359 := R358.2.2.1
        have z360 := R358.2.2.2.1 rd_at
        refine k_aload_n rfl ?_
        refine k_aload_n rfl ?_
        refine k_iconst (m := 3) rfl (fun x361 h362 => ?_)
        refine k_iconst (m := 0) rfl (fun x363 h364 => ?_)
        refine k_iconst (m := 1) rfl (fun x365 h366 => ?_)
        have X367 : ExC [0, 1, 2, 60, 61, 62, 63, 64, 65, 66, 67, 68, 69, 70, 72, 73, 74, 75, 76, 242, 243, 244, 246, 270, 271, 272, 273, 275, 276, 277, 278, 279, 280, 330, 331, 332, 333, 334, 999] σ0 σ339 := X337.tr (e342.mo (by decide))
        refine k_inv (P := P_X7_declare) (Q := Q_X7_declare) rfl rfl rfl rfl (Nat.le_of_ble_eq_true rfl) (t350.rc (by decide)) ⟨_, _, _, _, rfl, H341, t350, (by omega), (by omega), (by omega), (by omega), (rd_cd.st H0 h_0_0 X367 R358.1 (by decide)), (R358.2.2.2.1 rd_at), (rd_bg.st H0 h_0_0 X367 R358 (by decide) (by omega) (by omega) (by omega))⟩ (fun w368 σ369 q370 => ?_)
        obtain ⟨x371, rfl, H372, e373, h375, h376, R374⟩ := q370
        have t382 := t350.x e373
        obtain ⟨x377, e378, c379, h380, h381⟩ := cg242 H372.1 t382
        obtain ⟨x383, e384, c385, h386, h387⟩ := cg243 H372.1 t382
        have z388 := congrArg Int32.toInt c379
        have z389 := congrArg Int32.toInt c385
        refine k_st (st' := [.inl x371, .inr (.inr (some a20))]) rfl ?_
        have t390 := t130.x e127
        have t391 := t390.x e160
        have t392 := t391.x e342
        have t393 := t392.x e373
        have c398 := (t130.mi e127 (by decide)).trans c121
        have c399 := (t390.mi e160 (by decide)).trans c398
        have c400 := (t391.mi e342 (by decide)).trans c399
        have c401 := (t392.mi e373 (by decide)).trans c400
        refine k_p280 H372 t393 (by omega) (by omega) (by rw [c401]; omega) (fun σ394 H395 e396 c397 => ?_)
        refine k_aload_n rfl ?_
        refine k_aload_n rfl ?_
        have t402 := t393.x e396
        refine k_get kg280 t402 (congrArg (Sum.inl : Int32 → AvC) c397) ?_
        have t403 := t382.x e396
        refine k_inv (P := P_X7_know) (Q := Q_X7_know) rfl rfl rfl rfl (Nat.le_of_ble_eq_true rfl) (t403.rc (by decide)) ⟨_, _, rfl, H395, t403⟩ (fun w404 σ405 q406 => ?_)
        obtain ⟨rfl, H407, e408⟩ := q406
        have c409 := (t382.mi e396 (by decide)).trans c379
        have c410 := (t403.mi e408 (by decide)).trans c409
        have c411 := (t382.mi e396 (by decide)).trans c385
        have c412 := (t403.mi e408 (by decide)).trans c411
        have z413 := congrArg Int32.toInt c410
        have z414 := congrArg Int32.toInt c412
        refine k_st (st' := []) rfl ?_
        refine k_aload_n rfl ?_
        refine k_iconst (m := 1) rfl (fun x415 h416 => ?_)
        have t417 := t403.x e408
        have R418 : RdC p0 none (-34) (-12) (-1000) σ0 σ369 := R358.tr ⟨R374.1, R374.2⟩ (by omega) (by omega) (by omega) (by omega)
        have R419 : RdC p0 none (-34) (-12) (-1000) σ0 σ394 := R418.tr ⟨(e396.gw H372.1 (by decide)), (e396.cou (u := 0) H372.1 t382 (by decide) (by rw [e396.cn (by decide)]; omega))⟩ (by omega) (by omega) (by omega) (by omega)
        have R420 : RdC p0 none (-34) (-12) (-1000) σ0 σ405 := R419.tr ⟨(e408.gw H395.1 (by decide)), (e408.cou (u := 0) H395.1 t403 (by decide) (by rw [e408.cn (by decide)]; omega))⟩ (by omega) (by omega) (by omega) (by omega)
        have X421 : ExC [0, 1, 2, 60, 61, 62, 63, 64, 65, 66, 67, 68, 69, 70, 72, 73, 74, 75, 76, 242, 243, 244, 246, 270, 271, 272, 273, 275, 276, 277, 278, 279, 280, 330, 331, 332, 333, 334, 999] σ0 σ369 := X367.tr (e373.mo (by decide))
        have X422 : ExC [0, 1, 2, 60, 61, 62, 63, 64, 65, 66, 67, 68, 69, 70, 72, 73, 74, 75, 76, 242, 243, 244, 246, 270, 271, 272, 273, 275, 276, 277, 278, 279, 280, 330, 331, 332, 333, 334, 999] σ0 σ394 := X421.tr (e396.mo (by decide))
        have X423 : ExC [0, 1, 2, 60, 61, 62, 63, 64, 65, 66, 67, 68, 69, 70, 72, 73, 74, 75, 76, 242, 243, 244, 246, 270, 271, 272, 273, 275, 276, 277, 278, 279, 280, 330, 331, 332, 333, 334, 999] σ0 σ405 := X422.tr (e408.mo (by decide))
        refine k_inv (P := P_X7_expect) (Q := Q_X7_expect) rfl rfl rfl rfl (Nat.le_of_ble_eq_true rfl) (t417.rc (by decide)) ⟨_, _, rfl, H407, t417, (by omega), (by omega), (rd_cd.st H0 h_0_0 X423 R420.1 (by decide)), (R420.2.2.2.1 rd_at), (rd_bg.st H0 h_0_0 X423 R420 (by decide) (by omega) (by omega) (by omega))⟩ (fun w424 σ425 q426 => ?_)
        obtain ⟨rfl, H427, e428, R429, q430⟩ := q426
        have t436 := t417.x e428
        obtain ⟨x431, e432, c433, h434, h435⟩ := cg242 H427.1 t436
        obtain ⟨x437, e438, c439, h440, h441⟩ := cg243 H427.1 t436
        have z442 := congrArg Int32.toInt c433
        have z443 := congrArg Int32.toInt c439
        refine k_st (st' := []) rfl ?_
        have R444 : RdC p0 none (-42) (-12) (-1000) σ0 σ425 := R420.tr ⟨R429.1, R429.2⟩ (by omega) (by omega) (by omega) (by omega)
        have z445 := R444.2.2.1
        have z446 := R444.2.2.2.1 rd_at
        refine k_aload_n rfl ?_
        refine k_aload_n rfl ?_
        refine k_iload_n rfl ?_
        have X447 : ExC [0, 1, 2, 60, 61, 62, 63, 64, 65, 66, 67, 68, 69, 70, 72, 73, 74, 75, 76, 242, 243, 244, 246, 270, 271, 272, 273, 275, 276, 277, 278, 279, 280, 330, 331, 332, 333, 334, 999] σ0 σ425 := X423.tr (e428.mo (by decide))
        refine k_inv (P := (P_X7_readBody d)) (Q := (Q_X7_readBody d)) rfl rfl rfl rfl (Nat.le_of_ble_eq_true rfl) (t436.rc (by decide)) ⟨_, _, rfl, H427, t436, (by omega), (by omega), (rd_cd.st H0 h_0_0 X447 R444.1 (by decide)), (R444.2.2.2.1 rd_at), (rd_bg.st H0 h_0_0 X447 R444 (by decide) (by omega) (by omega) (by omega)), (by omega)⟩ (fun w448 σ449 q450 => ?_)
        obtain ⟨a451, rfl, H452, e453, h455, R454, q456, q457, q458⟩ := q450
        have t464 := t436.x e453
        obtain ⟨x459, e460, c461, h462, h463⟩ := cg242 H452.1 t464
        obtain ⟨x465, e466, c467, h468, h469⟩ := cg243 H452.1 t464
        have z470 := congrArg Int32.toInt c461
        have z471 := congrArg Int32.toInt c467
        refine k_st (st' := [.inr (.inr (some a451)), .inr (.inr (some a20))]) rfl ?_
        have z472 := R444.1.1
        obtain ⟨x473, e474, c475, h476, h477⟩ := cg272 H452.1 h455
        rw [c475] at q457
        obtain ⟨x478, e479, c480, h481, h482⟩ := cg270 H452.1 h455
        rw [c480] at q458
        have R483 : RdC p0 none (-48) (-10 + 8 * (d : Int)) (-998) σ0 σ449 := R444.tr ⟨R454.1, R454.2⟩ (by omega) (by omega) (by omega) (by omega)
        have z484 := R483.2.2.1
        have z485 := R483.2.2.2.1 rd_at
        have c486 := (t393.mi e396 (by decide)).trans c401
        have c487 := (t402.mi e408 (by decide)).trans c486
        have t488 := t402.x e408
        have c489 := (t488.mi e428 (by decide)).trans c487
        have t490 := t488.x e428
        have c491 := (t490.fi e453 (by decide) (by decide)).trans c489
        have c492 := (t130.mi e127 (by decide)).trans c124
        have c493 := (t390.mi e160 (by decide)).trans c492
        have c494 := (t391.mi e342 (by decide)).trans c493
        have c495 := (t392.mi e373 (by decide)).trans c494
        have c496 := (t393.mi e396 (by decide)).trans c495
        have c497 := (t402.mi e408 (by decide)).trans c496
        have c498 := (t488.mi e428 (by decide)).trans c497
        have c499 := (t490.fi e453 (by decide) (by decide)).trans c498
        have z504 := t490.1
        have t505 := t490.x e453
        refine k_p277 H452 t505 (h455.ot) (fun z hz => by cases hz; exact ⟨by omega, by unfold LvC; rw [c491, c499, c480, c475]; omega⟩) (fun σ500 H501 e502 c503 => ?_)
        refine k_aload_n rfl ?_
        refine k_lload rfl ?_
        have t506 := t464.x e502
        refine k_putL kg245 H501 t506 fk245 (fun σ507 H508 e509 c510 => ?_)
        refine k_nil ?_
        refine hB _ _ _ _ (kgoC (is := KX7_readTry_113) rfl ?_)
        refine k_aload_n rfl ?_
        refine k_bipush (m := 70) rfl (fun x511 h512 => ?_)
        have t513 := t506.x e509
        have R514 : RdC p0 none (-48) (-10 + 8 * (d : Int)) (-998) σ0 σ500 := R483.tr ⟨(e502.gw H452.1 (by decide)), (e502.cou (u := 0) H452.1 t464 (by decide) (by rw [e502.cn (by decide)]; omega))⟩ (by omega) (by omega) (by omega) (by omega)
        have R515 : RdC p0 none (-48) (-10 + 8 * (d : Int)) (-998) σ0 σ507 := R514.tr ⟨(e509.gw H501.1 (by decide)), (e509.cou (u := 0) H501.1 t506 (by decide) (by rw [e509.cn (by decide)]; omega))⟩ (by omega) (by omega) (by omega) (by omega)
        have c516 := (t464.mi e502 (by decide)).trans c467
        have c517 := (t506.mi e509 (by decide)).trans c516
        have X518 : ExC [0, 1, 2, 60, 61, 62, 63, 64, 65, 66, 67, 68, 69, 70, 72, 73, 74, 75, 76, 242, 243, 244, 246, 270, 271, 272, 273, 275, 276, 277, 278, 279, 280, 330, 331, 332, 333, 334, 999] σ0 σ449 := X447.tr (e453.mo (by decide))
        have X519 : ExC [0, 1, 2, 60, 61, 62, 63, 64, 65, 66, 67, 68, 69, 70, 72, 73, 74, 75, 76, 242, 243, 244, 246, 270, 271, 272, 273, 275, 276, 277, 278, 279, 280, 330, 331, 332, 333, 334, 999] σ0 σ500 := X518.tr (e502.mo (by decide))
        have X520 : ExC [0, 1, 2, 60, 61, 62, 63, 64, 65, 66, 67, 68, 69, 70, 72, 73, 74, 75, 76, 242, 243, 244, 246, 270, 271, 272, 273, 275, 276, 277, 278, 279, 280, 330, 331, 332, 333, 334, 999] σ0 σ507 := X519.tr (e509.mo (by decide))
        have c521 := (t464.mi e502 (by decide)).trans c461
        have c522 := (t506.mi e509 (by decide)).trans c521
        have z523 := congrArg Int32.toInt c522
        have z524 := congrArg Int32.toInt c517
        refine k_inv (P := P_X7_takes) (Q := Q_X7_takes) rfl rfl rfl rfl (Nat.le_of_ble_eq_true rfl) (t513.rc (by decide)) ⟨_, _, rfl, H508, t513, (by omega), (by omega), (rd_cd.st H0 h_0_0 X520 R515.1 (by decide)), (R515.2.2.2.1 rd_at), (rd_bg.st H0 h_0_0 X520 R515 (by decide) (by omega) (by omega) (by omega))⟩ (fun w525 σ526 q527 => ?_)
        obtain ⟨x528, rfl, H529, e530, h532, h533, R531, q534⟩ := q527
        have t540 := t513.x e530
        obtain ⟨x535, e536, c537, h538, h539⟩ := cg242 H529.1 t540
        obtain ⟨x541, e542, c543, h544, h545⟩ := cg243 H529.1 t540
        have z546 := congrArg Int32.toInt c537
        have z547 := congrArg Int32.toInt c543
        refine k_st (st' := [.inl x528]) rfl ?_
        rcases (by omega : x528.toInt = 0 ∨ x528.toInt = 1) with g548 | g548
        · have R549 : RdC p0 none (-48) (-10 + 8 * (d : Int)) (-998) σ0 σ526 := R515.tr ⟨R531.1, R531.2⟩ (by omega) (by omega) (by omega) (by omega)
          have z550 := R549.2.2.1
          have z551 := R549.2.2.2.1 rd_at
          refine k_if_eq (fun h552 => ?_) (fun h552 => by exfalso; omega)
          refine hB _ _ _ _ (kgoC (is := KX7_readTry_131) rfl ?_)
          refine k_aload_n rfl ?_
          refine k_aload_n rfl ?_
          have t557 := t37.x e48
          have t558 := t557.x e69
          have t559 := t558.x e85
          have t560 := t559.x e127
          have t561 := t560.x e160
          have t562 := t561.x e342
          have t563 := t562.x e373
          have t564 := t563.x e396
          have t565 := t564.x e408
          have t566 := t565.x e428
          have t567 := t566.x e453
          have t568 := t567.x e502
          have t569 := t568.x e509
          have t570 := t569.x e530
          refine k_putR kp246 H529 t540 fk246 (rfo246 (t570)) (fun σ553 H554 e555 c556 => ?_)
          refine k_aload_n rfl ?_
          refine k_areturn ?_
          have X571 : ExC [0, 1, 2, 60, 61, 62, 63, 64, 65, 66, 67, 68, 69, 70, 72, 73, 74, 75, 76, 242, 243, 244, 246, 270, 271, 272, 273, 275, 276, 277, 278, 279, 280, 330, 331, 332, 333, 334, 999] σ0 σ526 := X520.tr (e530.mo (by decide))
          have X572 : ExC [0, 1, 2, 60, 61, 62, 63, 64, 65, 66, 67, 68, 69, 70, 72, 73, 74, 75, 76, 242, 243, 244, 246, 270, 271, 272, 273, 275, 276, 277, 278, 279, 280, 330, 331, 332, 333, 334, 999] σ0 σ553 := X571.tr (e555.mo (by decide))
          have t573 := t505.x e502
          have t574 := t573.x e509
          have t575 := t574.x e530
          have t576 := t575.x e555
          have R577 : RdC p0 none (-48) (-10 + 8 * (d : Int)) (-998) σ0 σ553 := R549.tr ⟨(e555.gw H529.1 (by decide)), (e555.cou (u := 0) H529.1 t540 (by decide) (by rw [e555.cn (by decide)]; omega))⟩ (by omega) (by omega) (by omega) (by omega)
          have c578 := (t540.mi e555 (by decide)).trans c543
          have c579 := (t540.mi e555 (by decide)).trans c537
          have c580 := (t505.mi e502 (by decide)).trans c499
          have c581 := (t573.mi e509 (by decide)).trans c580
          have c582 := (t574.mi e530 (by decide)).trans c581
          have c583 := (t575.mi e555 (by decide)).trans c582
          have c584 := (t505.mi e502 (by decide)).trans c491
          have c585 := (t573.mi e509 (by decide)).trans c584
          have c586 := (t574.mi e530 (by decide)).trans c585
          have c587 := (t575.mi e555 (by decide)).trans c586
          exact ⟨_, rfl, H554, X572, t576, (R577.mo (by omega) (by omega) (by omega)), (by omega), (by rw [c583] <;> omega), (by rw [c587] <;> omega)⟩
        · have R588 := R515.nf (-1000) (-1000) (q534 (by omega)).1
          have R589 : RdC p0 none (-56) (-48) (-1000) σ0 σ526 := R588.tr ⟨(q534 (by omega)).2.1, (q534 (by omega)).2.2⟩ (by omega) (by omega) (by omega) (by omega)
          have z590 := R589.2.2.1
          have z591 := R589.2.2.2.1 rd_at
          refine k_if_eq (fun h592 => by exfalso; omega) (fun h592 => ?_)
          refine k_nil ?_
          refine hB _ _ _ _ (kgoC (is := KX7_readTry_122) rfl ?_)
          refine k_aload_n rfl ?_
          refine k_aload_n rfl ?_
          refine k_iload_n rfl ?_
          have X593 : ExC [0, 1, 2, 60, 61, 62, 63, 64, 65, 66, 67, 68, 69, 70, 72, 73, 74, 75, 76, 242, 243, 244, 246, 270, 271, 272, 273, 275, 276, 277, 278, 279, 280, 330, 331, 332, 333, 334, 999] σ0 σ526 := X520.tr (e530.mo (by decide))
          refine k_inv (P := (P_X7_readBody d)) (Q := (Q_X7_readBody d)) rfl rfl rfl rfl (Nat.le_of_ble_eq_true rfl) (t540.rc (by decide)) ⟨_, _, rfl, H529, t540, (by omega), (by omega), (rd_cd.st H0 h_0_0 X593 R589.1 (by decide)), (R589.2.2.2.1 rd_at), (rd_bg.st H0 h_0_0 X593 R589 (by decide) (by omega) (by omega) (by omega)), (by omega)⟩ (fun w594 σ595 q596 => ?_)
          obtain ⟨a597, rfl, H598, e599, h601, R600, q602, q603, q604⟩ := q596
          have t610 := t540.x e599
          obtain ⟨x605, e606, c607, h608, h609⟩ := cg242 H598.1 t610
          obtain ⟨x611, e612, c613, h614, h615⟩ := cg243 H598.1 t610
          have z616 := congrArg Int32.toInt c607
          have z617 := congrArg Int32.toInt c613
          refine k_st (st' := [.inr (.inr (some a597)), .inr (.inr (some a20))]) rfl ?_
          have z618 := R589.1.1
          obtain ⟨x619, e620, c621, h622, h623⟩ := cg272 H598.1 h601
          rw [c621] at q603
          obtain ⟨x624, e625, c626, h627, h628⟩ := cg270 H598.1 h601
          rw [c626] at q604
          have R629 : RdC p0 none (-62) (-38 + 8 * (d : Int)) (-998) σ0 σ595 := R589.tr ⟨R600.1, R600.2⟩ (by omega) (by omega) (by omega) (by omega)
          have z630 := R629.2.2.1
          have z631 := R629.2.2.2.1 rd_at
          have c632 := (t505.mi e502 (by decide)).trans c491
          have t633 := t505.x e502
          have c634 := (t633.mi e509 (by decide)).trans c632
          have t635 := t633.x e509
          have c636 := (t635.mi e530 (by decide)).trans c634
          have t637 := t635.x e530
          have c638 := (t637.fi e599 (by decide) (by decide)).trans c636
          have c639 := (t505.mi e502 (by decide)).trans c499
          have c640 := (t633.mi e509 (by decide)).trans c639
          have c641 := (t635.mi e530 (by decide)).trans c640
          have c642 := (t637.fi e599 (by decide) (by decide)).trans c641
          have z647 := t637.1
          have t648 := t637.x e599
          refine k_p278 H598 t648 (h601.ot) (fun z hz => by cases hz; exact ⟨by omega, by unfold LvC; rw [c638, c642, c626, c621]; omega⟩) (fun σ643 H644 e645 c646 => ?_)
          refine k_nil ?_
          refine hB _ _ _ _ (kgoC (is := KX7_readTry_131) rfl ?_)
          refine k_aload_n rfl ?_
          refine k_aload_n rfl ?_
          have t649 := t610.x e645
          have t654 := t37.x e48
          have t655 := t654.x e69
          have t656 := t655.x e85
          have t657 := t656.x e127
          have t658 := t657.x e160
          have t659 := t658.x e342
          have t660 := t659.x e373
          have t661 := t660.x e396
          have t662 := t661.x e408
          have t663 := t662.x e428
          have t664 := t663.x e453
          have t665 := t664.x e502
          have t666 := t665.x e509
          have t667 := t666.x e530
          have t668 := t667.x e599
          have t669 := t668.x e645
          refine k_putR kp246 H644 t649 fk246 (rfo246 (t669)) (fun σ650 H651 e652 c653 => ?_)
          refine k_aload_n rfl ?_
          refine k_areturn ?_
          have X670 : ExC [0, 1, 2, 60, 61, 62, 63, 64, 65, 66, 67, 68, 69, 70, 72, 73, 74, 75, 76, 242, 243, 244, 246, 270, 271, 272, 273, 275, 276, 277, 278, 279, 280, 330, 331, 332, 333, 334, 999] σ0 σ595 := X593.tr (e599.mo (by decide))
          have X671 : ExC [0, 1, 2, 60, 61, 62, 63, 64, 65, 66, 67, 68, 69, 70, 72, 73, 74, 75, 76, 242, 243, 244, 246, 270, 271, 272, 273, 275, 276, 277, 278, 279, 280, 330, 331, 332, 333, 334, 999] σ0 σ643 := X670.tr (e645.mo (by decide))
          have X672 : ExC [0, 1, 2, 60, 61, 62, 63, 64, 65, 66, 67, 68, 69, 70, 72, 73, 74, 75, 76, 242, 243, 244, 246, 270, 271, 272, 273, 275, 276, 277, 278, 279, 280, 330, 331, 332, 333, 334, 999] σ0 σ650 := X671.tr (e652.mo (by decide))
          have t673 := t648.x e645
          have t674 := t673.x e652
          have R675 : RdC p0 none (-62) (-38 + 8 * (d : Int)) (-998) σ0 σ643 := R629.tr ⟨(e645.gw H598.1 (by decide)), (e645.cou (u := 0) H598.1 t610 (by decide) (by rw [e645.cn (by decide)]; omega))⟩ (by omega) (by omega) (by omega) (by omega)
          have R676 : RdC p0 none (-62) (-38 + 8 * (d : Int)) (-998) σ0 σ650 := R675.tr ⟨(e652.gw H644.1 (by decide)), (e652.cou (u := 0) H644.1 t649 (by decide) (by rw [e652.cn (by decide)]; omega))⟩ (by omega) (by omega) (by omega) (by omega)
          have c677 := (t610.mi e645 (by decide)).trans c613
          have c678 := (t649.mi e652 (by decide)).trans c677
          have c679 := (t610.mi e645 (by decide)).trans c607
          have c680 := (t649.mi e652 (by decide)).trans c679
          have c681 := (t648.mi e645 (by decide)).trans c642
          have c682 := (t673.mi e652 (by decide)).trans c681
          have c683 := (t648.mi e645 (by decide)).trans c638
          have c684 := (t673.mi e652 (by decide)).trans c683
          exact ⟨_, rfl, H651, X672, t674, (R676.mo (by omega) (by omega) (by omega)), (by omega), (by rw [c682] <;> omega), (by rw [c684] <;> omega)⟩
    · refine k_nil ?_
      refine hB _ _ _ _ (kgoC (is := KX7_readTry_46) rfl ?_)
      refine k_aload_n rfl ?_
      refine k_inv (P := P_X7_code) (Q := Q_X7_code) rfl rfl rfl rfl (Nat.le_of_ble_eq_true rfl) (t131.rc (by decide)) ⟨_, rfl, H126, t131, (rd_cd.st H0 h_0_0 X135 R132.1 (by decide))⟩ (fun w685 σ686 q687 => ?_)
      obtain ⟨x688, rfl, rfl, q689, q690, q691⟩ := q687
      refine k_st (st' := [.inl x688]) rfl ?_
      refine k_bipush (m := 70) rfl (fun x692 h693 => ?_)
      refine k_ic_eq (fun h694 => ?_) (fun h694 => ?_)
      · have h695 : x97.toInt = 0 := by omega
        refine hB _ _ _ _ (kgoC (is := KX7_readTry_60) rfl ?_)
        refine k_aload_n rfl ?_
        refine k_bipush (m := 69) rfl (fun x696 h697 => ?_)
        have R698 := R132.nf (-1000) (-1000) (by rw [c133]; omega)
        refine k_inv (P := P_X7_takes) (Q := Q_X7_takes) rfl rfl rfl rfl (Nat.le_of_ble_eq_true rfl) (t131.rc (by decide)) ⟨_, _, rfl, H126, t131, (by omega), (by omega), (rd_cd.st H0 h_0_0 X135 R698.1 (by decide)), (R698.2.2.2.1 rd_at), (rd_bg.stn H0 h_0_0 X135 R698 (by decide) (by rw [c133]; omega) (by omega))⟩ (fun w699 σ700 q701 => ?_)
        obtain ⟨x702, rfl, H703, e704, h706, h707, R705, q708⟩ := q701
        have t714 := t131.x e704
        obtain ⟨x709, e710, c711, h712, h713⟩ := cg242 H703.1 t714
        obtain ⟨x715, e716, c717, h718, h719⟩ := cg243 H703.1 t714
        have z720 := congrArg Int32.toInt c711
        have z721 := congrArg Int32.toInt c717
        refine k_st (st' := [.inl x702]) rfl ?_
        rcases (by omega : x702.toInt = 0 ∨ x702.toInt = 1) with g722 | g722
        · have R723 : RdC p0 none (-12) (-12) (-1000) σ0 σ700 := R698.tr ⟨R705.1, R705.2⟩ (by omega) (by omega) (by omega) (by omega)
          have z724 := R723.2.2.1
          have z725 := R723.2.2.2.1 rd_at
          refine k_if_eq (fun h726 => ?_) (fun h726 => by exfalso; omega)
          refine hB _ _ _ _ (kgoC (is := KX7_readTry_113) rfl ?_)
          refine k_aload_n rfl ?_
          refine k_bipush (m := 70) rfl (fun x727 h728 => ?_)
          have X729 : ExC [0, 1, 2, 60, 61, 62, 63, 64, 65, 66, 67, 68, 69, 70, 72, 73, 74, 75, 76, 242, 243, 244, 246, 270, 271, 272, 273, 275, 276, 277, 278, 279, 280, 330, 331, 332, 333, 334, 999] σ0 σ700 := X135.tr (e704.mo (by decide))
          refine k_inv (P := P_X7_takes) (Q := Q_X7_takes) rfl rfl rfl rfl (Nat.le_of_ble_eq_true rfl) (t714.rc (by decide)) ⟨_, _, rfl, H703, t714, (by omega), (by omega), (rd_cd.st H0 h_0_0 X729 R723.1 (by decide)), (R723.2.2.2.1 rd_at), (rd_bg.st H0 h_0_0 X729 R723 (by decide) (by omega) (by omega) (by omega))⟩ (fun w730 σ731 q732 => ?_)
          obtain ⟨x733, rfl, H734, e735, h737, h738, R736, q739⟩ := q732
          have t745 := t714.x e735
          obtain ⟨x740, e741, c742, h743, h744⟩ := cg242 H734.1 t745
          obtain ⟨x746, e747, c748, h749, h750⟩ := cg243 H734.1 t745
          have z751 := congrArg Int32.toInt c742
          have z752 := congrArg Int32.toInt c748
          refine k_st (st' := [.inl x733]) rfl ?_
          rcases (by omega : x733.toInt = 0 ∨ x733.toInt = 1) with g753 | g753
          · have R754 : RdC p0 none (-12) (-12) (-1000) σ0 σ731 := R723.tr ⟨R736.1, R736.2⟩ (by omega) (by omega) (by omega) (by omega)
            have z755 := R754.2.2.1
            have z756 := R754.2.2.2.1 rd_at
            refine k_if_eq (fun h757 => ?_) (fun h757 => by exfalso; omega)
            refine hB _ _ _ _ (kgoC (is := KX7_readTry_131) rfl ?_)
            refine k_aload_n rfl ?_
            refine k_aload_n rfl ?_
            have t762 := t37.x e48
            have t763 := t762.x e69
            have t764 := t763.x e85
            have t765 := t764.x e127
            have t766 := t765.x e704
            have t767 := t766.x e735
            refine k_putR kp246 H734 t745 fk246 (rfo246 (t767)) (fun σ758 H759 e760 c761 => ?_)
            refine k_aload_n rfl ?_
            refine k_areturn ?_
            have X768 : ExC [0, 1, 2, 60, 61, 62, 63, 64, 65, 66, 67, 68, 69, 70, 72, 73, 74, 75, 76, 242, 243, 244, 246, 270, 271, 272, 273, 275, 276, 277, 278, 279, 280, 330, 331, 332, 333, 334, 999] σ0 σ731 := X729.tr (e735.mo (by decide))
            have X769 : ExC [0, 1, 2, 60, 61, 62, 63, 64, 65, 66, 67, 68, 69, 70, 72, 73, 74, 75, 76, 242, 243, 244, 246, 270, 271, 272, 273, 275, 276, 277, 278, 279, 280, 330, 331, 332, 333, 334, 999] σ0 σ758 := X768.tr (e760.mo (by decide))
            have t770 := t130.x e127
            have t771 := t770.x e704
            have t772 := t771.x e735
            have t773 := t772.x e760
            have R774 : RdC p0 none (-12) (-12) (-1000) σ0 σ758 := R754.tr ⟨(e760.gw H734.1 (by decide)), (e760.cou (u := 0) H734.1 t745 (by decide) (by rw [e760.cn (by decide)]; omega))⟩ (by omega) (by omega) (by omega) (by omega)
            have c775 := (t745.mi e760 (by decide)).trans c748
            have c776 := (t745.mi e760 (by decide)).trans c742
            have c777 := (t130.mi e127 (by decide)).trans c124
            have c778 := (t770.mi e704 (by decide)).trans c777
            have c779 := (t771.mi e735 (by decide)).trans c778
            have c780 := (t772.mi e760 (by decide)).trans c779
            have c781 := (t130.mi e127 (by decide)).trans c121
            have c782 := (t770.mi e704 (by decide)).trans c781
            have c783 := (t771.mi e735 (by decide)).trans c782
            have c784 := (t772.mi e760 (by decide)).trans c783
            exact ⟨_, rfl, H759, X769, t773, (R774.mo (by omega) (by omega) (by omega)), (by omega), (by rw [c780] <;> omega), (by rw [c784] <;> omega)⟩
          · have R785 := R723.nf (-1000) (-1000) (q739 (by omega)).1
            have R786 : RdC p0 none (-20) (-12) (-1000) σ0 σ731 := R785.tr ⟨(q739 (by omega)).2.1, (q739 (by omega)).2.2⟩ (by omega) (by omega) (by omega) (by omega)
            have z787 := R786.2.2.1
            have z788 := R786.2.2.2.1 rd_at
            refine k_if_eq (fun h789 => by exfalso; omega) (fun h789 => ?_)
            refine k_nil ?_
            refine hB _ _ _ _ (kgoC (is := KX7_readTry_122) rfl ?_)
            refine k_aload_n rfl ?_
            refine k_aload_n rfl ?_
            refine k_iload_n rfl ?_
            have X790 : ExC [0, 1, 2, 60, 61, 62, 63, 64, 65, 66, 67, 68, 69, 70, 72, 73, 74, 75, 76, 242, 243, 244, 246, 270, 271, 272, 273, 275, 276, 277, 278, 279, 280, 330, 331, 332, 333, 334, 999] σ0 σ731 := X729.tr (e735.mo (by decide))
            refine k_inv (P := (P_X7_readBody d)) (Q := (Q_X7_readBody d)) rfl rfl rfl rfl (Nat.le_of_ble_eq_true rfl) (t745.rc (by decide)) ⟨_, _, rfl, H734, t745, (by omega), (by omega), (rd_cd.st H0 h_0_0 X790 R786.1 (by decide)), (R786.2.2.2.1 rd_at), (rd_bg.st H0 h_0_0 X790 R786 (by decide) (by omega) (by omega) (by omega)), (by omega)⟩ (fun w791 σ792 q793 => ?_)
            obtain ⟨a794, rfl, H795, e796, h798, R797, q799, q800, q801⟩ := q793
            have t807 := t745.x e796
            obtain ⟨x802, e803, c804, h805, h806⟩ := cg242 H795.1 t807
            obtain ⟨x808, e809, c810, h811, h812⟩ := cg243 H795.1 t807
            have z813 := congrArg Int32.toInt c804
            have z814 := congrArg Int32.toInt c810
            refine k_st (st' := [.inr (.inr (some a794)), .inr (.inr (some a20))]) rfl ?_
            have z815 := R786.1.1
            obtain ⟨x816, e817, c818, h819, h820⟩ := cg272 H795.1 h798
            rw [c818] at q800
            obtain ⟨x821, e822, c823, h824, h825⟩ := cg270 H795.1 h798
            rw [c823] at q801
            have R826 : RdC p0 none (-26) (-2 + 8 * (d : Int)) (-998) σ0 σ792 := R786.tr ⟨R797.1, R797.2⟩ (by omega) (by omega) (by omega) (by omega)
            have z827 := R826.2.2.1
            have z828 := R826.2.2.2.1 rd_at
            have c829 := (t130.mi e127 (by decide)).trans c121
            have t830 := t130.x e127
            have c831 := (t830.mi e704 (by decide)).trans c829
            have t832 := t830.x e704
            have c833 := (t832.mi e735 (by decide)).trans c831
            have t834 := t832.x e735
            have c835 := (t834.fi e796 (by decide) (by decide)).trans c833
            have c836 := (t130.mi e127 (by decide)).trans c124
            have c837 := (t830.mi e704 (by decide)).trans c836
            have c838 := (t832.mi e735 (by decide)).trans c837
            have c839 := (t834.fi e796 (by decide) (by decide)).trans c838
            have z844 := t834.1
            have t845 := t834.x e796
            refine k_p278 H795 t845 (h798.ot) (fun z hz => by cases hz; exact ⟨by omega, by unfold LvC; rw [c835, c839, c823, c818]; omega⟩) (fun σ840 H841 e842 c843 => ?_)
            refine k_nil ?_
            refine hB _ _ _ _ (kgoC (is := KX7_readTry_131) rfl ?_)
            refine k_aload_n rfl ?_
            refine k_aload_n rfl ?_
            have t846 := t807.x e842
            have t851 := t37.x e48
            have t852 := t851.x e69
            have t853 := t852.x e85
            have t854 := t853.x e127
            have t855 := t854.x e704
            have t856 := t855.x e735
            have t857 := t856.x e796
            have t858 := t857.x e842
            refine k_putR kp246 H841 t846 fk246 (rfo246 (t858)) (fun σ847 H848 e849 c850 => ?_)
            refine k_aload_n rfl ?_
            refine k_areturn ?_
            have X859 : ExC [0, 1, 2, 60, 61, 62, 63, 64, 65, 66, 67, 68, 69, 70, 72, 73, 74, 75, 76, 242, 243, 244, 246, 270, 271, 272, 273, 275, 276, 277, 278, 279, 280, 330, 331, 332, 333, 334, 999] σ0 σ792 := X790.tr (e796.mo (by decide))
            have X860 : ExC [0, 1, 2, 60, 61, 62, 63, 64, 65, 66, 67, 68, 69, 70, 72, 73, 74, 75, 76, 242, 243, 244, 246, 270, 271, 272, 273, 275, 276, 277, 278, 279, 280, 330, 331, 332, 333, 334, 999] σ0 σ840 := X859.tr (e842.mo (by decide))
            have X861 : ExC [0, 1, 2, 60, 61, 62, 63, 64, 65, 66, 67, 68, 69, 70, 72, 73, 74, 75, 76, 242, 243, 244, 246, 270, 271, 272, 273, 275, 276, 277, 278, 279, 280, 330, 331, 332, 333, 334, 999] σ0 σ847 := X860.tr (e849.mo (by decide))
            have t862 := t845.x e842
            have t863 := t862.x e849
            have R864 : RdC p0 none (-26) (-2 + 8 * (d : Int)) (-998) σ0 σ840 := R826.tr ⟨(e842.gw H795.1 (by decide)), (e842.cou (u := 0) H795.1 t807 (by decide) (by rw [e842.cn (by decide)]; omega))⟩ (by omega) (by omega) (by omega) (by omega)
            have R865 : RdC p0 none (-26) (-2 + 8 * (d : Int)) (-998) σ0 σ847 := R864.tr ⟨(e849.gw H841.1 (by decide)), (e849.cou (u := 0) H841.1 t846 (by decide) (by rw [e849.cn (by decide)]; omega))⟩ (by omega) (by omega) (by omega) (by omega)
            have c866 := (t807.mi e842 (by decide)).trans c810
            have c867 := (t846.mi e849 (by decide)).trans c866
            have c868 := (t807.mi e842 (by decide)).trans c804
            have c869 := (t846.mi e849 (by decide)).trans c868
            have c870 := (t845.mi e842 (by decide)).trans c839
            have c871 := (t862.mi e849 (by decide)).trans c870
            have c872 := (t845.mi e842 (by decide)).trans c835
            have c873 := (t862.mi e849 (by decide)).trans c872
            exact ⟨_, rfl, H848, X861, t863, (R865.mo (by omega) (by omega) (by omega)), (by omega), (by rw [c871] <;> omega), (by rw [c873] <;> omega)⟩
        · have R874 := R698.nf (-1000) (-1000) (q708 (by omega)).1
          have R875 : RdC p0 none (-20) (-12) (-1000) σ0 σ700 := R874.tr ⟨(q708 (by omega)).2.1, (q708 (by omega)).2.2⟩ (by omega) (by omega) (by omega) (by omega)
          have z876 := R875.2.2.1
          have z877 := R875.2.2.2.1 rd_at
          refine k_if_eq (fun h878 => by exfalso; omega) (fun h878 => ?_)
          refine k_nil ?_
          refine hB _ _ _ _ (kgoC (is := KX7_readTry_69) rfl ?_)
          refine k_aload_n rfl ?_
          refine k_iconst (m := 0) rfl (fun x879 h880 => ?_)
          have X881 : ExC [0, 1, 2, 60, 61, 62, 63, 64, 65, 66, 67, 68, 69, 70, 72, 73, 74, 75, 76, 242, 243, 244, 246, 270, 271, 272, 273, 275, 276, 277, 278, 279, 280, 330, 331, 332, 333, 334, 999] σ0 σ700 := X135.tr (e704.mo (by decide))
          refine k_inv (P := P_X7_expect) (Q := Q_X7_expect) rfl rfl rfl rfl (Nat.le_of_ble_eq_true rfl) (t714.rc (by decide)) ⟨_, _, rfl, H703, t714, (by omega), (by omega), (rd_cd.st H0 h_0_0 X881 R875.1 (by decide)), (R875.2.2.2.1 rd_at), (rd_bg.st H0 h_0_0 X881 R875 (by decide) (by omega) (by omega) (by omega))⟩ (fun w882 σ883 q884 => ?_)
          obtain ⟨rfl, H885, e886, R887, q888⟩ := q884
          have t894 := t714.x e886
          obtain ⟨x889, e890, c891, h892, h893⟩ := cg242 H885.1 t894
          obtain ⟨x895, e896, c897, h898, h899⟩ := cg243 H885.1 t894
          have z900 := congrArg Int32.toInt c891
          have z901 := congrArg Int32.toInt c897
          refine k_st (st' := []) rfl ?_
          have R902 : RdC p0 none (-28) (-12) (-1000) σ0 σ883 := R875.tr ⟨R887.1, R887.2⟩ (by omega) (by omega) (by omega) (by omega)
          have z903 := R902.2.2.1
          have z904 := R902.2.2.2.1 rd_at
          refine k_aload_n rfl ?_
          refine k_aload_n rfl ?_
          refine k_iconst (m := 3) rfl (fun x905 h906 => ?_)
          refine k_iconst (m := 0) rfl (fun x907 h908 => ?_)
          refine k_iconst (m := 1) rfl (fun x909 h910 => ?_)
          have X911 : ExC [0, 1, 2, 60, 61, 62, 63, 64, 65, 66, 67, 68, 69, 70, 72, 73, 74, 75, 76, 242, 243, 244, 246, 270, 271, 272, 273, 275, 276, 277, 278, 279, 280, 330, 331, 332, 333, 334, 999] σ0 σ883 := X881.tr (e886.mo (by decide))
          refine k_inv (P := P_X7_declare) (Q := Q_X7_declare) rfl rfl rfl rfl (Nat.le_of_ble_eq_true rfl) (t894.rc (by decide)) ⟨_, _, _, _, rfl, H885, t894, (by omega), (by omega), (by omega), (by omega), (rd_cd.st H0 h_0_0 X911 R902.1 (by decide)), (R902.2.2.2.1 rd_at), (rd_bg.st H0 h_0_0 X911 R902 (by decide) (by omega) (by omega) (by omega))⟩ (fun w912 σ913 q914 => ?_)
          obtain ⟨x915, rfl, H916, e917, h919, h920, R918⟩ := q914
          have t926 := t894.x e917
          obtain ⟨x921, e922, c923, h924, h925⟩ := cg242 H916.1 t926
          obtain ⟨x927, e928, c929, h930, h931⟩ := cg243 H916.1 t926
          have z932 := congrArg Int32.toInt c923
          have z933 := congrArg Int32.toInt c929
          refine k_st (st' := [.inl x915, .inr (.inr (some a20))]) rfl ?_
          have t934 := t130.x e127
          have t935 := t934.x e704
          have t936 := t935.x e886
          have t937 := t936.x e917
          have c942 := (t130.mi e127 (by decide)).trans c121
          have c943 := (t934.mi e704 (by decide)).trans c942
          have c944 := (t935.mi e886 (by decide)).trans c943
          have c945 := (t936.mi e917 (by decide)).trans c944
          refine k_p280 H916 t937 (by omega) (by omega) (by rw [c945]; omega) (fun σ938 H939 e940 c941 => ?_)
          refine k_aload_n rfl ?_
          refine k_aload_n rfl ?_
          have t946 := t937.x e940
          refine k_get kg280 t946 (congrArg (Sum.inl : Int32 → AvC) c941) ?_
          have t947 := t926.x e940
          refine k_inv (P := P_X7_know) (Q := Q_X7_know) rfl rfl rfl rfl (Nat.le_of_ble_eq_true rfl) (t947.rc (by decide)) ⟨_, _, rfl, H939, t947⟩ (fun w948 σ949 q950 => ?_)
          obtain ⟨rfl, H951, e952⟩ := q950
          have c953 := (t926.mi e940 (by decide)).trans c923
          have c954 := (t947.mi e952 (by decide)).trans c953
          have c955 := (t926.mi e940 (by decide)).trans c929
          have c956 := (t947.mi e952 (by decide)).trans c955
          have z957 := congrArg Int32.toInt c954
          have z958 := congrArg Int32.toInt c956
          refine k_st (st' := []) rfl ?_
          refine k_aload_n rfl ?_
          refine k_iconst (m := 1) rfl (fun x959 h960 => ?_)
          have t961 := t947.x e952
          have R962 : RdC p0 none (-34) (-12) (-1000) σ0 σ913 := R902.tr ⟨R918.1, R918.2⟩ (by omega) (by omega) (by omega) (by omega)
          have R963 : RdC p0 none (-34) (-12) (-1000) σ0 σ938 := R962.tr ⟨(e940.gw H916.1 (by decide)), (e940.cou (u := 0) H916.1 t926 (by decide) (by rw [e940.cn (by decide)]; omega))⟩ (by omega) (by omega) (by omega) (by omega)
          have R964 : RdC p0 none (-34) (-12) (-1000) σ0 σ949 := R963.tr ⟨(e952.gw H939.1 (by decide)), (e952.cou (u := 0) H939.1 t947 (by decide) (by rw [e952.cn (by decide)]; omega))⟩ (by omega) (by omega) (by omega) (by omega)
          have X965 : ExC [0, 1, 2, 60, 61, 62, 63, 64, 65, 66, 67, 68, 69, 70, 72, 73, 74, 75, 76, 242, 243, 244, 246, 270, 271, 272, 273, 275, 276, 277, 278, 279, 280, 330, 331, 332, 333, 334, 999] σ0 σ913 := X911.tr (e917.mo (by decide))
          have X966 : ExC [0, 1, 2, 60, 61, 62, 63, 64, 65, 66, 67, 68, 69, 70, 72, 73, 74, 75, 76, 242, 243, 244, 246, 270, 271, 272, 273, 275, 276, 277, 278, 279, 280, 330, 331, 332, 333, 334, 999] σ0 σ938 := X965.tr (e940.mo (by decide))
          have X967 : ExC [0, 1, 2, 60, 61, 62, 63, 64, 65, 66, 67, 68, 69, 70, 72, 73, 74, 75, 76, 242, 243, 244, 246, 270, 271, 272, 273, 275, 276, 277, 278, 279, 280, 330, 331, 332, 333, 334, 999] σ0 σ949 := X966.tr (e952.mo (by decide))
          refine k_inv (P := P_X7_expect) (Q := Q_X7_expect) rfl rfl rfl rfl (Nat.le_of_ble_eq_true rfl) (t961.rc (by decide)) ⟨_, _, rfl, H951, t961, (by omega), (by omega), (rd_cd.st H0 h_0_0 X967 R964.1 (by decide)), (R964.2.2.2.1 rd_at), (rd_bg.st H0 h_0_0 X967 R964 (by decide) (by omega) (by omega) (by omega))⟩ (fun w968 σ969 q970 => ?_)
          obtain ⟨rfl, H971, e972, R973, q974⟩ := q970
          have t980 := t961.x e972
          obtain ⟨x975, e976, c977, h978, h979⟩ := cg242 H971.1 t980
          obtain ⟨x981, e982, c983, h984, h985⟩ := cg243 H971.1 t980
          have z986 := congrArg Int32.toInt c977
          have z987 := congrArg Int32.toInt c983
          refine k_st (st' := []) rfl ?_
          have R988 : RdC p0 none (-42) (-12) (-1000) σ0 σ969 := R964.tr ⟨R973.1, R973.2⟩ (by omega) (by omega) (by omega) (by omega)
          have z989 := R988.2.2.1
          have z990 := R988.2.2.2.1 rd_at
          refine k_aload_n rfl ?_
          refine k_aload_n rfl ?_
          refine k_iload_n rfl ?_
          have X991 : ExC [0, 1, 2, 60, 61, 62, 63, 64, 65, 66, 67, 68, 69, 70, 72, 73, 74, 75, 76, 242, 243, 244, 246, 270, 271, 272, 273, 275, 276, 277, 278, 279, 280, 330, 331, 332, 333, 334, 999] σ0 σ969 := X967.tr (e972.mo (by decide))
          refine k_inv (P := (P_X7_readBody d)) (Q := (Q_X7_readBody d)) rfl rfl rfl rfl (Nat.le_of_ble_eq_true rfl) (t980.rc (by decide)) ⟨_, _, rfl, H971, t980, (by omega), (by omega), (rd_cd.st H0 h_0_0 X991 R988.1 (by decide)), (R988.2.2.2.1 rd_at), (rd_bg.st H0 h_0_0 X991 R988 (by decide) (by omega) (by omega) (by omega)), (by omega)⟩ (fun w992 σ993 q994 => ?_)
          obtain ⟨a995, rfl, H996, e997, h999, R998, q1000, q1001, q1002⟩ := q994
          have t1008 := t980.x e997
          obtain ⟨x1003, e1004, c1005, h1006, h1007⟩ := cg242 H996.1 t1008
          obtain ⟨x1009, e1010, c1011, h1012, h1013⟩ := cg243 H996.1 t1008
          have z1014 := congrArg Int32.toInt c1005
          have z1015 := congrArg Int32.toInt c1011
          refine k_st (st' := [.inr (.inr (some a995)), .inr (.inr (some a20))]) rfl ?_
          have z1016 := R988.1.1
          obtain ⟨x1017, e1018, c1019, h1020, h1021⟩ := cg272 H996.1 h999
          rw [c1019] at q1001
          obtain ⟨x1022, e1023, c1024, h1025, h1026⟩ := cg270 H996.1 h999
          rw [c1024] at q1002
          have R1027 : RdC p0 none (-48) (-10 + 8 * (d : Int)) (-998) σ0 σ993 := R988.tr ⟨R998.1, R998.2⟩ (by omega) (by omega) (by omega) (by omega)
          have z1028 := R1027.2.2.1
          have z1029 := R1027.2.2.2.1 rd_at
          have c1030 := (t937.mi e940 (by decide)).trans c945
          have c1031 := (t946.mi e952 (by decide)).trans c1030
          have t1032 := t946.x e952
          have c1033 := (t1032.mi e972 (by decide)).trans c1031
          have t1034 := t1032.x e972
          have c1035 := (t1034.fi e997 (by decide) (by decide)).trans c1033
          have c1036 := (t130.mi e127 (by decide)).trans c124
          have c1037 := (t934.mi e704 (by decide)).trans c1036
          have c1038 := (t935.mi e886 (by decide)).trans c1037
          have c1039 := (t936.mi e917 (by decide)).trans c1038
          have c1040 := (t937.mi e940 (by decide)).trans c1039
          have c1041 := (t946.mi e952 (by decide)).trans c1040
          have c1042 := (t1032.mi e972 (by decide)).trans c1041
          have c1043 := (t1034.fi e997 (by decide) (by decide)).trans c1042
          have z1048 := t1034.1
          have t1049 := t1034.x e997
          refine k_p277 H996 t1049 (h999.ot) (fun z hz => by cases hz; exact ⟨by omega, by unfold LvC; rw [c1035, c1043, c1024, c1019]; omega⟩) (fun σ1044 H1045 e1046 c1047 => ?_)
          refine k_aload_n rfl ?_
          refine k_lload rfl ?_
          have t1050 := t1008.x e1046
          refine k_putL kg245 H1045 t1050 fk245 (fun σ1051 H1052 e1053 c1054 => ?_)
          refine k_nil ?_
          refine hB _ _ _ _ (kgoC (is := KX7_readTry_113) rfl ?_)
          refine k_aload_n rfl ?_
          refine k_bipush (m := 70) rfl (fun x1055 h1056 => ?_)
          have t1057 := t1050.x e1053
          have R1058 : RdC p0 none (-48) (-10 + 8 * (d : Int)) (-998) σ0 σ1044 := R1027.tr ⟨(e1046.gw H996.1 (by decide)), (e1046.cou (u := 0) H996.1 t1008 (by decide) (by rw [e1046.cn (by decide)]; omega))⟩ (by omega) (by omega) (by omega) (by omega)
          have R1059 : RdC p0 none (-48) (-10 + 8 * (d : Int)) (-998) σ0 σ1051 := R1058.tr ⟨(e1053.gw H1045.1 (by decide)), (e1053.cou (u := 0) H1045.1 t1050 (by decide) (by rw [e1053.cn (by decide)]; omega))⟩ (by omega) (by omega) (by omega) (by omega)
          have c1060 := (t1008.mi e1046 (by decide)).trans c1011
          have c1061 := (t1050.mi e1053 (by decide)).trans c1060
          have X1062 : ExC [0, 1, 2, 60, 61, 62, 63, 64, 65, 66, 67, 68, 69, 70, 72, 73, 74, 75, 76, 242, 243, 244, 246, 270, 271, 272, 273, 275, 276, 277, 278, 279, 280, 330, 331, 332, 333, 334, 999] σ0 σ993 := X991.tr (e997.mo (by decide))
          have X1063 : ExC [0, 1, 2, 60, 61, 62, 63, 64, 65, 66, 67, 68, 69, 70, 72, 73, 74, 75, 76, 242, 243, 244, 246, 270, 271, 272, 273, 275, 276, 277, 278, 279, 280, 330, 331, 332, 333, 334, 999] σ0 σ1044 := X1062.tr (e1046.mo (by decide))
          have X1064 : ExC [0, 1, 2, 60, 61, 62, 63, 64, 65, 66, 67, 68, 69, 70, 72, 73, 74, 75, 76, 242, 243, 244, 246, 270, 271, 272, 273, 275, 276, 277, 278, 279, 280, 330, 331, 332, 333, 334, 999] σ0 σ1051 := X1063.tr (e1053.mo (by decide))
          have c1065 := (t1008.mi e1046 (by decide)).trans c1005
          have c1066 := (t1050.mi e1053 (by decide)).trans c1065
          have z1067 := congrArg Int32.toInt c1066
          have z1068 := congrArg Int32.toInt c1061
          refine k_inv (P := P_X7_takes) (Q := Q_X7_takes) rfl rfl rfl rfl (Nat.le_of_ble_eq_true rfl) (t1057.rc (by decide)) ⟨_, _, rfl, H1052, t1057, (by omega), (by omega), (rd_cd.st H0 h_0_0 X1064 R1059.1 (by decide)), (R1059.2.2.2.1 rd_at), (rd_bg.st H0 h_0_0 X1064 R1059 (by decide) (by omega) (by omega) (by omega))⟩ (fun w1069 σ1070 q1071 => ?_)
          obtain ⟨x1072, rfl, H1073, e1074, h1076, h1077, R1075, q1078⟩ := q1071
          have t1084 := t1057.x e1074
          obtain ⟨x1079, e1080, c1081, h1082, h1083⟩ := cg242 H1073.1 t1084
          obtain ⟨x1085, e1086, c1087, h1088, h1089⟩ := cg243 H1073.1 t1084
          have z1090 := congrArg Int32.toInt c1081
          have z1091 := congrArg Int32.toInt c1087
          refine k_st (st' := [.inl x1072]) rfl ?_
          rcases (by omega : x1072.toInt = 0 ∨ x1072.toInt = 1) with g1092 | g1092
          · have R1093 : RdC p0 none (-48) (-10 + 8 * (d : Int)) (-998) σ0 σ1070 := R1059.tr ⟨R1075.1, R1075.2⟩ (by omega) (by omega) (by omega) (by omega)
            have z1094 := R1093.2.2.1
            have z1095 := R1093.2.2.2.1 rd_at
            refine k_if_eq (fun h1096 => ?_) (fun h1096 => by exfalso; omega)
            refine hB _ _ _ _ (kgoC (is := KX7_readTry_131) rfl ?_)
            refine k_aload_n rfl ?_
            refine k_aload_n rfl ?_
            have t1101 := t37.x e48
            have t1102 := t1101.x e69
            have t1103 := t1102.x e85
            have t1104 := t1103.x e127
            have t1105 := t1104.x e704
            have t1106 := t1105.x e886
            have t1107 := t1106.x e917
            have t1108 := t1107.x e940
            have t1109 := t1108.x e952
            have t1110 := t1109.x e972
            have t1111 := t1110.x e997
            have t1112 := t1111.x e1046
            have t1113 := t1112.x e1053
            have t1114 := t1113.x e1074
            refine k_putR kp246 H1073 t1084 fk246 (rfo246 (t1114)) (fun σ1097 H1098 e1099 c1100 => ?_)
            refine k_aload_n rfl ?_
            refine k_areturn ?_
            have X1115 : ExC [0, 1, 2, 60, 61, 62, 63, 64, 65, 66, 67, 68, 69, 70, 72, 73, 74, 75, 76, 242, 243, 244, 246, 270, 271, 272, 273, 275, 276, 277, 278, 279, 280, 330, 331, 332, 333, 334, 999] σ0 σ1070 := X1064.tr (e1074.mo (by decide))
            have X1116 : ExC [0, 1, 2, 60, 61, 62, 63, 64, 65, 66, 67, 68, 69, 70, 72, 73, 74, 75, 76, 242, 243, 244, 246, 270, 271, 272, 273, 275, 276, 277, 278, 279, 280, 330, 331, 332, 333, 334, 999] σ0 σ1097 := X1115.tr (e1099.mo (by decide))
            have t1117 := t1049.x e1046
            have t1118 := t1117.x e1053
            have t1119 := t1118.x e1074
            have t1120 := t1119.x e1099
            have R1121 : RdC p0 none (-48) (-10 + 8 * (d : Int)) (-998) σ0 σ1097 := R1093.tr ⟨(e1099.gw H1073.1 (by decide)), (e1099.cou (u := 0) H1073.1 t1084 (by decide) (by rw [e1099.cn (by decide)]; omega))⟩ (by omega) (by omega) (by omega) (by omega)
            have c1122 := (t1084.mi e1099 (by decide)).trans c1087
            have c1123 := (t1084.mi e1099 (by decide)).trans c1081
            have c1124 := (t1049.mi e1046 (by decide)).trans c1043
            have c1125 := (t1117.mi e1053 (by decide)).trans c1124
            have c1126 := (t1118.mi e1074 (by decide)).trans c1125
            have c1127 := (t1119.mi e1099 (by decide)).trans c1126
            have c1128 := (t1049.mi e1046 (by decide)).trans c1035
            have c1129 := (t1117.mi e1053 (by decide)).trans c1128
            have c1130 := (t1118.mi e1074 (by decide)).trans c1129
            have c1131 := (t1119.mi e1099 (by decide)).trans c1130
            exact ⟨_, rfl, H1098, X1116, t1120, (R1121.mo (by omega) (by omega) (by omega)), (by omega), (by rw [c1127] <;> omega), (by rw [c1131] <;> omega)⟩
          · have R1132 := R1059.nf (-1000) (-1000) (q1078 (by omega)).1
            have R1133 : RdC p0 none (-56) (-48) (-1000) σ0 σ1070 := R1132.tr ⟨(q1078 (by omega)).2.1, (q1078 (by omega)).2.2⟩ (by omega) (by omega) (by omega) (by omega)
            have z1134 := R1133.2.2.1
            have z1135 := R1133.2.2.2.1 rd_at
            refine k_if_eq (fun h1136 => by exfalso; omega) (fun h1136 => ?_)
            refine k_nil ?_
            refine hB _ _ _ _ (kgoC (is := KX7_readTry_122) rfl ?_)
            refine k_aload_n rfl ?_
            refine k_aload_n rfl ?_
            refine k_iload_n rfl ?_
            have X1137 : ExC [0, 1, 2, 60, 61, 62, 63, 64, 65, 66, 67, 68, 69, 70, 72, 73, 74, 75, 76, 242, 243, 244, 246, 270, 271, 272, 273, 275, 276, 277, 278, 279, 280, 330, 331, 332, 333, 334, 999] σ0 σ1070 := X1064.tr (e1074.mo (by decide))
            refine k_inv (P := (P_X7_readBody d)) (Q := (Q_X7_readBody d)) rfl rfl rfl rfl (Nat.le_of_ble_eq_true rfl) (t1084.rc (by decide)) ⟨_, _, rfl, H1073, t1084, (by omega), (by omega), (rd_cd.st H0 h_0_0 X1137 R1133.1 (by decide)), (R1133.2.2.2.1 rd_at), (rd_bg.st H0 h_0_0 X1137 R1133 (by decide) (by omega) (by omega) (by omega)), (by omega)⟩ (fun w1138 σ1139 q1140 => ?_)
            obtain ⟨a1141, rfl, H1142, e1143, h1145, R1144, q1146, q1147, q1148⟩ := q1140
            have t1154 := t1084.x e1143
            obtain ⟨x1149, e1150, c1151, h1152, h1153⟩ := cg242 H1142.1 t1154
            obtain ⟨x1155, e1156, c1157, h1158, h1159⟩ := cg243 H1142.1 t1154
            have z1160 := congrArg Int32.toInt c1151
            have z1161 := congrArg Int32.toInt c1157
            refine k_st (st' := [.inr (.inr (some a1141)), .inr (.inr (some a20))]) rfl ?_
            have z1162 := R1133.1.1
            obtain ⟨x1163, e1164, c1165, h1166, h1167⟩ := cg272 H1142.1 h1145
            rw [c1165] at q1147
            obtain ⟨x1168, e1169, c1170, h1171, h1172⟩ := cg270 H1142.1 h1145
            rw [c1170] at q1148
            have R1173 : RdC p0 none (-62) (-38 + 8 * (d : Int)) (-998) σ0 σ1139 := R1133.tr ⟨R1144.1, R1144.2⟩ (by omega) (by omega) (by omega) (by omega)
            have z1174 := R1173.2.2.1
            have z1175 := R1173.2.2.2.1 rd_at
            have c1176 := (t1049.mi e1046 (by decide)).trans c1035
            have t1177 := t1049.x e1046
            have c1178 := (t1177.mi e1053 (by decide)).trans c1176
            have t1179 := t1177.x e1053
            have c1180 := (t1179.mi e1074 (by decide)).trans c1178
            have t1181 := t1179.x e1074
            have c1182 := (t1181.fi e1143 (by decide) (by decide)).trans c1180
            have c1183 := (t1049.mi e1046 (by decide)).trans c1043
            have c1184 := (t1177.mi e1053 (by decide)).trans c1183
            have c1185 := (t1179.mi e1074 (by decide)).trans c1184
            have c1186 := (t1181.fi e1143 (by decide) (by decide)).trans c1185
            have z1191 := t1181.1
            have t1192 := t1181.x e1143
            refine k_p278 H1142 t1192 (h1145.ot) (fun z hz => by cases hz; exact ⟨by omega, by unfold LvC; rw [c1182, c1186, c1170, c1165]; omega⟩) (fun σ1187 H1188 e1189 c1190 => ?_)
            refine k_nil ?_
            refine hB _ _ _ _ (kgoC (is := KX7_readTry_131) rfl ?_)
            refine k_aload_n rfl ?_
            refine k_aload_n rfl ?_
            have t1193 := t1154.x e1189
            have t1198 := t37.x e48
            have t1199 := t1198.x e69
            have t1200 := t1199.x e85
            have t1201 := t1200.x e127
            have t1202 := t1201.x e704
            have t1203 := t1202.x e886
            have t1204 := t1203.x e917
            have t1205 := t1204.x e940
            have t1206 := t1205.x e952
            have t1207 := t1206.x e972
            have t1208 := t1207.x e997
            have t1209 := t1208.x e1046
            have t1210 := t1209.x e1053
            have t1211 := t1210.x e1074
            have t1212 := t1211.x e1143
            have t1213 := t1212.x e1189
            refine k_putR kp246 H1188 t1193 fk246 (rfo246 (t1213)) (fun σ1194 H1195 e1196 c1197 => ?_)
            refine k_aload_n rfl ?_
            refine k_areturn ?_
            have X1214 : ExC [0, 1, 2, 60, 61, 62, 63, 64, 65, 66, 67, 68, 69, 70, 72, 73, 74, 75, 76, 242, 243, 244, 246, 270, 271, 272, 273, 275, 276, 277, 278, 279, 280, 330, 331, 332, 333, 334, 999] σ0 σ1139 := X1137.tr (e1143.mo (by decide))
            have X1215 : ExC [0, 1, 2, 60, 61, 62, 63, 64, 65, 66, 67, 68, 69, 70, 72, 73, 74, 75, 76, 242, 243, 244, 246, 270, 271, 272, 273, 275, 276, 277, 278, 279, 280, 330, 331, 332, 333, 334, 999] σ0 σ1187 := X1214.tr (e1189.mo (by decide))
            have X1216 : ExC [0, 1, 2, 60, 61, 62, 63, 64, 65, 66, 67, 68, 69, 70, 72, 73, 74, 75, 76, 242, 243, 244, 246, 270, 271, 272, 273, 275, 276, 277, 278, 279, 280, 330, 331, 332, 333, 334, 999] σ0 σ1194 := X1215.tr (e1196.mo (by decide))
            have t1217 := t1192.x e1189
            have t1218 := t1217.x e1196
            have R1219 : RdC p0 none (-62) (-38 + 8 * (d : Int)) (-998) σ0 σ1187 := R1173.tr ⟨(e1189.gw H1142.1 (by decide)), (e1189.cou (u := 0) H1142.1 t1154 (by decide) (by rw [e1189.cn (by decide)]; omega))⟩ (by omega) (by omega) (by omega) (by omega)
            have R1220 : RdC p0 none (-62) (-38 + 8 * (d : Int)) (-998) σ0 σ1194 := R1219.tr ⟨(e1196.gw H1188.1 (by decide)), (e1196.cou (u := 0) H1188.1 t1193 (by decide) (by rw [e1196.cn (by decide)]; omega))⟩ (by omega) (by omega) (by omega) (by omega)
            have c1221 := (t1154.mi e1189 (by decide)).trans c1157
            have c1222 := (t1193.mi e1196 (by decide)).trans c1221
            have c1223 := (t1154.mi e1189 (by decide)).trans c1151
            have c1224 := (t1193.mi e1196 (by decide)).trans c1223
            have c1225 := (t1192.mi e1189 (by decide)).trans c1186
            have c1226 := (t1217.mi e1196 (by decide)).trans c1225
            have c1227 := (t1192.mi e1189 (by decide)).trans c1182
            have c1228 := (t1217.mi e1196 (by decide)).trans c1227
            exact ⟨_, rfl, H1195, X1216, t1218, (R1220.mo (by omega) (by omega) (by omega)), (by omega), (by rw [c1226] <;> omega), (by rw [c1228] <;> omega)⟩
      · refine k_nil ?_
        refine hB _ _ _ _ (kgoC (is := KX7_readTry_55) rfl ?_)
        refine k_aload_n rfl ?_
        refine k_iconst (m := 2) rfl (fun x1229 h1230 => ?_)
        refine k_inv (P := P_X7_raise) (Q := Q_X7_raise) rfl rfl rfl rfl (Nat.le_of_ble_eq_true rfl) (t131.rc (by decide)) ⟨_, _, rfl, H126, t131, (by omega), (by omega), (rd_cd.st H0 h_0_0 X135 R132.1 (by decide)), (R132.2.2.2.1 rd_at), (rd_bg.st H0 h_0_0 X135 R132 (by decide) (by omega) (by omega) (by omega))⟩ (fun w1231 σ1232 q1233 => ?_)
        obtain ⟨rfl, H1234, e1235, R1236, q1237⟩ := q1233
        have c1238 := (t131.mi e1235 (by decide)).trans c145
        have t1244 := t131.x e1235
        obtain ⟨x1239, e1240, c1241, h1242, h1243⟩ := cg243 H1234.1 t1244
        have z1245 := congrArg Int32.toInt c1238
        have z1246 := congrArg Int32.toInt c1241
        refine k_st (st' := []) rfl ?_
        have h1247 : 1 ≤ x1239.toInt := by have hq := q1237; rw [c1241] at hq; omega
        refine k_nil ?_
        refine hB _ _ _ _ (kgoC (is := KX7_readTry_60) rfl ?_)
        refine k_aload_n rfl ?_
        refine k_bipush (m := 69) rfl (fun x1248 h1249 => ?_)
        have R1250 : RdC p0 none (-12) (12 + 8 * (d : Int)) (-998) σ0 σ1232 := R132.tr ⟨R1236.1, R1236.2⟩ (by omega) (by omega) (by omega) (by omega)
        have X1251 : ExC [0, 1, 2, 60, 61, 62, 63, 64, 65, 66, 67, 68, 69, 70, 72, 73, 74, 75, 76, 242, 243, 244, 246, 270, 271, 272, 273, 275, 276, 277, 278, 279, 280, 330, 331, 332, 333, 334, 999] σ0 σ1232 := X135.tr (e1235.mo (by decide))
        refine k_inv (P := P_X7_takes) (Q := Q_X7_takes) rfl rfl rfl rfl (Nat.le_of_ble_eq_true rfl) (t1244.rc (by decide)) ⟨_, _, rfl, H1234, t1244, (by omega), (by omega), (rd_cd.st H0 h_0_0 X1251 R1250.1 (by decide)), (R1250.2.2.2.1 rd_at), (rd_bg.st H0 h_0_0 X1251 R1250 (by decide) (by omega) (by omega) (by omega))⟩ (fun w1252 σ1253 q1254 => ?_)
        obtain ⟨x1255, rfl, H1256, e1257, h1259, h1260, R1258, q1261⟩ := q1254
        have t1267 := t1244.x e1257
        obtain ⟨x1262, e1263, c1264, h1265, h1266⟩ := cg242 H1256.1 t1267
        obtain ⟨x1268, e1269, c1270, h1271, h1272⟩ := cg243 H1256.1 t1267
        have z1273 := congrArg Int32.toInt c1264
        have z1274 := congrArg Int32.toInt c1270
        refine k_st (st' := [.inl x1255]) rfl ?_
        rcases (by omega : x1255.toInt = 0 ∨ x1255.toInt = 1) with g1275 | g1275
        · have R1276 : RdC p0 none (-12) (12 + 8 * (d : Int)) (-998) σ0 σ1253 := R1250.tr ⟨R1258.1, R1258.2⟩ (by omega) (by omega) (by omega) (by omega)
          have z1277 := R1276.2.2.1
          have z1278 := R1276.2.2.2.1 rd_at
          refine k_if_eq (fun h1279 => ?_) (fun h1279 => by exfalso; omega)
          refine hB _ _ _ _ (kgoC (is := KX7_readTry_113) rfl ?_)
          refine k_aload_n rfl ?_
          refine k_bipush (m := 70) rfl (fun x1280 h1281 => ?_)
          have X1282 : ExC [0, 1, 2, 60, 61, 62, 63, 64, 65, 66, 67, 68, 69, 70, 72, 73, 74, 75, 76, 242, 243, 244, 246, 270, 271, 272, 273, 275, 276, 277, 278, 279, 280, 330, 331, 332, 333, 334, 999] σ0 σ1253 := X1251.tr (e1257.mo (by decide))
          refine k_inv (P := P_X7_takes) (Q := Q_X7_takes) rfl rfl rfl rfl (Nat.le_of_ble_eq_true rfl) (t1267.rc (by decide)) ⟨_, _, rfl, H1256, t1267, (by omega), (by omega), (rd_cd.st H0 h_0_0 X1282 R1276.1 (by decide)), (R1276.2.2.2.1 rd_at), (rd_bg.st H0 h_0_0 X1282 R1276 (by decide) (by omega) (by omega) (by omega))⟩ (fun w1283 σ1284 q1285 => ?_)
          obtain ⟨x1286, rfl, H1287, e1288, h1290, h1291, R1289, q1292⟩ := q1285
          have t1298 := t1267.x e1288
          obtain ⟨x1293, e1294, c1295, h1296, h1297⟩ := cg242 H1287.1 t1298
          obtain ⟨x1299, e1300, c1301, h1302, h1303⟩ := cg243 H1287.1 t1298
          have z1304 := congrArg Int32.toInt c1295
          have z1305 := congrArg Int32.toInt c1301
          refine k_st (st' := [.inl x1286]) rfl ?_
          rcases (by omega : x1286.toInt = 0 ∨ x1286.toInt = 1) with g1306 | g1306
          · have R1307 : RdC p0 none (-12) (12 + 8 * (d : Int)) (-998) σ0 σ1284 := R1276.tr ⟨R1289.1, R1289.2⟩ (by omega) (by omega) (by omega) (by omega)
            have z1308 := R1307.2.2.1
            have z1309 := R1307.2.2.2.1 rd_at
            refine k_if_eq (fun h1310 => ?_) (fun h1310 => by exfalso; omega)
            refine hB _ _ _ _ (kgoC (is := KX7_readTry_131) rfl ?_)
            refine k_aload_n rfl ?_
            refine k_aload_n rfl ?_
            have t1315 := t37.x e48
            have t1316 := t1315.x e69
            have t1317 := t1316.x e85
            have t1318 := t1317.x e127
            have t1319 := t1318.x e1235
            have t1320 := t1319.x e1257
            have t1321 := t1320.x e1288
            refine k_putR kp246 H1287 t1298 fk246 (rfo246 (t1321)) (fun σ1311 H1312 e1313 c1314 => ?_)
            refine k_aload_n rfl ?_
            refine k_areturn ?_
            have X1322 : ExC [0, 1, 2, 60, 61, 62, 63, 64, 65, 66, 67, 68, 69, 70, 72, 73, 74, 75, 76, 242, 243, 244, 246, 270, 271, 272, 273, 275, 276, 277, 278, 279, 280, 330, 331, 332, 333, 334, 999] σ0 σ1284 := X1282.tr (e1288.mo (by decide))
            have X1323 : ExC [0, 1, 2, 60, 61, 62, 63, 64, 65, 66, 67, 68, 69, 70, 72, 73, 74, 75, 76, 242, 243, 244, 246, 270, 271, 272, 273, 275, 276, 277, 278, 279, 280, 330, 331, 332, 333, 334, 999] σ0 σ1311 := X1322.tr (e1313.mo (by decide))
            have t1324 := t130.x e127
            have t1325 := t1324.x e1235
            have t1326 := t1325.x e1257
            have t1327 := t1326.x e1288
            have t1328 := t1327.x e1313
            have R1329 : RdC p0 none (-12) (12 + 8 * (d : Int)) (-998) σ0 σ1311 := R1307.tr ⟨(e1313.gw H1287.1 (by decide)), (e1313.cou (u := 0) H1287.1 t1298 (by decide) (by rw [e1313.cn (by decide)]; omega))⟩ (by omega) (by omega) (by omega) (by omega)
            have c1330 := (t1298.mi e1313 (by decide)).trans c1301
            have c1331 := (t1298.mi e1313 (by decide)).trans c1295
            have c1332 := (t130.mi e127 (by decide)).trans c124
            have c1333 := (t1324.mi e1235 (by decide)).trans c1332
            have c1334 := (t1325.mi e1257 (by decide)).trans c1333
            have c1335 := (t1326.mi e1288 (by decide)).trans c1334
            have c1336 := (t1327.mi e1313 (by decide)).trans c1335
            have c1337 := (t130.mi e127 (by decide)).trans c121
            have c1338 := (t1324.mi e1235 (by decide)).trans c1337
            have c1339 := (t1325.mi e1257 (by decide)).trans c1338
            have c1340 := (t1326.mi e1288 (by decide)).trans c1339
            have c1341 := (t1327.mi e1313 (by decide)).trans c1340
            exact ⟨_, rfl, H1312, X1323, t1328, (R1329.mo (by omega) (by omega) (by omega)), (by omega), (by rw [c1336] <;> omega), (by rw [c1341] <;> omega)⟩
          · have R1342 := R1276.nf (-1000) (-1000) (q1292 (by omega)).1
            have R1343 : RdC p0 none (-20) (-12) (-1000) σ0 σ1284 := R1342.tr ⟨(q1292 (by omega)).2.1, (q1292 (by omega)).2.2⟩ (by omega) (by omega) (by omega) (by omega)
            have z1344 := R1343.2.2.1
            have z1345 := R1343.2.2.2.1 rd_at
            refine k_if_eq (fun h1346 => by exfalso; omega) (fun h1346 => ?_)
            refine k_nil ?_
            refine hB _ _ _ _ (kgoC (is := KX7_readTry_122) rfl ?_)
            refine k_aload_n rfl ?_
            refine k_aload_n rfl ?_
            refine k_iload_n rfl ?_
            have X1347 : ExC [0, 1, 2, 60, 61, 62, 63, 64, 65, 66, 67, 68, 69, 70, 72, 73, 74, 75, 76, 242, 243, 244, 246, 270, 271, 272, 273, 275, 276, 277, 278, 279, 280, 330, 331, 332, 333, 334, 999] σ0 σ1284 := X1282.tr (e1288.mo (by decide))
            refine k_inv (P := (P_X7_readBody d)) (Q := (Q_X7_readBody d)) rfl rfl rfl rfl (Nat.le_of_ble_eq_true rfl) (t1298.rc (by decide)) ⟨_, _, rfl, H1287, t1298, (by omega), (by omega), (rd_cd.st H0 h_0_0 X1347 R1343.1 (by decide)), (R1343.2.2.2.1 rd_at), (rd_bg.st H0 h_0_0 X1347 R1343 (by decide) (by omega) (by omega) (by omega)), (by omega)⟩ (fun w1348 σ1349 q1350 => ?_)
            obtain ⟨a1351, rfl, H1352, e1353, h1355, R1354, q1356, q1357, q1358⟩ := q1350
            have t1364 := t1298.x e1353
            obtain ⟨x1359, e1360, c1361, h1362, h1363⟩ := cg242 H1352.1 t1364
            obtain ⟨x1365, e1366, c1367, h1368, h1369⟩ := cg243 H1352.1 t1364
            have z1370 := congrArg Int32.toInt c1361
            have z1371 := congrArg Int32.toInt c1367
            refine k_st (st' := [.inr (.inr (some a1351)), .inr (.inr (some a20))]) rfl ?_
            have z1372 := R1343.1.1
            obtain ⟨x1373, e1374, c1375, h1376, h1377⟩ := cg272 H1352.1 h1355
            rw [c1375] at q1357
            obtain ⟨x1378, e1379, c1380, h1381, h1382⟩ := cg270 H1352.1 h1355
            rw [c1380] at q1358
            have R1383 : RdC p0 none (-26) (-2 + 8 * (d : Int)) (-998) σ0 σ1349 := R1343.tr ⟨R1354.1, R1354.2⟩ (by omega) (by omega) (by omega) (by omega)
            have z1384 := R1383.2.2.1
            have z1385 := R1383.2.2.2.1 rd_at
            have c1386 := (t130.mi e127 (by decide)).trans c121
            have t1387 := t130.x e127
            have c1388 := (t1387.mi e1235 (by decide)).trans c1386
            have t1389 := t1387.x e1235
            have c1390 := (t1389.mi e1257 (by decide)).trans c1388
            have t1391 := t1389.x e1257
            have c1392 := (t1391.mi e1288 (by decide)).trans c1390
            have t1393 := t1391.x e1288
            have c1394 := (t1393.fi e1353 (by decide) (by decide)).trans c1392
            have c1395 := (t130.mi e127 (by decide)).trans c124
            have c1396 := (t1387.mi e1235 (by decide)).trans c1395
            have c1397 := (t1389.mi e1257 (by decide)).trans c1396
            have c1398 := (t1391.mi e1288 (by decide)).trans c1397
            have c1399 := (t1393.fi e1353 (by decide) (by decide)).trans c1398
            have z1404 := t1393.1
            have t1405 := t1393.x e1353
            refine k_p278 H1352 t1405 (h1355.ot) (fun z hz => by cases hz; exact ⟨by omega, by unfold LvC; rw [c1394, c1399, c1380, c1375]; omega⟩) (fun σ1400 H1401 e1402 c1403 => ?_)
            refine k_nil ?_
            refine hB _ _ _ _ (kgoC (is := KX7_readTry_131) rfl ?_)
            refine k_aload_n rfl ?_
            refine k_aload_n rfl ?_
            have t1406 := t1364.x e1402
            have t1411 := t37.x e48
            have t1412 := t1411.x e69
            have t1413 := t1412.x e85
            have t1414 := t1413.x e127
            have t1415 := t1414.x e1235
            have t1416 := t1415.x e1257
            have t1417 := t1416.x e1288
            have t1418 := t1417.x e1353
            have t1419 := t1418.x e1402
            refine k_putR kp246 H1401 t1406 fk246 (rfo246 (t1419)) (fun σ1407 H1408 e1409 c1410 => ?_)
            refine k_aload_n rfl ?_
            refine k_areturn ?_
            have X1420 : ExC [0, 1, 2, 60, 61, 62, 63, 64, 65, 66, 67, 68, 69, 70, 72, 73, 74, 75, 76, 242, 243, 244, 246, 270, 271, 272, 273, 275, 276, 277, 278, 279, 280, 330, 331, 332, 333, 334, 999] σ0 σ1349 := X1347.tr (e1353.mo (by decide))
            have X1421 : ExC [0, 1, 2, 60, 61, 62, 63, 64, 65, 66, 67, 68, 69, 70, 72, 73, 74, 75, 76, 242, 243, 244, 246, 270, 271, 272, 273, 275, 276, 277, 278, 279, 280, 330, 331, 332, 333, 334, 999] σ0 σ1400 := X1420.tr (e1402.mo (by decide))
            have X1422 : ExC [0, 1, 2, 60, 61, 62, 63, 64, 65, 66, 67, 68, 69, 70, 72, 73, 74, 75, 76, 242, 243, 244, 246, 270, 271, 272, 273, 275, 276, 277, 278, 279, 280, 330, 331, 332, 333, 334, 999] σ0 σ1407 := X1421.tr (e1409.mo (by decide))
            have t1423 := t1405.x e1402
            have t1424 := t1423.x e1409
            have R1425 : RdC p0 none (-26) (-2 + 8 * (d : Int)) (-998) σ0 σ1400 := R1383.tr ⟨(e1402.gw H1352.1 (by decide)), (e1402.cou (u := 0) H1352.1 t1364 (by decide) (by rw [e1402.cn (by decide)]; omega))⟩ (by omega) (by omega) (by omega) (by omega)
            have R1426 : RdC p0 none (-26) (-2 + 8 * (d : Int)) (-998) σ0 σ1407 := R1425.tr ⟨(e1409.gw H1401.1 (by decide)), (e1409.cou (u := 0) H1401.1 t1406 (by decide) (by rw [e1409.cn (by decide)]; omega))⟩ (by omega) (by omega) (by omega) (by omega)
            have c1427 := (t1364.mi e1402 (by decide)).trans c1367
            have c1428 := (t1406.mi e1409 (by decide)).trans c1427
            have c1429 := (t1364.mi e1402 (by decide)).trans c1361
            have c1430 := (t1406.mi e1409 (by decide)).trans c1429
            have c1431 := (t1405.mi e1402 (by decide)).trans c1399
            have c1432 := (t1423.mi e1409 (by decide)).trans c1431
            have c1433 := (t1405.mi e1402 (by decide)).trans c1394
            have c1434 := (t1423.mi e1409 (by decide)).trans c1433
            exact ⟨_, rfl, H1408, X1422, t1424, (R1426.mo (by omega) (by omega) (by omega)), (by omega), (by rw [c1432] <;> omega), (by rw [c1434] <;> omega)⟩
        · have R1435 := R1250.nf (-1000) (-1000) (q1261 (by omega)).1
          have R1436 : RdC p0 none (-20) (-12) (-1000) σ0 σ1253 := R1435.tr ⟨(q1261 (by omega)).2.1, (q1261 (by omega)).2.2⟩ (by omega) (by omega) (by omega) (by omega)
          have z1437 := R1436.2.2.1
          have z1438 := R1436.2.2.2.1 rd_at
          refine k_if_eq (fun h1439 => by exfalso; omega) (fun h1439 => ?_)
          refine k_nil ?_
          refine hB _ _ _ _ (kgoC (is := KX7_readTry_69) rfl ?_)
          refine k_aload_n rfl ?_
          refine k_iconst (m := 0) rfl (fun x1440 h1441 => ?_)
          have X1442 : ExC [0, 1, 2, 60, 61, 62, 63, 64, 65, 66, 67, 68, 69, 70, 72, 73, 74, 75, 76, 242, 243, 244, 246, 270, 271, 272, 273, 275, 276, 277, 278, 279, 280, 330, 331, 332, 333, 334, 999] σ0 σ1253 := X1251.tr (e1257.mo (by decide))
          refine k_inv (P := P_X7_expect) (Q := Q_X7_expect) rfl rfl rfl rfl (Nat.le_of_ble_eq_true rfl) (t1267.rc (by decide)) ⟨_, _, rfl, H1256, t1267, (by omega), (by omega), (rd_cd.st H0 h_0_0 X1442 R1436.1 (by decide)), (R1436.2.2.2.1 rd_at), (rd_bg.st H0 h_0_0 X1442 R1436 (by decide) (by omega) (by omega) (by omega))⟩ (fun w1443 σ1444 q1445 => ?_)
          obtain ⟨rfl, H1446, e1447, R1448, q1449⟩ := q1445
          have t1455 := t1267.x e1447
          obtain ⟨x1450, e1451, c1452, h1453, h1454⟩ := cg242 H1446.1 t1455
          obtain ⟨x1456, e1457, c1458, h1459, h1460⟩ := cg243 H1446.1 t1455
          have z1461 := congrArg Int32.toInt c1452
          have z1462 := congrArg Int32.toInt c1458
          refine k_st (st' := []) rfl ?_
          have R1463 : RdC p0 none (-28) (-12) (-1000) σ0 σ1444 := R1436.tr ⟨R1448.1, R1448.2⟩ (by omega) (by omega) (by omega) (by omega)
          have z1464 := R1463.2.2.1
          have z1465 := R1463.2.2.2.1 rd_at
          refine k_aload_n rfl ?_
          refine k_aload_n rfl ?_
          refine k_iconst (m := 3) rfl (fun x1466 h1467 => ?_)
          refine k_iconst (m := 0) rfl (fun x1468 h1469 => ?_)
          refine k_iconst (m := 1) rfl (fun x1470 h1471 => ?_)
          have X1472 : ExC [0, 1, 2, 60, 61, 62, 63, 64, 65, 66, 67, 68, 69, 70, 72, 73, 74, 75, 76, 242, 243, 244, 246, 270, 271, 272, 273, 275, 276, 277, 278, 279, 280, 330, 331, 332, 333, 334, 999] σ0 σ1444 := X1442.tr (e1447.mo (by decide))
          refine k_inv (P := P_X7_declare) (Q := Q_X7_declare) rfl rfl rfl rfl (Nat.le_of_ble_eq_true rfl) (t1455.rc (by decide)) ⟨_, _, _, _, rfl, H1446, t1455, (by omega), (by omega), (by omega), (by omega), (rd_cd.st H0 h_0_0 X1472 R1463.1 (by decide)), (R1463.2.2.2.1 rd_at), (rd_bg.st H0 h_0_0 X1472 R1463 (by decide) (by omega) (by omega) (by omega))⟩ (fun w1473 σ1474 q1475 => ?_)
          obtain ⟨x1476, rfl, H1477, e1478, h1480, h1481, R1479⟩ := q1475
          have t1487 := t1455.x e1478
          obtain ⟨x1482, e1483, c1484, h1485, h1486⟩ := cg242 H1477.1 t1487
          obtain ⟨x1488, e1489, c1490, h1491, h1492⟩ := cg243 H1477.1 t1487
          have z1493 := congrArg Int32.toInt c1484
          have z1494 := congrArg Int32.toInt c1490
          refine k_st (st' := [.inl x1476, .inr (.inr (some a20))]) rfl ?_
          have t1495 := t130.x e127
          have t1496 := t1495.x e1235
          have t1497 := t1496.x e1257
          have t1498 := t1497.x e1447
          have t1499 := t1498.x e1478
          have c1504 := (t130.mi e127 (by decide)).trans c121
          have c1505 := (t1495.mi e1235 (by decide)).trans c1504
          have c1506 := (t1496.mi e1257 (by decide)).trans c1505
          have c1507 := (t1497.mi e1447 (by decide)).trans c1506
          have c1508 := (t1498.mi e1478 (by decide)).trans c1507
          refine k_p280 H1477 t1499 (by omega) (by omega) (by rw [c1508]; omega) (fun σ1500 H1501 e1502 c1503 => ?_)
          refine k_aload_n rfl ?_
          refine k_aload_n rfl ?_
          have t1509 := t1499.x e1502
          refine k_get kg280 t1509 (congrArg (Sum.inl : Int32 → AvC) c1503) ?_
          have t1510 := t1487.x e1502
          refine k_inv (P := P_X7_know) (Q := Q_X7_know) rfl rfl rfl rfl (Nat.le_of_ble_eq_true rfl) (t1510.rc (by decide)) ⟨_, _, rfl, H1501, t1510⟩ (fun w1511 σ1512 q1513 => ?_)
          obtain ⟨rfl, H1514, e1515⟩ := q1513
          have c1516 := (t1487.mi e1502 (by decide)).trans c1484
          have c1517 := (t1510.mi e1515 (by decide)).trans c1516
          have c1518 := (t1487.mi e1502 (by decide)).trans c1490
          have c1519 := (t1510.mi e1515 (by decide)).trans c1518
          have z1520 := congrArg Int32.toInt c1517
          have z1521 := congrArg Int32.toInt c1519
          refine k_st (st' := []) rfl ?_
          refine k_aload_n rfl ?_
          refine k_iconst (m := 1) rfl (fun x1522 h1523 => ?_)
          have t1524 := t1510.x e1515
          have R1525 : RdC p0 none (-34) (-12) (-1000) σ0 σ1474 := R1463.tr ⟨R1479.1, R1479.2⟩ (by omega) (by omega) (by omega) (by omega)
          have R1526 : RdC p0 none (-34) (-12) (-1000) σ0 σ1500 := R1525.tr ⟨(e1502.gw H1477.1 (by decide)), (e1502.cou (u := 0) H1477.1 t1487 (by decide) (by rw [e1502.cn (by decide)]; omega))⟩ (by omega) (by omega) (by omega) (by omega)
          have R1527 : RdC p0 none (-34) (-12) (-1000) σ0 σ1512 := R1526.tr ⟨(e1515.gw H1501.1 (by decide)), (e1515.cou (u := 0) H1501.1 t1510 (by decide) (by rw [e1515.cn (by decide)]; omega))⟩ (by omega) (by omega) (by omega) (by omega)
          have X1528 : ExC [0, 1, 2, 60, 61, 62, 63, 64, 65, 66, 67, 68, 69, 70, 72, 73, 74, 75, 76, 242, 243, 244, 246, 270, 271, 272, 273, 275, 276, 277, 278, 279, 280, 330, 331, 332, 333, 334, 999] σ0 σ1474 := X1472.tr (e1478.mo (by decide))
          have X1529 : ExC [0, 1, 2, 60, 61, 62, 63, 64, 65, 66, 67, 68, 69, 70, 72, 73, 74, 75, 76, 242, 243, 244, 246, 270, 271, 272, 273, 275, 276, 277, 278, 279, 280, 330, 331, 332, 333, 334, 999] σ0 σ1500 := X1528.tr (e1502.mo (by decide))
          have X1530 : ExC [0, 1, 2, 60, 61, 62, 63, 64, 65, 66, 67, 68, 69, 70, 72, 73, 74, 75, 76, 242, 243, 244, 246, 270, 271, 272, 273, 275, 276, 277, 278, 279, 280, 330, 331, 332, 333, 334, 999] σ0 σ1512 := X1529.tr (e1515.mo (by decide))
          refine k_inv (P := P_X7_expect) (Q := Q_X7_expect) rfl rfl rfl rfl (Nat.le_of_ble_eq_true rfl) (t1524.rc (by decide)) ⟨_, _, rfl, H1514, t1524, (by omega), (by omega), (rd_cd.st H0 h_0_0 X1530 R1527.1 (by decide)), (R1527.2.2.2.1 rd_at), (rd_bg.st H0 h_0_0 X1530 R1527 (by decide) (by omega) (by omega) (by omega))⟩ (fun w1531 σ1532 q1533 => ?_)
          obtain ⟨rfl, H1534, e1535, R1536, q1537⟩ := q1533
          have t1543 := t1524.x e1535
          obtain ⟨x1538, e1539, c1540, h1541, h1542⟩ := cg242 H1534.1 t1543
          obtain ⟨x1544, e1545, c1546, h1547, h1548⟩ := cg243 H1534.1 t1543
          have z1549 := congrArg Int32.toInt c1540
          have z1550 := congrArg Int32.toInt c1546
          refine k_st (st' := []) rfl ?_
          have R1551 : RdC p0 none (-42) (-12) (-1000) σ0 σ1532 := R1527.tr ⟨R1536.1, R1536.2⟩ (by omega) (by omega) (by omega) (by omega)
          have z1552 := R1551.2.2.1
          have z1553 := R1551.2.2.2.1 rd_at
          refine k_aload_n rfl ?_
          refine k_aload_n rfl ?_
          refine k_iload_n rfl ?_
          have X1554 : ExC [0, 1, 2, 60, 61, 62, 63, 64, 65, 66, 67, 68, 69, 70, 72, 73, 74, 75, 76, 242, 243, 244, 246, 270, 271, 272, 273, 275, 276, 277, 278, 279, 280, 330, 331, 332, 333, 334, 999] σ0 σ1532 := X1530.tr (e1535.mo (by decide))
          refine k_inv (P := (P_X7_readBody d)) (Q := (Q_X7_readBody d)) rfl rfl rfl rfl (Nat.le_of_ble_eq_true rfl) (t1543.rc (by decide)) ⟨_, _, rfl, H1534, t1543, (by omega), (by omega), (rd_cd.st H0 h_0_0 X1554 R1551.1 (by decide)), (R1551.2.2.2.1 rd_at), (rd_bg.st H0 h_0_0 X1554 R1551 (by decide) (by omega) (by omega) (by omega)), (by omega)⟩ (fun w1555 σ1556 q1557 => ?_)
          obtain ⟨a1558, rfl, H1559, e1560, h1562, R1561, q1563, q1564, q1565⟩ := q1557
          have t1571 := t1543.x e1560
          obtain ⟨x1566, e1567, c1568, h1569, h1570⟩ := cg242 H1559.1 t1571
          obtain ⟨x1572, e1573, c1574, h1575, h1576⟩ := cg243 H1559.1 t1571
          have z1577 := congrArg Int32.toInt c1568
          have z1578 := congrArg Int32.toInt c1574
          refine k_st (st' := [.inr (.inr (some a1558)), .inr (.inr (some a20))]) rfl ?_
          have z1579 := R1551.1.1
          obtain ⟨x1580, e1581, c1582, h1583, h1584⟩ := cg272 H1559.1 h1562
          rw [c1582] at q1564
          obtain ⟨x1585, e1586, c1587, h1588, h1589⟩ := cg270 H1559.1 h1562
          rw [c1587] at q1565
          have R1590 : RdC p0 none (-48) (-10 + 8 * (d : Int)) (-998) σ0 σ1556 := R1551.tr ⟨R1561.1, R1561.2⟩ (by omega) (by omega) (by omega) (by omega)
          have z1591 := R1590.2.2.1
          have z1592 := R1590.2.2.2.1 rd_at
          have c1593 := (t1499.mi e1502 (by decide)).trans c1508
          have c1594 := (t1509.mi e1515 (by decide)).trans c1593
          have t1595 := t1509.x e1515
          have c1596 := (t1595.mi e1535 (by decide)).trans c1594
          have t1597 := t1595.x e1535
          have c1598 := (t1597.fi e1560 (by decide) (by decide)).trans c1596
          have c1599 := (t130.mi e127 (by decide)).trans c124
          have c1600 := (t1495.mi e1235 (by decide)).trans c1599
          have c1601 := (t1496.mi e1257 (by decide)).trans c1600
          have c1602 := (t1497.mi e1447 (by decide)).trans c1601
          have c1603 := (t1498.mi e1478 (by decide)).trans c1602
          have c1604 := (t1499.mi e1502 (by decide)).trans c1603
          have c1605 := (t1509.mi e1515 (by decide)).trans c1604
          have c1606 := (t1595.mi e1535 (by decide)).trans c1605
          have c1607 := (t1597.fi e1560 (by decide) (by decide)).trans c1606
          have z1612 := t1597.1
          have t1613 := t1597.x e1560
          refine k_p277 H1559 t1613 (h1562.ot) (fun z hz => by cases hz; exact ⟨by omega, by unfold LvC; rw [c1598, c1607, c1587, c1582]; omega⟩) (fun σ1608 H1609 e1610 c1611 => ?_)
          refine k_aload_n rfl ?_
          refine k_lload rfl ?_
          have t1614 := t1571.x e1610
          refine k_putL kg245 H1609 t1614 fk245 (fun σ1615 H1616 e1617 c1618 => ?_)
          refine k_nil ?_
          refine hB _ _ _ _ (kgoC (is := KX7_readTry_113) rfl ?_)
          refine k_aload_n rfl ?_
          refine k_bipush (m := 70) rfl (fun x1619 h1620 => ?_)
          have t1621 := t1614.x e1617
          have R1622 : RdC p0 none (-48) (-10 + 8 * (d : Int)) (-998) σ0 σ1608 := R1590.tr ⟨(e1610.gw H1559.1 (by decide)), (e1610.cou (u := 0) H1559.1 t1571 (by decide) (by rw [e1610.cn (by decide)]; omega))⟩ (by omega) (by omega) (by omega) (by omega)
          have R1623 : RdC p0 none (-48) (-10 + 8 * (d : Int)) (-998) σ0 σ1615 := R1622.tr ⟨(e1617.gw H1609.1 (by decide)), (e1617.cou (u := 0) H1609.1 t1614 (by decide) (by rw [e1617.cn (by decide)]; omega))⟩ (by omega) (by omega) (by omega) (by omega)
          have c1624 := (t1571.mi e1610 (by decide)).trans c1574
          have c1625 := (t1614.mi e1617 (by decide)).trans c1624
          have X1626 : ExC [0, 1, 2, 60, 61, 62, 63, 64, 65, 66, 67, 68, 69, 70, 72, 73, 74, 75, 76, 242, 243, 244, 246, 270, 271, 272, 273, 275, 276, 277, 278, 279, 280, 330, 331, 332, 333, 334, 999] σ0 σ1556 := X1554.tr (e1560.mo (by decide))
          have X1627 : ExC [0, 1, 2, 60, 61, 62, 63, 64, 65, 66, 67, 68, 69, 70, 72, 73, 74, 75, 76, 242, 243, 244, 246, 270, 271, 272, 273, 275, 276, 277, 278, 279, 280, 330, 331, 332, 333, 334, 999] σ0 σ1608 := X1626.tr (e1610.mo (by decide))
          have X1628 : ExC [0, 1, 2, 60, 61, 62, 63, 64, 65, 66, 67, 68, 69, 70, 72, 73, 74, 75, 76, 242, 243, 244, 246, 270, 271, 272, 273, 275, 276, 277, 278, 279, 280, 330, 331, 332, 333, 334, 999] σ0 σ1615 := X1627.tr (e1617.mo (by decide))
          have c1629 := (t1571.mi e1610 (by decide)).trans c1568
          have c1630 := (t1614.mi e1617 (by decide)).trans c1629
          have z1631 := congrArg Int32.toInt c1630
          have z1632 := congrArg Int32.toInt c1625
          refine k_inv (P := P_X7_takes) (Q := Q_X7_takes) rfl rfl rfl rfl (Nat.le_of_ble_eq_true rfl) (t1621.rc (by decide)) ⟨_, _, rfl, H1616, t1621, (by omega), (by omega), (rd_cd.st H0 h_0_0 X1628 R1623.1 (by decide)), (R1623.2.2.2.1 rd_at), (rd_bg.st H0 h_0_0 X1628 R1623 (by decide) (by omega) (by omega) (by omega))⟩ (fun w1633 σ1634 q1635 => ?_)
          obtain ⟨x1636, rfl, H1637, e1638, h1640, h1641, R1639, q1642⟩ := q1635
          have t1648 := t1621.x e1638
          obtain ⟨x1643, e1644, c1645, h1646, h1647⟩ := cg242 H1637.1 t1648
          obtain ⟨x1649, e1650, c1651, h1652, h1653⟩ := cg243 H1637.1 t1648
          have z1654 := congrArg Int32.toInt c1645
          have z1655 := congrArg Int32.toInt c1651
          refine k_st (st' := [.inl x1636]) rfl ?_
          rcases (by omega : x1636.toInt = 0 ∨ x1636.toInt = 1) with g1656 | g1656
          · have R1657 : RdC p0 none (-48) (-10 + 8 * (d : Int)) (-998) σ0 σ1634 := R1623.tr ⟨R1639.1, R1639.2⟩ (by omega) (by omega) (by omega) (by omega)
            have z1658 := R1657.2.2.1
            have z1659 := R1657.2.2.2.1 rd_at
            refine k_if_eq (fun h1660 => ?_) (fun h1660 => by exfalso; omega)
            refine hB _ _ _ _ (kgoC (is := KX7_readTry_131) rfl ?_)
            refine k_aload_n rfl ?_
            refine k_aload_n rfl ?_
            have t1665 := t37.x e48
            have t1666 := t1665.x e69
            have t1667 := t1666.x e85
            have t1668 := t1667.x e127
            have t1669 := t1668.x e1235
            have t1670 := t1669.x e1257
            have t1671 := t1670.x e1447
            have t1672 := t1671.x e1478
            have t1673 := t1672.x e1502
            have t1674 := t1673.x e1515
            have t1675 := t1674.x e1535
            have t1676 := t1675.x e1560
            have t1677 := t1676.x e1610
            have t1678 := t1677.x e1617
            have t1679 := t1678.x e1638
            refine k_putR kp246 H1637 t1648 fk246 (rfo246 (t1679)) (fun σ1661 H1662 e1663 c1664 => ?_)
            refine k_aload_n rfl ?_
            refine k_areturn ?_
            have X1680 : ExC [0, 1, 2, 60, 61, 62, 63, 64, 65, 66, 67, 68, 69, 70, 72, 73, 74, 75, 76, 242, 243, 244, 246, 270, 271, 272, 273, 275, 276, 277, 278, 279, 280, 330, 331, 332, 333, 334, 999] σ0 σ1634 := X1628.tr (e1638.mo (by decide))
            have X1681 : ExC [0, 1, 2, 60, 61, 62, 63, 64, 65, 66, 67, 68, 69, 70, 72, 73, 74, 75, 76, 242, 243, 244, 246, 270, 271, 272, 273, 275, 276, 277, 278, 279, 280, 330, 331, 332, 333, 334, 999] σ0 σ1661 := X1680.tr (e1663.mo (by decide))
            have t1682 := t1613.x e1610
            have t1683 := t1682.x e1617
            have t1684 := t1683.x e1638
            have t1685 := t1684.x e1663
            have R1686 : RdC p0 none (-48) (-10 + 8 * (d : Int)) (-998) σ0 σ1661 := R1657.tr ⟨(e1663.gw H1637.1 (by decide)), (e1663.cou (u := 0) H1637.1 t1648 (by decide) (by rw [e1663.cn (by decide)]; omega))⟩ (by omega) (by omega) (by omega) (by omega)
            have c1687 := (t1648.mi e1663 (by decide)).trans c1651
            have c1688 := (t1648.mi e1663 (by decide)).trans c1645
            have c1689 := (t1613.mi e1610 (by decide)).trans c1607
            have c1690 := (t1682.mi e1617 (by decide)).trans c1689
            have c1691 := (t1683.mi e1638 (by decide)).trans c1690
            have c1692 := (t1684.mi e1663 (by decide)).trans c1691
            have c1693 := (t1613.mi e1610 (by decide)).trans c1598
            have c1694 := (t1682.mi e1617 (by decide)).trans c1693
            have c1695 := (t1683.mi e1638 (by decide)).trans c1694
            have c1696 := (t1684.mi e1663 (by decide)).trans c1695
            exact ⟨_, rfl, H1662, X1681, t1685, (R1686.mo (by omega) (by omega) (by omega)), (by omega), (by rw [c1692] <;> omega), (by rw [c1696] <;> omega)⟩
          · have R1697 := R1623.nf (-1000) (-1000) (q1642 (by omega)).1
            have R1698 : RdC p0 none (-56) (-48) (-1000) σ0 σ1634 := R1697.tr ⟨(q1642 (by omega)).2.1, (q1642 (by omega)).2.2⟩ (by omega) (by omega) (by omega) (by omega)
            have z1699 := R1698.2.2.1
            have z1700 := R1698.2.2.2.1 rd_at
            refine k_if_eq (fun h1701 => by exfalso; omega) (fun h1701 => ?_)
            refine k_nil ?_
            refine hB _ _ _ _ (kgoC (is := KX7_readTry_122) rfl ?_)
            refine k_aload_n rfl ?_
            refine k_aload_n rfl ?_
            refine k_iload_n rfl ?_
            have X1702 : ExC [0, 1, 2, 60, 61, 62, 63, 64, 65, 66, 67, 68, 69, 70, 72, 73, 74, 75, 76, 242, 243, 244, 246, 270, 271, 272, 273, 275, 276, 277, 278, 279, 280, 330, 331, 332, 333, 334, 999] σ0 σ1634 := X1628.tr (e1638.mo (by decide))
            refine k_inv (P := (P_X7_readBody d)) (Q := (Q_X7_readBody d)) rfl rfl rfl rfl (Nat.le_of_ble_eq_true rfl) (t1648.rc (by decide)) ⟨_, _, rfl, H1637, t1648, (by omega), (by omega), (rd_cd.st H0 h_0_0 X1702 R1698.1 (by decide)), (R1698.2.2.2.1 rd_at), (rd_bg.st H0 h_0_0 X1702 R1698 (by decide) (by omega) (by omega) (by omega)), (by omega)⟩ (fun w1703 σ1704 q1705 => ?_)
            obtain ⟨a1706, rfl, H1707, e1708, h1710, R1709, q1711, q1712, q1713⟩ := q1705
            have t1719 := t1648.x e1708
            obtain ⟨x1714, e1715, c1716, h1717, h1718⟩ := cg242 H1707.1 t1719
            obtain ⟨x1720, e1721, c1722, h1723, h1724⟩ := cg243 H1707.1 t1719
            have z1725 := congrArg Int32.toInt c1716
            have z1726 := congrArg Int32.toInt c1722
            refine k_st (st' := [.inr (.inr (some a1706)), .inr (.inr (some a20))]) rfl ?_
            have z1727 := R1698.1.1
            obtain ⟨x1728, e1729, c1730, h1731, h1732⟩ := cg272 H1707.1 h1710
            rw [c1730] at q1712
            obtain ⟨x1733, e1734, c1735, h1736, h1737⟩ := cg270 H1707.1 h1710
            rw [c1735] at q1713
            have R1738 : RdC p0 none (-62) (-38 + 8 * (d : Int)) (-998) σ0 σ1704 := R1698.tr ⟨R1709.1, R1709.2⟩ (by omega) (by omega) (by omega) (by omega)
            have z1739 := R1738.2.2.1
            have z1740 := R1738.2.2.2.1 rd_at
            have c1741 := (t1613.mi e1610 (by decide)).trans c1598
            have t1742 := t1613.x e1610
            have c1743 := (t1742.mi e1617 (by decide)).trans c1741
            have t1744 := t1742.x e1617
            have c1745 := (t1744.mi e1638 (by decide)).trans c1743
            have t1746 := t1744.x e1638
            have c1747 := (t1746.fi e1708 (by decide) (by decide)).trans c1745
            have c1748 := (t1613.mi e1610 (by decide)).trans c1607
            have c1749 := (t1742.mi e1617 (by decide)).trans c1748
            have c1750 := (t1744.mi e1638 (by decide)).trans c1749
            have c1751 := (t1746.fi e1708 (by decide) (by decide)).trans c1750
            have z1756 := t1746.1
            have t1757 := t1746.x e1708
            refine k_p278 H1707 t1757 (h1710.ot) (fun z hz => by cases hz; exact ⟨by omega, by unfold LvC; rw [c1747, c1751, c1735, c1730]; omega⟩) (fun σ1752 H1753 e1754 c1755 => ?_)
            refine k_nil ?_
            refine hB _ _ _ _ (kgoC (is := KX7_readTry_131) rfl ?_)
            refine k_aload_n rfl ?_
            refine k_aload_n rfl ?_
            have t1758 := t1719.x e1754
            have t1763 := t37.x e48
            have t1764 := t1763.x e69
            have t1765 := t1764.x e85
            have t1766 := t1765.x e127
            have t1767 := t1766.x e1235
            have t1768 := t1767.x e1257
            have t1769 := t1768.x e1447
            have t1770 := t1769.x e1478
            have t1771 := t1770.x e1502
            have t1772 := t1771.x e1515
            have t1773 := t1772.x e1535
            have t1774 := t1773.x e1560
            have t1775 := t1774.x e1610
            have t1776 := t1775.x e1617
            have t1777 := t1776.x e1638
            have t1778 := t1777.x e1708
            have t1779 := t1778.x e1754
            refine k_putR kp246 H1753 t1758 fk246 (rfo246 (t1779)) (fun σ1759 H1760 e1761 c1762 => ?_)
            refine k_aload_n rfl ?_
            refine k_areturn ?_
            have X1780 : ExC [0, 1, 2, 60, 61, 62, 63, 64, 65, 66, 67, 68, 69, 70, 72, 73, 74, 75, 76, 242, 243, 244, 246, 270, 271, 272, 273, 275, 276, 277, 278, 279, 280, 330, 331, 332, 333, 334, 999] σ0 σ1704 := X1702.tr (e1708.mo (by decide))
            have X1781 : ExC [0, 1, 2, 60, 61, 62, 63, 64, 65, 66, 67, 68, 69, 70, 72, 73, 74, 75, 76, 242, 243, 244, 246, 270, 271, 272, 273, 275, 276, 277, 278, 279, 280, 330, 331, 332, 333, 334, 999] σ0 σ1752 := X1780.tr (e1754.mo (by decide))
            have X1782 : ExC [0, 1, 2, 60, 61, 62, 63, 64, 65, 66, 67, 68, 69, 70, 72, 73, 74, 75, 76, 242, 243, 244, 246, 270, 271, 272, 273, 275, 276, 277, 278, 279, 280, 330, 331, 332, 333, 334, 999] σ0 σ1759 := X1781.tr (e1761.mo (by decide))
            have t1783 := t1757.x e1754
            have t1784 := t1783.x e1761
            have R1785 : RdC p0 none (-62) (-38 + 8 * (d : Int)) (-998) σ0 σ1752 := R1738.tr ⟨(e1754.gw H1707.1 (by decide)), (e1754.cou (u := 0) H1707.1 t1719 (by decide) (by rw [e1754.cn (by decide)]; omega))⟩ (by omega) (by omega) (by omega) (by omega)
            have R1786 : RdC p0 none (-62) (-38 + 8 * (d : Int)) (-998) σ0 σ1759 := R1785.tr ⟨(e1761.gw H1753.1 (by decide)), (e1761.cou (u := 0) H1753.1 t1758 (by decide) (by rw [e1761.cn (by decide)]; omega))⟩ (by omega) (by omega) (by omega) (by omega)
            have c1787 := (t1719.mi e1754 (by decide)).trans c1722
            have c1788 := (t1758.mi e1761 (by decide)).trans c1787
            have c1789 := (t1719.mi e1754 (by decide)).trans c1716
            have c1790 := (t1758.mi e1761 (by decide)).trans c1789
            have c1791 := (t1757.mi e1754 (by decide)).trans c1751
            have c1792 := (t1783.mi e1761 (by decide)).trans c1791
            have c1793 := (t1757.mi e1754 (by decide)).trans c1747
            have c1794 := (t1783.mi e1761 (by decide)).trans c1793
            exact ⟨_, rfl, H1760, X1782, t1784, (R1786.mo (by omega) (by omega) (by omega)), (by omega), (by rw [c1792] <;> omega), (by rw [c1794] <;> omega)⟩

set_option maxRecDepth 100000 in
set_option maxHeartbeats 4000000 in
theorem s_X7_readStatement (l : Launch) (d : Nat) (h_X7_readSimple : CMetC l (13 * d + 38) 150 (P_X7_readSimple d) (Q_X7_readSimple d)) (h_X7_readIf : CMetC l (13 * d + 38) 154 (P_X7_readIf d) (Q_X7_readIf d)) (h_X7_readWhile : CMetC l (13 * d + 38) 155 (P_X7_readWhile d) (Q_X7_readWhile d)) (h_X7_readDo : CMetC l (13 * d + 38) 156 (P_X7_readDo d) (Q_X7_readDo d)) (h_X7_readFor : CMetC l (13 * d + 38) 157 (P_X7_readFor d) (Q_X7_readFor d)) (h_X7_readSwitch : CMetC l (13 * d + 38) 159 (P_X7_readSwitch d) (Q_X7_readSwitch d)) (h_X7_readTry : CMetC l (13 * d + 39) 160 (P_X7_readTry d) (Q_X7_readTry d)) (h_X7_readExpStatement : CMetC l (13 * d + 37) 152 (P_X7_readExpStatement d) (Q_X7_readExpStatement d)) (h_X7_readLabel : CMetC l (13 * d + 38) 151 (P_X7_readLabel d) (Q_X7_readLabel d)) : CMetC l (13 * d + 40) 149 (P_X7_readStatement d) (Q_X7_readStatement d) := by
  refine CMetC.of KX7_readStatement [(131, P_X7_isTooDeep, Q_X7_isTooDeep), (125, P_X7_code, Q_X7_code), (150, (P_X7_readSimple d), (Q_X7_readSimple d)), (154, (P_X7_readIf d), (Q_X7_readIf d)), (155, (P_X7_readWhile d), (Q_X7_readWhile d)), (156, (P_X7_readDo d), (Q_X7_readDo d)), (157, (P_X7_readFor d), (Q_X7_readFor d)), (159, (P_X7_readSwitch d), (Q_X7_readSwitch d)), (160, (P_X7_readTry d), (Q_X7_readTry d)), (152, (P_X7_readExpStatement d), (Q_X7_readExpStatement d)), (126, P_X7_codeBehind, Q_X7_codeBehind), (151, (P_X7_readLabel d), (Q_X7_readLabel d))] hX7_readStatement (by decide) (by omega) okX7_readStatement (cc1C (m_X7_isTooDeep l) (by omega) (cc1C (m_X7_code l) (by omega) (cc1C h_X7_readSimple (by omega) (cc1C h_X7_readIf (by omega) (cc1C h_X7_readWhile (by omega) (cc1C h_X7_readDo (by omega) (cc1C h_X7_readFor (by omega) (cc1C h_X7_readSwitch (by omega) (cc1C h_X7_readTry (by omega) (cc1C h_X7_readExpStatement (by omega) (cc1C (m_X7_codeBehind l) (by omega) (cc1C h_X7_readLabel (by omega) cc0C)))))))))))) ?_ ?_
  · rintro As σ ⟨p0, p1, rfl, -⟩
    exact Nat.le_of_ble_eq_true rfl
  · rintro As σ0 ⟨p0, p1, rfl, H0, h_0_0, h_1_0, h_1_1, rd_cd, rd_at, rd_bg, rd_dp⟩ hgr G hB hW
    change G 0 [(0, .inr (.inr (some p0))), (1, .inl p1)] [] σ0
    obtain ⟨x1, e2, c3, h4, h5⟩ := cg242 H0.1 h_0_0
    obtain ⟨x6, e7, c8, h9, h10⟩ := cg243 H0.1 h_0_0
    have z11 := congrArg Int32.toInt c3
    have z12 := congrArg Int32.toInt c8
    refine hB _ _ _ _ (kgoC (is := KX7_readStatement_0) rfl ?_)
    refine k_aload_n rfl ?_
    refine k_iload_n rfl ?_
    refine k_inv (P := P_X7_isTooDeep) (Q := Q_X7_isTooDeep) rfl rfl rfl rfl (Nat.le_of_ble_eq_true rfl) (h_0_0.rc (by decide)) ⟨_, _, rfl, H0, h_0_0, (rd_cd.st H0 h_0_0 (ExC.rf : ExC [0, 1, 2, 60, 61, 62, 63, 64, 65, 66, 67, 68, 69, 70, 72, 73, 74, 75, 76, 242, 243, 244, 246, 270, 271, 272, 273, 275, 276, 277, 278, 279, 280, 330, 331, 332, 333, 334, 999] σ0 σ0) (RdC.rf : RdC p0 none 0 0 0 σ0 σ0).1 (by decide)), ((RdC.rf : RdC p0 none 0 0 0 σ0 σ0).2.2.2.1 rd_at), (rd_bg.st H0 h_0_0 (ExC.rf : ExC [0, 1, 2, 60, 61, 62, 63, 64, 65, 66, 67, 68, 69, 70, 72, 73, 74, 75, 76, 242, 243, 244, 246, 270, 271, 272, 273, 275, 276, 277, 278, 279, 280, 330, 331, 332, 333, 334, 999] σ0 σ0) (RdC.rf : RdC p0 none 0 0 0 σ0 σ0) (by decide) (by omega) (by omega) (by omega))⟩ (fun w13 σ14 q15 => ?_)
    obtain ⟨x16, rfl, H17, e18, h20, h21, R19, q22, q23⟩ := q15
    have c24 := (h_0_0.mi e18 (by decide)).trans c3
    have t30 := h_0_0.x e18
    obtain ⟨x25, e26, c27, h28, h29⟩ := cg243 H17.1 t30
    have z31 := congrArg Int32.toInt c24
    have z32 := congrArg Int32.toInt c27
    refine k_st (st' := [.inl x16]) rfl ?_
    rcases (by omega : x16.toInt = 0 ∨ x16.toInt = 1) with g33 | g33
    · have h34 := q23 (by omega)
      refine k_popI ?_
      refine k_aload_n rfl ?_
      have R35 : RdC p0 none (0) (0) (0) σ0 σ14 := (RdC.rf : RdC p0 none 0 0 0 σ0 σ0).tr ⟨R19.1, R19.2⟩ (by omega) (by omega) (by omega) (by omega)
      have X36 : ExC [0, 1, 2, 60, 61, 62, 63, 64, 65, 66, 67, 68, 69, 70, 72, 73, 74, 75, 76, 242, 243, 244, 246, 270, 271, 272, 273, 275, 276, 277, 278, 279, 280, 330, 331, 332, 333, 334, 999] σ0 σ14 := ExC.rf.tr (e18.mo (by decide))
      refine k_inv (P := P_X7_code) (Q := Q_X7_code) rfl rfl rfl rfl (Nat.le_of_ble_eq_true rfl) (t30.rc (by decide)) ⟨_, rfl, H17, t30, (rd_cd.st H0 h_0_0 X36 R35.1 (by decide))⟩ (fun w37 σ38 q39 => ?_)
      obtain ⟨x40, rfl, rfl, q41, q42, q43⟩ := q39
      refine k_st (st' := [.inl x40]) rfl ?_
      have z44 := R35.2.2.1
      have z45 := R35.2.2.2.1 rd_at
      refine k_lsw ?_
      refine k_swc (fun h46 => ?_) (fun h46 => ?_)
      · have h47 : x25.toInt = 0 := by omega
        refine hB _ _ _ _ (kgoC (is := KX7_readStatement_152) rfl ?_)
        refine k_aload_n rfl ?_
        refine k_iload_n rfl ?_
        have R48 := R35.nf (-1000) (-1000) (by rw [c27]; omega)
        refine k_inv (P := (P_X7_readSimple d)) (Q := (Q_X7_readSimple d)) rfl rfl rfl rfl (Nat.le_of_ble_eq_true rfl) (t30.rc (by decide)) ⟨_, _, rfl, H17, t30, (by omega), (by omega), (rd_cd.st H0 h_0_0 X36 R48.1 (by decide)), (R48.2.2.2.1 rd_at), ((show BgC σ14 p0 (24 + 8 * (d : Int)) 0 from (rd_bg.stn H0 h_0_0 X36 R48 (by decide) (by rw [c27]; omega) (by omega))).1 (by rw [c27]; omega)), (by rw [c27]; omega), (by have ct := R48.2.2.1; rw [c27, c24, ct]; omega), (by omega), (by omega)⟩ (fun w49 σ50 q51 => ?_)
        obtain ⟨a52, rfl, H53, e54, h56, R55, q57, q58, q59⟩ := q51
        have t65 := t30.x e54
        obtain ⟨x60, e61, c62, h63, h64⟩ := cg242 H53.1 t65
        obtain ⟨x66, e67, c68, h69, h70⟩ := cg243 H53.1 t65
        have z71 := congrArg Int32.toInt c62
        have z72 := congrArg Int32.toInt c68
        refine k_st (st' := [.inr (.inr (some a52))]) rfl ?_
        have z73 := R48.1.1
        obtain ⟨x74, e75, c76, h77, h78⟩ := cg272 H53.1 h56
        rw [c76] at q58
        obtain ⟨x79, e80, c81, h82, h83⟩ := cg270 H53.1 h56
        rw [c81] at q59
        have R84 : RdC p0 none (0) (24 + 8 * (d : Int)) (-1000) σ0 σ50 := R48.tr ⟨R55.1, R55.2⟩ (by omega) (by omega) (by omega) (by omega)
        have z85 := R84.2.2.1
        have z86 := R84.2.2.2.1 rd_at
        refine k_areturn ?_
        have X87 : ExC [0, 1, 2, 60, 61, 62, 63, 64, 65, 66, 67, 68, 69, 70, 72, 73, 74, 75, 76, 242, 243, 244, 246, 270, 271, 272, 273, 275, 276, 277, 278, 279, 280, 330, 331, 332, 333, 334, 999] σ0 σ50 := X36.tr (e54.mo (by decide))
        exact ⟨_, rfl, H53, X87, h56, (R84.mo (by omega) (by omega) (by omega)), (by omega), (by rw [c76] <;> omega), (by rw [c81] <;> omega)⟩
      refine k_swc (fun h88 => ?_) (fun h88 => ?_)
      · have h89 : x25.toInt = 0 := by omega
        refine hB _ _ _ _ (kgoC (is := KX7_readStatement_152) rfl ?_)
        refine k_aload_n rfl ?_
        refine k_iload_n rfl ?_
        have R90 := R35.nf (-1000) (-1000) (by rw [c27]; omega)
        refine k_inv (P := (P_X7_readSimple d)) (Q := (Q_X7_readSimple d)) rfl rfl rfl rfl (Nat.le_of_ble_eq_true rfl) (t30.rc (by decide)) ⟨_, _, rfl, H17, t30, (by omega), (by omega), (rd_cd.st H0 h_0_0 X36 R90.1 (by decide)), (R90.2.2.2.1 rd_at), ((show BgC σ14 p0 (24 + 8 * (d : Int)) 0 from (rd_bg.stn H0 h_0_0 X36 R90 (by decide) (by rw [c27]; omega) (by omega))).1 (by rw [c27]; omega)), (by rw [c27]; omega), (by have ct := R90.2.2.1; rw [c27, c24, ct]; omega), (by omega), (by omega)⟩ (fun w91 σ92 q93 => ?_)
        obtain ⟨a94, rfl, H95, e96, h98, R97, q99, q100, q101⟩ := q93
        have t107 := t30.x e96
        obtain ⟨x102, e103, c104, h105, h106⟩ := cg242 H95.1 t107
        obtain ⟨x108, e109, c110, h111, h112⟩ := cg243 H95.1 t107
        have z113 := congrArg Int32.toInt c104
        have z114 := congrArg Int32.toInt c110
        refine k_st (st' := [.inr (.inr (some a94))]) rfl ?_
        have z115 := R90.1.1
        obtain ⟨x116, e117, c118, h119, h120⟩ := cg272 H95.1 h98
        rw [c118] at q100
        obtain ⟨x121, e122, c123, h124, h125⟩ := cg270 H95.1 h98
        rw [c123] at q101
        have R126 : RdC p0 none (0) (24 + 8 * (d : Int)) (-1000) σ0 σ92 := R90.tr ⟨R97.1, R97.2⟩ (by omega) (by omega) (by omega) (by omega)
        have z127 := R126.2.2.1
        have z128 := R126.2.2.2.1 rd_at
        refine k_areturn ?_
        have X129 : ExC [0, 1, 2, 60, 61, 62, 63, 64, 65, 66, 67, 68, 69, 70, 72, 73, 74, 75, 76, 242, 243, 244, 246, 270, 271, 272, 273, 275, 276, 277, 278, 279, 280, 330, 331, 332, 333, 334, 999] σ0 σ92 := X36.tr (e96.mo (by decide))
        exact ⟨_, rfl, H95, X129, h98, (R126.mo (by omega) (by omega) (by omega)), (by omega), (by rw [c118] <;> omega), (by rw [c123] <;> omega)⟩
      refine k_swc (fun h130 => ?_) (fun h130 => ?_)
      · have h131 : x25.toInt = 0 := by omega
        refine hB _ _ _ _ (kgoC (is := KX7_readStatement_116) rfl ?_)
        refine k_aload_n rfl ?_
        refine k_iload_n rfl ?_
        have R132 := R35.nf (-1000) (-1000) (by rw [c27]; omega)
        refine k_inv (P := (P_X7_readIf d)) (Q := (Q_X7_readIf d)) rfl rfl rfl rfl (Nat.le_of_ble_eq_true rfl) (t30.rc (by decide)) ⟨_, _, rfl, H17, t30, (by omega), (by omega), (rd_cd.st H0 h_0_0 X36 R132.1 (by decide)), (R132.2.2.2.1 rd_at), ((show BgC σ14 p0 (24 + 8 * (d : Int)) 0 from (rd_bg.stn H0 h_0_0 X36 R132 (by decide) (by rw [c27]; omega) (by omega))).1 (by rw [c27]; omega)), (by rw [c27]; omega), (by have ct := R132.2.2.1; rw [c27, c24, ct]; omega), (by omega)⟩ (fun w133 σ134 q135 => ?_)
        obtain ⟨a136, rfl, H137, e138, h140, R139, q141, q142, q143⟩ := q135
        have t149 := t30.x e138
        obtain ⟨x144, e145, c146, h147, h148⟩ := cg242 H137.1 t149
        obtain ⟨x150, e151, c152, h153, h154⟩ := cg243 H137.1 t149
        have z155 := congrArg Int32.toInt c146
        have z156 := congrArg Int32.toInt c152
        refine k_st (st' := [.inr (.inr (some a136))]) rfl ?_
        have z157 := R132.1.1
        obtain ⟨x158, e159, c160, h161, h162⟩ := cg272 H137.1 h140
        rw [c160] at q142
        obtain ⟨x163, e164, c165, h166, h167⟩ := cg270 H137.1 h140
        rw [c165] at q143
        have R168 : RdC p0 none (0) (24 + 8 * (d : Int)) (-1000) σ0 σ134 := R132.tr ⟨R139.1, R139.2⟩ (by omega) (by omega) (by omega) (by omega)
        have z169 := R168.2.2.1
        have z170 := R168.2.2.2.1 rd_at
        refine k_areturn ?_
        have X171 : ExC [0, 1, 2, 60, 61, 62, 63, 64, 65, 66, 67, 68, 69, 70, 72, 73, 74, 75, 76, 242, 243, 244, 246, 270, 271, 272, 273, 275, 276, 277, 278, 279, 280, 330, 331, 332, 333, 334, 999] σ0 σ134 := X36.tr (e138.mo (by decide))
        exact ⟨_, rfl, H137, X171, h140, (R168.mo (by omega) (by omega) (by omega)), (by omega), (by rw [c160] <;> omega), (by rw [c165] <;> omega)⟩
      refine k_swc (fun h172 => ?_) (fun h172 => ?_)
      · have h173 : x25.toInt = 0 := by omega
        refine hB _ _ _ _ (kgoC (is := KX7_readStatement_122) rfl ?_)
        refine k_aload_n rfl ?_
        refine k_iload_n rfl ?_
        have R174 := R35.nf (-1000) (-1000) (by rw [c27]; omega)
        refine k_inv (P := (P_X7_readWhile d)) (Q := (Q_X7_readWhile d)) rfl rfl rfl rfl (Nat.le_of_ble_eq_true rfl) (t30.rc (by decide)) ⟨_, _, rfl, H17, t30, (by omega), (by omega), (rd_cd.st H0 h_0_0 X36 R174.1 (by decide)), (R174.2.2.2.1 rd_at), ((show BgC σ14 p0 (24 + 8 * (d : Int)) 0 from (rd_bg.stn H0 h_0_0 X36 R174 (by decide) (by rw [c27]; omega) (by omega))).1 (by rw [c27]; omega)), (by rw [c27]; omega), (by have ct := R174.2.2.1; rw [c27, c24, ct]; omega), (by omega)⟩ (fun w175 σ176 q177 => ?_)
        obtain ⟨a178, rfl, H179, e180, h182, R181, q183, q184, q185⟩ := q177
        have t191 := t30.x e180
        obtain ⟨x186, e187, c188, h189, h190⟩ := cg242 H179.1 t191
        obtain ⟨x192, e193, c194, h195, h196⟩ := cg243 H179.1 t191
        have z197 := congrArg Int32.toInt c188
        have z198 := congrArg Int32.toInt c194
        refine k_st (st' := [.inr (.inr (some a178))]) rfl ?_
        have z199 := R174.1.1
        obtain ⟨x200, e201, c202, h203, h204⟩ := cg272 H179.1 h182
        rw [c202] at q184
        obtain ⟨x205, e206, c207, h208, h209⟩ := cg270 H179.1 h182
        rw [c207] at q185
        have R210 : RdC p0 none (0) (24 + 8 * (d : Int)) (-1000) σ0 σ176 := R174.tr ⟨R181.1, R181.2⟩ (by omega) (by omega) (by omega) (by omega)
        have z211 := R210.2.2.1
        have z212 := R210.2.2.2.1 rd_at
        refine k_areturn ?_
        have X213 : ExC [0, 1, 2, 60, 61, 62, 63, 64, 65, 66, 67, 68, 69, 70, 72, 73, 74, 75, 76, 242, 243, 244, 246, 270, 271, 272, 273, 275, 276, 277, 278, 279, 280, 330, 331, 332, 333, 334, 999] σ0 σ176 := X36.tr (e180.mo (by decide))
        exact ⟨_, rfl, H179, X213, h182, (R210.mo (by omega) (by omega) (by omega)), (by omega), (by rw [c202] <;> omega), (by rw [c207] <;> omega)⟩
      refine k_swc (fun h214 => ?_) (fun h214 => ?_)
      · have h215 : x25.toInt = 0 := by omega
        refine hB _ _ _ _ (kgoC (is := KX7_readStatement_128) rfl ?_)
        refine k_aload_n rfl ?_
        refine k_iload_n rfl ?_
        have R216 := R35.nf (-1000) (-1000) (by rw [c27]; omega)
        refine k_inv (P := (P_X7_readDo d)) (Q := (Q_X7_readDo d)) rfl rfl rfl rfl (Nat.le_of_ble_eq_true rfl) (t30.rc (by decide)) ⟨_, _, rfl, H17, t30, (by omega), (by omega), (rd_cd.st H0 h_0_0 X36 R216.1 (by decide)), (R216.2.2.2.1 rd_at), ((show BgC σ14 p0 (24 + 8 * (d : Int)) 0 from (rd_bg.stn H0 h_0_0 X36 R216 (by decide) (by rw [c27]; omega) (by omega))).1 (by rw [c27]; omega)), (by rw [c27]; omega), (by have ct := R216.2.2.1; rw [c27, c24, ct]; omega), (by omega)⟩ (fun w217 σ218 q219 => ?_)
        obtain ⟨a220, rfl, H221, e222, h224, R223, q225, q226, q227⟩ := q219
        have t233 := t30.x e222
        obtain ⟨x228, e229, c230, h231, h232⟩ := cg242 H221.1 t233
        obtain ⟨x234, e235, c236, h237, h238⟩ := cg243 H221.1 t233
        have z239 := congrArg Int32.toInt c230
        have z240 := congrArg Int32.toInt c236
        refine k_st (st' := [.inr (.inr (some a220))]) rfl ?_
        have z241 := R216.1.1
        obtain ⟨x242, e243, c244, h245, h246⟩ := cg272 H221.1 h224
        rw [c244] at q226
        obtain ⟨x247, e248, c249, h250, h251⟩ := cg270 H221.1 h224
        rw [c249] at q227
        have R252 : RdC p0 none (0) (24 + 8 * (d : Int)) (-1000) σ0 σ218 := R216.tr ⟨R223.1, R223.2⟩ (by omega) (by omega) (by omega) (by omega)
        have z253 := R252.2.2.1
        have z254 := R252.2.2.2.1 rd_at
        refine k_areturn ?_
        have X255 : ExC [0, 1, 2, 60, 61, 62, 63, 64, 65, 66, 67, 68, 69, 70, 72, 73, 74, 75, 76, 242, 243, 244, 246, 270, 271, 272, 273, 275, 276, 277, 278, 279, 280, 330, 331, 332, 333, 334, 999] σ0 σ218 := X36.tr (e222.mo (by decide))
        exact ⟨_, rfl, H221, X255, h224, (R252.mo (by omega) (by omega) (by omega)), (by omega), (by rw [c244] <;> omega), (by rw [c249] <;> omega)⟩
      refine k_swc (fun h256 => ?_) (fun h256 => ?_)
      · have h257 : x25.toInt = 0 := by omega
        refine hB _ _ _ _ (kgoC (is := KX7_readStatement_134) rfl ?_)
        refine k_aload_n rfl ?_
        refine k_iload_n rfl ?_
        have R258 := R35.nf (-1000) (-1000) (by rw [c27]; omega)
        refine k_inv (P := (P_X7_readFor d)) (Q := (Q_X7_readFor d)) rfl rfl rfl rfl (Nat.le_of_ble_eq_true rfl) (t30.rc (by decide)) ⟨_, _, rfl, H17, t30, (by omega), (by omega), (rd_cd.st H0 h_0_0 X36 R258.1 (by decide)), (R258.2.2.2.1 rd_at), ((show BgC σ14 p0 (24 + 8 * (d : Int)) 0 from (rd_bg.stn H0 h_0_0 X36 R258 (by decide) (by rw [c27]; omega) (by omega))).1 (by rw [c27]; omega)), (by rw [c27]; omega), (by have ct := R258.2.2.1; rw [c27, c24, ct]; omega), (by omega)⟩ (fun w259 σ260 q261 => ?_)
        obtain ⟨a262, rfl, H263, e264, h266, R265, q267, q268, q269⟩ := q261
        have t275 := t30.x e264
        obtain ⟨x270, e271, c272, h273, h274⟩ := cg242 H263.1 t275
        obtain ⟨x276, e277, c278, h279, h280⟩ := cg243 H263.1 t275
        have z281 := congrArg Int32.toInt c272
        have z282 := congrArg Int32.toInt c278
        refine k_st (st' := [.inr (.inr (some a262))]) rfl ?_
        have z283 := R258.1.1
        obtain ⟨x284, e285, c286, h287, h288⟩ := cg272 H263.1 h266
        rw [c286] at q268
        obtain ⟨x289, e290, c291, h292, h293⟩ := cg270 H263.1 h266
        rw [c291] at q269
        have R294 : RdC p0 none (0) (24 + 8 * (d : Int)) (-1000) σ0 σ260 := R258.tr ⟨R265.1, R265.2⟩ (by omega) (by omega) (by omega) (by omega)
        have z295 := R294.2.2.1
        have z296 := R294.2.2.2.1 rd_at
        refine k_areturn ?_
        have X297 : ExC [0, 1, 2, 60, 61, 62, 63, 64, 65, 66, 67, 68, 69, 70, 72, 73, 74, 75, 76, 242, 243, 244, 246, 270, 271, 272, 273, 275, 276, 277, 278, 279, 280, 330, 331, 332, 333, 334, 999] σ0 σ260 := X36.tr (e264.mo (by decide))
        exact ⟨_, rfl, H263, X297, h266, (R294.mo (by omega) (by omega) (by omega)), (by omega), (by rw [c286] <;> omega), (by rw [c291] <;> omega)⟩
      refine k_swc (fun h298 => ?_) (fun h298 => ?_)
      · have h299 : x25.toInt = 0 := by omega
        refine hB _ _ _ _ (kgoC (is := KX7_readStatement_140) rfl ?_)
        refine k_aload_n rfl ?_
        refine k_iload_n rfl ?_
        have R300 := R35.nf (-1000) (-1000) (by rw [c27]; omega)
        refine k_inv (P := (P_X7_readSwitch d)) (Q := (Q_X7_readSwitch d)) rfl rfl rfl rfl (Nat.le_of_ble_eq_true rfl) (t30.rc (by decide)) ⟨_, _, rfl, H17, t30, (by omega), (by omega), (rd_cd.st H0 h_0_0 X36 R300.1 (by decide)), (R300.2.2.2.1 rd_at), ((show BgC σ14 p0 (24 + 8 * (d : Int)) 0 from (rd_bg.stn H0 h_0_0 X36 R300 (by decide) (by rw [c27]; omega) (by omega))).1 (by rw [c27]; omega)), (by rw [c27]; omega), (by have ct := R300.2.2.1; rw [c27, c24, ct]; omega), (by omega)⟩ (fun w301 σ302 q303 => ?_)
        obtain ⟨a304, rfl, H305, e306, h308, R307, q309, q310, q311⟩ := q303
        have t317 := t30.x e306
        obtain ⟨x312, e313, c314, h315, h316⟩ := cg242 H305.1 t317
        obtain ⟨x318, e319, c320, h321, h322⟩ := cg243 H305.1 t317
        have z323 := congrArg Int32.toInt c314
        have z324 := congrArg Int32.toInt c320
        refine k_st (st' := [.inr (.inr (some a304))]) rfl ?_
        have z325 := R300.1.1
        obtain ⟨x326, e327, c328, h329, h330⟩ := cg272 H305.1 h308
        rw [c328] at q310
        obtain ⟨x331, e332, c333, h334, h335⟩ := cg270 H305.1 h308
        rw [c333] at q311
        have R336 : RdC p0 none (0) (24 + 8 * (d : Int)) (-1000) σ0 σ302 := R300.tr ⟨R307.1, R307.2⟩ (by omega) (by omega) (by omega) (by omega)
        have z337 := R336.2.2.1
        have z338 := R336.2.2.2.1 rd_at
        refine k_areturn ?_
        have X339 : ExC [0, 1, 2, 60, 61, 62, 63, 64, 65, 66, 67, 68, 69, 70, 72, 73, 74, 75, 76, 242, 243, 244, 246, 270, 271, 272, 273, 275, 276, 277, 278, 279, 280, 330, 331, 332, 333, 334, 999] σ0 σ302 := X36.tr (e306.mo (by decide))
        exact ⟨_, rfl, H305, X339, h308, (R336.mo (by omega) (by omega) (by omega)), (by omega), (by rw [c328] <;> omega), (by rw [c333] <;> omega)⟩
      refine k_swc (fun h340 => ?_) (fun h340 => ?_)
      · have h341 : x25.toInt = 0 := by omega
        refine hB _ _ _ _ (kgoC (is := KX7_readStatement_152) rfl ?_)
        refine k_aload_n rfl ?_
        refine k_iload_n rfl ?_
        have R342 := R35.nf (-1000) (-1000) (by rw [c27]; omega)
        refine k_inv (P := (P_X7_readSimple d)) (Q := (Q_X7_readSimple d)) rfl rfl rfl rfl (Nat.le_of_ble_eq_true rfl) (t30.rc (by decide)) ⟨_, _, rfl, H17, t30, (by omega), (by omega), (rd_cd.st H0 h_0_0 X36 R342.1 (by decide)), (R342.2.2.2.1 rd_at), ((show BgC σ14 p0 (24 + 8 * (d : Int)) 0 from (rd_bg.stn H0 h_0_0 X36 R342 (by decide) (by rw [c27]; omega) (by omega))).1 (by rw [c27]; omega)), (by rw [c27]; omega), (by have ct := R342.2.2.1; rw [c27, c24, ct]; omega), (by omega), (by omega)⟩ (fun w343 σ344 q345 => ?_)
        obtain ⟨a346, rfl, H347, e348, h350, R349, q351, q352, q353⟩ := q345
        have t359 := t30.x e348
        obtain ⟨x354, e355, c356, h357, h358⟩ := cg242 H347.1 t359
        obtain ⟨x360, e361, c362, h363, h364⟩ := cg243 H347.1 t359
        have z365 := congrArg Int32.toInt c356
        have z366 := congrArg Int32.toInt c362
        refine k_st (st' := [.inr (.inr (some a346))]) rfl ?_
        have z367 := R342.1.1
        obtain ⟨x368, e369, c370, h371, h372⟩ := cg272 H347.1 h350
        rw [c370] at q352
        obtain ⟨x373, e374, c375, h376, h377⟩ := cg270 H347.1 h350
        rw [c375] at q353
        have R378 : RdC p0 none (0) (24 + 8 * (d : Int)) (-1000) σ0 σ344 := R342.tr ⟨R349.1, R349.2⟩ (by omega) (by omega) (by omega) (by omega)
        have z379 := R378.2.2.1
        have z380 := R378.2.2.2.1 rd_at
        refine k_areturn ?_
        have X381 : ExC [0, 1, 2, 60, 61, 62, 63, 64, 65, 66, 67, 68, 69, 70, 72, 73, 74, 75, 76, 242, 243, 244, 246, 270, 271, 272, 273, 275, 276, 277, 278, 279, 280, 330, 331, 332, 333, 334, 999] σ0 σ344 := X36.tr (e348.mo (by decide))
        exact ⟨_, rfl, H347, X381, h350, (R378.mo (by omega) (by omega) (by omega)), (by omega), (by rw [c370] <;> omega), (by rw [c375] <;> omega)⟩
      refine k_swc (fun h382 => ?_) (fun h382 => ?_)
      · have h383 : x25.toInt = 0 := by omega
        refine hB _ _ _ _ (kgoC (is := KX7_readStatement_152) rfl ?_)
        refine k_aload_n rfl ?_
        refine k_iload_n rfl ?_
        have R384 := R35.nf (-1000) (-1000) (by rw [c27]; omega)
        refine k_inv (P := (P_X7_readSimple d)) (Q := (Q_X7_readSimple d)) rfl rfl rfl rfl (Nat.le_of_ble_eq_true rfl) (t30.rc (by decide)) ⟨_, _, rfl, H17, t30, (by omega), (by omega), (rd_cd.st H0 h_0_0 X36 R384.1 (by decide)), (R384.2.2.2.1 rd_at), ((show BgC σ14 p0 (24 + 8 * (d : Int)) 0 from (rd_bg.stn H0 h_0_0 X36 R384 (by decide) (by rw [c27]; omega) (by omega))).1 (by rw [c27]; omega)), (by rw [c27]; omega), (by have ct := R384.2.2.1; rw [c27, c24, ct]; omega), (by omega), (by omega)⟩ (fun w385 σ386 q387 => ?_)
        obtain ⟨a388, rfl, H389, e390, h392, R391, q393, q394, q395⟩ := q387
        have t401 := t30.x e390
        obtain ⟨x396, e397, c398, h399, h400⟩ := cg242 H389.1 t401
        obtain ⟨x402, e403, c404, h405, h406⟩ := cg243 H389.1 t401
        have z407 := congrArg Int32.toInt c398
        have z408 := congrArg Int32.toInt c404
        refine k_st (st' := [.inr (.inr (some a388))]) rfl ?_
        have z409 := R384.1.1
        obtain ⟨x410, e411, c412, h413, h414⟩ := cg272 H389.1 h392
        rw [c412] at q394
        obtain ⟨x415, e416, c417, h418, h419⟩ := cg270 H389.1 h392
        rw [c417] at q395
        have R420 : RdC p0 none (0) (24 + 8 * (d : Int)) (-1000) σ0 σ386 := R384.tr ⟨R391.1, R391.2⟩ (by omega) (by omega) (by omega) (by omega)
        have z421 := R420.2.2.1
        have z422 := R420.2.2.2.1 rd_at
        refine k_areturn ?_
        have X423 : ExC [0, 1, 2, 60, 61, 62, 63, 64, 65, 66, 67, 68, 69, 70, 72, 73, 74, 75, 76, 242, 243, 244, 246, 270, 271, 272, 273, 275, 276, 277, 278, 279, 280, 330, 331, 332, 333, 334, 999] σ0 σ386 := X36.tr (e390.mo (by decide))
        exact ⟨_, rfl, H389, X423, h392, (R420.mo (by omega) (by omega) (by omega)), (by omega), (by rw [c412] <;> omega), (by rw [c417] <;> omega)⟩
      refine k_swc (fun h424 => ?_) (fun h424 => ?_)
      · have h425 : x25.toInt = 0 := by omega
        refine hB _ _ _ _ (kgoC (is := KX7_readStatement_152) rfl ?_)
        refine k_aload_n rfl ?_
        refine k_iload_n rfl ?_
        have R426 := R35.nf (-1000) (-1000) (by rw [c27]; omega)
        refine k_inv (P := (P_X7_readSimple d)) (Q := (Q_X7_readSimple d)) rfl rfl rfl rfl (Nat.le_of_ble_eq_true rfl) (t30.rc (by decide)) ⟨_, _, rfl, H17, t30, (by omega), (by omega), (rd_cd.st H0 h_0_0 X36 R426.1 (by decide)), (R426.2.2.2.1 rd_at), ((show BgC σ14 p0 (24 + 8 * (d : Int)) 0 from (rd_bg.stn H0 h_0_0 X36 R426 (by decide) (by rw [c27]; omega) (by omega))).1 (by rw [c27]; omega)), (by rw [c27]; omega), (by have ct := R426.2.2.1; rw [c27, c24, ct]; omega), (by omega), (by omega)⟩ (fun w427 σ428 q429 => ?_)
        obtain ⟨a430, rfl, H431, e432, h434, R433, q435, q436, q437⟩ := q429
        have t443 := t30.x e432
        obtain ⟨x438, e439, c440, h441, h442⟩ := cg242 H431.1 t443
        obtain ⟨x444, e445, c446, h447, h448⟩ := cg243 H431.1 t443
        have z449 := congrArg Int32.toInt c440
        have z450 := congrArg Int32.toInt c446
        refine k_st (st' := [.inr (.inr (some a430))]) rfl ?_
        have z451 := R426.1.1
        obtain ⟨x452, e453, c454, h455, h456⟩ := cg272 H431.1 h434
        rw [c454] at q436
        obtain ⟨x457, e458, c459, h460, h461⟩ := cg270 H431.1 h434
        rw [c459] at q437
        have R462 : RdC p0 none (0) (24 + 8 * (d : Int)) (-1000) σ0 σ428 := R426.tr ⟨R433.1, R433.2⟩ (by omega) (by omega) (by omega) (by omega)
        have z463 := R462.2.2.1
        have z464 := R462.2.2.2.1 rd_at
        refine k_areturn ?_
        have X465 : ExC [0, 1, 2, 60, 61, 62, 63, 64, 65, 66, 67, 68, 69, 70, 72, 73, 74, 75, 76, 242, 243, 244, 246, 270, 271, 272, 273, 275, 276, 277, 278, 279, 280, 330, 331, 332, 333, 334, 999] σ0 σ428 := X36.tr (e432.mo (by decide))
        exact ⟨_, rfl, H431, X465, h434, (R462.mo (by omega) (by omega) (by omega)), (by omega), (by rw [c454] <;> omega), (by rw [c459] <;> omega)⟩
      refine k_swc (fun h466 => ?_) (fun h466 => ?_)
      · have h467 : x25.toInt = 0 := by omega
        refine hB _ _ _ _ (kgoC (is := KX7_readStatement_152) rfl ?_)
        refine k_aload_n rfl ?_
        refine k_iload_n rfl ?_
        have R468 := R35.nf (-1000) (-1000) (by rw [c27]; omega)
        refine k_inv (P := (P_X7_readSimple d)) (Q := (Q_X7_readSimple d)) rfl rfl rfl rfl (Nat.le_of_ble_eq_true rfl) (t30.rc (by decide)) ⟨_, _, rfl, H17, t30, (by omega), (by omega), (rd_cd.st H0 h_0_0 X36 R468.1 (by decide)), (R468.2.2.2.1 rd_at), ((show BgC σ14 p0 (24 + 8 * (d : Int)) 0 from (rd_bg.stn H0 h_0_0 X36 R468 (by decide) (by rw [c27]; omega) (by omega))).1 (by rw [c27]; omega)), (by rw [c27]; omega), (by have ct := R468.2.2.1; rw [c27, c24, ct]; omega), (by omega), (by omega)⟩ (fun w469 σ470 q471 => ?_)
        obtain ⟨a472, rfl, H473, e474, h476, R475, q477, q478, q479⟩ := q471
        have t485 := t30.x e474
        obtain ⟨x480, e481, c482, h483, h484⟩ := cg242 H473.1 t485
        obtain ⟨x486, e487, c488, h489, h490⟩ := cg243 H473.1 t485
        have z491 := congrArg Int32.toInt c482
        have z492 := congrArg Int32.toInt c488
        refine k_st (st' := [.inr (.inr (some a472))]) rfl ?_
        have z493 := R468.1.1
        obtain ⟨x494, e495, c496, h497, h498⟩ := cg272 H473.1 h476
        rw [c496] at q478
        obtain ⟨x499, e500, c501, h502, h503⟩ := cg270 H473.1 h476
        rw [c501] at q479
        have R504 : RdC p0 none (0) (24 + 8 * (d : Int)) (-1000) σ0 σ470 := R468.tr ⟨R475.1, R475.2⟩ (by omega) (by omega) (by omega) (by omega)
        have z505 := R504.2.2.1
        have z506 := R504.2.2.2.1 rd_at
        refine k_areturn ?_
        have X507 : ExC [0, 1, 2, 60, 61, 62, 63, 64, 65, 66, 67, 68, 69, 70, 72, 73, 74, 75, 76, 242, 243, 244, 246, 270, 271, 272, 273, 275, 276, 277, 278, 279, 280, 330, 331, 332, 333, 334, 999] σ0 σ470 := X36.tr (e474.mo (by decide))
        exact ⟨_, rfl, H473, X507, h476, (R504.mo (by omega) (by omega) (by omega)), (by omega), (by rw [c496] <;> omega), (by rw [c501] <;> omega)⟩
      refine k_swc (fun h508 => ?_) (fun h508 => ?_)
      · have h509 : x25.toInt = 0 := by omega
        refine hB _ _ _ _ (kgoC (is := KX7_readStatement_146) rfl ?_)
        refine k_aload_n rfl ?_
        refine k_iload_n rfl ?_
        have R510 := R35.nf (-1000) (-1000) (by rw [c27]; omega)
        refine k_inv (P := (P_X7_readTry d)) (Q := (Q_X7_readTry d)) rfl rfl rfl rfl (Nat.le_of_ble_eq_true rfl) (t30.rc (by decide)) ⟨_, _, rfl, H17, t30, (by omega), (by omega), (rd_cd.st H0 h_0_0 X36 R510.1 (by decide)), (R510.2.2.2.1 rd_at), ((show BgC σ14 p0 (24 + 8 * (d : Int)) 0 from (rd_bg.stn H0 h_0_0 X36 R510 (by decide) (by rw [c27]; omega) (by omega))).1 (by rw [c27]; omega)), (by rw [c27]; omega), (by have ct := R510.2.2.1; rw [c27, c24, ct]; omega), (by omega)⟩ (fun w511 σ512 q513 => ?_)
        obtain ⟨a514, rfl, H515, e516, h518, R517, q519, q520, q521⟩ := q513
        have t527 := t30.x e516
        obtain ⟨x522, e523, c524, h525, h526⟩ := cg242 H515.1 t527
        obtain ⟨x528, e529, c530, h531, h532⟩ := cg243 H515.1 t527
        have z533 := congrArg Int32.toInt c524
        have z534 := congrArg Int32.toInt c530
        refine k_st (st' := [.inr (.inr (some a514))]) rfl ?_
        have z535 := R510.1.1
        obtain ⟨x536, e537, c538, h539, h540⟩ := cg272 H515.1 h518
        rw [c538] at q520
        obtain ⟨x541, e542, c543, h544, h545⟩ := cg270 H515.1 h518
        rw [c543] at q521
        have R546 : RdC p0 none (0) (24 + 8 * (d : Int)) (-1000) σ0 σ512 := R510.tr ⟨R517.1, R517.2⟩ (by omega) (by omega) (by omega) (by omega)
        have z547 := R546.2.2.1
        have z548 := R546.2.2.2.1 rd_at
        refine k_areturn ?_
        have X549 : ExC [0, 1, 2, 60, 61, 62, 63, 64, 65, 66, 67, 68, 69, 70, 72, 73, 74, 75, 76, 242, 243, 244, 246, 270, 271, 272, 273, 275, 276, 277, 278, 279, 280, 330, 331, 332, 333, 334, 999] σ0 σ512 := X36.tr (e516.mo (by decide))
        exact ⟨_, rfl, H515, X549, h518, (R546.mo (by omega) (by omega) (by omega)), (by omega), (by rw [c538] <;> omega), (by rw [c543] <;> omega)⟩
      refine k_swn ?_
      refine hB _ _ _ _ (kgoC (is := KX7_readStatement_158) rfl ?_)
      refine k_aload_n rfl ?_
      refine k_inv (P := P_X7_code) (Q := Q_X7_code) rfl rfl rfl rfl (Nat.le_of_ble_eq_true rfl) (t30.rc (by decide)) ⟨_, rfl, H17, t30, (rd_cd.st H0 h_0_0 X36 R35.1 (by decide))⟩ (fun w550 σ551 q552 => ?_)
      obtain ⟨x553, rfl, rfl, q554, q555, q556⟩ := q552
      refine k_st (st' := [.inl x553]) rfl ?_
      refine k_bipush (m := 80) rfl (fun x557 h558 => ?_)
      refine k_ic_ne (fun h559 => ?_) (fun h559 => ?_)
      · refine hB _ _ _ _ (kgoC (is := KX7_readStatement_184) rfl ?_)
        refine k_aload_n rfl ?_
        refine k_iload_n rfl ?_
        refine k_inv (P := (P_X7_readExpStatement d)) (Q := (Q_X7_readExpStatement d)) rfl rfl rfl rfl (Nat.le_of_ble_eq_true rfl) (t30.rc (by decide)) ⟨_, _, rfl, H17, t30, (by omega), (by omega), (rd_cd.st H0 h_0_0 X36 R35.1 (by decide)), (R35.2.2.2.1 rd_at), (rd_bg.st H0 h_0_0 X36 R35 (by decide) (by omega) (by omega) (by omega)), (by omega)⟩ (fun w560 σ561 q562 => ?_)
        obtain ⟨a563, rfl, H564, e565, h567, R566, q568, q569, q570⟩ := q562
        have t576 := t30.x e565
        obtain ⟨x571, e572, c573, h574, h575⟩ := cg242 H564.1 t576
        obtain ⟨x577, e578, c579, h580, h581⟩ := cg243 H564.1 t576
        have z582 := congrArg Int32.toInt c573
        have z583 := congrArg Int32.toInt c579
        refine k_st (st' := [.inr (.inr (some a563))]) rfl ?_
        have z584 := R35.1.1
        obtain ⟨x585, e586, c587, h588, h589⟩ := cg272 H564.1 h567
        rw [c587] at q569
        obtain ⟨x590, e591, c592, h593, h594⟩ := cg270 H564.1 h567
        rw [c592] at q570
        have R595 : RdC p0 none (0) (22 + 8 * (d : Int)) (3) σ0 σ561 := R35.tr ⟨R566.1, R566.2⟩ (by omega) (by omega) (by omega) (by omega)
        have z596 := R595.2.2.1
        have z597 := R595.2.2.2.1 rd_at
        refine k_nil ?_
        refine hB _ _ _ _ (kgoC (is := KX7_readStatement_189) rfl ?_)
        refine k_areturn ?_
        have X598 : ExC [0, 1, 2, 60, 61, 62, 63, 64, 65, 66, 67, 68, 69, 70, 72, 73, 74, 75, 76, 242, 243, 244, 246, 270, 271, 272, 273, 275, 276, 277, 278, 279, 280, 330, 331, 332, 333, 334, 999] σ0 σ561 := X36.tr (e565.mo (by decide))
        exact ⟨_, rfl, H564, X598, h567, (R595.mo (by omega) (by omega) (by omega)), (by omega), (by rw [c587] <;> omega), (by rw [c592] <;> omega)⟩
      · have h599 : x25.toInt = 0 := by omega
        refine k_nil ?_
        refine hB _ _ _ _ (kgoC (is := KX7_readStatement_167) rfl ?_)
        refine k_aload_n rfl ?_
        have R600 := R35.nf (-1000) (-1000) (by rw [c27]; omega)
        refine k_inv (P := P_X7_codeBehind) (Q := Q_X7_codeBehind) rfl rfl rfl rfl (Nat.le_of_ble_eq_true rfl) (t30.rc (by decide)) ⟨_, rfl, H17, t30, (rd_cd.st H0 h_0_0 X36 R600.1 (by decide))⟩ (fun w601 σ602 q603 => ?_)
        obtain ⟨x604, rfl, rfl, q605, q606⟩ := q603
        refine k_st (st' := [.inl x604]) rfl ?_
        refine k_bipush (m := 6) rfl (fun x607 h608 => ?_)
        refine k_ic_ne (fun h609 => ?_) (fun h609 => ?_)
        · refine hB _ _ _ _ (kgoC (is := KX7_readStatement_184) rfl ?_)
          refine k_aload_n rfl ?_
          refine k_iload_n rfl ?_
          refine k_inv (P := (P_X7_readExpStatement d)) (Q := (Q_X7_readExpStatement d)) rfl rfl rfl rfl (Nat.le_of_ble_eq_true rfl) (t30.rc (by decide)) ⟨_, _, rfl, H17, t30, (by omega), (by omega), (rd_cd.st H0 h_0_0 X36 R600.1 (by decide)), (R600.2.2.2.1 rd_at), (rd_bg.stn H0 h_0_0 X36 R600 (by decide) (by rw [c27]; omega) (by omega)), (by omega)⟩ (fun w610 σ611 q612 => ?_)
          obtain ⟨a613, rfl, H614, e615, h617, R616, q618, q619, q620⟩ := q612
          have t626 := t30.x e615
          obtain ⟨x621, e622, c623, h624, h625⟩ := cg242 H614.1 t626
          obtain ⟨x627, e628, c629, h630, h631⟩ := cg243 H614.1 t626
          have z632 := congrArg Int32.toInt c623
          have z633 := congrArg Int32.toInt c629
          refine k_st (st' := [.inr (.inr (some a613))]) rfl ?_
          have z634 := R600.1.1
          obtain ⟨x635, e636, c637, h638, h639⟩ := cg272 H614.1 h617
          rw [c637] at q619
          obtain ⟨x640, e641, c642, h643, h644⟩ := cg270 H614.1 h617
          rw [c642] at q620
          have R645 : RdC p0 none (0) (22 + 8 * (d : Int)) (-997) σ0 σ611 := R600.tr ⟨R616.1, R616.2⟩ (by omega) (by omega) (by omega) (by omega)
          have z646 := R645.2.2.1
          have z647 := R645.2.2.2.1 rd_at
          refine k_nil ?_
          refine hB _ _ _ _ (kgoC (is := KX7_readStatement_189) rfl ?_)
          refine k_areturn ?_
          have X648 : ExC [0, 1, 2, 60, 61, 62, 63, 64, 65, 66, 67, 68, 69, 70, 72, 73, 74, 75, 76, 242, 243, 244, 246, 270, 271, 272, 273, 275, 276, 277, 278, 279, 280, 330, 331, 332, 333, 334, 999] σ0 σ611 := X36.tr (e615.mo (by decide))
          exact ⟨_, rfl, H614, X648, h617, (R645.mo (by omega) (by omega) (by omega)), (by omega), (by rw [c637] <;> omega), (by rw [c642] <;> omega)⟩
        · refine k_nil ?_
          refine hB _ _ _ _ (kgoC (is := KX7_readStatement_176) rfl ?_)
          refine k_aload_n rfl ?_
          refine k_iload_n rfl ?_
          refine k_inv (P := (P_X7_readLabel d)) (Q := (Q_X7_readLabel d)) rfl rfl rfl rfl (Nat.le_of_ble_eq_true rfl) (t30.rc (by decide)) ⟨_, _, rfl, H17, t30, (by omega), (by omega), (rd_cd.st H0 h_0_0 X36 R600.1 (by decide)), (R600.2.2.2.1 rd_at), ((show BgC σ14 p0 (24 + 8 * (d : Int)) 0 from (rd_bg.stn H0 h_0_0 X36 R600 (by decide) (by rw [c27]; omega) (by omega))).1 (by rw [c27]; omega)), (by rw [c27]; omega), (by have ct := R600.2.2.1; rw [c27, c24, ct]; omega), (by omega)⟩ (fun w649 σ650 q651 => ?_)
          obtain ⟨a652, rfl, H653, e654, h656, R655, q657, q658, q659⟩ := q651
          have t665 := t30.x e654
          obtain ⟨x660, e661, c662, h663, h664⟩ := cg242 H653.1 t665
          obtain ⟨x666, e667, c668, h669, h670⟩ := cg243 H653.1 t665
          have z671 := congrArg Int32.toInt c662
          have z672 := congrArg Int32.toInt c668
          refine k_st (st' := [.inr (.inr (some a652))]) rfl ?_
          have z673 := R600.1.1
          obtain ⟨x674, e675, c676, h677, h678⟩ := cg272 H653.1 h656
          rw [c676] at q658
          obtain ⟨x679, e680, c681, h682, h683⟩ := cg270 H653.1 h656
          rw [c681] at q659
          have R684 : RdC p0 none (0) (24 + 8 * (d : Int)) (-1000) σ0 σ650 := R600.tr ⟨R655.1, R655.2⟩ (by omega) (by omega) (by omega) (by omega)
          have z685 := R684.2.2.1
          have z686 := R684.2.2.2.1 rd_at
          refine k_goto ?_
          refine hB _ _ _ _ (kgoC (is := KX7_readStatement_189) rfl ?_)
          refine k_areturn ?_
          have X687 : ExC [0, 1, 2, 60, 61, 62, 63, 64, 65, 66, 67, 68, 69, 70, 72, 73, 74, 75, 76, 242, 243, 244, 246, 270, 271, 272, 273, 275, 276, 277, 278, 279, 280, 330, 331, 332, 333, 334, 999] σ0 σ650 := X36.tr (e654.mo (by decide))
          exact ⟨_, rfl, H653, X687, h656, (R684.mo (by omega) (by omega) (by omega)), (by omega), (by rw [c676] <;> omega), (by rw [c681] <;> omega)⟩
    · have h688 : 1 ≤ x25.toInt := by have hq := (q22 (by omega)).2; rw [c27] at hq; omega
      have h689 := (q22 (by omega)).1
      refine k_popI ?_
      refine k_aload_n rfl ?_
      have R690 : RdC p0 none (0) (0) (0) σ0 σ14 := (RdC.rf : RdC p0 none 0 0 0 σ0 σ0).tr ⟨R19.1, R19.2⟩ (by omega) (by omega) (by omega) (by omega)
      have X691 : ExC [0, 1, 2, 60, 61, 62, 63, 64, 65, 66, 67, 68, 69, 70, 72, 73, 74, 75, 76, 242, 243, 244, 246, 270, 271, 272, 273, 275, 276, 277, 278, 279, 280, 330, 331, 332, 333, 334, 999] σ0 σ14 := ExC.rf.tr (e18.mo (by decide))
      refine k_inv (P := P_X7_code) (Q := Q_X7_code) rfl rfl rfl rfl (Nat.le_of_ble_eq_true rfl) (t30.rc (by decide)) ⟨_, rfl, H17, t30, (rd_cd.st H0 h_0_0 X691 R690.1 (by decide))⟩ (fun w692 σ693 q694 => ?_)
      obtain ⟨x695, rfl, rfl, q696, q697, q698⟩ := q694
      refine k_st (st' := [.inl x695]) rfl ?_
      have z699 := R690.2.2.1
      have z700 := R690.2.2.2.1 rd_at
      refine k_lsw ?_
      refine k_swc (fun h701 => ?_) (fun h701 => ?_)
      · exfalso; omega
      refine k_swc (fun h702 => ?_) (fun h702 => ?_)
      · exfalso; omega
      refine k_swc (fun h703 => ?_) (fun h703 => ?_)
      · exfalso; omega
      refine k_swc (fun h704 => ?_) (fun h704 => ?_)
      · exfalso; omega
      refine k_swc (fun h705 => ?_) (fun h705 => ?_)
      · exfalso; omega
      refine k_swc (fun h706 => ?_) (fun h706 => ?_)
      · exfalso; omega
      refine k_swc (fun h707 => ?_) (fun h707 => ?_)
      · exfalso; omega
      refine k_swc (fun h708 => ?_) (fun h708 => ?_)
      · exfalso; omega
      refine k_swc (fun h709 => ?_) (fun h709 => ?_)
      · exfalso; omega
      refine k_swc (fun h710 => ?_) (fun h710 => ?_)
      · exfalso; omega
      refine k_swc (fun h711 => ?_) (fun h711 => ?_)
      · exfalso; omega
      refine k_swc (fun h712 => ?_) (fun h712 => ?_)
      · exfalso; omega
      refine k_swn ?_
      refine hB _ _ _ _ (kgoC (is := KX7_readStatement_158) rfl ?_)
      refine k_aload_n rfl ?_
      refine k_inv (P := P_X7_code) (Q := Q_X7_code) rfl rfl rfl rfl (Nat.le_of_ble_eq_true rfl) (t30.rc (by decide)) ⟨_, rfl, H17, t30, (rd_cd.st H0 h_0_0 X691 R690.1 (by decide))⟩ (fun w713 σ714 q715 => ?_)
      obtain ⟨x716, rfl, rfl, q717, q718, q719⟩ := q715
      refine k_st (st' := [.inl x716]) rfl ?_
      refine k_bipush (m := 80) rfl (fun x720 h721 => ?_)
      refine k_ic_ne (fun h722 => ?_) (fun h722 => ?_)
      · refine hB _ _ _ _ (kgoC (is := KX7_readStatement_184) rfl ?_)
        refine k_aload_n rfl ?_
        refine k_iload_n rfl ?_
        refine k_inv (P := (P_X7_readExpStatement d)) (Q := (Q_X7_readExpStatement d)) rfl rfl rfl rfl (Nat.le_of_ble_eq_true rfl) (t30.rc (by decide)) ⟨_, _, rfl, H17, t30, (by omega), (by omega), (rd_cd.st H0 h_0_0 X691 R690.1 (by decide)), (R690.2.2.2.1 rd_at), (rd_bg.st H0 h_0_0 X691 R690 (by decide) (by omega) (by omega) (by omega)), (by omega)⟩ (fun w723 σ724 q725 => ?_)
        obtain ⟨a726, rfl, H727, e728, h730, R729, q731, q732, q733⟩ := q725
        have t739 := t30.x e728
        obtain ⟨x734, e735, c736, h737, h738⟩ := cg242 H727.1 t739
        obtain ⟨x740, e741, c742, h743, h744⟩ := cg243 H727.1 t739
        have z745 := congrArg Int32.toInt c736
        have z746 := congrArg Int32.toInt c742
        refine k_st (st' := [.inr (.inr (some a726))]) rfl ?_
        have z747 := R690.1.1
        obtain ⟨x748, e749, c750, h751, h752⟩ := cg272 H727.1 h730
        rw [c750] at q732
        obtain ⟨x753, e754, c755, h756, h757⟩ := cg270 H727.1 h730
        rw [c755] at q733
        have R758 : RdC p0 none (0) (22 + 8 * (d : Int)) (3) σ0 σ724 := R690.tr ⟨R729.1, R729.2⟩ (by omega) (by omega) (by omega) (by omega)
        have z759 := R758.2.2.1
        have z760 := R758.2.2.2.1 rd_at
        refine k_nil ?_
        refine hB _ _ _ _ (kgoC (is := KX7_readStatement_189) rfl ?_)
        refine k_areturn ?_
        have X761 : ExC [0, 1, 2, 60, 61, 62, 63, 64, 65, 66, 67, 68, 69, 70, 72, 73, 74, 75, 76, 242, 243, 244, 246, 270, 271, 272, 273, 275, 276, 277, 278, 279, 280, 330, 331, 332, 333, 334, 999] σ0 σ724 := X691.tr (e728.mo (by decide))
        exact ⟨_, rfl, H727, X761, h730, (R758.mo (by omega) (by omega) (by omega)), (by omega), (by rw [c750] <;> omega), (by rw [c755] <;> omega)⟩
      · exfalso; omega

set_option maxRecDepth 100000 in
set_option maxHeartbeats 4000000 in
theorem s_X7_readRowPart (l : Launch) (d : Nat) (h_X7_readVariable : CMetC l (13 * d + 37) 141 (P_X7_readVariable d) (Q_X7_readVariable d)) (h_X7_readStatement : CMetC l (13 * d + 40) 149 (P_X7_readStatement d) (Q_X7_readStatement d)) (h_X7_readCase : CMetC l (13 * d + 37) 147 (P_X7_readCase d) (Q_X7_readCase d)) : CMetC l (13 * d + 41) 146 (P_X7_readRowPart d) (Q_X7_readRowPart d) := by
  refine CMetC.of KX7_readRowPart [(125, P_X7_code, Q_X7_code), (141, (P_X7_readVariable d), (Q_X7_readVariable d)), (129, P_X7_expect, Q_X7_expect), (132, P_X7_isType, Q_X7_isType), (149, (P_X7_readStatement d), (Q_X7_readStatement d)), (147, (P_X7_readCase d), (Q_X7_readCase d)), (127, P_X7_raise, Q_X7_raise)] hX7_readRowPart (by decide) (by omega) okX7_readRowPart (cc1C (m_X7_code l) (by omega) (cc1C h_X7_readVariable (by omega) (cc1C (m_X7_expect l) (by omega) (cc1C (m_X7_isType l) (by omega) (cc1C h_X7_readStatement (by omega) (cc1C h_X7_readCase (by omega) (cc1C (m_X7_raise l) (by omega) cc0C))))))) ?_ ?_
  · rintro As σ ⟨p0, p1, p2, p3, rfl, -⟩
    exact Nat.le_of_ble_eq_true rfl
  · rintro As σ0 ⟨p0, p1, p2, p3, rfl, H0, h_0_0, h_1_0, h_1_1, h_2_0, h_2_1, h_3_0, h_3_1, rd_cd, rd_at, rd_bl, rd_lv, rd_dp⟩ hgr G hB hW
    change G 0 [(0, .inr (.inr (some p0))), (1, .inl p1), (2, .inl p2), (3, .inl p3)] [] σ0
    obtain ⟨x1, e2, c3, h4, h5⟩ := cg242 H0.1 h_0_0
    obtain ⟨x6, e7, c8, h9, h10⟩ := cg243 H0.1 h_0_0
    have z11 := congrArg Int32.toInt c3
    have z12 := congrArg Int32.toInt c8
    have h13 : x6.toInt = 0 := by rw [← c8]; exact rd_lv
    have rd_bg : BgC σ0 p0 (24 + 8 * (d : Int)) 1000000 := ⟨fun _ => rd_bl, fun z => absurd rd_lv z⟩
    refine hB _ _ _ _ (kgoC (is := KX7_readRowPart_0) rfl ?_)
    refine k_iload_n rfl ?_
    refine k_if_eq (fun h14 => ?_) (fun h14 => ?_)
    · refine hB _ _ _ _ (kgoC (is := KX7_readRowPart_28) rfl ?_)
      refine k_iload_n rfl ?_
      refine k_if_eq (fun h15 => ?_) (fun h15 => by exfalso; omega)
      refine hB _ _ _ _ (kgoC (is := KX7_readRowPart_41) rfl ?_)
      refine k_aload_n rfl ?_
      have R16 := (RdC.rf : RdC p0 none 0 0 0 σ0 σ0).nf (-1000) (-1000) (by rw [c8]; omega)
      refine k_inv (P := P_X7_code) (Q := Q_X7_code) rfl rfl rfl rfl (Nat.le_of_ble_eq_true rfl) (h_0_0.rc (by decide)) ⟨_, rfl, H0, h_0_0, (rd_cd.st H0 h_0_0 (ExC.rf : ExC [0, 1, 2, 60, 61, 62, 63, 64, 65, 66, 67, 68, 69, 70, 72, 73, 74, 75, 76, 242, 243, 244, 246, 270, 271, 272, 273, 275, 276, 277, 278, 279, 280, 330, 331, 332, 333, 334, 999] σ0 σ0) R16.1 (by decide))⟩ (fun w17 σ18 q19 => ?_)
      obtain ⟨x20, rfl, rfl, q21, q22, q23⟩ := q19
      refine k_st (st' := [.inl x20]) rfl ?_
      have z24 := R16.2.2.1
      have z25 := R16.2.2.2.1 rd_at
      refine k_bipush (m := 71) rfl (fun x26 h27 => ?_)
      refine k_ic_eq (fun h28 => ?_) (fun h28 => ?_)
      · refine hB _ _ _ _ (kgoC (is := KX7_readRowPart_60) rfl ?_)
        refine k_aload_n rfl ?_
        refine k_bipush (m := 91) rfl (fun x29 h30 => ?_)
        refine k_iload_n rfl ?_
        refine k_inv (P := (P_X7_readVariable d)) (Q := (Q_X7_readVariable d)) rfl rfl rfl rfl (Nat.le_of_ble_eq_true rfl) (h_0_0.rc (by decide)) ⟨_, _, _, rfl, H0, h_0_0, (by omega), (by omega), (by omega), (by omega), (rd_cd.st H0 h_0_0 (ExC.rf : ExC [0, 1, 2, 60, 61, 62, 63, 64, 65, 66, 67, 68, 69, 70, 72, 73, 74, 75, 76, 242, 243, 244, 246, 270, 271, 272, 273, 275, 276, 277, 278, 279, 280, 330, 331, 332, 333, 334, 999] σ0 σ0) R16.1 (by decide)), (R16.2.2.2.1 rd_at), ((show BgC σ0 p0 (23 + 8 * (d : Int)) 0 from (rd_bg.stn H0 h_0_0 (ExC.rf : ExC [0, 1, 2, 60, 61, 62, 63, 64, 65, 66, 67, 68, 69, 70, 72, 73, 74, 75, 76, 242, 243, 244, 246, 270, 271, 272, 273, 275, 276, 277, 278, 279, 280, 330, 331, 332, 333, 334, 999] σ0 σ0) R16 (by decide) (by rw [c8]; omega) (by omega))).1 (by rw [c8]; omega)), (by rw [c8]; omega), (by omega)⟩ (fun w31 σ32 q33 => ?_)
        obtain ⟨a34, rfl, H35, e36, h38, R37, q39, q40, q41⟩ := q33
        have t47 := h_0_0.x e36
        obtain ⟨x42, e43, c44, h45, h46⟩ := cg242 H35.1 t47
        obtain ⟨x48, e49, c50, h51, h52⟩ := cg243 H35.1 t47
        have z53 := congrArg Int32.toInt c44
        have z54 := congrArg Int32.toInt c50
        refine k_st (st' := [.inr (.inr (some a34))]) rfl ?_
        have z55 := R16.1.1
        obtain ⟨x56, e57, c58, h59, h60⟩ := cg272 H35.1 h38
        rw [c58] at q40
        obtain ⟨x61, e62, c63, h64, h65⟩ := cg270 H35.1 h38
        rw [c63] at q41
        have R66 : RdC p0 none (0) (23 + 8 * (d : Int)) (-1000) σ0 σ32 := R16.tr ⟨R37.1, R37.2⟩ (by omega) (by omega) (by omega) (by omega)
        have z67 := R66.2.2.1
        have z68 := R66.2.2.2.1 rd_at
        refine k_astore (ls' := [(4, .inr (.inr (some a34))), (0, .inr (.inr (some p0))), (1, .inl p1), (2, .inl p2), (3, .inl p3)]) rfl ?_
        refine k_aload_n rfl ?_
        refine k_iconst (m := 4) rfl (fun x69 h70 => ?_)
        have X71 : ExC [0, 1, 2, 60, 61, 62, 63, 64, 65, 66, 67, 68, 69, 70, 72, 73, 74, 75, 76, 242, 243, 244, 246, 270, 271, 272, 273, 275, 276, 277, 278, 279, 280, 330, 331, 332, 333, 334, 999] σ0 σ32 := ExC.rf.tr (e36.mo (by decide))
        refine k_inv (P := P_X7_expect) (Q := Q_X7_expect) rfl rfl rfl rfl (Nat.le_of_ble_eq_true rfl) (t47.rc (by decide)) ⟨_, _, rfl, H35, t47, (by omega), (by omega), (rd_cd.st H0 h_0_0 X71 R66.1 (by decide)), (R66.2.2.2.1 rd_at), (rd_bg.st H0 h_0_0 X71 R66 (by decide) (by omega) (by omega) (by omega))⟩ (fun w72 σ73 q74 => ?_)
        obtain ⟨rfl, H75, e76, R77, q78⟩ := q74
        have t84 := t47.x e76
        obtain ⟨x79, e80, c81, h82, h83⟩ := cg242 H75.1 t84
        obtain ⟨x85, e86, c87, h88, h89⟩ := cg243 H75.1 t84
        have z90 := congrArg Int32.toInt c81
        have z91 := congrArg Int32.toInt c87
        refine k_st (st' := []) rfl ?_
        have R92 : RdC p0 none (-8) (23 + 8 * (d : Int)) (-1000) σ0 σ73 := R66.tr ⟨R77.1, R77.2⟩ (by omega) (by omega) (by omega) (by omega)
        have z93 := R92.2.2.1
        have z94 := R92.2.2.2.1 rd_at
        refine k_aload rfl ?_
        refine k_areturn ?_
        have X95 : ExC [0, 1, 2, 60, 61, 62, 63, 64, 65, 66, 67, 68, 69, 70, 72, 73, 74, 75, 76, 242, 243, 244, 246, 270, 271, 272, 273, 275, 276, 277, 278, 279, 280, 330, 331, 332, 333, 334, 999] σ0 σ73 := X71.tr (e76.mo (by decide))
        have t96 := h38.x e76
        have c97 := (h38.mi e76 (by decide)).trans c58
        have c98 := (h38.mi e76 (by decide)).trans c63
        exact ⟨_, rfl, H75, X95, t96, (R92.mo (by omega) (by omega) (by omega)), (by omega), (by rw [c97] <;> omega), (by rw [c98] <;> omega)⟩
      · refine k_nil ?_
        refine hB _ _ _ _ (kgoC (is := KX7_readRowPart_50) rfl ?_)
        refine k_aload_n rfl ?_
        refine k_inv (P := P_X7_code) (Q := Q_X7_code) rfl rfl rfl rfl (Nat.le_of_ble_eq_true rfl) (h_0_0.rc (by decide)) ⟨_, rfl, H0, h_0_0, (rd_cd.st H0 h_0_0 (ExC.rf : ExC [0, 1, 2, 60, 61, 62, 63, 64, 65, 66, 67, 68, 69, 70, 72, 73, 74, 75, 76, 242, 243, 244, 246, 270, 271, 272, 273, 275, 276, 277, 278, 279, 280, 330, 331, 332, 333, 334, 999] σ0 σ0) R16.1 (by decide))⟩ (fun w99 σ100 q101 => ?_)
        obtain ⟨x102, rfl, rfl, q103, q104, q105⟩ := q101
        refine k_st (st' := [.inl x102]) rfl ?_
        refine k_stat (P := P_X7_isType) (Q := Q_X7_isType) rfl rfl (Nat.le_of_ble_eq_true rfl) rfl rfl (Nat.le_of_ble_eq_true rfl) ⟨_, rfl, H0⟩ (fun w106 σ107 q108 => ?_)
        obtain ⟨x109, rfl, rfl, h110, h111, q112⟩ := q108
        refine k_st (st' := [.inl x109]) rfl ?_
        rcases (by omega : x109.toInt = 0 ∨ x109.toInt = 1) with g113 | g113
        · refine k_if_eq (fun h114 => ?_) (fun h114 => by exfalso; omega)
          refine hB _ _ _ _ (kgoC (is := KX7_readRowPart_77) rfl ?_)
          refine k_aload_n rfl ?_
          refine k_iload_n rfl ?_
          refine k_inv (P := (P_X7_readStatement d)) (Q := (Q_X7_readStatement d)) rfl rfl rfl rfl (Nat.le_of_ble_eq_true rfl) (h_0_0.rc (by decide)) ⟨_, _, rfl, H0, h_0_0, (by omega), (by omega), (rd_cd.st H0 h_0_0 (ExC.rf : ExC [0, 1, 2, 60, 61, 62, 63, 64, 65, 66, 67, 68, 69, 70, 72, 73, 74, 75, 76, 242, 243, 244, 246, 270, 271, 272, 273, 275, 276, 277, 278, 279, 280, 330, 331, 332, 333, 334, 999] σ0 σ0) R16.1 (by decide)), (R16.2.2.2.1 rd_at), (rd_bg.stn H0 h_0_0 (ExC.rf : ExC [0, 1, 2, 60, 61, 62, 63, 64, 65, 66, 67, 68, 69, 70, 72, 73, 74, 75, 76, 242, 243, 244, 246, 270, 271, 272, 273, 275, 276, 277, 278, 279, 280, 330, 331, 332, 333, 334, 999] σ0 σ0) R16 (by decide) (by rw [c8]; omega) (by omega)), (by omega)⟩ (fun w115 σ116 q117 => ?_)
          obtain ⟨a118, rfl, H119, e120, h122, R121, q123, q124, q125⟩ := q117
          have t131 := h_0_0.x e120
          obtain ⟨x126, e127, c128, h129, h130⟩ := cg242 H119.1 t131
          obtain ⟨x132, e133, c134, h135, h136⟩ := cg243 H119.1 t131
          have z137 := congrArg Int32.toInt c128
          have z138 := congrArg Int32.toInt c134
          refine k_st (st' := [.inr (.inr (some a118))]) rfl ?_
          have z139 := R16.1.1
          obtain ⟨x140, e141, c142, h143, h144⟩ := cg272 H119.1 h122
          rw [c142] at q124
          obtain ⟨x145, e146, c147, h148, h149⟩ := cg270 H119.1 h122
          rw [c147] at q125
          have R150 : RdC p0 none (0) (24 + 8 * (d : Int)) (-997) σ0 σ116 := R16.tr ⟨R121.1, R121.2⟩ (by omega) (by omega) (by omega) (by omega)
          have z151 := R150.2.2.1
          have z152 := R150.2.2.2.1 rd_at
          refine k_areturn ?_
          have X153 : ExC [0, 1, 2, 60, 61, 62, 63, 64, 65, 66, 67, 68, 69, 70, 72, 73, 74, 75, 76, 242, 243, 244, 246, 270, 271, 272, 273, 275, 276, 277, 278, 279, 280, 330, 331, 332, 333, 334, 999] σ0 σ116 := ExC.rf.tr (e120.mo (by decide))
          exact ⟨_, rfl, H119, X153, h122, (R150.mo (by omega) (by omega) (by omega)), (by omega), (by rw [c142] <;> omega), (by rw [c147] <;> omega)⟩
        · have h154 := q112 (by omega)
          refine k_if_eq (fun h155 => by exfalso; omega) (fun h155 => ?_)
          refine k_nil ?_
          refine hB _ _ _ _ (kgoC (is := KX7_readRowPart_60) rfl ?_)
          refine k_aload_n rfl ?_
          refine k_bipush (m := 91) rfl (fun x156 h157 => ?_)
          refine k_iload_n rfl ?_
          refine k_inv (P := (P_X7_readVariable d)) (Q := (Q_X7_readVariable d)) rfl rfl rfl rfl (Nat.le_of_ble_eq_true rfl) (h_0_0.rc (by decide)) ⟨_, _, _, rfl, H0, h_0_0, (by omega), (by omega), (by omega), (by omega), (rd_cd.st H0 h_0_0 (ExC.rf : ExC [0, 1, 2, 60, 61, 62, 63, 64, 65, 66, 67, 68, 69, 70, 72, 73, 74, 75, 76, 242, 243, 244, 246, 270, 271, 272, 273, 275, 276, 277, 278, 279, 280, 330, 331, 332, 333, 334, 999] σ0 σ0) R16.1 (by decide)), (R16.2.2.2.1 rd_at), ((show BgC σ0 p0 (23 + 8 * (d : Int)) 0 from (rd_bg.stn H0 h_0_0 (ExC.rf : ExC [0, 1, 2, 60, 61, 62, 63, 64, 65, 66, 67, 68, 69, 70, 72, 73, 74, 75, 76, 242, 243, 244, 246, 270, 271, 272, 273, 275, 276, 277, 278, 279, 280, 330, 331, 332, 333, 334, 999] σ0 σ0) R16 (by decide) (by rw [c8]; omega) (by omega))).1 (by rw [c8]; omega)), (by rw [c8]; omega), (by omega)⟩ (fun w158 σ159 q160 => ?_)
          obtain ⟨a161, rfl, H162, e163, h165, R164, q166, q167, q168⟩ := q160
          have t174 := h_0_0.x e163
          obtain ⟨x169, e170, c171, h172, h173⟩ := cg242 H162.1 t174
          obtain ⟨x175, e176, c177, h178, h179⟩ := cg243 H162.1 t174
          have z180 := congrArg Int32.toInt c171
          have z181 := congrArg Int32.toInt c177
          refine k_st (st' := [.inr (.inr (some a161))]) rfl ?_
          have z182 := R16.1.1
          obtain ⟨x183, e184, c185, h186, h187⟩ := cg272 H162.1 h165
          rw [c185] at q167
          obtain ⟨x188, e189, c190, h191, h192⟩ := cg270 H162.1 h165
          rw [c190] at q168
          have R193 : RdC p0 none (0) (23 + 8 * (d : Int)) (-1000) σ0 σ159 := R16.tr ⟨R164.1, R164.2⟩ (by omega) (by omega) (by omega) (by omega)
          have z194 := R193.2.2.1
          have z195 := R193.2.2.2.1 rd_at
          refine k_astore (ls' := [(4, .inr (.inr (some a161))), (0, .inr (.inr (some p0))), (1, .inl p1), (2, .inl p2), (3, .inl p3)]) rfl ?_
          refine k_aload_n rfl ?_
          refine k_iconst (m := 4) rfl (fun x196 h197 => ?_)
          have X198 : ExC [0, 1, 2, 60, 61, 62, 63, 64, 65, 66, 67, 68, 69, 70, 72, 73, 74, 75, 76, 242, 243, 244, 246, 270, 271, 272, 273, 275, 276, 277, 278, 279, 280, 330, 331, 332, 333, 334, 999] σ0 σ159 := ExC.rf.tr (e163.mo (by decide))
          refine k_inv (P := P_X7_expect) (Q := Q_X7_expect) rfl rfl rfl rfl (Nat.le_of_ble_eq_true rfl) (t174.rc (by decide)) ⟨_, _, rfl, H162, t174, (by omega), (by omega), (rd_cd.st H0 h_0_0 X198 R193.1 (by decide)), (R193.2.2.2.1 rd_at), (rd_bg.st H0 h_0_0 X198 R193 (by decide) (by omega) (by omega) (by omega))⟩ (fun w199 σ200 q201 => ?_)
          obtain ⟨rfl, H202, e203, R204, q205⟩ := q201
          have t211 := t174.x e203
          obtain ⟨x206, e207, c208, h209, h210⟩ := cg242 H202.1 t211
          obtain ⟨x212, e213, c214, h215, h216⟩ := cg243 H202.1 t211
          have z217 := congrArg Int32.toInt c208
          have z218 := congrArg Int32.toInt c214
          refine k_st (st' := []) rfl ?_
          have R219 : RdC p0 none (-8) (23 + 8 * (d : Int)) (-1000) σ0 σ200 := R193.tr ⟨R204.1, R204.2⟩ (by omega) (by omega) (by omega) (by omega)
          have z220 := R219.2.2.1
          have z221 := R219.2.2.2.1 rd_at
          refine k_aload rfl ?_
          refine k_areturn ?_
          have X222 : ExC [0, 1, 2, 60, 61, 62, 63, 64, 65, 66, 67, 68, 69, 70, 72, 73, 74, 75, 76, 242, 243, 244, 246, 270, 271, 272, 273, 275, 276, 277, 278, 279, 280, 330, 331, 332, 333, 334, 999] σ0 σ200 := X198.tr (e203.mo (by decide))
          have t223 := h165.x e203
          have c224 := (h165.mi e203 (by decide)).trans c185
          have c225 := (h165.mi e203 (by decide)).trans c190
          exact ⟨_, rfl, H202, X222, t223, (R219.mo (by omega) (by omega) (by omega)), (by omega), (by rw [c224] <;> omega), (by rw [c225] <;> omega)⟩
    · refine k_nil ?_
      refine hB _ _ _ _ (kgoC (is := KX7_readRowPart_4) rfl ?_)
      refine k_aload_n rfl ?_
      have R226 := (RdC.rf : RdC p0 none 0 0 0 σ0 σ0).nf (-1000) (-1000) (by rw [c8]; omega)
      refine k_inv (P := P_X7_code) (Q := Q_X7_code) rfl rfl rfl rfl (Nat.le_of_ble_eq_true rfl) (h_0_0.rc (by decide)) ⟨_, rfl, H0, h_0_0, (rd_cd.st H0 h_0_0 (ExC.rf : ExC [0, 1, 2, 60, 61, 62, 63, 64, 65, 66, 67, 68, 69, 70, 72, 73, 74, 75, 76, 242, 243, 244, 246, 270, 271, 272, 273, 275, 276, 277, 278, 279, 280, 330, 331, 332, 333, 334, 999] σ0 σ0) R226.1 (by decide))⟩ (fun w227 σ228 q229 => ?_)
      obtain ⟨x230, rfl, rfl, q231, q232, q233⟩ := q229
      refine k_st (st' := [.inl x230]) rfl ?_
      have z234 := R226.2.2.1
      have z235 := R226.2.2.2.1 rd_at
      refine k_bipush (m := 62) rfl (fun x236 h237 => ?_)
      refine k_ic_eq (fun h238 => ?_) (fun h238 => ?_)
      · refine hB _ _ _ _ (kgoC (is := KX7_readRowPart_22) rfl ?_)
        refine k_aload_n rfl ?_
        refine k_iload_n rfl ?_
        refine k_inv (P := (P_X7_readCase d)) (Q := (Q_X7_readCase d)) rfl rfl rfl rfl (Nat.le_of_ble_eq_true rfl) (h_0_0.rc (by decide)) ⟨_, _, rfl, H0, h_0_0, (by omega), (by omega), (rd_cd.st H0 h_0_0 (ExC.rf : ExC [0, 1, 2, 60, 61, 62, 63, 64, 65, 66, 67, 68, 69, 70, 72, 73, 74, 75, 76, 242, 243, 244, 246, 270, 271, 272, 273, 275, 276, 277, 278, 279, 280, 330, 331, 332, 333, 334, 999] σ0 σ0) R226.1 (by decide)), (R226.2.2.2.1 rd_at), ((show BgC σ0 p0 (24 + 8 * (d : Int)) 0 from (rd_bg.stn H0 h_0_0 (ExC.rf : ExC [0, 1, 2, 60, 61, 62, 63, 64, 65, 66, 67, 68, 69, 70, 72, 73, 74, 75, 76, 242, 243, 244, 246, 270, 271, 272, 273, 275, 276, 277, 278, 279, 280, 330, 331, 332, 333, 334, 999] σ0 σ0) R226 (by decide) (by rw [c8]; omega) (by omega))).1 (by rw [c8]; omega)), (by rw [c8]; omega), (by have ct := R226.2.2.1; rw [c8, c3, ct]; omega), (by omega), (by omega)⟩ (fun w239 σ240 q241 => ?_)
        obtain ⟨a242, rfl, H243, e244, h246, R245, q247, q248, q249⟩ := q241
        have t255 := h_0_0.x e244
        obtain ⟨x250, e251, c252, h253, h254⟩ := cg242 H243.1 t255
        obtain ⟨x256, e257, c258, h259, h260⟩ := cg243 H243.1 t255
        have z261 := congrArg Int32.toInt c252
        have z262 := congrArg Int32.toInt c258
        refine k_st (st' := [.inr (.inr (some a242))]) rfl ?_
        have z263 := R226.1.1
        obtain ⟨x264, e265, c266, h267, h268⟩ := cg272 H243.1 h246
        rw [c266] at q248
        obtain ⟨x269, e270, c271, h272, h273⟩ := cg270 H243.1 h246
        rw [c271] at q249
        have R274 : RdC p0 none (0) (24 + 8 * (d : Int)) (-1000) σ0 σ240 := R226.tr ⟨R245.1, R245.2⟩ (by omega) (by omega) (by omega) (by omega)
        have z275 := R274.2.2.1
        have z276 := R274.2.2.2.1 rd_at
        refine k_areturn ?_
        have X277 : ExC [0, 1, 2, 60, 61, 62, 63, 64, 65, 66, 67, 68, 69, 70, 72, 73, 74, 75, 76, 242, 243, 244, 246, 270, 271, 272, 273, 275, 276, 277, 278, 279, 280, 330, 331, 332, 333, 334, 999] σ0 σ240 := ExC.rf.tr (e244.mo (by decide))
        exact ⟨_, rfl, H243, X277, h246, (R274.mo (by omega) (by omega) (by omega)), (by omega), (by rw [c266] <;> omega), (by rw [c271] <;> omega)⟩
      · refine k_nil ?_
        refine hB _ _ _ _ (kgoC (is := KX7_readRowPart_13) rfl ?_)
        refine k_aload_n rfl ?_
        refine k_inv (P := P_X7_code) (Q := Q_X7_code) rfl rfl rfl rfl (Nat.le_of_ble_eq_true rfl) (h_0_0.rc (by decide)) ⟨_, rfl, H0, h_0_0, (rd_cd.st H0 h_0_0 (ExC.rf : ExC [0, 1, 2, 60, 61, 62, 63, 64, 65, 66, 67, 68, 69, 70, 72, 73, 74, 75, 76, 242, 243, 244, 246, 270, 271, 272, 273, 275, 276, 277, 278, 279, 280, 330, 331, 332, 333, 334, 999] σ0 σ0) R226.1 (by decide))⟩ (fun w278 σ279 q280 => ?_)
        obtain ⟨x281, rfl, rfl, q282, q283, q284⟩ := q280
        refine k_st (st' := [.inl x281]) rfl ?_
        refine k_bipush (m := 63) rfl (fun x285 h286 => ?_)
        refine k_ic_ne (fun h287 => ?_) (fun h287 => ?_)
        · refine hB _ _ _ _ (kgoC (is := KX7_readRowPart_28) rfl ?_)
          refine k_iload_n rfl ?_
          refine k_if_eq (fun h288 => by exfalso; omega) (fun h288 => ?_)
          refine k_nil ?_
          refine hB _ _ _ _ (kgoC (is := KX7_readRowPart_32) rfl ?_)
          refine k_iload_n rfl ?_
          refine k_if_eq (fun h289 => ?_) (fun h289 => ?_)
          · refine hB _ _ _ _ (kgoC (is := KX7_readRowPart_41) rfl ?_)
            refine k_aload_n rfl ?_
            refine k_inv (P := P_X7_code) (Q := Q_X7_code) rfl rfl rfl rfl (Nat.le_of_ble_eq_true rfl) (h_0_0.rc (by decide)) ⟨_, rfl, H0, h_0_0, (rd_cd.st H0 h_0_0 (ExC.rf : ExC [0, 1, 2, 60, 61, 62, 63, 64, 65, 66, 67, 68, 69, 70, 72, 73, 74, 75, 76, 242, 243, 244, 246, 270, 271, 272, 273, 275, 276, 277, 278, 279, 280, 330, 331, 332, 333, 334, 999] σ0 σ0) R226.1 (by decide))⟩ (fun w290 σ291 q292 => ?_)
            obtain ⟨x293, rfl, rfl, q294, q295, q296⟩ := q292
            refine k_st (st' := [.inl x293]) rfl ?_
            refine k_bipush (m := 71) rfl (fun x297 h298 => ?_)
            refine k_ic_eq (fun h299 => ?_) (fun h299 => ?_)
            · refine hB _ _ _ _ (kgoC (is := KX7_readRowPart_60) rfl ?_)
              refine k_aload_n rfl ?_
              refine k_bipush (m := 91) rfl (fun x300 h301 => ?_)
              refine k_iload_n rfl ?_
              refine k_inv (P := (P_X7_readVariable d)) (Q := (Q_X7_readVariable d)) rfl rfl rfl rfl (Nat.le_of_ble_eq_true rfl) (h_0_0.rc (by decide)) ⟨_, _, _, rfl, H0, h_0_0, (by omega), (by omega), (by omega), (by omega), (rd_cd.st H0 h_0_0 (ExC.rf : ExC [0, 1, 2, 60, 61, 62, 63, 64, 65, 66, 67, 68, 69, 70, 72, 73, 74, 75, 76, 242, 243, 244, 246, 270, 271, 272, 273, 275, 276, 277, 278, 279, 280, 330, 331, 332, 333, 334, 999] σ0 σ0) R226.1 (by decide)), (R226.2.2.2.1 rd_at), ((show BgC σ0 p0 (23 + 8 * (d : Int)) 0 from (rd_bg.stn H0 h_0_0 (ExC.rf : ExC [0, 1, 2, 60, 61, 62, 63, 64, 65, 66, 67, 68, 69, 70, 72, 73, 74, 75, 76, 242, 243, 244, 246, 270, 271, 272, 273, 275, 276, 277, 278, 279, 280, 330, 331, 332, 333, 334, 999] σ0 σ0) R226 (by decide) (by rw [c8]; omega) (by omega))).1 (by rw [c8]; omega)), (by rw [c8]; omega), (by omega)⟩ (fun w302 σ303 q304 => ?_)
              obtain ⟨a305, rfl, H306, e307, h309, R308, q310, q311, q312⟩ := q304
              have t318 := h_0_0.x e307
              obtain ⟨x313, e314, c315, h316, h317⟩ := cg242 H306.1 t318
              obtain ⟨x319, e320, c321, h322, h323⟩ := cg243 H306.1 t318
              have z324 := congrArg Int32.toInt c315
              have z325 := congrArg Int32.toInt c321
              refine k_st (st' := [.inr (.inr (some a305))]) rfl ?_
              have z326 := R226.1.1
              obtain ⟨x327, e328, c329, h330, h331⟩ := cg272 H306.1 h309
              rw [c329] at q311
              obtain ⟨x332, e333, c334, h335, h336⟩ := cg270 H306.1 h309
              rw [c334] at q312
              have R337 : RdC p0 none (0) (23 + 8 * (d : Int)) (-1000) σ0 σ303 := R226.tr ⟨R308.1, R308.2⟩ (by omega) (by omega) (by omega) (by omega)
              have z338 := R337.2.2.1
              have z339 := R337.2.2.2.1 rd_at
              refine k_astore (ls' := [(4, .inr (.inr (some a305))), (0, .inr (.inr (some p0))), (1, .inl p1), (2, .inl p2), (3, .inl p3)]) rfl ?_
              refine k_aload_n rfl ?_
              refine k_iconst (m := 4) rfl (fun x340 h341 => ?_)
              have X342 : ExC [0, 1, 2, 60, 61, 62, 63, 64, 65, 66, 67, 68, 69, 70, 72, 73, 74, 75, 76, 242, 243, 244, 246, 270, 271, 272, 273, 275, 276, 277, 278, 279, 280, 330, 331, 332, 333, 334, 999] σ0 σ303 := ExC.rf.tr (e307.mo (by decide))
              refine k_inv (P := P_X7_expect) (Q := Q_X7_expect) rfl rfl rfl rfl (Nat.le_of_ble_eq_true rfl) (t318.rc (by decide)) ⟨_, _, rfl, H306, t318, (by omega), (by omega), (rd_cd.st H0 h_0_0 X342 R337.1 (by decide)), (R337.2.2.2.1 rd_at), (rd_bg.st H0 h_0_0 X342 R337 (by decide) (by omega) (by omega) (by omega))⟩ (fun w343 σ344 q345 => ?_)
              obtain ⟨rfl, H346, e347, R348, q349⟩ := q345
              have t355 := t318.x e347
              obtain ⟨x350, e351, c352, h353, h354⟩ := cg242 H346.1 t355
              obtain ⟨x356, e357, c358, h359, h360⟩ := cg243 H346.1 t355
              have z361 := congrArg Int32.toInt c352
              have z362 := congrArg Int32.toInt c358
              refine k_st (st' := []) rfl ?_
              have R363 : RdC p0 none (-8) (23 + 8 * (d : Int)) (-1000) σ0 σ344 := R337.tr ⟨R348.1, R348.2⟩ (by omega) (by omega) (by omega) (by omega)
              have z364 := R363.2.2.1
              have z365 := R363.2.2.2.1 rd_at
              refine k_aload rfl ?_
              refine k_areturn ?_
              have X366 : ExC [0, 1, 2, 60, 61, 62, 63, 64, 65, 66, 67, 68, 69, 70, 72, 73, 74, 75, 76, 242, 243, 244, 246, 270, 271, 272, 273, 275, 276, 277, 278, 279, 280, 330, 331, 332, 333, 334, 999] σ0 σ344 := X342.tr (e347.mo (by decide))
              have t367 := h309.x e347
              have c368 := (h309.mi e347 (by decide)).trans c329
              have c369 := (h309.mi e347 (by decide)).trans c334
              exact ⟨_, rfl, H346, X366, t367, (R363.mo (by omega) (by omega) (by omega)), (by omega), (by rw [c368] <;> omega), (by rw [c369] <;> omega)⟩
            · refine k_nil ?_
              refine hB _ _ _ _ (kgoC (is := KX7_readRowPart_50) rfl ?_)
              refine k_aload_n rfl ?_
              refine k_inv (P := P_X7_code) (Q := Q_X7_code) rfl rfl rfl rfl (Nat.le_of_ble_eq_true rfl) (h_0_0.rc (by decide)) ⟨_, rfl, H0, h_0_0, (rd_cd.st H0 h_0_0 (ExC.rf : ExC [0, 1, 2, 60, 61, 62, 63, 64, 65, 66, 67, 68, 69, 70, 72, 73, 74, 75, 76, 242, 243, 244, 246, 270, 271, 272, 273, 275, 276, 277, 278, 279, 280, 330, 331, 332, 333, 334, 999] σ0 σ0) R226.1 (by decide))⟩ (fun w370 σ371 q372 => ?_)
              obtain ⟨x373, rfl, rfl, q374, q375, q376⟩ := q372
              refine k_st (st' := [.inl x373]) rfl ?_
              refine k_stat (P := P_X7_isType) (Q := Q_X7_isType) rfl rfl (Nat.le_of_ble_eq_true rfl) rfl rfl (Nat.le_of_ble_eq_true rfl) ⟨_, rfl, H0⟩ (fun w377 σ378 q379 => ?_)
              obtain ⟨x380, rfl, rfl, h381, h382, q383⟩ := q379
              refine k_st (st' := [.inl x380]) rfl ?_
              rcases (by omega : x380.toInt = 0 ∨ x380.toInt = 1) with g384 | g384
              · refine k_if_eq (fun h385 => ?_) (fun h385 => by exfalso; omega)
                refine hB _ _ _ _ (kgoC (is := KX7_readRowPart_77) rfl ?_)
                refine k_aload_n rfl ?_
                refine k_iload_n rfl ?_
                refine k_inv (P := (P_X7_readStatement d)) (Q := (Q_X7_readStatement d)) rfl rfl rfl rfl (Nat.le_of_ble_eq_true rfl) (h_0_0.rc (by decide)) ⟨_, _, rfl, H0, h_0_0, (by omega), (by omega), (rd_cd.st H0 h_0_0 (ExC.rf : ExC [0, 1, 2, 60, 61, 62, 63, 64, 65, 66, 67, 68, 69, 70, 72, 73, 74, 75, 76, 242, 243, 244, 246, 270, 271, 272, 273, 275, 276, 277, 278, 279, 280, 330, 331, 332, 333, 334, 999] σ0 σ0) R226.1 (by decide)), (R226.2.2.2.1 rd_at), (rd_bg.stn H0 h_0_0 (ExC.rf : ExC [0, 1, 2, 60, 61, 62, 63, 64, 65, 66, 67, 68, 69, 70, 72, 73, 74, 75, 76, 242, 243, 244, 246, 270, 271, 272, 273, 275, 276, 277, 278, 279, 280, 330, 331, 332, 333, 334, 999] σ0 σ0) R226 (by decide) (by rw [c8]; omega) (by omega)), (by omega)⟩ (fun w386 σ387 q388 => ?_)
                obtain ⟨a389, rfl, H390, e391, h393, R392, q394, q395, q396⟩ := q388
                have t402 := h_0_0.x e391
                obtain ⟨x397, e398, c399, h400, h401⟩ := cg242 H390.1 t402
                obtain ⟨x403, e404, c405, h406, h407⟩ := cg243 H390.1 t402
                have z408 := congrArg Int32.toInt c399
                have z409 := congrArg Int32.toInt c405
                refine k_st (st' := [.inr (.inr (some a389))]) rfl ?_
                have z410 := R226.1.1
                obtain ⟨x411, e412, c413, h414, h415⟩ := cg272 H390.1 h393
                rw [c413] at q395
                obtain ⟨x416, e417, c418, h419, h420⟩ := cg270 H390.1 h393
                rw [c418] at q396
                have R421 : RdC p0 none (0) (24 + 8 * (d : Int)) (-997) σ0 σ387 := R226.tr ⟨R392.1, R392.2⟩ (by omega) (by omega) (by omega) (by omega)
                have z422 := R421.2.2.1
                have z423 := R421.2.2.2.1 rd_at
                refine k_areturn ?_
                have X424 : ExC [0, 1, 2, 60, 61, 62, 63, 64, 65, 66, 67, 68, 69, 70, 72, 73, 74, 75, 76, 242, 243, 244, 246, 270, 271, 272, 273, 275, 276, 277, 278, 279, 280, 330, 331, 332, 333, 334, 999] σ0 σ387 := ExC.rf.tr (e391.mo (by decide))
                exact ⟨_, rfl, H390, X424, h393, (R421.mo (by omega) (by omega) (by omega)), (by omega), (by rw [c413] <;> omega), (by rw [c418] <;> omega)⟩
              · have h425 := q383 (by omega)
                refine k_if_eq (fun h426 => by exfalso; omega) (fun h426 => ?_)
                refine k_nil ?_
                refine hB _ _ _ _ (kgoC (is := KX7_readRowPart_60) rfl ?_)
                refine k_aload_n rfl ?_
                refine k_bipush (m := 91) rfl (fun x427 h428 => ?_)
                refine k_iload_n rfl ?_
                refine k_inv (P := (P_X7_readVariable d)) (Q := (Q_X7_readVariable d)) rfl rfl rfl rfl (Nat.le_of_ble_eq_true rfl) (h_0_0.rc (by decide)) ⟨_, _, _, rfl, H0, h_0_0, (by omega), (by omega), (by omega), (by omega), (rd_cd.st H0 h_0_0 (ExC.rf : ExC [0, 1, 2, 60, 61, 62, 63, 64, 65, 66, 67, 68, 69, 70, 72, 73, 74, 75, 76, 242, 243, 244, 246, 270, 271, 272, 273, 275, 276, 277, 278, 279, 280, 330, 331, 332, 333, 334, 999] σ0 σ0) R226.1 (by decide)), (R226.2.2.2.1 rd_at), ((show BgC σ0 p0 (23 + 8 * (d : Int)) 0 from (rd_bg.stn H0 h_0_0 (ExC.rf : ExC [0, 1, 2, 60, 61, 62, 63, 64, 65, 66, 67, 68, 69, 70, 72, 73, 74, 75, 76, 242, 243, 244, 246, 270, 271, 272, 273, 275, 276, 277, 278, 279, 280, 330, 331, 332, 333, 334, 999] σ0 σ0) R226 (by decide) (by rw [c8]; omega) (by omega))).1 (by rw [c8]; omega)), (by rw [c8]; omega), (by omega)⟩ (fun w429 σ430 q431 => ?_)
                obtain ⟨a432, rfl, H433, e434, h436, R435, q437, q438, q439⟩ := q431
                have t445 := h_0_0.x e434
                obtain ⟨x440, e441, c442, h443, h444⟩ := cg242 H433.1 t445
                obtain ⟨x446, e447, c448, h449, h450⟩ := cg243 H433.1 t445
                have z451 := congrArg Int32.toInt c442
                have z452 := congrArg Int32.toInt c448
                refine k_st (st' := [.inr (.inr (some a432))]) rfl ?_
                have z453 := R226.1.1
                obtain ⟨x454, e455, c456, h457, h458⟩ := cg272 H433.1 h436
                rw [c456] at q438
                obtain ⟨x459, e460, c461, h462, h463⟩ := cg270 H433.1 h436
                rw [c461] at q439
                have R464 : RdC p0 none (0) (23 + 8 * (d : Int)) (-1000) σ0 σ430 := R226.tr ⟨R435.1, R435.2⟩ (by omega) (by omega) (by omega) (by omega)
                have z465 := R464.2.2.1
                have z466 := R464.2.2.2.1 rd_at
                refine k_astore (ls' := [(4, .inr (.inr (some a432))), (0, .inr (.inr (some p0))), (1, .inl p1), (2, .inl p2), (3, .inl p3)]) rfl ?_
                refine k_aload_n rfl ?_
                refine k_iconst (m := 4) rfl (fun x467 h468 => ?_)
                have X469 : ExC [0, 1, 2, 60, 61, 62, 63, 64, 65, 66, 67, 68, 69, 70, 72, 73, 74, 75, 76, 242, 243, 244, 246, 270, 271, 272, 273, 275, 276, 277, 278, 279, 280, 330, 331, 332, 333, 334, 999] σ0 σ430 := ExC.rf.tr (e434.mo (by decide))
                refine k_inv (P := P_X7_expect) (Q := Q_X7_expect) rfl rfl rfl rfl (Nat.le_of_ble_eq_true rfl) (t445.rc (by decide)) ⟨_, _, rfl, H433, t445, (by omega), (by omega), (rd_cd.st H0 h_0_0 X469 R464.1 (by decide)), (R464.2.2.2.1 rd_at), (rd_bg.st H0 h_0_0 X469 R464 (by decide) (by omega) (by omega) (by omega))⟩ (fun w470 σ471 q472 => ?_)
                obtain ⟨rfl, H473, e474, R475, q476⟩ := q472
                have t482 := t445.x e474
                obtain ⟨x477, e478, c479, h480, h481⟩ := cg242 H473.1 t482
                obtain ⟨x483, e484, c485, h486, h487⟩ := cg243 H473.1 t482
                have z488 := congrArg Int32.toInt c479
                have z489 := congrArg Int32.toInt c485
                refine k_st (st' := []) rfl ?_
                have R490 : RdC p0 none (-8) (23 + 8 * (d : Int)) (-1000) σ0 σ471 := R464.tr ⟨R475.1, R475.2⟩ (by omega) (by omega) (by omega) (by omega)
                have z491 := R490.2.2.1
                have z492 := R490.2.2.2.1 rd_at
                refine k_aload rfl ?_
                refine k_areturn ?_
                have X493 : ExC [0, 1, 2, 60, 61, 62, 63, 64, 65, 66, 67, 68, 69, 70, 72, 73, 74, 75, 76, 242, 243, 244, 246, 270, 271, 272, 273, 275, 276, 277, 278, 279, 280, 330, 331, 332, 333, 334, 999] σ0 σ471 := X469.tr (e474.mo (by decide))
                have t494 := h436.x e474
                have c495 := (h436.mi e474 (by decide)).trans c456
                have c496 := (h436.mi e474 (by decide)).trans c461
                exact ⟨_, rfl, H473, X493, t494, (R490.mo (by omega) (by omega) (by omega)), (by omega), (by rw [c495] <;> omega), (by rw [c496] <;> omega)⟩
          · refine k_nil ?_
            refine hB _ _ _ _ (kgoC (is := KX7_readRowPart_36) rfl ?_)
            refine k_aload_n rfl ?_
            refine k_iconst (m := 2) rfl (fun x497 h498 => ?_)
            refine k_inv (P := P_X7_raise) (Q := Q_X7_raise) rfl rfl rfl rfl (Nat.le_of_ble_eq_true rfl) (h_0_0.rc (by decide)) ⟨_, _, rfl, H0, h_0_0, (by omega), (by omega), (rd_cd.st H0 h_0_0 (ExC.rf : ExC [0, 1, 2, 60, 61, 62, 63, 64, 65, 66, 67, 68, 69, 70, 72, 73, 74, 75, 76, 242, 243, 244, 246, 270, 271, 272, 273, 275, 276, 277, 278, 279, 280, 330, 331, 332, 333, 334, 999] σ0 σ0) R226.1 (by decide)), (R226.2.2.2.1 rd_at), (rd_bg.stn H0 h_0_0 (ExC.rf : ExC [0, 1, 2, 60, 61, 62, 63, 64, 65, 66, 67, 68, 69, 70, 72, 73, 74, 75, 76, 242, 243, 244, 246, 270, 271, 272, 273, 275, 276, 277, 278, 279, 280, 330, 331, 332, 333, 334, 999] σ0 σ0) R226 (by decide) (by rw [c8]; omega) (by omega))⟩ (fun w499 σ500 q501 => ?_)
            obtain ⟨rfl, H502, e503, R504, q505⟩ := q501
            have c506 := (h_0_0.mi e503 (by decide)).trans c3
            have t512 := h_0_0.x e503
            obtain ⟨x507, e508, c509, h510, h511⟩ := cg243 H502.1 t512
            have z513 := congrArg Int32.toInt c506
            have z514 := congrArg Int32.toInt c509
            refine k_st (st' := []) rfl ?_
            have h515 : 1 ≤ x507.toInt := by have hq := q505; rw [c509] at hq; omega
            refine k_nil ?_
            refine hB _ _ _ _ (kgoC (is := KX7_readRowPart_41) rfl ?_)
            refine k_aload_n rfl ?_
            have R516 : RdC p0 none (0) (0) (-1000) σ0 σ500 := R226.tr ⟨R504.1, R504.2⟩ (by omega) (by omega) (by omega) (by omega)
            have X517 : ExC [0, 1, 2, 60, 61, 62, 63, 64, 65, 66, 67, 68, 69, 70, 72, 73, 74, 75, 76, 242, 243, 244, 246, 270, 271, 272, 273, 275, 276, 277, 278, 279, 280, 330, 331, 332, 333, 334, 999] σ0 σ500 := ExC.rf.tr (e503.mo (by decide))
            refine k_inv (P := P_X7_code) (Q := Q_X7_code) rfl rfl rfl rfl (Nat.le_of_ble_eq_true rfl) (t512.rc (by decide)) ⟨_, rfl, H502, t512, (rd_cd.st H0 h_0_0 X517 R516.1 (by decide))⟩ (fun w518 σ519 q520 => ?_)
            obtain ⟨x521, rfl, rfl, q522, q523, q524⟩ := q520
            refine k_st (st' := [.inl x521]) rfl ?_
            have z525 := R516.2.2.1
            have z526 := R516.2.2.2.1 rd_at
            refine k_bipush (m := 71) rfl (fun x527 h528 => ?_)
            refine k_ic_eq (fun h529 => ?_) (fun h529 => ?_)
            · exfalso; omega
            · refine k_nil ?_
              refine hB _ _ _ _ (kgoC (is := KX7_readRowPart_50) rfl ?_)
              refine k_aload_n rfl ?_
              refine k_inv (P := P_X7_code) (Q := Q_X7_code) rfl rfl rfl rfl (Nat.le_of_ble_eq_true rfl) (t512.rc (by decide)) ⟨_, rfl, H502, t512, (rd_cd.st H0 h_0_0 X517 R516.1 (by decide))⟩ (fun w530 σ531 q532 => ?_)
              obtain ⟨x533, rfl, rfl, q534, q535, q536⟩ := q532
              refine k_st (st' := [.inl x533]) rfl ?_
              refine k_stat (P := P_X7_isType) (Q := Q_X7_isType) rfl rfl (Nat.le_of_ble_eq_true rfl) rfl rfl (Nat.le_of_ble_eq_true rfl) ⟨_, rfl, H502⟩ (fun w537 σ538 q539 => ?_)
              obtain ⟨x540, rfl, rfl, h541, h542, q543⟩ := q539
              refine k_st (st' := [.inl x540]) rfl ?_
              rcases (by omega : x540.toInt = 0 ∨ x540.toInt = 1) with g544 | g544
              · refine k_if_eq (fun h545 => ?_) (fun h545 => by exfalso; omega)
                refine hB _ _ _ _ (kgoC (is := KX7_readRowPart_77) rfl ?_)
                refine k_aload_n rfl ?_
                refine k_iload_n rfl ?_
                refine k_inv (P := (P_X7_readStatement d)) (Q := (Q_X7_readStatement d)) rfl rfl rfl rfl (Nat.le_of_ble_eq_true rfl) (t512.rc (by decide)) ⟨_, _, rfl, H502, t512, (by omega), (by omega), (rd_cd.st H0 h_0_0 X517 R516.1 (by decide)), (R516.2.2.2.1 rd_at), (rd_bg.st H0 h_0_0 X517 R516 (by decide) (by omega) (by omega) (by omega)), (by omega)⟩ (fun w546 σ547 q548 => ?_)
                obtain ⟨a549, rfl, H550, e551, h553, R552, q554, q555, q556⟩ := q548
                have t562 := t512.x e551
                obtain ⟨x557, e558, c559, h560, h561⟩ := cg242 H550.1 t562
                obtain ⟨x563, e564, c565, h566, h567⟩ := cg243 H550.1 t562
                have z568 := congrArg Int32.toInt c559
                have z569 := congrArg Int32.toInt c565
                refine k_st (st' := [.inr (.inr (some a549))]) rfl ?_
                have z570 := R516.1.1
                obtain ⟨x571, e572, c573, h574, h575⟩ := cg272 H550.1 h553
                rw [c573] at q555
                obtain ⟨x576, e577, c578, h579, h580⟩ := cg270 H550.1 h553
                rw [c578] at q556
                have R581 : RdC p0 none (0) (24 + 8 * (d : Int)) (-997) σ0 σ547 := R516.tr ⟨R552.1, R552.2⟩ (by omega) (by omega) (by omega) (by omega)
                have z582 := R581.2.2.1
                have z583 := R581.2.2.2.1 rd_at
                refine k_areturn ?_
                have X584 : ExC [0, 1, 2, 60, 61, 62, 63, 64, 65, 66, 67, 68, 69, 70, 72, 73, 74, 75, 76, 242, 243, 244, 246, 270, 271, 272, 273, 275, 276, 277, 278, 279, 280, 330, 331, 332, 333, 334, 999] σ0 σ547 := X517.tr (e551.mo (by decide))
                exact ⟨_, rfl, H550, X584, h553, (R581.mo (by omega) (by omega) (by omega)), (by omega), (by rw [c573] <;> omega), (by rw [c578] <;> omega)⟩
              · have h585 := q543 (by omega)
                exfalso; omega
        · refine k_nil ?_
          refine hB _ _ _ _ (kgoC (is := KX7_readRowPart_22) rfl ?_)
          refine k_aload_n rfl ?_
          refine k_iload_n rfl ?_
          refine k_inv (P := (P_X7_readCase d)) (Q := (Q_X7_readCase d)) rfl rfl rfl rfl (Nat.le_of_ble_eq_true rfl) (h_0_0.rc (by decide)) ⟨_, _, rfl, H0, h_0_0, (by omega), (by omega), (rd_cd.st H0 h_0_0 (ExC.rf : ExC [0, 1, 2, 60, 61, 62, 63, 64, 65, 66, 67, 68, 69, 70, 72, 73, 74, 75, 76, 242, 243, 244, 246, 270, 271, 272, 273, 275, 276, 277, 278, 279, 280, 330, 331, 332, 333, 334, 999] σ0 σ0) R226.1 (by decide)), (R226.2.2.2.1 rd_at), ((show BgC σ0 p0 (24 + 8 * (d : Int)) 0 from (rd_bg.stn H0 h_0_0 (ExC.rf : ExC [0, 1, 2, 60, 61, 62, 63, 64, 65, 66, 67, 68, 69, 70, 72, 73, 74, 75, 76, 242, 243, 244, 246, 270, 271, 272, 273, 275, 276, 277, 278, 279, 280, 330, 331, 332, 333, 334, 999] σ0 σ0) R226 (by decide) (by rw [c8]; omega) (by omega))).1 (by rw [c8]; omega)), (by rw [c8]; omega), (by have ct := R226.2.2.1; rw [c8, c3, ct]; omega), (by omega), (by omega)⟩ (fun w586 σ587 q588 => ?_)
          obtain ⟨a589, rfl, H590, e591, h593, R592, q594, q595, q596⟩ := q588
          have t602 := h_0_0.x e591
          obtain ⟨x597, e598, c599, h600, h601⟩ := cg242 H590.1 t602
          obtain ⟨x603, e604, c605, h606, h607⟩ := cg243 H590.1 t602
          have z608 := congrArg Int32.toInt c599
          have z609 := congrArg Int32.toInt c605
          refine k_st (st' := [.inr (.inr (some a589))]) rfl ?_
          have z610 := R226.1.1
          obtain ⟨x611, e612, c613, h614, h615⟩ := cg272 H590.1 h593
          rw [c613] at q595
          obtain ⟨x616, e617, c618, h619, h620⟩ := cg270 H590.1 h593
          rw [c618] at q596
          have R621 : RdC p0 none (0) (24 + 8 * (d : Int)) (-1000) σ0 σ587 := R226.tr ⟨R592.1, R592.2⟩ (by omega) (by omega) (by omega) (by omega)
          have z622 := R621.2.2.1
          have z623 := R621.2.2.2.1 rd_at
          refine k_areturn ?_
          have X624 : ExC [0, 1, 2, 60, 61, 62, 63, 64, 65, 66, 67, 68, 69, 70, 72, 73, 74, 75, 76, 242, 243, 244, 246, 270, 271, 272, 273, 275, 276, 277, 278, 279, 280, 330, 331, 332, 333, 334, 999] σ0 σ587 := ExC.rf.tr (e591.mo (by decide))
          exact ⟨_, rfl, H590, X624, h593, (R621.mo (by omega) (by omega) (by omega)), (by omega), (by rw [c613] <;> omega), (by rw [c618] <;> omega)⟩

set_option maxRecDepth 100000 in
set_option maxHeartbeats 4000000 in
theorem s_X7_readRow (l : Launch) (d : Nat) (h_X7_readRowPart : CMetC l (13 * d + 41) 146 (P_X7_readRowPart d) (Q_X7_readRowPart d)) : CMetC l (13 * d + 42) 145 (P_X7_readRow d) (Q_X7_readRow d) := by
  refine CMetC.of KX7_readRow [(131, P_X7_isTooDeep, Q_X7_isTooDeep), (125, P_X7_code, Q_X7_code), (146, (P_X7_readRowPart d), (Q_X7_readRowPart d))] hX7_readRow (by decide) (by omega) okX7_readRow (cc1C (m_X7_isTooDeep l) (by omega) (cc1C (m_X7_code l) (by omega) (cc1C h_X7_readRowPart (by omega) cc0C))) ?_ ?_
  · rintro As σ ⟨p0, p1, p2, rfl, -⟩
    exact Nat.le_of_ble_eq_true rfl
  · rintro As σ0 ⟨p0, p1, p2, rfl, H0, h_0_0, h_1_0, h_1_1, h_2_0, h_2_1, rd_cd, rd_at, rd_bg, rd_dp⟩ hgr G hB hW
    change G 0 [(0, .inr (.inr (some p0))), (1, .inl p1), (2, .inl p2)] [] σ0
    obtain ⟨x1, e2, c3, h4, h5⟩ := cg242 H0.1 h_0_0
    obtain ⟨x6, e7, c8, h9, h10⟩ := cg243 H0.1 h_0_0
    have z11 := congrArg Int32.toInt c3
    have z12 := congrArg Int32.toInt c8
    have L14 : ∀ (n14 : Nat), ∀ (σ13 : CsC) (v14_3 : Option Nat) (v14_4 : Option Nat) (v14_5 : Int32), (2147483647 - v14_5.toInt).toNat = n14 → HIC σ13 → ExC [0, 1, 2, 60, 61, 62, 63, 64, 65, 66, 67, 68, 69, 70, 72, 73, 74, 75, 76, 242, 243, 244, 246, 270, 271, 272, 273, 275, 276, 277, 278, 279, 280, 330, 331, 332, 333, 334, 999] σ0 σ13 → RdC p0 none (0) (24 + 8 * (d : Int)) (0) σ0 σ13 → OtC σ13 v14_3 9 → OtC σ13 v14_4 9 → 0 ≤ v14_5.toInt → v14_5.toInt ≤ 502 → (p1.toInt ≤ 20 ∨ ¬ (fIC σ13 p0 243).toInt = 0) → (∀ b, v14_3 = some b → (cnC σ0 ≤ b ∧ (fIC σ13 b 272).toInt = p1.toInt ∧ (fIC σ13 b 270).toInt ≤ 92)) → (∀ b, v14_4 = some b → ((fIC σ13 b 272).toInt = p1.toInt ∧ (fIC σ13 b 270).toInt ≤ 92)) → G 14 [(0, .inr (.inr (some p0))), (1, .inl p1), (2, .inl p2), (3, .inr (.inr v14_3)), (4, .inr (.inr v14_4)), (5, .inl v14_5)] [] σ13 := by
      intro n14
      induction n14 using Nat.strongRecOn with
      | _ n14 ih14 =>
        intro σ13 v14_3 v14_4 v14_5 n14_ H14 e15 R16 h17 h18 h19 h20 h21 h22 h23
        have t29 := h_0_0.x e15
        obtain ⟨x24, e25, c26, h27, h28⟩ := cg242 H14.1 t29
        obtain ⟨x30, e31, c32, h33, h34⟩ := cg243 H14.1 t29
        have z35 := congrArg Int32.toInt c26
        have z36 := congrArg Int32.toInt c32
        refine hB _ _ _ _ (kgoC (is := KX7_readRow_14) rfl ?_)
        refine k_iload rfl ?_
        refine k_sipush (m := 500) rfl (fun x37 h38 => ?_)
        refine k_ic_gt (fun h39 => ?_) (fun h39 => ?_)
        · refine hB _ _ _ _ (kgoC (is := KX7_readRow_82) rfl ?_)
          refine k_aload_n rfl ?_
          refine k_areturn ?_
          have X40 : ExC [0, 1, 2, 60, 61, 62, 63, 64, 65, 66, 67, 68, 69, 70, 72, 73, 74, 75, 76, 242, 243, 244, 246, 270, 271, 272, 273, 275, 276, 277, 278, 279, 280, 330, 331, 332, 333, 334, 999] σ0 σ13 := ExC.rf.tr (e15.mo (by decide))
          exact ⟨v14_3, rfl, H14, X40, h17, (R16.mo (by omega) (by omega) (by omega)), (fun b hb => ⟨(h22 b hb).1, (h22 b hb).2.1⟩)⟩
        · refine k_nil ?_
          refine hB _ _ _ _ (kgoC (is := KX7_readRow_22) rfl ?_)
          refine k_aload_n rfl ?_
          refine k_get kg243 t29 (congrArg (Sum.inl : Int32 → AvC) c32) ?_
          refine k_if_ne (fun h41 => ?_) (fun h41 => ?_)
          · refine hB _ _ _ _ (kgoC (is := KX7_readRow_82) rfl ?_)
            refine k_aload_n rfl ?_
            refine k_areturn ?_
            have X42 : ExC [0, 1, 2, 60, 61, 62, 63, 64, 65, 66, 67, 68, 69, 70, 72, 73, 74, 75, 76, 242, 243, 244, 246, 270, 271, 272, 273, 275, 276, 277, 278, 279, 280, 330, 331, 332, 333, 334, 999] σ0 σ13 := ExC.rf.tr (e15.mo (by decide))
            exact ⟨v14_3, rfl, H14, X42, h17, ((R16.ft (0) (by rw [c32]; omega)).mo (by omega) (by omega) (by omega)), (fun b hb => ⟨(h22 b hb).1, (h22 b hb).2.1⟩)⟩
          · refine k_nil ?_
            refine hB _ _ _ _ (kgoC (is := KX7_readRow_29) rfl ?_)
            refine k_aload_n rfl ?_
            have R43 := R16.nf (-1000) (-1000) (by rw [c32]; omega)
            have X44 : ExC [0, 1, 2, 60, 61, 62, 63, 64, 65, 66, 67, 68, 69, 70, 72, 73, 74, 75, 76, 242, 243, 244, 246, 270, 271, 272, 273, 275, 276, 277, 278, 279, 280, 330, 331, 332, 333, 334, 999] σ0 σ13 := ExC.rf.tr (e15.mo (by decide))
            refine k_inv (P := P_X7_code) (Q := Q_X7_code) rfl rfl rfl rfl (Nat.le_of_ble_eq_true rfl) (t29.rc (by decide)) ⟨_, rfl, H14, t29, (rd_cd.st H0 h_0_0 X44 R43.1 (by decide))⟩ (fun w45 σ46 q47 => ?_)
            obtain ⟨x48, rfl, rfl, q49, q50, q51⟩ := q47
            refine k_st (st' := [.inl x48]) rfl ?_
            have z52 := R43.2.2.1
            have z53 := R43.2.2.2.1 rd_at
            refine k_iconst (m := 3) rfl (fun x54 h55 => ?_)
            refine k_ic_eq (fun h56 => ?_) (fun h56 => ?_)
            · refine hB _ _ _ _ (kgoC (is := KX7_readRow_82) rfl ?_)
              refine k_aload_n rfl ?_
              refine k_areturn ?_
              exact ⟨v14_3, rfl, H14, X44, h17, ((R43.nf (24 + 8 * (d : Int)) (0) (by rw [c32]; omega)).mo (by omega) (by omega) (by omega)), (fun b hb => ⟨(h22 b hb).1, (h22 b hb).2.1⟩)⟩
            · refine k_nil ?_
              refine hB _ _ _ _ (kgoC (is := KX7_readRow_37) rfl ?_)
              refine k_aload_n rfl ?_
              refine k_iload_n rfl ?_
              refine k_iload_n rfl ?_
              refine k_aload_n rfl ?_
              refine k_ifnonnull (fun b57 h58 => ?_) (fun h58 => ?_)
              · subst h58
                have t59 := h17 b57 rfl
                have f60 := h22 b57 rfl
                obtain ⟨x61, e62, c63, h64, h65⟩ := cg272 H14.1 t59
                rw [c63] at f60
                obtain ⟨x66, e67, c68, h69, h70⟩ := cg270 H14.1 t59
                rw [c68] at f60
                refine hB _ _ _ _ (kgoC (is := KX7_readRow_48) rfl ?_)
                refine k_iconst (m := 0) rfl (fun x71 h72 => ?_)
                refine k_nil ?_
                refine hB _ _ _ _ (kgoC (is := KX7_readRow_49) rfl ?_)
                refine k_inv (P := (P_X7_readRowPart d)) (Q := (Q_X7_readRowPart d)) rfl rfl rfl rfl (Nat.le_of_ble_eq_true rfl) (t29.rc (by decide)) ⟨_, _, _, _, rfl, H14, t29, (by omega), (by omega), (by omega), (by omega), (by omega), (by omega), (rd_cd.st H0 h_0_0 X44 R43.1 (by decide)), (R43.2.2.2.1 rd_at), ((show BgC σ13 p0 (24 + 8 * (d : Int)) 0 from (rd_bg.stn H0 h_0_0 X44 R43 (by decide) (by rw [c32]; omega) (by omega))).1 (by rw [c32]; omega)), (by rw [c32]; omega), (by omega)⟩ (fun w73 σ74 q75 => ?_)
                obtain ⟨a76, rfl, H77, e78, h80, R79, q81, q82, q83⟩ := q75
                have t89 := t29.x e78
                obtain ⟨x84, e85, c86, h87, h88⟩ := cg242 H77.1 t89
                obtain ⟨x90, e91, c92, h93, h94⟩ := cg243 H77.1 t89
                have z95 := congrArg Int32.toInt c86
                have z96 := congrArg Int32.toInt c92
                refine k_st (st' := [.inr (.inr (some a76))]) rfl ?_
                have z97 := R43.1.1
                obtain ⟨x98, e99, c100, h101, h102⟩ := cg272 H77.1 h80
                rw [c100] at q82
                obtain ⟨x103, e104, c105, h106, h107⟩ := cg270 H77.1 h80
                rw [c105] at q83
                have R108 : RdC p0 none (0) (24 + 8 * (d : Int)) (-1000) σ0 σ74 := R43.tr ⟨R79.1, R79.2⟩ (by omega) (by omega) (by omega) (by omega)
                have z109 := R108.2.2.1
                have z110 := R108.2.2.2.1 rd_at
                refine k_astore (ls' := [(6, .inr (.inr (some a76))), (0, .inr (.inr (some p0))), (1, .inl p1), (2, .inl p2), (3, .inr (.inr (some b57))), (4, .inr (.inr v14_4)), (5, .inl v14_5)]) rfl ?_
                refine k_aload rfl ?_
                have t113 := h18.x e78
                refine k_ifnonnull (fun b111 h112 => ?_) (fun h112 => ?_)
                · subst h112
                  have t114 := h18 b111 rfl
                  have t115 := t113 b111 rfl
                  have f116 := h23 b111 rfl
                  have X117 : ExC [0, 1, 2, 60, 61, 62, 63, 64, 65, 66, 67, 68, 69, 70, 72, 73, 74, 75, 76, 242, 243, 244, 246, 270, 271, 272, 273, 275, 276, 277, 278, 279, 280, 330, 331, 332, 333, 334, 999] σ13 σ74 := ExC.rf.tr (e78.mo (by decide))
                  rw [← t114.fi (X117) (k := 272) (by decide) (by decide), ← t114.fi (X117) (k := 270) (by decide) (by decide)] at f116
                  obtain ⟨x118, e119, c120, h121, h122⟩ := cg272 H77.1 t115
                  rw [c120] at f116
                  obtain ⟨x123, e124, c125, h126, h127⟩ := cg270 H77.1 t115
                  rw [c125] at f116
                  refine hB _ _ _ _ (kgoC (is := KX7_readRow_65) rfl ?_)
                  refine k_aload rfl ?_
                  refine k_aload rfl ?_
                  have z132 := t114.1
                  refine k_p275 H77 t115 (h80.ot) (fun z hz => by cases hz; exact ⟨by omega, by unfold NxC; rw [c125, c120, c105, c100]; omega⟩) (fun σ128 H129 e130 c131 => ?_)
                  refine k_nil ?_
                  refine hB _ _ _ _ (kgoC (is := KX7_readRow_72) rfl ?_)
                  refine k_aload rfl ?_
                  refine k_astore (ls' := [(4, .inr (.inr (some a76))), (6, .inr (.inr (some a76))), (0, .inr (.inr (some p0))), (1, .inl p1), (2, .inl p2), (3, .inr (.inr (some b57))), (5, .inl v14_5)]) rfl ?_
                  obtain ⟨x133, e135, h134⟩ := iincC (n := 1) (m := 1) (v := v14_5) rfl (by omega) (by omega)
                  refine k_iinc (ls' := [(5, .inl x133), (4, .inr (.inr (some a76))), (6, .inr (.inr (some a76))), (0, .inr (.inr (some p0))), (1, .inl p1), (2, .inl p2), (3, .inr (.inr (some b57)))]) rfl e135 rfl ?_
                  refine k_goto ?_
                  have R136 : RdC p0 none (0) (24 + 8 * (d : Int)) (-1000) σ0 σ128 := R108.tr ⟨(e130.gw H77.1 (by decide)), (e130.cou (u := 0) H77.1 t89 (by decide) (by rw [e130.cn (by decide)]; omega))⟩ (by omega) (by omega) (by omega) (by omega)
                  have c137 := (t89.mi e130 (by decide)).trans c92
                  have t138 := t59.x e78
                  have t139 := t138.x e130
                  have t140 := h80.x e130
                  have c141 := (t89.mi e130 (by decide)).trans c86
                  have c142 := (t59.fi e78 (by decide) (by decide)).trans c63
                  have c143 := (t138.mi e130 (by decide)).trans c142
                  have c144 := (t59.fi e78 (by decide) (by decide)).trans c68
                  have c145 := (t138.mi e130 (by decide)).trans c144
                  have c146 := (h80.mi e130 (by decide)).trans c100
                  have c147 := (h80.mi e130 (by decide)).trans c105
                  have X148 : ExC [0, 1, 2, 60, 61, 62, 63, 64, 65, 66, 67, 68, 69, 70, 72, 73, 74, 75, 76, 242, 243, 244, 246, 270, 271, 272, 273, 275, 276, 277, 278, 279, 280, 330, 331, 332, 333, 334, 999] σ0 σ74 := X44.tr (e78.mo (by decide))
                  have X149 : ExC [0, 1, 2, 60, 61, 62, 63, 64, 65, 66, 67, 68, 69, 70, 72, 73, 74, 75, 76, 242, 243, 244, 246, 270, 271, 272, 273, 275, 276, 277, 278, 279, 280, 330, 331, 332, 333, 334, 999] σ0 σ128 := X148.tr (e130.mo (by decide))
                  exact hW _ _ _ _ _ (List.forall_mem_cons.2 ⟨List.Mem.tail _ (List.Mem.tail _ (List.Mem.tail _ (List.Mem.head _))), (List.forall_mem_cons.2 ⟨List.Mem.tail _ (List.Mem.tail _ (List.Mem.tail _ (List.Mem.tail _ (List.Mem.head _)))), (List.forall_mem_cons.2 ⟨List.Mem.tail _ (List.Mem.tail _ (List.Mem.tail _ (List.Mem.tail _ (List.Mem.tail _ (List.Mem.head _))))), (List.forall_mem_cons.2 ⟨List.Mem.tail _ (List.Mem.tail _ (List.Mem.tail _ (List.Mem.tail _ (List.Mem.tail _ (List.Mem.tail _ (List.Mem.head _)))))), (List.forall_mem_cons.2 ⟨List.Mem.tail _ (List.Mem.head _), (List.forall_mem_cons.2 ⟨List.Mem.head _, fun _ h => absurd h List.not_mem_nil⟩)⟩)⟩)⟩)⟩)⟩) (ih14 ((2147483647 - x133.toInt).toNat) (by omega) σ128 (some b57) (some a76) x133 rfl H129 X149 (R136.mo (by omega) (by omega) (by omega)) t139.ot t140.ot (by omega) (by omega) (by rw [c137] <;> omega) (fun b hb => by cases hb; exact ⟨by omega, by rw [c143] <;> omega, by rw [c145] <;> omega⟩) (fun b hb => by cases hb; exact ⟨by rw [c146] <;> omega, by rw [c147] <;> omega⟩))
                · subst h112
                  refine k_nil ?_
                  refine hB _ _ _ _ (kgoC (is := KX7_readRow_59) rfl ?_)
                  refine k_aload rfl ?_
                  refine k_astore_n (ls' := [(3, .inr (.inr (some a76))), (6, .inr (.inr (some a76))), (0, .inr (.inr (some p0))), (1, .inl p1), (2, .inl p2), (4, .inr (.inr none)), (5, .inl v14_5)]) rfl ?_
                  refine k_goto ?_
                  refine hB _ _ _ _ (kgoC (is := KX7_readRow_72) rfl ?_)
                  refine k_aload rfl ?_
                  refine k_astore (ls' := [(4, .inr (.inr (some a76))), (3, .inr (.inr (some a76))), (6, .inr (.inr (some a76))), (0, .inr (.inr (some p0))), (1, .inl p1), (2, .inl p2), (5, .inl v14_5)]) rfl ?_
                  obtain ⟨x150, e152, h151⟩ := iincC (n := 1) (m := 1) (v := v14_5) rfl (by omega) (by omega)
                  refine k_iinc (ls' := [(5, .inl x150), (4, .inr (.inr (some a76))), (3, .inr (.inr (some a76))), (6, .inr (.inr (some a76))), (0, .inr (.inr (some p0))), (1, .inl p1), (2, .inl p2)]) rfl e152 rfl ?_
                  refine k_goto ?_
                  have X153 : ExC [0, 1, 2, 60, 61, 62, 63, 64, 65, 66, 67, 68, 69, 70, 72, 73, 74, 75, 76, 242, 243, 244, 246, 270, 271, 272, 273, 275, 276, 277, 278, 279, 280, 330, 331, 332, 333, 334, 999] σ0 σ74 := X44.tr (e78.mo (by decide))
                  exact hW _ _ _ _ _ (List.forall_mem_cons.2 ⟨List.Mem.tail _ (List.Mem.tail _ (List.Mem.tail _ (List.Mem.tail _ (List.Mem.head _)))), (List.forall_mem_cons.2 ⟨List.Mem.tail _ (List.Mem.tail _ (List.Mem.tail _ (List.Mem.tail _ (List.Mem.tail _ (List.Mem.head _))))), (List.forall_mem_cons.2 ⟨List.Mem.tail _ (List.Mem.tail _ (List.Mem.tail _ (List.Mem.tail _ (List.Mem.tail _ (List.Mem.tail _ (List.Mem.head _)))))), (List.forall_mem_cons.2 ⟨List.Mem.tail _ (List.Mem.tail _ (List.Mem.head _)), (List.forall_mem_cons.2 ⟨List.Mem.tail _ (List.Mem.head _), (List.forall_mem_cons.2 ⟨List.Mem.head _, fun _ h => absurd h List.not_mem_nil⟩)⟩)⟩)⟩)⟩)⟩) (ih14 ((2147483647 - x150.toInt).toNat) (by omega) σ74 (some a76) (some a76) x150 rfl H77 X153 (R108.mo (by omega) (by omega) (by omega)) h80.ot h80.ot (by omega) (by omega) (by rw [c92] <;> omega) (fun b hb => by cases hb; exact ⟨by omega, by rw [c100] <;> omega, by rw [c105] <;> omega⟩) (fun b hb => by cases hb; exact ⟨by rw [c100] <;> omega, by rw [c105] <;> omega⟩))
              · subst h58
                refine k_nil ?_
                refine hB _ _ _ _ (kgoC (is := KX7_readRow_44) rfl ?_)
                refine k_iconst (m := 1) rfl (fun x154 h155 => ?_)
                refine k_goto ?_
                refine hB _ _ _ _ (kgoC (is := KX7_readRow_49) rfl ?_)
                refine k_inv (P := (P_X7_readRowPart d)) (Q := (Q_X7_readRowPart d)) rfl rfl rfl rfl (Nat.le_of_ble_eq_true rfl) (t29.rc (by decide)) ⟨_, _, _, _, rfl, H14, t29, (by omega), (by omega), (by omega), (by omega), (by omega), (by omega), (rd_cd.st H0 h_0_0 X44 R43.1 (by decide)), (R43.2.2.2.1 rd_at), ((show BgC σ13 p0 (24 + 8 * (d : Int)) 0 from (rd_bg.stn H0 h_0_0 X44 R43 (by decide) (by rw [c32]; omega) (by omega))).1 (by rw [c32]; omega)), (by rw [c32]; omega), (by omega)⟩ (fun w156 σ157 q158 => ?_)
                obtain ⟨a159, rfl, H160, e161, h163, R162, q164, q165, q166⟩ := q158
                have t172 := t29.x e161
                obtain ⟨x167, e168, c169, h170, h171⟩ := cg242 H160.1 t172
                obtain ⟨x173, e174, c175, h176, h177⟩ := cg243 H160.1 t172
                have z178 := congrArg Int32.toInt c169
                have z179 := congrArg Int32.toInt c175
                refine k_st (st' := [.inr (.inr (some a159))]) rfl ?_
                have z180 := R43.1.1
                obtain ⟨x181, e182, c183, h184, h185⟩ := cg272 H160.1 h163
                rw [c183] at q165
                obtain ⟨x186, e187, c188, h189, h190⟩ := cg270 H160.1 h163
                rw [c188] at q166
                have R191 : RdC p0 none (0) (24 + 8 * (d : Int)) (-1000) σ0 σ157 := R43.tr ⟨R162.1, R162.2⟩ (by omega) (by omega) (by omega) (by omega)
                have z192 := R191.2.2.1
                have z193 := R191.2.2.2.1 rd_at
                refine k_astore (ls' := [(6, .inr (.inr (some a159))), (0, .inr (.inr (some p0))), (1, .inl p1), (2, .inl p2), (3, .inr (.inr none)), (4, .inr (.inr v14_4)), (5, .inl v14_5)]) rfl ?_
                refine k_aload rfl ?_
                have t196 := h18.x e161
                refine k_ifnonnull (fun b194 h195 => ?_) (fun h195 => ?_)
                · subst h195
                  have t197 := h18 b194 rfl
                  have t198 := t196 b194 rfl
                  have f199 := h23 b194 rfl
                  have X200 : ExC [0, 1, 2, 60, 61, 62, 63, 64, 65, 66, 67, 68, 69, 70, 72, 73, 74, 75, 76, 242, 243, 244, 246, 270, 271, 272, 273, 275, 276, 277, 278, 279, 280, 330, 331, 332, 333, 334, 999] σ13 σ157 := ExC.rf.tr (e161.mo (by decide))
                  rw [← t197.fi (X200) (k := 272) (by decide) (by decide), ← t197.fi (X200) (k := 270) (by decide) (by decide)] at f199
                  obtain ⟨x201, e202, c203, h204, h205⟩ := cg272 H160.1 t198
                  rw [c203] at f199
                  obtain ⟨x206, e207, c208, h209, h210⟩ := cg270 H160.1 t198
                  rw [c208] at f199
                  refine hB _ _ _ _ (kgoC (is := KX7_readRow_65) rfl ?_)
                  refine k_aload rfl ?_
                  refine k_aload rfl ?_
                  have z215 := t197.1
                  refine k_p275 H160 t198 (h163.ot) (fun z hz => by cases hz; exact ⟨by omega, by unfold NxC; rw [c208, c203, c188, c183]; omega⟩) (fun σ211 H212 e213 c214 => ?_)
                  refine k_nil ?_
                  refine hB _ _ _ _ (kgoC (is := KX7_readRow_72) rfl ?_)
                  refine k_aload rfl ?_
                  refine k_astore (ls' := [(4, .inr (.inr (some a159))), (6, .inr (.inr (some a159))), (0, .inr (.inr (some p0))), (1, .inl p1), (2, .inl p2), (3, .inr (.inr none)), (5, .inl v14_5)]) rfl ?_
                  obtain ⟨x216, e218, h217⟩ := iincC (n := 1) (m := 1) (v := v14_5) rfl (by omega) (by omega)
                  refine k_iinc (ls' := [(5, .inl x216), (4, .inr (.inr (some a159))), (6, .inr (.inr (some a159))), (0, .inr (.inr (some p0))), (1, .inl p1), (2, .inl p2), (3, .inr (.inr none))]) rfl e218 rfl ?_
                  refine k_goto ?_
                  have R219 : RdC p0 none (0) (24 + 8 * (d : Int)) (-1000) σ0 σ211 := R191.tr ⟨(e213.gw H160.1 (by decide)), (e213.cou (u := 0) H160.1 t172 (by decide) (by rw [e213.cn (by decide)]; omega))⟩ (by omega) (by omega) (by omega) (by omega)
                  have c220 := (t172.mi e213 (by decide)).trans c175
                  have t221 := h163.x e213
                  have c222 := (t172.mi e213 (by decide)).trans c169
                  have c223 := (h163.mi e213 (by decide)).trans c183
                  have c224 := (h163.mi e213 (by decide)).trans c188
                  have X225 : ExC [0, 1, 2, 60, 61, 62, 63, 64, 65, 66, 67, 68, 69, 70, 72, 73, 74, 75, 76, 242, 243, 244, 246, 270, 271, 272, 273, 275, 276, 277, 278, 279, 280, 330, 331, 332, 333, 334, 999] σ0 σ157 := X44.tr (e161.mo (by decide))
                  have X226 : ExC [0, 1, 2, 60, 61, 62, 63, 64, 65, 66, 67, 68, 69, 70, 72, 73, 74, 75, 76, 242, 243, 244, 246, 270, 271, 272, 273, 275, 276, 277, 278, 279, 280, 330, 331, 332, 333, 334, 999] σ0 σ211 := X225.tr (e213.mo (by decide))
                  exact hW _ _ _ _ _ (List.forall_mem_cons.2 ⟨List.Mem.tail _ (List.Mem.tail _ (List.Mem.tail _ (List.Mem.head _))), (List.forall_mem_cons.2 ⟨List.Mem.tail _ (List.Mem.tail _ (List.Mem.tail _ (List.Mem.tail _ (List.Mem.head _)))), (List.forall_mem_cons.2 ⟨List.Mem.tail _ (List.Mem.tail _ (List.Mem.tail _ (List.Mem.tail _ (List.Mem.tail _ (List.Mem.head _))))), (List.forall_mem_cons.2 ⟨List.Mem.tail _ (List.Mem.tail _ (List.Mem.tail _ (List.Mem.tail _ (List.Mem.tail _ (List.Mem.tail _ (List.Mem.head _)))))), (List.forall_mem_cons.2 ⟨List.Mem.tail _ (List.Mem.head _), (List.forall_mem_cons.2 ⟨List.Mem.head _, fun _ h => absurd h List.not_mem_nil⟩)⟩)⟩)⟩)⟩)⟩) (ih14 ((2147483647 - x216.toInt).toNat) (by omega) σ211 none (some a159) x216 rfl H212 X226 (R219.mo (by omega) (by omega) (by omega)) OtC.n t221.ot (by omega) (by omega) (by rw [c220] <;> omega) (fun b hb => by cases hb) (fun b hb => by cases hb; exact ⟨by rw [c223] <;> omega, by rw [c224] <;> omega⟩))
                · subst h195
                  refine k_nil ?_
                  refine hB _ _ _ _ (kgoC (is := KX7_readRow_59) rfl ?_)
                  refine k_aload rfl ?_
                  refine k_astore_n (ls' := [(3, .inr (.inr (some a159))), (6, .inr (.inr (some a159))), (0, .inr (.inr (some p0))), (1, .inl p1), (2, .inl p2), (4, .inr (.inr none)), (5, .inl v14_5)]) rfl ?_
                  refine k_goto ?_
                  refine hB _ _ _ _ (kgoC (is := KX7_readRow_72) rfl ?_)
                  refine k_aload rfl ?_
                  refine k_astore (ls' := [(4, .inr (.inr (some a159))), (3, .inr (.inr (some a159))), (6, .inr (.inr (some a159))), (0, .inr (.inr (some p0))), (1, .inl p1), (2, .inl p2), (5, .inl v14_5)]) rfl ?_
                  obtain ⟨x227, e229, h228⟩ := iincC (n := 1) (m := 1) (v := v14_5) rfl (by omega) (by omega)
                  refine k_iinc (ls' := [(5, .inl x227), (4, .inr (.inr (some a159))), (3, .inr (.inr (some a159))), (6, .inr (.inr (some a159))), (0, .inr (.inr (some p0))), (1, .inl p1), (2, .inl p2)]) rfl e229 rfl ?_
                  refine k_goto ?_
                  have X230 : ExC [0, 1, 2, 60, 61, 62, 63, 64, 65, 66, 67, 68, 69, 70, 72, 73, 74, 75, 76, 242, 243, 244, 246, 270, 271, 272, 273, 275, 276, 277, 278, 279, 280, 330, 331, 332, 333, 334, 999] σ0 σ157 := X44.tr (e161.mo (by decide))
                  exact hW _ _ _ _ _ (List.forall_mem_cons.2 ⟨List.Mem.tail _ (List.Mem.tail _ (List.Mem.tail _ (List.Mem.tail _ (List.Mem.head _)))), (List.forall_mem_cons.2 ⟨List.Mem.tail _ (List.Mem.tail _ (List.Mem.tail _ (List.Mem.tail _ (List.Mem.tail _ (List.Mem.head _))))), (List.forall_mem_cons.2 ⟨List.Mem.tail _ (List.Mem.tail _ (List.Mem.tail _ (List.Mem.tail _ (List.Mem.tail _ (List.Mem.tail _ (List.Mem.head _)))))), (List.forall_mem_cons.2 ⟨List.Mem.tail _ (List.Mem.tail _ (List.Mem.head _)), (List.forall_mem_cons.2 ⟨List.Mem.tail _ (List.Mem.head _), (List.forall_mem_cons.2 ⟨List.Mem.head _, fun _ h => absurd h List.not_mem_nil⟩)⟩)⟩)⟩)⟩)⟩) (ih14 ((2147483647 - x227.toInt).toNat) (by omega) σ157 (some a159) (some a159) x227 rfl H160 X230 (R191.mo (by omega) (by omega) (by omega)) h163.ot h163.ot (by omega) (by omega) (by rw [c175] <;> omega) (fun b hb => by cases hb; exact ⟨by omega, by rw [c183] <;> omega, by rw [c188] <;> omega⟩) (fun b hb => by cases hb; exact ⟨by rw [c183] <;> omega, by rw [c188] <;> omega⟩))
    refine hB _ _ _ _ (kgoC (is := KX7_readRow_0) rfl ?_)
    refine k_aconst_null ?_
    refine k_astore_n (ls' := [(3, .inr (.inr none)), (0, .inr (.inr (some p0))), (1, .inl p1), (2, .inl p2)]) rfl ?_
    refine k_aconst_null ?_
    refine k_astore (ls' := [(4, .inr (.inr none)), (3, .inr (.inr none)), (0, .inr (.inr (some p0))), (1, .inl p1), (2, .inl p2)]) rfl ?_
    refine k_aload_n rfl ?_
    refine k_iload_n rfl ?_
    refine k_inv (P := P_X7_isTooDeep) (Q := Q_X7_isTooDeep) rfl rfl rfl rfl (Nat.le_of_ble_eq_true rfl) (h_0_0.rc (by decide)) ⟨_, _, rfl, H0, h_0_0, (rd_cd.st H0 h_0_0 (ExC.rf : ExC [0, 1, 2, 60, 61, 62, 63, 64, 65, 66, 67, 68, 69, 70, 72, 73, 74, 75, 76, 242, 243, 244, 246, 270, 271, 272, 273, 275, 276, 277, 278, 279, 280, 330, 331, 332, 333, 334, 999] σ0 σ0) (RdC.rf : RdC p0 none 0 0 0 σ0 σ0).1 (by decide)), ((RdC.rf : RdC p0 none 0 0 0 σ0 σ0).2.2.2.1 rd_at), (rd_bg.st H0 h_0_0 (ExC.rf : ExC [0, 1, 2, 60, 61, 62, 63, 64, 65, 66, 67, 68, 69, 70, 72, 73, 74, 75, 76, 242, 243, 244, 246, 270, 271, 272, 273, 275, 276, 277, 278, 279, 280, 330, 331, 332, 333, 334, 999] σ0 σ0) (RdC.rf : RdC p0 none 0 0 0 σ0 σ0) (by decide) (by omega) (by omega) (by omega))⟩ (fun w231 σ232 q233 => ?_)
    obtain ⟨x234, rfl, H235, e236, h238, h239, R237, q240, q241⟩ := q233
    have c242 := (h_0_0.mi e236 (by decide)).trans c3
    have t248 := h_0_0.x e236
    obtain ⟨x243, e244, c245, h246, h247⟩ := cg243 H235.1 t248
    have z249 := congrArg Int32.toInt c242
    have z250 := congrArg Int32.toInt c245
    refine k_st (st' := [.inl x234]) rfl ?_
    rcases (by omega : x234.toInt = 0 ∨ x234.toInt = 1) with g251 | g251
    · have h252 := q241 (by omega)
      refine k_popI ?_
      refine k_iconst (m := 0) rfl (fun x253 h254 => ?_)
      refine k_istore (ls' := [(5, .inl x253), (4, .inr (.inr none)), (3, .inr (.inr none)), (0, .inr (.inr (some p0))), (1, .inl p1), (2, .inl p2)]) rfl ?_
      refine k_nil ?_
      have R255 : RdC p0 none (0) (0) (0) σ0 σ232 := (RdC.rf : RdC p0 none 0 0 0 σ0 σ0).tr ⟨R237.1, R237.2⟩ (by omega) (by omega) (by omega) (by omega)
      have X256 : ExC [0, 1, 2, 60, 61, 62, 63, 64, 65, 66, 67, 68, 69, 70, 72, 73, 74, 75, 76, 242, 243, 244, 246, 270, 271, 272, 273, 275, 276, 277, 278, 279, 280, 330, 331, 332, 333, 334, 999] σ0 σ232 := ExC.rf.tr (e236.mo (by decide))
      exact hW _ _ _ _ _ (List.forall_mem_cons.2 ⟨List.Mem.tail _ (List.Mem.tail _ (List.Mem.tail _ (List.Mem.head _))), (List.forall_mem_cons.2 ⟨List.Mem.tail _ (List.Mem.tail _ (List.Mem.tail _ (List.Mem.tail _ (List.Mem.head _)))), (List.forall_mem_cons.2 ⟨List.Mem.tail _ (List.Mem.tail _ (List.Mem.tail _ (List.Mem.tail _ (List.Mem.tail _ (List.Mem.head _))))), (List.forall_mem_cons.2 ⟨List.Mem.tail _ (List.Mem.tail _ (List.Mem.head _)), (List.forall_mem_cons.2 ⟨List.Mem.tail _ (List.Mem.head _), (List.forall_mem_cons.2 ⟨List.Mem.head _, fun _ h => absurd h List.not_mem_nil⟩)⟩)⟩)⟩)⟩)⟩) (L14 _ σ232 none none x253 rfl H235 X256 (R255.mo (by omega) (by omega) (by omega)) OtC.n OtC.n (by omega) (by omega) (by rw [c245] <;> omega) (fun b hb => by cases hb) (fun b hb => by cases hb))
    · have h257 : 1 ≤ x243.toInt := by have hq := (q240 (by omega)).2; rw [c245] at hq; omega
      have h258 := (q240 (by omega)).1
      refine k_popI ?_
      refine k_iconst (m := 0) rfl (fun x259 h260 => ?_)
      refine k_istore (ls' := [(5, .inl x259), (4, .inr (.inr none)), (3, .inr (.inr none)), (0, .inr (.inr (some p0))), (1, .inl p1), (2, .inl p2)]) rfl ?_
      refine k_nil ?_
      have R261 : RdC p0 none (0) (0) (0) σ0 σ232 := (RdC.rf : RdC p0 none 0 0 0 σ0 σ0).tr ⟨R237.1, R237.2⟩ (by omega) (by omega) (by omega) (by omega)
      have X262 : ExC [0, 1, 2, 60, 61, 62, 63, 64, 65, 66, 67, 68, 69, 70, 72, 73, 74, 75, 76, 242, 243, 244, 246, 270, 271, 272, 273, 275, 276, 277, 278, 279, 280, 330, 331, 332, 333, 334, 999] σ0 σ232 := ExC.rf.tr (e236.mo (by decide))
      exact hW _ _ _ _ _ (List.forall_mem_cons.2 ⟨List.Mem.tail _ (List.Mem.tail _ (List.Mem.tail _ (List.Mem.head _))), (List.forall_mem_cons.2 ⟨List.Mem.tail _ (List.Mem.tail _ (List.Mem.tail _ (List.Mem.tail _ (List.Mem.head _)))), (List.forall_mem_cons.2 ⟨List.Mem.tail _ (List.Mem.tail _ (List.Mem.tail _ (List.Mem.tail _ (List.Mem.tail _ (List.Mem.head _))))), (List.forall_mem_cons.2 ⟨List.Mem.tail _ (List.Mem.tail _ (List.Mem.head _)), (List.forall_mem_cons.2 ⟨List.Mem.tail _ (List.Mem.head _), (List.forall_mem_cons.2 ⟨List.Mem.head _, fun _ h => absurd h List.not_mem_nil⟩)⟩)⟩)⟩)⟩)⟩) (L14 _ σ232 none none x259 rfl H235 X262 (R261.mo (by omega) (by omega) (by omega)) OtC.n OtC.n (by omega) (by omega) (by rw [c245] <;> omega) (fun b hb => by cases hb) (fun b hb => by cases hb))
