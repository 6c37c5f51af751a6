set_option maxRecDepth 100000 in
set_option maxHeartbeats 4000000 in
theorem m_X7_readLiteral (l : Launch) : CMetC l 12 177 P_X7_readLiteral Q_X7_readLiteral := by
  refine CMetC.of KX7_readLiteral [(125, P_X7_code, Q_X7_code), (162, P_X7_opened, Q_X7_opened), (128, P_X7_accept, Q_X7_accept), (161, P_X7_put, Q_X7_put)] hX7_readLiteral (by decide) (by decide) okX7_readLiteral (cc1C (m_X7_code l) (by decide) (cc1C (m_X7_opened l) (by decide) (cc1C (m_X7_accept l) (by decide) (cc1C (m_X7_put l) (by decide) cc0C)))) ?_ ?_
  · rintro As σ ⟨p0, rfl, -⟩
    exact Nat.le_of_ble_eq_true rfl
  · rintro As σ0 ⟨p0, rfl, H0, h_0_0, rd_cd, rd_at, rd_bl, rd_lv, rd_tk⟩ hgr G hB hW
    change G 0 [(0, .inr (.inr (some p0)))] [] σ0
    obtain ⟨x1, e2, c3, h4, h5⟩ := cg242 H0.1 h_0_0
    obtain ⟨x6, e7, c8, h9, h10⟩ := cg243 H0.1 h_0_0
    have z11 := congrArg Int32.toInt c3
    have z12 := congrArg Int32.toInt c8
    have h13 : x6.toInt = 0 := by rw [← c8]; exact rd_lv
    have rd_bg : BgC σ0 p0 (2) 1000000 := ⟨fun _ => rd_bl, fun z => absurd rd_lv z⟩
    refine hB _ _ _ _ (kgoC (is := KX7_readLiteral_0) rfl ?_)
    refine k_aload_n rfl ?_
    have R14 := (RdC.rf : RdC p0 none 0 0 0 σ0 σ0).nf (-1000) (-1000) (by rw [c8]; omega)
    refine k_inv (P := P_X7_code) (Q := Q_X7_code) rfl rfl rfl rfl (Nat.le_of_ble_eq_true rfl) (h_0_0.rc (by decide)) ⟨_, rfl, H0, h_0_0, (rd_cd.st H0 h_0_0 (ExC.rf : ExC [0, 1, 2, 60, 61, 62, 63, 64, 65, 66, 67, 68, 70, 242, 243, 244, 999] σ0 σ0) R14.1 (by decide))⟩ (fun w15 σ16 q17 => ?_)
    obtain ⟨x18, rfl, rfl, q19, q20, q21⟩ := q17
    refine k_st (st' := [.inl x18]) rfl ?_
    have z22 := R14.2.2.1
    have z23 := R14.2.2.2.1 rd_at
    refine k_bipush (m := 81) rfl (fun x24 h25 => ?_)
    refine k_ic_eq (fun h26 => ?_) (fun h26 => ?_)
    · refine hB _ _ _ _ (kgoC (is := KX7_readLiteral_18) rfl ?_)
      refine k_iconst (m := 1) rfl (fun x27 h28 => ?_)
      refine k_goto ?_
      refine hB _ _ _ _ (kgoC (is := KX7_readLiteral_23) rfl ?_)
      refine k_istore_n (ls' := [(1, .inl x27), (0, .inr (.inr (some p0)))]) rfl ?_
      refine k_aload_n rfl ?_
      refine k_iload_n rfl ?_
      refine k_if_eq (fun h29 => by exfalso; omega) (fun h29 => ?_)
      refine k_nil ?_
      refine hB _ _ _ _ (kgoC (is := KX7_readLiteral_29) rfl ?_)
      refine k_iconst (m := 0) rfl (fun x30 h31 => ?_)
      refine k_goto ?_
      refine hB _ _ _ _ (kgoC (is := KX7_readLiteral_34) rfl ?_)
      refine k_aload_n rfl ?_
      refine k_inv (P := P_X7_code) (Q := Q_X7_code) rfl rfl rfl rfl (Nat.le_of_ble_eq_true rfl) (h_0_0.rc (by decide)) ⟨_, rfl, H0, h_0_0, (rd_cd.st H0 h_0_0 (ExC.rf : ExC [0, 1, 2, 60, 61, 62, 63, 64, 65, 66, 67, 68, 70, 242, 243, 244, 999] σ0 σ0) R14.1 (by decide))⟩ (fun w32 σ33 q34 => ?_)
      obtain ⟨x35, rfl, rfl, q36, q37, q38⟩ := q34
      refine k_st (st' := [.inl x35, .inl x30, .inr (.inr (some p0))]) rfl ?_
      refine k_inv (P := P_X7_opened) (Q := Q_X7_opened) rfl rfl rfl rfl (Nat.le_of_ble_eq_true rfl) (h_0_0.rc (by decide)) ⟨_, _, _, rfl, H0, h_0_0, (rd_cd.st H0 h_0_0 (ExC.rf : ExC [0, 1, 2, 60, 61, 62, 63, 64, 65, 66, 67, 68, 70, 242, 243, 244, 999] σ0 σ0) R14.1 (by decide)), (R14.2.2.2.1 rd_at), (rd_bg.stn H0 h_0_0 (ExC.rf : ExC [0, 1, 2, 60, 61, 62, 63, 64, 65, 66, 67, 68, 70, 242, 243, 244, 999] σ0 σ0) R14 (by decide) (by rw [c8]; omega) (by omega)), (by omega)⟩ (fun w39 σ40 q41 => ?_)
      obtain ⟨a42, rfl, H43, e44, h46, R45, q47⟩ := q41
      have c48 := (h_0_0.mi e44 (by decide)).trans c3
      have c49 := (h_0_0.mi e44 (by decide)).trans c8
      have z50 := congrArg Int32.toInt c48
      have z51 := congrArg Int32.toInt c49
      refine k_st (st' := [.inr (.inr (some a42))]) rfl ?_
      have z52 := R14.1.1
      have R53 : RdC p0 none (1) (1) (-999) σ0 σ40 := R14.tr ⟨R45.1, R45.2⟩ (by omega) (by omega) (by omega) (by omega)
      have R54 := R53.nf (-1000) (-1000) (by rw [c49]; omega)
      have z55 := R54.2.2.1
      have z56 := R54.2.2.2.1 rd_at
      refine k_astore_n (ls' := [(2, .inr (.inr (some a42))), (1, .inl x27), (0, .inr (.inr (some p0)))]) rfl ?_
      refine k_aload_n rfl ?_
      refine k_iconst (m := 1) rfl (fun x57 h58 => ?_)
      refine k_putI kp70 H43 h46 (Or.inr ⟨fk70, b01C (by omega) (by omega)⟩) (by show 0 ≤ _; omega) (by show _ ≤ 1; omega) (fun σ59 H60 e61 c62 => ?_)
      refine k_aload_n rfl ?_
      refine k_aload_n rfl ?_
      have t63 := h_0_0.x e44
      have t64 := t63.x e61
      have R65 : RdC p0 none (1) (1) (-1000) σ0 σ59 := R54.tr ⟨(e61.gw H43.1 (by decide)), (e61.cou (u := 0) H43.1 t63 (by decide) (by rw [e61.cn (by decide)]; omega))⟩ (by omega) (by omega) (by omega) (by omega)
      have c66 := (t63.mi e61 (by decide)).trans c49
      have R67 := R65.nf (-1000) (-1000) (by rw [c66]; omega)
      have X68 : ExC [0, 1, 2, 60, 61, 62, 63, 64, 65, 66, 67, 68, 70, 242, 243, 244, 999] σ0 σ40 := ExC.rf.tr (e44.mo (by decide))
      have X69 : ExC [0, 1, 2, 60, 61, 62, 63, 64, 65, 66, 67, 68, 70, 242, 243, 244, 999] σ0 σ59 := X68.tr (e61.mo (by decide))
      refine k_inv (P := P_X7_code) (Q := Q_X7_code) rfl rfl rfl rfl (Nat.le_of_ble_eq_true rfl) (t64.rc (by decide)) ⟨_, rfl, H60, t64, (rd_cd.st H0 h_0_0 X69 R67.1 (by decide))⟩ (fun w70 σ71 q72 => ?_)
      obtain ⟨x73, rfl, rfl, q74, q75, q76⟩ := q72
      refine k_st (st' := [.inl x73, .inr (.inr (some a42))]) rfl ?_
      have z77 := R67.2.2.1
      have z78 := R67.2.2.2.1 rd_at
      have c79 := (t63.mi e61 (by decide)).trans c48
      have z80 := congrArg Int32.toInt c79
      have z81 := congrArg Int32.toInt c66
      refine k_bipush (m := 72) rfl (fun x82 h83 => ?_)
      refine k_ic_ne (fun h84 => ?_) (fun h84 => ?_)
      · refine hB _ _ _ _ (kgoC (is := KX7_readLiteral_61) rfl ?_)
        refine k_aload_n rfl ?_
        refine k_inv (P := P_X7_code) (Q := Q_X7_code) rfl rfl rfl rfl (Nat.le_of_ble_eq_true rfl) (t64.rc (by decide)) ⟨_, rfl, H60, t64, (rd_cd.st H0 h_0_0 X69 R67.1 (by decide))⟩ (fun w85 σ86 q87 => ?_)
        obtain ⟨x88, rfl, rfl, q89, q90, q91⟩ := q87
        refine k_st (st' := [.inl x88, .inr (.inr (some a42))]) rfl ?_
        refine k_bipush (m := 73) rfl (fun x92 h93 => ?_)
        refine k_ic_ne (fun h94 => ?_) (fun h94 => ?_)
        · refine hB _ _ _ _ (kgoC (is := KX7_readLiteral_74) rfl ?_)
          refine k_aload_n rfl ?_
          obtain ⟨a97, e95, c96, t98⟩ := cg241 H60.1 t64
          refine k_get kg241 t64 e95 ?_
          obtain ⟨a101, e99, c100, t102, l103⟩ := cg304 H60.1 t98
          refine k_get kg304 t98 e99 ?_
          refine k_aload_n rfl ?_
          refine k_get kg242 t64 (congrArg (Sum.inl : Int32 → AvC) c79) ?_
          refine k_laload t102 (by omega) (by omega) (fun y104 => ?_)
          refine k_nil ?_
          refine hB _ _ _ _ (kgoC (is := KX7_readLiteral_86) rfl ?_)
          have t105 := h46.x e61
          refine k_putL kg71 H60 t105 fk71 (fun σ106 H107 e108 c109 => ?_)
          refine k_aload_n rfl ?_
          refine k_aload_n rfl ?_
          have t110 := t64.x e108
          have R111 : RdC p0 none (1) (1) (-1000) σ0 σ106 := R67.tr ⟨(e108.gw H60.1 (by decide)), (e108.cou (u := 0) H60.1 t64 (by decide) (by rw [e108.cn (by decide)]; omega))⟩ (by omega) (by omega) (by omega) (by omega)
          have c112 := (t64.mi e108 (by decide)).trans c66
          have R113 := R111.nf (-1000) (-1000) (by rw [c112]; omega)
          have X114 : ExC [0, 1, 2, 60, 61, 62, 63, 64, 65, 66, 67, 68, 70, 242, 243, 244, 999] σ0 σ106 := X69.tr (e108.mo (by decide))
          refine k_inv (P := P_X7_code) (Q := Q_X7_code) rfl rfl rfl rfl (Nat.le_of_ble_eq_true rfl) (t110.rc (by decide)) ⟨_, rfl, H107, t110, (rd_cd.st H0 h_0_0 X114 R113.1 (by decide))⟩ (fun w115 σ116 q117 => ?_)
          obtain ⟨x118, rfl, rfl, q119, q120, q121⟩ := q117
          refine k_st (st' := [.inl x118, .inr (.inr (some a42))]) rfl ?_
          have z122 := R113.2.2.1
          have z123 := R113.2.2.2.1 rd_at
          have c124 := (t64.mi e108 (by decide)).trans c79
          have z125 := congrArg Int32.toInt c124
          have z126 := congrArg Int32.toInt c112
          refine k_bipush (m := 83) rfl (fun x127 h128 => ?_)
          refine k_ic_ne (fun h129 => ?_) (fun h129 => ?_)
          · refine hB _ _ _ _ (kgoC (is := KX7_readLiteral_103) rfl ?_)
            refine k_iload_n rfl ?_
            refine k_if_eq (fun h130 => by exfalso; omega) (fun h130 => ?_)
            refine k_nil ?_
            refine hB _ _ _ _ (kgoC (is := KX7_readLiteral_107) rfl ?_)
            refine k_iconst (m := (-1)) rfl (fun x131 h132 => ?_)
            refine k_goto ?_
            refine hB _ _ _ _ (kgoC (is := KX7_readLiteral_112) rfl ?_)
            have t133 := t105.x e108
            refine k_putI kp68 H107 t133 (Or.inl fk68) (tiC x131).1 (tiC x131).2 (fun σ134 H135 e136 c137 => ?_)
            refine k_aload_n rfl ?_
            have t138 := t110.x e136
            have R139 : RdC p0 none (1) (1) (-1000) σ0 σ134 := R113.tr ⟨(e136.gw H107.1 (by decide)), (e136.cou (u := 0) H107.1 t110 (by decide) (by rw [e136.cn (by decide)]; omega))⟩ (by omega) (by omega) (by omega) (by omega)
            have c140 := (t110.mi e136 (by decide)).trans c112
            have R141 := R139.nf (-1000) (-1000) (by rw [c140]; omega)
            have X142 : ExC [0, 1, 2, 60, 61, 62, 63, 64, 65, 66, 67, 68, 70, 242, 243, 244, 999] σ0 σ134 := X114.tr (e136.mo (by decide))
            have c143 := (t110.mi e136 (by decide)).trans c124
            have z144 := congrArg Int32.toInt c143
            have z145 := congrArg Int32.toInt c140
            refine k_inv (P := P_X7_accept) (Q := Q_X7_accept) rfl rfl rfl rfl (Nat.le_of_ble_eq_true rfl) (t138.rc (by decide)) ⟨_, rfl, H135, t138, (rd_cd.st H0 h_0_0 X142 R141.1 (by decide)), (R141.2.2.2.1 rd_at), (rd_bg.stn H0 h_0_0 X142 R141 (by decide) (by rw [c140]; omega) (by omega)), (by have ct := R141.2.2.1; rw [c140, c143, ct]; omega)⟩ (fun w146 σ147 q148 => ?_)
            obtain ⟨rfl, H149, e150, R151, q152⟩ := q148
            have t158 := t138.x e150
            obtain ⟨x153, e154, c155, h156, h157⟩ := cg242 H149.1 t158
            obtain ⟨x159, e160, c161, h162, h163⟩ := cg243 H149.1 t158
            have z164 := congrArg Int32.toInt c155
            have z165 := congrArg Int32.toInt c161
            refine k_st (st' := []) rfl ?_
            have R166 : RdC p0 none (-7) (1) (-1000) σ0 σ147 := R141.tr ⟨R151.1, R151.2⟩ (by omega) (by omega) (by omega) (by omega)
            have z167 := R166.2.2.1
            have z168 := R166.2.2.2.1 rd_at
            refine k_aload_n rfl ?_
            refine k_aload_n rfl ?_
            have t169 := t133.x e136
            have t170 := t169.x e150
            have X171 : ExC [0, 1, 2, 60, 61, 62, 63, 64, 65, 66, 67, 68, 70, 242, 243, 244, 999] σ0 σ147 := X142.tr (e150.mo (by decide))
            refine k_inv (P := P_X7_put) (Q := Q_X7_put) rfl rfl rfl rfl (Nat.le_of_ble_eq_true rfl) (t158.rc (by decide)) ⟨_, _, rfl, H149, t158, t170, (rd_cd.st H0 h_0_0 X171 R166.1 (by decide)), (R166.2.2.2.1 rd_at), (rd_bg.st H0 h_0_0 X171 R166 (by decide) (by omega) (by omega) (by omega))⟩ (fun w172 σ173 q174 => ?_)
            obtain ⟨a175, rfl, H176, e177, h179, R178, q180⟩ := q174
            have c181 := (t158.mi e177 (by decide)).trans c155
            have c182 := (t158.mi e177 (by decide)).trans c161
            have z183 := congrArg Int32.toInt c181
            have z184 := congrArg Int32.toInt c182
            refine k_st (st' := [.inr (.inr (some a175))]) rfl ?_
            refine k_areturn ?_
            have X185 : ExC [0, 1, 2, 60, 61, 62, 63, 64, 65, 66, 67, 68, 70, 242, 243, 244, 999] σ0 σ173 := X171.tr (e177.mo (by decide))
            have R186 : RdC p0 none (-6) (2) (-999) σ0 σ173 := R166.tr ⟨R178.1, R178.2⟩ (by omega) (by omega) (by omega) (by omega)
            exact ⟨_, rfl, H176, X185, h179, (R186.mo (by omega) (by omega) (by omega)), (by omega)⟩
          · refine k_nil ?_
            refine hB _ _ _ _ (kgoC (is := KX7_readLiteral_99) rfl ?_)
            refine k_iconst (m := 2) rfl (fun x187 h188 => ?_)
            refine k_goto ?_
            refine hB _ _ _ _ (kgoC (is := KX7_readLiteral_112) rfl ?_)
            have t189 := t105.x e108
            refine k_putI kp68 H107 t189 (Or.inl fk68) (tiC x187).1 (tiC x187).2 (fun σ190 H191 e192 c193 => ?_)
            refine k_aload_n rfl ?_
            have t194 := t110.x e192
            have R195 : RdC p0 none (1) (1) (-1000) σ0 σ190 := R113.tr ⟨(e192.gw H107.1 (by decide)), (e192.cou (u := 0) H107.1 t110 (by decide) (by rw [e192.cn (by decide)]; omega))⟩ (by omega) (by omega) (by omega) (by omega)
            have c196 := (t110.mi e192 (by decide)).trans c112
            have R197 := R195.nf (-1000) (-1000) (by rw [c196]; omega)
            have X198 : ExC [0, 1, 2, 60, 61, 62, 63, 64, 65, 66, 67, 68, 70, 242, 243, 244, 999] σ0 σ190 := X114.tr (e192.mo (by decide))
            have c199 := (t110.mi e192 (by decide)).trans c124
            have z200 := congrArg Int32.toInt c199
            have z201 := congrArg Int32.toInt c196
            refine k_inv (P := P_X7_accept) (Q := Q_X7_accept) rfl rfl rfl rfl (Nat.le_of_ble_eq_true rfl) (t194.rc (by decide)) ⟨_, rfl, H191, t194, (rd_cd.st H0 h_0_0 X198 R197.1 (by decide)), (R197.2.2.2.1 rd_at), (rd_bg.stn H0 h_0_0 X198 R197 (by decide) (by rw [c196]; omega) (by omega)), (by have ct := R197.2.2.1; rw [c196, c199, ct]; omega)⟩ (fun w202 σ203 q204 => ?_)
            obtain ⟨rfl, H205, e206, R207, q208⟩ := q204
            have t214 := t194.x e206
            obtain ⟨x209, e210, c211, h212, h213⟩ := cg242 H205.1 t214
            obtain ⟨x215, e216, c217, h218, h219⟩ := cg243 H205.1 t214
            have z220 := congrArg Int32.toInt c211
            have z221 := congrArg Int32.toInt c217
            refine k_st (st' := []) rfl ?_
            have R222 : RdC p0 none (-7) (1) (-1000) σ0 σ203 := R197.tr ⟨R207.1, R207.2⟩ (by omega) (by omega) (by omega) (by omega)
            have z223 := R222.2.2.1
            have z224 := R222.2.2.2.1 rd_at
            refine k_aload_n rfl ?_
            refine k_aload_n rfl ?_
            have t225 := t189.x e192
            have t226 := t225.x e206
            have X227 : ExC [0, 1, 2, 60, 61, 62, 63, 64, 65, 66, 67, 68, 70, 242, 243, 244, 999] σ0 σ203 := X198.tr (e206.mo (by decide))
            refine k_inv (P := P_X7_put) (Q := Q_X7_put) rfl rfl rfl rfl (Nat.le_of_ble_eq_true rfl) (t214.rc (by decide)) ⟨_, _, rfl, H205, t214, t226, (rd_cd.st H0 h_0_0 X227 R222.1 (by decide)), (R222.2.2.2.1 rd_at), (rd_bg.st H0 h_0_0 X227 R222 (by decide) (by omega) (by omega) (by omega))⟩ (fun w228 σ229 q230 => ?_)
            obtain ⟨a231, rfl, H232, e233, h235, R234, q236⟩ := q230
            have c237 := (t214.mi e233 (by decide)).trans c211
            have c238 := (t214.mi e233 (by decide)).trans c217
            have z239 := congrArg Int32.toInt c237
            have z240 := congrArg Int32.toInt c238
            refine k_st (st' := [.inr (.inr (some a231))]) rfl ?_
            refine k_areturn ?_
            have X241 : ExC [0, 1, 2, 60, 61, 62, 63, 64, 65, 66, 67, 68, 70, 242, 243, 244, 999] σ0 σ229 := X227.tr (e233.mo (by decide))
            have R242 : RdC p0 none (-6) (2) (-999) σ0 σ229 := R222.tr ⟨R234.1, R234.2⟩ (by omega) (by omega) (by omega) (by omega)
            exact ⟨_, rfl, H232, X241, h235, (R242.mo (by omega) (by omega) (by omega)), (by omega)⟩
        · refine k_nil ?_
          refine hB _ _ _ _ (kgoC (is := KX7_readLiteral_70) rfl ?_)
          refine k_lconst ?_
          refine k_goto ?_
          refine hB _ _ _ _ (kgoC (is := KX7_readLiteral_86) rfl ?_)
          have t243 := h46.x e61
          refine k_putL kg71 H60 t243 fk71 (fun σ244 H245 e246 c247 => ?_)
          refine k_aload_n rfl ?_
          refine k_aload_n rfl ?_
          have t248 := t64.x e246
          have R249 : RdC p0 none (1) (1) (-1000) σ0 σ244 := R67.tr ⟨(e246.gw H60.1 (by decide)), (e246.cou (u := 0) H60.1 t64 (by decide) (by rw [e246.cn (by decide)]; omega))⟩ (by omega) (by omega) (by omega) (by omega)
          have c250 := (t64.mi e246 (by decide)).trans c66
          have R251 := R249.nf (-1000) (-1000) (by rw [c250]; omega)
          have X252 : ExC [0, 1, 2, 60, 61, 62, 63, 64, 65, 66, 67, 68, 70, 242, 243, 244, 999] σ0 σ244 := X69.tr (e246.mo (by decide))
          refine k_inv (P := P_X7_code) (Q := Q_X7_code) rfl rfl rfl rfl (Nat.le_of_ble_eq_true rfl) (t248.rc (by decide)) ⟨_, rfl, H245, t248, (rd_cd.st H0 h_0_0 X252 R251.1 (by decide))⟩ (fun w253 σ254 q255 => ?_)
          obtain ⟨x256, rfl, rfl, q257, q258, q259⟩ := q255
          refine k_st (st' := [.inl x256, .inr (.inr (some a42))]) rfl ?_
          have z260 := R251.2.2.1
          have z261 := R251.2.2.2.1 rd_at
          have c262 := (t64.mi e246 (by decide)).trans c79
          have z263 := congrArg Int32.toInt c262
          have z264 := congrArg Int32.toInt c250
          refine k_bipush (m := 83) rfl (fun x265 h266 => ?_)
          refine k_ic_ne (fun h267 => ?_) (fun h267 => ?_)
          · refine hB _ _ _ _ (kgoC (is := KX7_readLiteral_103) rfl ?_)
            refine k_iload_n rfl ?_
            refine k_if_eq (fun h268 => by exfalso; omega) (fun h268 => ?_)
            refine k_nil ?_
            refine hB _ _ _ _ (kgoC (is := KX7_readLiteral_107) rfl ?_)
            refine k_iconst (m := (-1)) rfl (fun x269 h270 => ?_)
            refine k_goto ?_
            refine hB _ _ _ _ (kgoC (is := KX7_readLiteral_112) rfl ?_)
            have t271 := t243.x e246
            refine k_putI kp68 H245 t271 (Or.inl fk68) (tiC x269).1 (tiC x269).2 (fun σ272 H273 e274 c275 => ?_)
            refine k_aload_n rfl ?_
            have t276 := t248.x e274
            have R277 : RdC p0 none (1) (1) (-1000) σ0 σ272 := R251.tr ⟨(e274.gw H245.1 (by decide)), (e274.cou (u := 0) H245.1 t248 (by decide) (by rw [e274.cn (by decide)]; omega))⟩ (by omega) (by omega) (by omega) (by omega)
            have c278 := (t248.mi e274 (by decide)).trans c250
            have R279 := R277.nf (-1000) (-1000) (by rw [c278]; omega)
            have X280 : ExC [0, 1, 2, 60, 61, 62, 63, 64, 65, 66, 67, 68, 70, 242, 243, 244, 999] σ0 σ272 := X252.tr (e274.mo (by decide))
            have c281 := (t248.mi e274 (by decide)).trans c262
            have z282 := congrArg Int32.toInt c281
            have z283 := congrArg Int32.toInt c278
            refine k_inv (P := P_X7_accept) (Q := Q_X7_accept) rfl rfl rfl rfl (Nat.le_of_ble_eq_true rfl) (t276.rc (by decide)) ⟨_, rfl, H273, t276, (rd_cd.st H0 h_0_0 X280 R279.1 (by decide)), (R279.2.2.2.1 rd_at), (rd_bg.stn H0 h_0_0 X280 R279 (by decide) (by rw [c278]; omega) (by omega)), (by have ct := R279.2.2.1; rw [c278, c281, ct]; omega)⟩ (fun w284 σ285 q286 => ?_)
            obtain ⟨rfl, H287, e288, R289, q290⟩ := q286
            have t296 := t276.x e288
            obtain ⟨x291, e292, c293, h294, h295⟩ := cg242 H287.1 t296
            obtain ⟨x297, e298, c299, h300, h301⟩ := cg243 H287.1 t296
            have z302 := congrArg Int32.toInt c293
            have z303 := congrArg Int32.toInt c299
            refine k_st (st' := []) rfl ?_
            have R304 : RdC p0 none (-7) (1) (-1000) σ0 σ285 := R279.tr ⟨R289.1, R289.2⟩ (by omega) (by omega) (by omega) (by omega)
            have z305 := R304.2.2.1
            have z306 := R304.2.2.2.1 rd_at
            refine k_aload_n rfl ?_
            refine k_aload_n rfl ?_
            have t307 := t271.x e274
            have t308 := t307.x e288
            have X309 : ExC [0, 1, 2, 60, 61, 62, 63, 64, 65, 66, 67, 68, 70, 242, 243, 244, 999] σ0 σ285 := X280.tr (e288.mo (by decide))
            refine k_inv (P := P_X7_put) (Q := Q_X7_put) rfl rfl rfl rfl (Nat.le_of_ble_eq_true rfl) (t296.rc (by decide)) ⟨_, _, rfl, H287, t296, t308, (rd_cd.st H0 h_0_0 X309 R304.1 (by decide)), (R304.2.2.2.1 rd_at), (rd_bg.st H0 h_0_0 X309 R304 (by decide) (by omega) (by omega) (by omega))⟩ (fun w310 σ311 q312 => ?_)
            obtain ⟨a313, rfl, H314, e315, h317, R316, q318⟩ := q312
            have c319 := (t296.mi e315 (by decide)).trans c293
            have c320 := (t296.mi e315 (by decide)).trans c299
            have z321 := congrArg Int32.toInt c319
            have z322 := congrArg Int32.toInt c320
            refine k_st (st' := [.inr (.inr (some a313))]) rfl ?_
            refine k_areturn ?_
            have X323 : ExC [0, 1, 2, 60, 61, 62, 63, 64, 65, 66, 67, 68, 70, 242, 243, 244, 999] σ0 σ311 := X309.tr (e315.mo (by decide))
            have R324 : RdC p0 none (-6) (2) (-999) σ0 σ311 := R304.tr ⟨R316.1, R316.2⟩ (by omega) (by omega) (by omega) (by omega)
            exact ⟨_, rfl, H314, X323, h317, (R324.mo (by omega) (by omega) (by omega)), (by omega)⟩
          · refine k_nil ?_
            refine hB _ _ _ _ (kgoC (is := KX7_readLiteral_99) rfl ?_)
            refine k_iconst (m := 2) rfl (fun x325 h326 => ?_)
            refine k_goto ?_
            refine hB _ _ _ _ (kgoC (is := KX7_readLiteral_112) rfl ?_)
            have t327 := t243.x e246
            refine k_putI kp68 H245 t327 (Or.inl fk68) (tiC x325).1 (tiC x325).2 (fun σ328 H329 e330 c331 => ?_)
            refine k_aload_n rfl ?_
            have t332 := t248.x e330
            have R333 : RdC p0 none (1) (1) (-1000) σ0 σ328 := R251.tr ⟨(e330.gw H245.1 (by decide)), (e330.cou (u := 0) H245.1 t248 (by decide) (by rw [e330.cn (by decide)]; omega))⟩ (by omega) (by omega) (by omega) (by omega)
            have c334 := (t248.mi e330 (by decide)).trans c250
            have R335 := R333.nf (-1000) (-1000) (by rw [c334]; omega)
            have X336 : ExC [0, 1, 2, 60, 61, 62, 63, 64, 65, 66, 67, 68, 70, 242, 243, 244, 999] σ0 σ328 := X252.tr (e330.mo (by decide))
            have c337 := (t248.mi e330 (by decide)).trans c262
            have z338 := congrArg Int32.toInt c337
            have z339 := congrArg Int32.toInt c334
            refine k_inv (P := P_X7_accept) (Q := Q_X7_accept) rfl rfl rfl rfl (Nat.le_of_ble_eq_true rfl) (t332.rc (by decide)) ⟨_, rfl, H329, t332, (rd_cd.st H0 h_0_0 X336 R335.1 (by decide)), (R335.2.2.2.1 rd_at), (rd_bg.stn H0 h_0_0 X336 R335 (by decide) (by rw [c334]; omega) (by omega)), (by have ct := R335.2.2.1; rw [c334, c337, ct]; omega)⟩ (fun w340 σ341 q342 => ?_)
            obtain ⟨rfl, H343, e344, R345, q346⟩ := q342
            have t352 := t332.x e344
            obtain ⟨x347, e348, c349, h350, h351⟩ := cg242 H343.1 t352
            obtain ⟨x353, e354, c355, h356, h357⟩ := cg243 H343.1 t352
            have z358 := congrArg Int32.toInt c349
            have z359 := congrArg Int32.toInt c355
            refine k_st (st' := []) rfl ?_
            have R360 : RdC p0 none (-7) (1) (-1000) σ0 σ341 := R335.tr ⟨R345.1, R345.2⟩ (by omega) (by omega) (by omega) (by omega)
            have z361 := R360.2.2.1
            have z362 := R360.2.2.2.1 rd_at
            refine k_aload_n rfl ?_
            refine k_aload_n rfl ?_
            have t363 := t327.x e330
            have t364 := t363.x e344
            have X365 : ExC [0, 1, 2, 60, 61, 62, 63, 64, 65, 66, 67, 68, 70, 242, 243, 244, 999] σ0 σ341 := X336.tr (e344.mo (by decide))
            refine k_inv (P := P_X7_put) (Q := Q_X7_put) rfl rfl rfl rfl (Nat.le_of_ble_eq_true rfl) (t352.rc (by decide)) ⟨_, _, rfl, H343, t352, t364, (rd_cd.st H0 h_0_0 X365 R360.1 (by decide)), (R360.2.2.2.1 rd_at), (rd_bg.st H0 h_0_0 X365 R360 (by decide) (by omega) (by omega) (by omega))⟩ (fun w366 σ367 q368 => ?_)
            obtain ⟨a369, rfl, H370, e371, h373, R372, q374⟩ := q368
            have c375 := (t352.mi e371 (by decide)).trans c349
            have c376 := (t352.mi e371 (by decide)).trans c355
            have z377 := congrArg Int32.toInt c375
            have z378 := congrArg Int32.toInt c376
            refine k_st (st' := [.inr (.inr (some a369))]) rfl ?_
            refine k_areturn ?_
            have X379 : ExC [0, 1, 2, 60, 61, 62, 63, 64, 65, 66, 67, 68, 70, 242, 243, 244, 999] σ0 σ367 := X365.tr (e371.mo (by decide))
            have R380 : RdC p0 none (-6) (2) (-999) σ0 σ367 := R360.tr ⟨R372.1, R372.2⟩ (by omega) (by omega) (by omega) (by omega)
            exact ⟨_, rfl, H370, X379, h373, (R380.mo (by omega) (by omega) (by omega)), (by omega)⟩
      · refine k_nil ?_
        refine hB _ _ _ _ (kgoC (is := KX7_readLiteral_57) rfl ?_)
        refine k_lconst ?_
        refine k_goto ?_
        refine hB _ _ _ _ (kgoC (is := KX7_readLiteral_86) rfl ?_)
        have t381 := h46.x e61
        refine k_putL kg71 H60 t381 fk71 (fun σ382 H383 e384 c385 => ?_)
        refine k_aload_n rfl ?_
        refine k_aload_n rfl ?_
        have t386 := t64.x e384
        have R387 : RdC p0 none (1) (1) (-1000) σ0 σ382 := R67.tr ⟨(e384.gw H60.1 (by decide)), (e384.cou (u := 0) H60.1 t64 (by decide) (by rw [e384.cn (by decide)]; omega))⟩ (by omega) (by omega) (by omega) (by omega)
        have c388 := (t64.mi e384 (by decide)).trans c66
        have R389 := R387.nf (-1000) (-1000) (by rw [c388]; omega)
        have X390 : ExC [0, 1, 2, 60, 61, 62, 63, 64, 65, 66, 67, 68, 70, 242, 243, 244, 999] σ0 σ382 := X69.tr (e384.mo (by decide))
        refine k_inv (P := P_X7_code) (Q := Q_X7_code) rfl rfl rfl rfl (Nat.le_of_ble_eq_true rfl) (t386.rc (by decide)) ⟨_, rfl, H383, t386, (rd_cd.st H0 h_0_0 X390 R389.1 (by decide))⟩ (fun w391 σ392 q393 => ?_)
        obtain ⟨x394, rfl, rfl, q395, q396, q397⟩ := q393
        refine k_st (st' := [.inl x394, .inr (.inr (some a42))]) rfl ?_
        have z398 := R389.2.2.1
        have z399 := R389.2.2.2.1 rd_at
        have c400 := (t64.mi e384 (by decide)).trans c79
        have z401 := congrArg Int32.toInt c400
        have z402 := congrArg Int32.toInt c388
        refine k_bipush (m := 83) rfl (fun x403 h404 => ?_)
        refine k_ic_ne (fun h405 => ?_) (fun h405 => ?_)
        · refine hB _ _ _ _ (kgoC (is := KX7_readLiteral_103) rfl ?_)
          refine k_iload_n rfl ?_
          refine k_if_eq (fun h406 => by exfalso; omega) (fun h406 => ?_)
          refine k_nil ?_
          refine hB _ _ _ _ (kgoC (is := KX7_readLiteral_107) rfl ?_)
          refine k_iconst (m := (-1)) rfl (fun x407 h408 => ?_)
          refine k_goto ?_
          refine hB _ _ _ _ (kgoC (is := KX7_readLiteral_112) rfl ?_)
          have t409 := t381.x e384
          refine k_putI kp68 H383 t409 (Or.inl fk68) (tiC x407).1 (tiC x407).2 (fun σ410 H411 e412 c413 => ?_)
          refine k_aload_n rfl ?_
          have t414 := t386.x e412
          have R415 : RdC p0 none (1) (1) (-1000) σ0 σ410 := R389.tr ⟨(e412.gw H383.1 (by decide)), (e412.cou (u := 0) H383.1 t386 (by decide) (by rw [e412.cn (by decide)]; omega))⟩ (by omega) (by omega) (by omega) (by omega)
          have c416 := (t386.mi e412 (by decide)).trans c388
          have R417 := R415.nf (-1000) (-1000) (by rw [c416]; omega)
          have X418 : ExC [0, 1, 2, 60, 61, 62, 63, 64, 65, 66, 67, 68, 70, 242, 243, 244, 999] σ0 σ410 := X390.tr (e412.mo (by decide))
          have c419 := (t386.mi e412 (by decide)).trans c400
          have z420 := congrArg Int32.toInt c419
          have z421 := congrArg Int32.toInt c416
          refine k_inv (P := P_X7_accept) (Q := Q_X7_accept) rfl rfl rfl rfl (Nat.le_of_ble_eq_true rfl) (t414.rc (by decide)) ⟨_, rfl, H411, t414, (rd_cd.st H0 h_0_0 X418 R417.1 (by decide)), (R417.2.2.2.1 rd_at), (rd_bg.stn H0 h_0_0 X418 R417 (by decide) (by rw [c416]; omega) (by omega)), (by have ct := R417.2.2.1; rw [c416, c419, ct]; omega)⟩ (fun w422 σ423 q424 => ?_)
          obtain ⟨rfl, H425, e426, R427, q428⟩ := q424
          have t434 := t414.x e426
          obtain ⟨x429, e430, c431, h432, h433⟩ := cg242 H425.1 t434
          obtain ⟨x435, e436, c437, h438, h439⟩ := cg243 H425.1 t434
          have z440 := congrArg Int32.toInt c431
          have z441 := congrArg Int32.toInt c437
          refine k_st (st' := []) rfl ?_
          have R442 : RdC p0 none (-7) (1) (-1000) σ0 σ423 := R417.tr ⟨R427.1, R427.2⟩ (by omega) (by omega) (by omega) (by omega)
          have z443 := R442.2.2.1
          have z444 := R442.2.2.2.1 rd_at
          refine k_aload_n rfl ?_
          refine k_aload_n rfl ?_
          have t445 := t409.x e412
          have t446 := t445.x e426
          have X447 : ExC [0, 1, 2, 60, 61, 62, 63, 64, 65, 66, 67, 68, 70, 242, 243, 244, 999] σ0 σ423 := X418.tr (e426.mo (by decide))
          refine k_inv (P := P_X7_put) (Q := Q_X7_put) rfl rfl rfl rfl (Nat.le_of_ble_eq_true rfl) (t434.rc (by decide)) ⟨_, _, rfl, H425, t434, t446, (rd_cd.st H0 h_0_0 X447 R442.1 (by decide)), (R442.2.2.2.1 rd_at), (rd_bg.st H0 h_0_0 X447 R442 (by decide) (by omega) (by omega) (by omega))⟩ (fun w448 σ449 q450 => ?_)
          obtain ⟨a451, rfl, H452, e453, h455, R454, q456⟩ := q450
          have c457 := (t434.mi e453 (by decide)).trans c431
          have c458 := (t434.mi e453 (by decide)).trans c437
          have z459 := congrArg Int32.toInt c457
          have z460 := congrArg Int32.toInt c458
          refine k_st (st' := [.inr (.inr (some a451))]) rfl ?_
          refine k_areturn ?_
          have X461 : ExC [0, 1, 2, 60, 61, 62, 63, 64, 65, 66, 67, 68, 70, 242, 243, 244, 999] σ0 σ449 := X447.tr (e453.mo (by decide))
          have R462 : RdC p0 none (-6) (2) (-999) σ0 σ449 := R442.tr ⟨R454.1, R454.2⟩ (by omega) (by omega) (by omega) (by omega)
          exact ⟨_, rfl, H452, X461, h455, (R462.mo (by omega) (by omega) (by omega)), (by omega)⟩
        · refine k_nil ?_
          refine hB _ _ _ _ (kgoC (is := KX7_readLiteral_99) rfl ?_)
          refine k_iconst (m := 2) rfl (fun x463 h464 => ?_)
          refine k_goto ?_
          refine hB _ _ _ _ (kgoC (is := KX7_readLiteral_112) rfl ?_)
          have t465 := t381.x e384
          refine k_putI kp68 H383 t465 (Or.inl fk68) (tiC x463).1 (tiC x463).2 (fun σ466 H467 e468 c469 => ?_)
          refine k_aload_n rfl ?_
          have t470 := t386.x e468
          have R471 : RdC p0 none (1) (1) (-1000) σ0 σ466 := R389.tr ⟨(e468.gw H383.1 (by decide)), (e468.cou (u := 0) H383.1 t386 (by decide) (by rw [e468.cn (by decide)]; omega))⟩ (by omega) (by omega) (by omega) (by omega)
          have c472 := (t386.mi e468 (by decide)).trans c388
          have R473 := R471.nf (-1000) (-1000) (by rw [c472]; omega)
          have X474 : ExC [0, 1, 2, 60, 61, 62, 63, 64, 65, 66, 67, 68, 70, 242, 243, 244, 999] σ0 σ466 := X390.tr (e468.mo (by decide))
          have c475 := (t386.mi e468 (by decide)).trans c400
          have z476 := congrArg Int32.toInt c475
          have z477 := congrArg Int32.toInt c472
          refine k_inv (P := P_X7_accept) (Q := Q_X7_accept) rfl rfl rfl rfl (Nat.le_of_ble_eq_true rfl) (t470.rc (by decide)) ⟨_, rfl, H467, t470, (rd_cd.st H0 h_0_0 X474 R473.1 (by decide)), (R473.2.2.2.1 rd_at), (rd_bg.stn H0 h_0_0 X474 R473 (by decide) (by rw [c472]; omega) (by omega)), (by have ct := R473.2.2.1; rw [c472, c475, ct]; omega)⟩ (fun w478 σ479 q480 => ?_)
          obtain ⟨rfl, H481, e482, R483, q484⟩ := q480
          have t490 := t470.x e482
          obtain ⟨x485, e486, c487, h488, h489⟩ := cg242 H481.1 t490
          obtain ⟨x491, e492, c493, h494, h495⟩ := cg243 H481.1 t490
          have z496 := congrArg Int32.toInt c487
          have z497 := congrArg Int32.toInt c493
          refine k_st (st' := []) rfl ?_
          have R498 : RdC p0 none (-7) (1) (-1000) σ0 σ479 := R473.tr ⟨R483.1, R483.2⟩ (by omega) (by omega) (by omega) (by omega)
          have z499 := R498.2.2.1
          have z500 := R498.2.2.2.1 rd_at
          refine k_aload_n rfl ?_
          refine k_aload_n rfl ?_
          have t501 := t465.x e468
          have t502 := t501.x e482
          have X503 : ExC [0, 1, 2, 60, 61, 62, 63, 64, 65, 66, 67, 68, 70, 242, 243, 244, 999] σ0 σ479 := X474.tr (e482.mo (by decide))
          refine k_inv (P := P_X7_put) (Q := Q_X7_put) rfl rfl rfl rfl (Nat.le_of_ble_eq_true rfl) (t490.rc (by decide)) ⟨_, _, rfl, H481, t490, t502, (rd_cd.st H0 h_0_0 X503 R498.1 (by decide)), (R498.2.2.2.1 rd_at), (rd_bg.st H0 h_0_0 X503 R498 (by decide) (by omega) (by omega) (by omega))⟩ (fun w504 σ505 q506 => ?_)
          obtain ⟨a507, rfl, H508, e509, h511, R510, q512⟩ := q506
          have c513 := (t490.mi e509 (by decide)).trans c487
          have c514 := (t490.mi e509 (by decide)).trans c493
          have z515 := congrArg Int32.toInt c513
          have z516 := congrArg Int32.toInt c514
          refine k_st (st' := [.inr (.inr (some a507))]) rfl ?_
          refine k_areturn ?_
          have X517 : ExC [0, 1, 2, 60, 61, 62, 63, 64, 65, 66, 67, 68, 70, 242, 243, 244, 999] σ0 σ505 := X503.tr (e509.mo (by decide))
          have R518 : RdC p0 none (-6) (2) (-999) σ0 σ505 := R498.tr ⟨R510.1, R510.2⟩ (by omega) (by omega) (by omega) (by omega)
          exact ⟨_, rfl, H508, X517, h511, (R518.mo (by omega) (by omega) (by omega)), (by omega)⟩
    · refine k_nil ?_
      refine hB _ _ _ _ (kgoC (is := KX7_readLiteral_9) rfl ?_)
      refine k_aload_n rfl ?_
      refine k_inv (P := P_X7_code) (Q := Q_X7_code) rfl rfl rfl rfl (Nat.le_of_ble_eq_true rfl) (h_0_0.rc (by decide)) ⟨_, rfl, H0, h_0_0, (rd_cd.st H0 h_0_0 (ExC.rf : ExC [0, 1, 2, 60, 61, 62, 63, 64, 65, 66, 67, 68, 70, 242, 243, 244, 999] σ0 σ0) R14.1 (by decide))⟩ (fun w519 σ520 q521 => ?_)
      obtain ⟨x522, rfl, rfl, q523, q524, q525⟩ := q521
      refine k_st (st' := [.inl x522]) rfl ?_
      refine k_bipush (m := 82) rfl (fun x526 h527 => ?_)
      refine k_ic_ne (fun h528 => ?_) (fun h528 => ?_)
      · refine hB _ _ _ _ (kgoC (is := KX7_readLiteral_22) rfl ?_)
        refine k_iconst (m := 0) rfl (fun x529 h530 => ?_)
        refine k_nil ?_
        refine hB _ _ _ _ (kgoC (is := KX7_readLiteral_23) rfl ?_)
        refine k_istore_n (ls' := [(1, .inl x529), (0, .inr (.inr (some p0)))]) rfl ?_
        refine k_aload_n rfl ?_
        refine k_iload_n rfl ?_
        refine k_if_eq (fun h531 => ?_) (fun h531 => by exfalso; omega)
        refine hB _ _ _ _ (kgoC (is := KX7_readLiteral_33) rfl ?_)
        refine k_iconst (m := 1) rfl (fun x532 h533 => ?_)
        refine k_nil ?_
        refine hB _ _ _ _ (kgoC (is := KX7_readLiteral_34) rfl ?_)
        refine k_aload_n rfl ?_
        refine k_inv (P := P_X7_code) (Q := Q_X7_code) rfl rfl rfl rfl (Nat.le_of_ble_eq_true rfl) (h_0_0.rc (by decide)) ⟨_, rfl, H0, h_0_0, (rd_cd.st H0 h_0_0 (ExC.rf : ExC [0, 1, 2, 60, 61, 62, 63, 64, 65, 66, 67, 68, 70, 242, 243, 244, 999] σ0 σ0) R14.1 (by decide))⟩ (fun w534 σ535 q536 => ?_)
        obtain ⟨x537, rfl, rfl, q538, q539, q540⟩ := q536
        refine k_st (st' := [.inl x537, .inl x532, .inr (.inr (some p0))]) rfl ?_
        refine k_inv (P := P_X7_opened) (Q := Q_X7_opened) rfl rfl rfl rfl (Nat.le_of_ble_eq_true rfl) (h_0_0.rc (by decide)) ⟨_, _, _, rfl, H0, h_0_0, (rd_cd.st H0 h_0_0 (ExC.rf : ExC [0, 1, 2, 60, 61, 62, 63, 64, 65, 66, 67, 68, 70, 242, 243, 244, 999] σ0 σ0) R14.1 (by decide)), (R14.2.2.2.1 rd_at), (rd_bg.stn H0 h_0_0 (ExC.rf : ExC [0, 1, 2, 60, 61, 62, 63, 64, 65, 66, 67, 68, 70, 242, 243, 244, 999] σ0 σ0) R14 (by decide) (by rw [c8]; omega) (by omega)), (by omega)⟩ (fun w541 σ542 q543 => ?_)
        obtain ⟨a544, rfl, H545, e546, h548, R547, q549⟩ := q543
        have c550 := (h_0_0.mi e546 (by decide)).trans c3
        have c551 := (h_0_0.mi e546 (by decide)).trans c8
        have z552 := congrArg Int32.toInt c550
        have z553 := congrArg Int32.toInt c551
        refine k_st (st' := [.inr (.inr (some a544))]) rfl ?_
        have z554 := R14.1.1
        have R555 : RdC p0 none (1) (1) (-999) σ0 σ542 := R14.tr ⟨R547.1, R547.2⟩ (by omega) (by omega) (by omega) (by omega)
        have R556 := R555.nf (-1000) (-1000) (by rw [c551]; omega)
        have z557 := R556.2.2.1
        have z558 := R556.2.2.2.1 rd_at
        refine k_astore_n (ls' := [(2, .inr (.inr (some a544))), (1, .inl x529), (0, .inr (.inr (some p0)))]) rfl ?_
        refine k_aload_n rfl ?_
        refine k_iconst (m := 1) rfl (fun x559 h560 => ?_)
        refine k_putI kp70 H545 h548 (Or.inr ⟨fk70, b01C (by omega) (by omega)⟩) (by show 0 ≤ _; omega) (by show _ ≤ 1; omega) (fun σ561 H562 e563 c564 => ?_)
        refine k_aload_n rfl ?_
        refine k_aload_n rfl ?_
        have t565 := h_0_0.x e546
        have t566 := t565.x e563
        have R567 : RdC p0 none (1) (1) (-1000) σ0 σ561 := R556.tr ⟨(e563.gw H545.1 (by decide)), (e563.cou (u := 0) H545.1 t565 (by decide) (by rw [e563.cn (by decide)]; omega))⟩ (by omega) (by omega) (by omega) (by omega)
        have c568 := (t565.mi e563 (by decide)).trans c551
        have R569 := R567.nf (-1000) (-1000) (by rw [c568]; omega)
        have X570 : ExC [0, 1, 2, 60, 61, 62, 63, 64, 65, 66, 67, 68, 70, 242, 243, 244, 999] σ0 σ542 := ExC.rf.tr (e546.mo (by decide))
        have X571 : ExC [0, 1, 2, 60, 61, 62, 63, 64, 65, 66, 67, 68, 70, 242, 243, 244, 999] σ0 σ561 := X570.tr (e563.mo (by decide))
        refine k_inv (P := P_X7_code) (Q := Q_X7_code) rfl rfl rfl rfl (Nat.le_of_ble_eq_true rfl) (t566.rc (by decide)) ⟨_, rfl, H562, t566, (rd_cd.st H0 h_0_0 X571 R569.1 (by decide))⟩ (fun w572 σ573 q574 => ?_)
        obtain ⟨x575, rfl, rfl, q576, q577, q578⟩ := q574
        refine k_st (st' := [.inl x575, .inr (.inr (some a544))]) rfl ?_
        have z579 := R569.2.2.1
        have z580 := R569.2.2.2.1 rd_at
        have c581 := (t565.mi e563 (by decide)).trans c550
        have z582 := congrArg Int32.toInt c581
        have z583 := congrArg Int32.toInt c568
        refine k_bipush (m := 72) rfl (fun x584 h585 => ?_)
        refine k_ic_ne (fun h586 => ?_) (fun h586 => ?_)
        · refine hB _ _ _ _ (kgoC (is := KX7_readLiteral_61) rfl ?_)
          refine k_aload_n rfl ?_
          refine k_inv (P := P_X7_code) (Q := Q_X7_code) rfl rfl rfl rfl (Nat.le_of_ble_eq_true rfl) (t566.rc (by decide)) ⟨_, rfl, H562, t566, (rd_cd.st H0 h_0_0 X571 R569.1 (by decide))⟩ (fun w587 σ588 q589 => ?_)
          obtain ⟨x590, rfl, rfl, q591, q592, q593⟩ := q589
          refine k_st (st' := [.inl x590, .inr (.inr (some a544))]) rfl ?_
          refine k_bipush (m := 73) rfl (fun x594 h595 => ?_)
          refine k_ic_ne (fun h596 => ?_) (fun h596 => ?_)
          · refine hB _ _ _ _ (kgoC (is := KX7_readLiteral_74) rfl ?_)
            refine k_aload_n rfl ?_
            obtain ⟨a599, e597, c598, t600⟩ := cg241 H562.1 t566
            refine k_get kg241 t566 e597 ?_
            obtain ⟨a603, e601, c602, t604, l605⟩ := cg304 H562.1 t600
            refine k_get kg304 t600 e601 ?_
            refine k_aload_n rfl ?_
            refine k_get kg242 t566 (congrArg (Sum.inl : Int32 → AvC) c581) ?_
            refine k_laload t604 (by omega) (by omega) (fun y606 => ?_)
            refine k_nil ?_
            refine hB _ _ _ _ (kgoC (is := KX7_readLiteral_86) rfl ?_)
            have t607 := h548.x e563
            refine k_putL kg71 H562 t607 fk71 (fun σ608 H609 e610 c611 => ?_)
            refine k_aload_n rfl ?_
            refine k_aload_n rfl ?_
            have t612 := t566.x e610
            have R613 : RdC p0 none (1) (1) (-1000) σ0 σ608 := R569.tr ⟨(e610.gw H562.1 (by decide)), (e610.cou (u := 0) H562.1 t566 (by decide) (by rw [e610.cn (by decide)]; omega))⟩ (by omega) (by omega) (by omega) (by omega)
            have c614 := (t566.mi e610 (by decide)).trans c568
            have R615 := R613.nf (-1000) (-1000) (by rw [c614]; omega)
            have X616 : ExC [0, 1, 2, 60, 61, 62, 63, 64, 65, 66, 67, 68, 70, 242, 243, 244, 999] σ0 σ608 := X571.tr (e610.mo (by decide))
            refine k_inv (P := P_X7_code) (Q := Q_X7_code) rfl rfl rfl rfl (Nat.le_of_ble_eq_true rfl) (t612.rc (by decide)) ⟨_, rfl, H609, t612, (rd_cd.st H0 h_0_0 X616 R615.1 (by decide))⟩ (fun w617 σ618 q619 => ?_)
            obtain ⟨x620, rfl, rfl, q621, q622, q623⟩ := q619
            refine k_st (st' := [.inl x620, .inr (.inr (some a544))]) rfl ?_
            have z624 := R615.2.2.1
            have z625 := R615.2.2.2.1 rd_at
            have c626 := (t566.mi e610 (by decide)).trans c581
            have z627 := congrArg Int32.toInt c626
            have z628 := congrArg Int32.toInt c614
            refine k_bipush (m := 83) rfl (fun x629 h630 => ?_)
            refine k_ic_ne (fun h631 => ?_) (fun h631 => ?_)
            · refine hB _ _ _ _ (kgoC (is := KX7_readLiteral_103) rfl ?_)
              refine k_iload_n rfl ?_
              refine k_if_eq (fun h632 => ?_) (fun h632 => by exfalso; omega)
              refine hB _ _ _ _ (kgoC (is := KX7_readLiteral_111) rfl ?_)
              refine k_iconst (m := 0) rfl (fun x633 h634 => ?_)
              refine k_nil ?_
              refine hB _ _ _ _ (kgoC (is := KX7_readLiteral_112) rfl ?_)
              have t635 := t607.x e610
              refine k_putI kp68 H609 t635 (Or.inl fk68) (tiC x633).1 (tiC x633).2 (fun σ636 H637 e638 c639 => ?_)
              refine k_aload_n rfl ?_
              have t640 := t612.x e638
              have R641 : RdC p0 none (1) (1) (-1000) σ0 σ636 := R615.tr ⟨(e638.gw H609.1 (by decide)), (e638.cou (u := 0) H609.1 t612 (by decide) (by rw [e638.cn (by decide)]; omega))⟩ (by omega) (by omega) (by omega) (by omega)
              have c642 := (t612.mi e638 (by decide)).trans c614
              have R643 := R641.nf (-1000) (-1000) (by rw [c642]; omega)
              have X644 : ExC [0, 1, 2, 60, 61, 62, 63, 64, 65, 66, 67, 68, 70, 242, 243, 244, 999] σ0 σ636 := X616.tr (e638.mo (by decide))
              have c645 := (t612.mi e638 (by decide)).trans c626
              have z646 := congrArg Int32.toInt c645
              have z647 := congrArg Int32.toInt c642
              refine k_inv (P := P_X7_accept) (Q := Q_X7_accept) rfl rfl rfl rfl (Nat.le_of_ble_eq_true rfl) (t640.rc (by decide)) ⟨_, rfl, H637, t640, (rd_cd.st H0 h_0_0 X644 R643.1 (by decide)), (R643.2.2.2.1 rd_at), (rd_bg.stn H0 h_0_0 X644 R643 (by decide) (by rw [c642]; omega) (by omega)), (by have ct := R643.2.2.1; rw [c642, c645, ct]; omega)⟩ (fun w648 σ649 q650 => ?_)
              obtain ⟨rfl, H651, e652, R653, q654⟩ := q650
              have t660 := t640.x e652
              obtain ⟨x655, e656, c657, h658, h659⟩ := cg242 H651.1 t660
              obtain ⟨x661, e662, c663, h664, h665⟩ := cg243 H651.1 t660
              have z666 := congrArg Int32.toInt c657
              have z667 := congrArg Int32.toInt c663
              refine k_st (st' := []) rfl ?_
              have R668 : RdC p0 none (-7) (1) (-1000) σ0 σ649 := R643.tr ⟨R653.1, R653.2⟩ (by omega) (by omega) (by omega) (by omega)
              have z669 := R668.2.2.1
              have z670 := R668.2.2.2.1 rd_at
              refine k_aload_n rfl ?_
              refine k_aload_n rfl ?_
              have t671 := t635.x e638
              have t672 := t671.x e652
              have X673 : ExC [0, 1, 2, 60, 61, 62, 63, 64, 65, 66, 67, 68, 70, 242, 243, 244, 999] σ0 σ649 := X644.tr (e652.mo (by decide))
              refine k_inv (P := P_X7_put) (Q := Q_X7_put) rfl rfl rfl rfl (Nat.le_of_ble_eq_true rfl) (t660.rc (by decide)) ⟨_, _, rfl, H651, t660, t672, (rd_cd.st H0 h_0_0 X673 R668.1 (by decide)), (R668.2.2.2.1 rd_at), (rd_bg.st H0 h_0_0 X673 R668 (by decide) (by omega) (by omega) (by omega))⟩ (fun w674 σ675 q676 => ?_)
              obtain ⟨a677, rfl, H678, e679, h681, R680, q682⟩ := q676
              have c683 := (t660.mi e679 (by decide)).trans c657
              have c684 := (t660.mi e679 (by decide)).trans c663
              have z685 := congrArg Int32.toInt c683
              have z686 := congrArg Int32.toInt c684
              refine k_st (st' := [.inr (.inr (some a677))]) rfl ?_
              refine k_areturn ?_
              have X687 : ExC [0, 1, 2, 60, 61, 62, 63, 64, 65, 66, 67, 68, 70, 242, 243, 244, 999] σ0 σ675 := X673.tr (e679.mo (by decide))
              have R688 : RdC p0 none (-6) (2) (-999) σ0 σ675 := R668.tr ⟨R680.1, R680.2⟩ (by omega) (by omega) (by omega) (by omega)
              exact ⟨_, rfl, H678, X687, h681, (R688.mo (by omega) (by omega) (by omega)), (by omega)⟩
            · refine k_nil ?_
              refine hB _ _ _ _ (kgoC (is := KX7_readLiteral_99) rfl ?_)
              refine k_iconst (m := 2) rfl (fun x689 h690 => ?_)
              refine k_goto ?_
              refine hB _ _ _ _ (kgoC (is := KX7_readLiteral_112) rfl ?_)
              have t691 := t607.x e610
              refine k_putI kp68 H609 t691 (Or.inl fk68) (tiC x689).1 (tiC x689).2 (fun σ692 H693 e694 c695 => ?_)
              refine k_aload_n rfl ?_
              have t696 := t612.x e694
              have R697 : RdC p0 none (1) (1) (-1000) σ0 σ692 := R615.tr ⟨(e694.gw H609.1 (by decide)), (e694.cou (u := 0) H609.1 t612 (by decide) (by rw [e694.cn (by decide)]; omega))⟩ (by omega) (by omega) (by omega) (by omega)
              have c698 := (t612.mi e694 (by decide)).trans c614
              have R699 := R697.nf (-1000) (-1000) (by rw [c698]; omega)
              have X700 : ExC [0, 1, 2, 60, 61, 62, 63, 64, 65, 66, 67, 68, 70, 242, 243, 244, 999] σ0 σ692 := X616.tr (e694.mo (by decide))
              have c701 := (t612.mi e694 (by decide)).trans c626
              have z702 := congrArg Int32.toInt c701
              have z703 := congrArg Int32.toInt c698
              refine k_inv (P := P_X7_accept) (Q := Q_X7_accept) rfl rfl rfl rfl (Nat.le_of_ble_eq_true rfl) (t696.rc (by decide)) ⟨_, rfl, H693, t696, (rd_cd.st H0 h_0_0 X700 R699.1 (by decide)), (R699.2.2.2.1 rd_at), (rd_bg.stn H0 h_0_0 X700 R699 (by decide) (by rw [c698]; omega) (by omega)), (by have ct := R699.2.2.1; rw [c698, c701, ct]; omega)⟩ (fun w704 σ705 q706 => ?_)
              obtain ⟨rfl, H707, e708, R709, q710⟩ := q706
              have t716 := t696.x e708
              obtain ⟨x711, e712, c713, h714, h715⟩ := cg242 H707.1 t716
              obtain ⟨x717, e718, c719, h720, h721⟩ := cg243 H707.1 t716
              have z722 := congrArg Int32.toInt c713
              have z723 := congrArg Int32.toInt c719
              refine k_st (st' := []) rfl ?_
              have R724 : RdC p0 none (-7) (1) (-1000) σ0 σ705 := R699.tr ⟨R709.1, R709.2⟩ (by omega) (by omega) (by omega) (by omega)
              have z725 := R724.2.2.1
              have z726 := R724.2.2.2.1 rd_at
              refine k_aload_n rfl ?_
              refine k_aload_n rfl ?_
              have t727 := t691.x e694
              have t728 := t727.x e708
              have X729 : ExC [0, 1, 2, 60, 61, 62, 63, 64, 65, 66, 67, 68, 70, 242, 243, 244, 999] σ0 σ705 := X700.tr (e708.mo (by decide))
              refine k_inv (P := P_X7_put) (Q := Q_X7_put) rfl rfl rfl rfl (Nat.le_of_ble_eq_true rfl) (t716.rc (by decide)) ⟨_, _, rfl, H707, t716, t728, (rd_cd.st H0 h_0_0 X729 R724.1 (by decide)), (R724.2.2.2.1 rd_at), (rd_bg.st H0 h_0_0 X729 R724 (by decide) (by omega) (by omega) (by omega))⟩ (fun w730 σ731 q732 => ?_)
              obtain ⟨a733, rfl, H734, e735, h737, R736, q738⟩ := q732
              have c739 := (t716.mi e735 (by decide)).trans c713
              have c740 := (t716.mi e735 (by decide)).trans c719
              have z741 := congrArg Int32.toInt c739
              have z742 := congrArg Int32.toInt c740
              refine k_st (st' := [.inr (.inr (some a733))]) rfl ?_
              refine k_areturn ?_
              have X743 : ExC [0, 1, 2, 60, 61, 62, 63, 64, 65, 66, 67, 68, 70, 242, 243, 244, 999] σ0 σ731 := X729.tr (e735.mo (by decide))
              have R744 : RdC p0 none (-6) (2) (-999) σ0 σ731 := R724.tr ⟨R736.1, R736.2⟩ (by omega) (by omega) (by omega) (by omega)
              exact ⟨_, rfl, H734, X743, h737, (R744.mo (by omega) (by omega) (by omega)), (by omega)⟩
          · refine k_nil ?_
            refine hB _ _ _ _ (kgoC (is := KX7_readLiteral_70) rfl ?_)
            refine k_lconst ?_
            refine k_goto ?_
            refine hB _ _ _ _ (kgoC (is := KX7_readLiteral_86) rfl ?_)
            have t745 := h548.x e563
            refine k_putL kg71 H562 t745 fk71 (fun σ746 H747 e748 c749 => ?_)
            refine k_aload_n rfl ?_
            refine k_aload_n rfl ?_
            have t750 := t566.x e748
            have R751 : RdC p0 none (1) (1) (-1000) σ0 σ746 := R569.tr ⟨(e748.gw H562.1 (by decide)), (e748.cou (u := 0) H562.1 t566 (by decide) (by rw [e748.cn (by decide)]; omega))⟩ (by omega) (by omega) (by omega) (by omega)
            have c752 := (t566.mi e748 (by decide)).trans c568
            have R753 := R751.nf (-1000) (-1000) (by rw [c752]; omega)
            have X754 : ExC [0, 1, 2, 60, 61, 62, 63, 64, 65, 66, 67, 68, 70, 242, 243, 244, 999] σ0 σ746 := X571.tr (e748.mo (by decide))
            refine k_inv (P := P_X7_code) (Q := Q_X7_code) rfl rfl rfl rfl (Nat.le_of_ble_eq_true rfl) (t750.rc (by decide)) ⟨_, rfl, H747, t750, (rd_cd.st H0 h_0_0 X754 R753.1 (by decide))⟩ (fun w755 σ756 q757 => ?_)
            obtain ⟨x758, rfl, rfl, q759, q760, q761⟩ := q757
            refine k_st (st' := [.inl x758, .inr (.inr (some a544))]) rfl ?_
            have z762 := R753.2.2.1
            have z763 := R753.2.2.2.1 rd_at
            have c764 := (t566.mi e748 (by decide)).trans c581
            have z765 := congrArg Int32.toInt c764
            have z766 := congrArg Int32.toInt c752
            refine k_bipush (m := 83) rfl (fun x767 h768 => ?_)
            refine k_ic_ne (fun h769 => ?_) (fun h769 => ?_)
            · refine hB _ _ _ _ (kgoC (is := KX7_readLiteral_103) rfl ?_)
              refine k_iload_n rfl ?_
              refine k_if_eq (fun h770 => ?_) (fun h770 => by exfalso; omega)
              refine hB _ _ _ _ (kgoC (is := KX7_readLiteral_111) rfl ?_)
              refine k_iconst (m := 0) rfl (fun x771 h772 => ?_)
              refine k_nil ?_
              refine hB _ _ _ _ (kgoC (is := KX7_readLiteral_112) rfl ?_)
              have t773 := t745.x e748
              refine k_putI kp68 H747 t773 (Or.inl fk68) (tiC x771).1 (tiC x771).2 (fun σ774 H775 e776 c777 => ?_)
              refine k_aload_n rfl ?_
              have t778 := t750.x e776
              have R779 : RdC p0 none (1) (1) (-1000) σ0 σ774 := R753.tr ⟨(e776.gw H747.1 (by decide)), (e776.cou (u := 0) H747.1 t750 (by decide) (by rw [e776.cn (by decide)]; omega))⟩ (by omega) (by omega) (by omega) (by omega)
              have c780 := (t750.mi e776 (by decide)).trans c752
              have R781 := R779.nf (-1000) (-1000) (by rw [c780]; omega)
              have X782 : ExC [0, 1, 2, 60, 61, 62, 63, 64, 65, 66, 67, 68, 70, 242, 243, 244, 999] σ0 σ774 := X754.tr (e776.mo (by decide))
              have c783 := (t750.mi e776 (by decide)).trans c764
              have z784 := congrArg Int32.toInt c783
              have z785 := congrArg Int32.toInt c780
              refine k_inv (P := P_X7_accept) (Q := Q_X7_accept) rfl rfl rfl rfl (Nat.le_of_ble_eq_true rfl) (t778.rc (by decide)) ⟨_, rfl, H775, t778, (rd_cd.st H0 h_0_0 X782 R781.1 (by decide)), (R781.2.2.2.1 rd_at), (rd_bg.stn H0 h_0_0 X782 R781 (by decide) (by rw [c780]; omega) (by omega)), (by have ct := R781.2.2.1; rw [c780, c783, ct]; omega)⟩ (fun w786 σ787 q788 => ?_)
              obtain ⟨rfl, H789, e790, R791, q792⟩ := q788
              have t798 := t778.x e790
              obtain ⟨x793, e794, c795, h796, h797⟩ := cg242 H789.1 t798
              obtain ⟨x799, e800, c801, h802, h803⟩ := cg243 H789.1 t798
              have z804 := congrArg Int32.toInt c795
              have z805 := congrArg Int32.toInt c801
              refine k_st (st' := []) rfl ?_
              have R806 : RdC p0 none (-7) (1) (-1000) σ0 σ787 := R781.tr ⟨R791.1, R791.2⟩ (by omega) (by omega) (by omega) (by omega)
              have z807 := R806.2.2.1
              have z808 := R806.2.2.2.1 rd_at
              refine k_aload_n rfl ?_
              refine k_aload_n rfl ?_
              have t809 := t773.x e776
              have t810 := t809.x e790
              have X811 : ExC [0, 1, 2, 60, 61, 62, 63, 64, 65, 66, 67, 68, 70, 242, 243, 244, 999] σ0 σ787 := X782.tr (e790.mo (by decide))
              refine k_inv (P := P_X7_put) (Q := Q_X7_put) rfl rfl rfl rfl (Nat.le_of_ble_eq_true rfl) (t798.rc (by decide)) ⟨_, _, rfl, H789, t798, t810, (rd_cd.st H0 h_0_0 X811 R806.1 (by decide)), (R806.2.2.2.1 rd_at), (rd_bg.st H0 h_0_0 X811 R806 (by decide) (by omega) (by omega) (by omega))⟩ (fun w812 σ813 q814 => ?_)
              obtain ⟨a815, rfl, H816, e817, h819, R818, q820⟩ := q814
              have c821 := (t798.mi e817 (by decide)).trans c795
              have c822 := (t798.mi e817 (by decide)).trans c801
              have z823 := congrArg Int32.toInt c821
              have z824 := congrArg Int32.toInt c822
              refine k_st (st' := [.inr (.inr (some a815))]) rfl ?_
              refine k_areturn ?_
              have X825 : ExC [0, 1, 2, 60, 61, 62, 63, 64, 65, 66, 67, 68, 70, 242, 243, 244, 999] σ0 σ813 := X811.tr (e817.mo (by decide))
              have R826 : RdC p0 none (-6) (2) (-999) σ0 σ813 := R806.tr ⟨R818.1, R818.2⟩ (by omega) (by omega) (by omega) (by omega)
              exact ⟨_, rfl, H816, X825, h819, (R826.mo (by omega) (by omega) (by omega)), (by omega)⟩
            · refine k_nil ?_
              refine hB _ _ _ _ (kgoC (is := KX7_readLiteral_99) rfl ?_)
              refine k_iconst (m := 2) rfl (fun x827 h828 => ?_)
              refine k_goto ?_
              refine hB _ _ _ _ (kgoC (is := KX7_readLiteral_112) rfl ?_)
              have t829 := t745.x e748
              refine k_putI kp68 H747 t829 (Or.inl fk68) (tiC x827).1 (tiC x827).2 (fun σ830 H831 e832 c833 => ?_)
              refine k_aload_n rfl ?_
              have t834 := t750.x e832
              have R835 : RdC p0 none (1) (1) (-1000) σ0 σ830 := R753.tr ⟨(e832.gw H747.1 (by decide)), (e832.cou (u := 0) H747.1 t750 (by decide) (by rw [e832.cn (by decide)]; omega))⟩ (by omega) (by omega) (by omega) (by omega)
              have c836 := (t750.mi e832 (by decide)).trans c752
              have R837 := R835.nf (-1000) (-1000) (by rw [c836]; omega)
              have X838 : ExC [0, 1, 2, 60, 61, 62, 63, 64, 65, 66, 67, 68, 70, 242, 243, 244, 999] σ0 σ830 := X754.tr (e832.mo (by decide))
              have c839 := (t750.mi e832 (by decide)).trans c764
              have z840 := congrArg Int32.toInt c839
              have z841 := congrArg Int32.toInt c836
              refine k_inv (P := P_X7_accept) (Q := Q_X7_accept) rfl rfl rfl rfl (Nat.le_of_ble_eq_true rfl) (t834.rc (by decide)) ⟨_, rfl, H831, t834, (rd_cd.st H0 h_0_0 X838 R837.1 (by decide)), (R837.2.2.2.1 rd_at), (rd_bg.stn H0 h_0_0 X838 R837 (by decide) (by rw [c836]; omega) (by omega)), (by have ct := R837.2.2.1; rw [c836, c839, ct]; omega)⟩ (fun w842 σ843 q844 => ?_)
              obtain ⟨rfl, H845, e846, R847, q848⟩ := q844
              have t854 := t834.x e846
              obtain ⟨x849, e850, c851, h852, h853⟩ := cg242 H845.1 t854
              obtain ⟨x855, e856, c857, h858, h859⟩ := cg243 H845.1 t854
              have z860 := congrArg Int32.toInt c851
              have z861 := congrArg Int32.toInt c857
              refine k_st (st' := []) rfl ?_
              have R862 : RdC p0 none (-7) (1) (-1000) σ0 σ843 := R837.tr ⟨R847.1, R847.2⟩ (by omega) (by omega) (by omega) (by omega)
              have z863 := R862.2.2.1
              have z864 := R862.2.2.2.1 rd_at
              refine k_aload_n rfl ?_
              refine k_aload_n rfl ?_
              have t865 := t829.x e832
              have t866 := t865.x e846
              have X867 : ExC [0, 1, 2, 60, 61, 62, 63, 64, 65, 66, 67, 68, 70, 242, 243, 244, 999] σ0 σ843 := X838.tr (e846.mo (by decide))
              refine k_inv (P := P_X7_put) (Q := Q_X7_put) rfl rfl rfl rfl (Nat.le_of_ble_eq_true rfl) (t854.rc (by decide)) ⟨_, _, rfl, H845, t854, t866, (rd_cd.st H0 h_0_0 X867 R862.1 (by decide)), (R862.2.2.2.1 rd_at), (rd_bg.st H0 h_0_0 X867 R862 (by decide) (by omega) (by omega) (by omega))⟩ (fun w868 σ869 q870 => ?_)
              obtain ⟨a871, rfl, H872, e873, h875, R874, q876⟩ := q870
              have c877 := (t854.mi e873 (by decide)).trans c851
              have c878 := (t854.mi e873 (by decide)).trans c857
              have z879 := congrArg Int32.toInt c877
              have z880 := congrArg Int32.toInt c878
              refine k_st (st' := [.inr (.inr (some a871))]) rfl ?_
              refine k_areturn ?_
              have X881 : ExC [0, 1, 2, 60, 61, 62, 63, 64, 65, 66, 67, 68, 70, 242, 243, 244, 999] σ0 σ869 := X867.tr (e873.mo (by decide))
              have R882 : RdC p0 none (-6) (2) (-999) σ0 σ869 := R862.tr ⟨R874.1, R874.2⟩ (by omega) (by omega) (by omega) (by omega)
              exact ⟨_, rfl, H872, X881, h875, (R882.mo (by omega) (by omega) (by omega)), (by omega)⟩
        · refine k_nil ?_
          refine hB _ _ _ _ (kgoC (is := KX7_readLiteral_57) rfl ?_)
          refine k_lconst ?_
          refine k_goto ?_
          refine hB _ _ _ _ (kgoC (is := KX7_readLiteral_86) rfl ?_)
          have t883 := h548.x e563
          refine k_putL kg71 H562 t883 fk71 (fun σ884 H885 e886 c887 => ?_)
          refine k_aload_n rfl ?_
          refine k_aload_n rfl ?_
          have t888 := t566.x e886
          have R889 : RdC p0 none (1) (1) (-1000) σ0 σ884 := R569.tr ⟨(e886.gw H562.1 (by decide)), (e886.cou (u := 0) H562.1 t566 (by decide) (by rw [e886.cn (by decide)]; omega))⟩ (by omega) (by omega) (by omega) (by omega)
          have c890 := (t566.mi e886 (by decide)).trans c568
          have R891 := R889.nf (-1000) (-1000) (by rw [c890]; omega)
          have X892 : ExC [0, 1, 2, 60, 61, 62, 63, 64, 65, 66, 67, 68, 70, 242, 243, 244, 999] σ0 σ884 := X571.tr (e886.mo (by decide))
          refine k_inv (P := P_X7_code) (Q := Q_X7_code) rfl rfl rfl rfl (Nat.le_of_ble_eq_true rfl) (t888.rc (by decide)) ⟨_, rfl, H885, t888, (rd_cd.st H0 h_0_0 X892 R891.1 (by decide))⟩ (fun w893 σ894 q895 => ?_)
          obtain ⟨x896, rfl, rfl, q897, q898, q899⟩ := q895
          refine k_st (st' := [.inl x896, .inr (.inr (some a544))]) rfl ?_
          have z900 := R891.2.2.1
          have z901 := R891.2.2.2.1 rd_at
          have c902 := (t566.mi e886 (by decide)).trans c581
          have z903 := congrArg Int32.toInt c902
          have z904 := congrArg Int32.toInt c890
          refine k_bipush (m := 83) rfl (fun x905 h906 => ?_)
          refine k_ic_ne (fun h907 => ?_) (fun h907 => ?_)
          · refine hB _ _ _ _ (kgoC (is := KX7_readLiteral_103) rfl ?_)
            refine k_iload_n rfl ?_
            refine k_if_eq (fun h908 => ?_) (fun h908 => by exfalso; omega)
            refine hB _ _ _ _ (kgoC (is := KX7_readLiteral_111) rfl ?_)
            refine k_iconst (m := 0) rfl (fun x909 h910 => ?_)
            refine k_nil ?_
            refine hB _ _ _ _ (kgoC (is := KX7_readLiteral_112) rfl ?_)
            have t911 := t883.x e886
            refine k_putI kp68 H885 t911 (Or.inl fk68) (tiC x909).1 (tiC x909).2 (fun σ912 H913 e914 c915 => ?_)
            refine k_aload_n rfl ?_
            have t916 := t888.x e914
            have R917 : RdC p0 none (1) (1) (-1000) σ0 σ912 := R891.tr ⟨(e914.gw H885.1 (by decide)), (e914.cou (u := 0) H885.1 t888 (by decide) (by rw [e914.cn (by decide)]; omega))⟩ (by omega) (by omega) (by omega) (by omega)
            have c918 := (t888.mi e914 (by decide)).trans c890
            have R919 := R917.nf (-1000) (-1000) (by rw [c918]; omega)
            have X920 : ExC [0, 1, 2, 60, 61, 62, 63, 64, 65, 66, 67, 68, 70, 242, 243, 244, 999] σ0 σ912 := X892.tr (e914.mo (by decide))
            have c921 := (t888.mi e914 (by decide)).trans c902
            have z922 := congrArg Int32.toInt c921
            have z923 := congrArg Int32.toInt c918
            refine k_inv (P := P_X7_accept) (Q := Q_X7_accept) rfl rfl rfl rfl (Nat.le_of_ble_eq_true rfl) (t916.rc (by decide)) ⟨_, rfl, H913, t916, (rd_cd.st H0 h_0_0 X920 R919.1 (by decide)), (R919.2.2.2.1 rd_at), (rd_bg.stn H0 h_0_0 X920 R919 (by decide) (by rw [c918]; omega) (by omega)), (by have ct := R919.2.2.1; rw [c918, c921, ct]; omega)⟩ (fun w924 σ925 q926 => ?_)
            obtain ⟨rfl, H927, e928, R929, q930⟩ := q926
            have t936 := t916.x e928
            obtain ⟨x931, e932, c933, h934, h935⟩ := cg242 H927.1 t936
            obtain ⟨x937, e938, c939, h940, h941⟩ := cg243 H927.1 t936
            have z942 := congrArg Int32.toInt c933
            have z943 := congrArg Int32.toInt c939
            refine k_st (st' := []) rfl ?_
            have R944 : RdC p0 none (-7) (1) (-1000) σ0 σ925 := R919.tr ⟨R929.1, R929.2⟩ (by omega) (by omega) (by omega) (by omega)
            have z945 := R944.2.2.1
            have z946 := R944.2.2.2.1 rd_at
            refine k_aload_n rfl ?_
            refine k_aload_n rfl ?_
            have t947 := t911.x e914
            have t948 := t947.x e928
            have X949 : ExC [0, 1, 2, 60, 61, 62, 63, 64, 65, 66, 67, 68, 70, 242, 243, 244, 999] σ0 σ925 := X920.tr (e928.mo (by decide))
            refine k_inv (P := P_X7_put) (Q := Q_X7_put) rfl rfl rfl rfl (Nat.le_of_ble_eq_true rfl) (t936.rc (by decide)) ⟨_, _, rfl, H927, t936, t948, (rd_cd.st H0 h_0_0 X949 R944.1 (by decide)), (R944.2.2.2.1 rd_at), (rd_bg.st H0 h_0_0 X949 R944 (by decide) (by omega) (by omega) (by omega))⟩ (fun w950 σ951 q952 => ?_)
            obtain ⟨a953, rfl, H954, e955, h957, R956, q958⟩ := q952
            have c959 := (t936.mi e955 (by decide)).trans c933
            have c960 := (t936.mi e955 (by decide)).trans c939
            have z961 := congrArg Int32.toInt c959
            have z962 := congrArg Int32.toInt c960
            refine k_st (st' := [.inr (.inr (some a953))]) rfl ?_
            refine k_areturn ?_
            have X963 : ExC [0, 1, 2, 60, 61, 62, 63, 64, 65, 66, 67, 68, 70, 242, 243, 244, 999] σ0 σ951 := X949.tr (e955.mo (by decide))
            have R964 : RdC p0 none (-6) (2) (-999) σ0 σ951 := R944.tr ⟨R956.1, R956.2⟩ (by omega) (by omega) (by omega) (by omega)
            exact ⟨_, rfl, H954, X963, h957, (R964.mo (by omega) (by omega) (by omega)), (by omega)⟩
          · refine k_nil ?_
            refine hB _ _ _ _ (kgoC (is := KX7_readLiteral_99) rfl ?_)
            refine k_iconst (m := 2) rfl (fun x965 h966 => ?_)
            refine k_goto ?_
            refine hB _ _ _ _ (kgoC (is := KX7_readLiteral_112) rfl ?_)
            have t967 := t883.x e886
            refine k_putI kp68 H885 t967 (Or.inl fk68) (tiC x965).1 (tiC x965).2 (fun σ968 H969 e970 c971 => ?_)
            refine k_aload_n rfl ?_
            have t972 := t888.x e970
            have R973 : RdC p0 none (1) (1) (-1000) σ0 σ968 := R891.tr ⟨(e970.gw H885.1 (by decide)), (e970.cou (u := 0) H885.1 t888 (by decide) (by rw [e970.cn (by decide)]; omega))⟩ (by omega) (by omega) (by omega) (by omega)
            have c974 := (t888.mi e970 (by decide)).trans c890
            have R975 := R973.nf (-1000) (-1000) (by rw [c974]; omega)
            have X976 : ExC [0, 1, 2, 60, 61, 62, 63, 64, 65, 66, 67, 68, 70, 242, 243, 244, 999] σ0 σ968 := X892.tr (e970.mo (by decide))
            have c977 := (t888.mi e970 (by decide)).trans c902
            have z978 := congrArg Int32.toInt c977
            have z979 := congrArg Int32.toInt c974
            refine k_inv (P := P_X7_accept) (Q := Q_X7_accept) rfl rfl rfl rfl (Nat.le_of_ble_eq_true rfl) (t972.rc (by decide)) ⟨_, rfl, H969, t972, (rd_cd.st H0 h_0_0 X976 R975.1 (by decide)), (R975.2.2.2.1 rd_at), (rd_bg.stn H0 h_0_0 X976 R975 (by decide) (by rw [c974]; omega) (by omega)), (by have ct := R975.2.2.1; rw [c974, c977, ct]; omega)⟩ (fun w980 σ981 q982 => ?_)
            obtain ⟨rfl, H983, e984, R985, q986⟩ := q982
            have t992 := t972.x e984
            obtain ⟨x987, e988, c989, h990, h991⟩ := cg242 H983.1 t992
            obtain ⟨x993, e994, c995, h996, h997⟩ := cg243 H983.1 t992
            have z998 := congrArg Int32.toInt c989
            have z999 := congrArg Int32.toInt c995
            refine k_st (st' := []) rfl ?_
            have R1000 : RdC p0 none (-7) (1) (-1000) σ0 σ981 := R975.tr ⟨R985.1, R985.2⟩ (by omega) (by omega) (by omega) (by omega)
            have z1001 := R1000.2.2.1
            have z1002 := R1000.2.2.2.1 rd_at
            refine k_aload_n rfl ?_
            refine k_aload_n rfl ?_
            have t1003 := t967.x e970
            have t1004 := t1003.x e984
            have X1005 : ExC [0, 1, 2, 60, 61, 62, 63, 64, 65, 66, 67, 68, 70, 242, 243, 244, 999] σ0 σ981 := X976.tr (e984.mo (by decide))
            refine k_inv (P := P_X7_put) (Q := Q_X7_put) rfl rfl rfl rfl (Nat.le_of_ble_eq_true rfl) (t992.rc (by decide)) ⟨_, _, rfl, H983, t992, t1004, (rd_cd.st H0 h_0_0 X1005 R1000.1 (by decide)), (R1000.2.2.2.1 rd_at), (rd_bg.st H0 h_0_0 X1005 R1000 (by decide) (by omega) (by omega) (by omega))⟩ (fun w1006 σ1007 q1008 => ?_)
            obtain ⟨a1009, rfl, H1010, e1011, h1013, R1012, q1014⟩ := q1008
            have c1015 := (t992.mi e1011 (by decide)).trans c989
            have c1016 := (t992.mi e1011 (by decide)).trans c995
            have z1017 := congrArg Int32.toInt c1015
            have z1018 := congrArg Int32.toInt c1016
            refine k_st (st' := [.inr (.inr (some a1009))]) rfl ?_
            refine k_areturn ?_
            have X1019 : ExC [0, 1, 2, 60, 61, 62, 63, 64, 65, 66, 67, 68, 70, 242, 243, 244, 999] σ0 σ1007 := X1005.tr (e1011.mo (by decide))
            have R1020 : RdC p0 none (-6) (2) (-999) σ0 σ1007 := R1000.tr ⟨R1012.1, R1012.2⟩ (by omega) (by omega) (by omega) (by omega)
            exact ⟨_, rfl, H1010, X1019, h1013, (R1020.mo (by omega) (by omega) (by omega)), (by omega)⟩
      · refine k_nil ?_
        refine hB _ _ _ _ (kgoC (is := KX7_readLiteral_18) rfl ?_)
        refine k_iconst (m := 1) rfl (fun x1021 h1022 => ?_)
        refine k_goto ?_
        refine hB _ _ _ _ (kgoC (is := KX7_readLiteral_23) rfl ?_)
        refine k_istore_n (ls' := [(1, .inl x1021), (0, .inr (.inr (some p0)))]) rfl ?_
        refine k_aload_n rfl ?_
        refine k_iload_n rfl ?_
        refine k_if_eq (fun h1023 => by exfalso; omega) (fun h1023 => ?_)
        refine k_nil ?_
        refine hB _ _ _ _ (kgoC (is := KX7_readLiteral_29) rfl ?_)
        refine k_iconst (m := 0) rfl (fun x1024 h1025 => ?_)
        refine k_goto ?_
        refine hB _ _ _ _ (kgoC (is := KX7_readLiteral_34) rfl ?_)
        refine k_aload_n rfl ?_
        refine k_inv (P := P_X7_code) (Q := Q_X7_code) rfl rfl rfl rfl (Nat.le_of_ble_eq_true rfl) (h_0_0.rc (by decide)) ⟨_, rfl, H0, h_0_0, (rd_cd.st H0 h_0_0 (ExC.rf : ExC [0, 1, 2, 60, 61, 62, 63, 64, 65, 66, 67, 68, 70, 242, 243, 244, 999] σ0 σ0) R14.1 (by decide))⟩ (fun w1026 σ1027 q1028 => ?_)
        obtain ⟨x1029, rfl, rfl, q1030, q1031, q1032⟩ := q1028
        refine k_st (st' := [.inl x1029, .inl x1024, .inr (.inr (some p0))]) rfl ?_
        refine k_inv (P := P_X7_opened) (Q := Q_X7_opened) rfl rfl rfl rfl (Nat.le_of_ble_eq_true rfl) (h_0_0.rc (by decide)) ⟨_, _, _, rfl, H0, h_0_0, (rd_cd.st H0 h_0_0 (ExC.rf : ExC [0, 1, 2, 60, 61, 62, 63, 64, 65, 66, 67, 68, 70, 242, 243, 244, 999] σ0 σ0) R14.1 (by decide)), (R14.2.2.2.1 rd_at), (rd_bg.stn H0 h_0_0 (ExC.rf : ExC [0, 1, 2, 60, 61, 62, 63, 64, 65, 66, 67, 68, 70, 242, 243, 244, 999] σ0 σ0) R14 (by decide) (by rw [c8]; omega) (by omega)), (by omega)⟩ (fun w1033 σ1034 q1035 => ?_)
        obtain ⟨a1036, rfl, H1037, e1038, h1040, R1039, q1041⟩ := q1035
        have c1042 := (h_0_0.mi e1038 (by decide)).trans c3
        have c1043 := (h_0_0.mi e1038 (by decide)).trans c8
        have z1044 := congrArg Int32.toInt c1042
        have z1045 := congrArg Int32.toInt c1043
        refine k_st (st' := [.inr (.inr (some a1036))]) rfl ?_
        have z1046 := R14.1.1
        have R1047 : RdC p0 none (1) (1) (-999) σ0 σ1034 := R14.tr ⟨R1039.1, R1039.2⟩ (by omega) (by omega) (by omega) (by omega)
        have R1048 := R1047.nf (-1000) (-1000) (by rw [c1043]; omega)
        have z1049 := R1048.2.2.1
        have z1050 := R1048.2.2.2.1 rd_at
        refine k_astore_n (ls' := [(2, .inr (.inr (some a1036))), (1, .inl x1021), (0, .inr (.inr (some p0)))]) rfl ?_
        refine k_aload_n rfl ?_
        refine k_iconst (m := 1) rfl (fun x1051 h1052 => ?_)
        refine k_putI kp70 H1037 h1040 (Or.inr ⟨fk70, b01C (by omega) (by omega)⟩) (by show 0 ≤ _; omega) (by show _ ≤ 1; omega) (fun σ1053 H1054 e1055 c1056 => ?_)
        refine k_aload_n rfl ?_
        refine k_aload_n rfl ?_
        have t1057 := h_0_0.x e1038
        have t1058 := t1057.x e1055
        have R1059 : RdC p0 none (1) (1) (-1000) σ0 σ1053 := R1048.tr ⟨(e1055.gw H1037.1 (by decide)), (e1055.cou (u := 0) H1037.1 t1057 (by decide) (by rw [e1055.cn (by decide)]; omega))⟩ (by omega) (by omega) (by omega) (by omega)
        have c1060 := (t1057.mi e1055 (by decide)).trans c1043
        have R1061 := R1059.nf (-1000) (-1000) (by rw [c1060]; omega)
        have X1062 : ExC [0, 1, 2, 60, 61, 62, 63, 64, 65, 66, 67, 68, 70, 242, 243, 244, 999] σ0 σ1034 := ExC.rf.tr (e1038.mo (by decide))
        have X1063 : ExC [0, 1, 2, 60, 61, 62, 63, 64, 65, 66, 67, 68, 70, 242, 243, 244, 999] σ0 σ1053 := X1062.tr (e1055.mo (by decide))
        refine k_inv (P := P_X7_code) (Q := Q_X7_code) rfl rfl rfl rfl (Nat.le_of_ble_eq_true rfl) (t1058.rc (by decide)) ⟨_, rfl, H1054, t1058, (rd_cd.st H0 h_0_0 X1063 R1061.1 (by decide))⟩ (fun w1064 σ1065 q1066 => ?_)
        obtain ⟨x1067, rfl, rfl, q1068, q1069, q1070⟩ := q1066
        refine k_st (st' := [.inl x1067, .inr (.inr (some a1036))]) rfl ?_
        have z1071 := R1061.2.2.1
        have z1072 := R1061.2.2.2.1 rd_at
        have c1073 := (t1057.mi e1055 (by decide)).trans c1042
        have z1074 := congrArg Int32.toInt c1073
        have z1075 := congrArg Int32.toInt c1060
        refine k_bipush (m := 72) rfl (fun x1076 h1077 => ?_)
        refine k_ic_ne (fun h1078 => ?_) (fun h1078 => ?_)
        · refine hB _ _ _ _ (kgoC (is := KX7_readLiteral_61) rfl ?_)
          refine k_aload_n rfl ?_
          refine k_inv (P := P_X7_code) (Q := Q_X7_code) rfl rfl rfl rfl (Nat.le_of_ble_eq_true rfl) (t1058.rc (by decide)) ⟨_, rfl, H1054, t1058, (rd_cd.st H0 h_0_0 X1063 R1061.1 (by decide))⟩ (fun w1079 σ1080 q1081 => ?_)
          obtain ⟨x1082, rfl, rfl, q1083, q1084, q1085⟩ := q1081
          refine k_st (st' := [.inl x1082, .inr (.inr (some a1036))]) rfl ?_
          refine k_bipush (m := 73) rfl (fun x1086 h1087 => ?_)
          refine k_ic_ne (fun h1088 => ?_) (fun h1088 => ?_)
          · refine hB _ _ _ _ (kgoC (is := KX7_readLiteral_74) rfl ?_)
            refine k_aload_n rfl ?_
            obtain ⟨a1091, e1089, c1090, t1092⟩ := cg241 H1054.1 t1058
            refine k_get kg241 t1058 e1089 ?_
            obtain ⟨a1095, e1093, c1094, t1096, l1097⟩ := cg304 H1054.1 t1092
            refine k_get kg304 t1092 e1093 ?_
            refine k_aload_n rfl ?_
            refine k_get kg242 t1058 (congrArg (Sum.inl : Int32 → AvC) c1073) ?_
            refine k_laload t1096 (by omega) (by omega) (fun y1098 => ?_)
            refine k_nil ?_
            refine hB _ _ _ _ (kgoC (is := KX7_readLiteral_86) rfl ?_)
            have t1099 := h1040.x e1055
            refine k_putL kg71 H1054 t1099 fk71 (fun σ1100 H1101 e1102 c1103 => ?_)
            refine k_aload_n rfl ?_
            refine k_aload_n rfl ?_
            have t1104 := t1058.x e1102
            have R1105 : RdC p0 none (1) (1) (-1000) σ0 σ1100 := R1061.tr ⟨(e1102.gw H1054.1 (by decide)), (e1102.cou (u := 0) H1054.1 t1058 (by decide) (by rw [e1102.cn (by decide)]; omega))⟩ (by omega) (by omega) (by omega) (by omega)
            have c1106 := (t1058.mi e1102 (by decide)).trans c1060
            have R1107 := R1105.nf (-1000) (-1000) (by rw [c1106]; omega)
            have X1108 : ExC [0, 1, 2, 60, 61, 62, 63, 64, 65, 66, 67, 68, 70, 242, 243, 244, 999] σ0 σ1100 := X1063.tr (e1102.mo (by decide))
            refine k_inv (P := P_X7_code) (Q := Q_X7_code) rfl rfl rfl rfl (Nat.le_of_ble_eq_true rfl) (t1104.rc (by decide)) ⟨_, rfl, H1101, t1104, (rd_cd.st H0 h_0_0 X1108 R1107.1 (by decide))⟩ (fun w1109 σ1110 q1111 => ?_)
            obtain ⟨x1112, rfl, rfl, q1113, q1114, q1115⟩ := q1111
            refine k_st (st' := [.inl x1112, .inr (.inr (some a1036))]) rfl ?_
            have z1116 := R1107.2.2.1
            have z1117 := R1107.2.2.2.1 rd_at
            have c1118 := (t1058.mi e1102 (by decide)).trans c1073
            have z1119 := congrArg Int32.toInt c1118
            have z1120 := congrArg Int32.toInt c1106
            refine k_bipush (m := 83) rfl (fun x1121 h1122 => ?_)
            refine k_ic_ne (fun h1123 => ?_) (fun h1123 => ?_)
            · refine hB _ _ _ _ (kgoC (is := KX7_readLiteral_103) rfl ?_)
              refine k_iload_n rfl ?_
              refine k_if_eq (fun h1124 => by exfalso; omega) (fun h1124 => ?_)
              refine k_nil ?_
              refine hB _ _ _ _ (kgoC (is := KX7_readLiteral_107) rfl ?_)
              refine k_iconst (m := (-1)) rfl (fun x1125 h1126 => ?_)
              refine k_goto ?_
              refine hB _ _ _ _ (kgoC (is := KX7_readLiteral_112) rfl ?_)
              have t1127 := t1099.x e1102
              refine k_putI kp68 H1101 t1127 (Or.inl fk68) (tiC x1125).1 (tiC x1125).2 (fun σ1128 H1129 e1130 c1131 => ?_)
              refine k_aload_n rfl ?_
              have t1132 := t1104.x e1130
              have R1133 : RdC p0 none (1) (1) (-1000) σ0 σ1128 := R1107.tr ⟨(e1130.gw H1101.1 (by decide)), (e1130.cou (u := 0) H1101.1 t1104 (by decide) (by rw [e1130.cn (by decide)]; omega))⟩ (by omega) (by omega) (by omega) (by omega)
              have c1134 := (t1104.mi e1130 (by decide)).trans c1106
              have R1135 := R1133.nf (-1000) (-1000) (by rw [c1134]; omega)
              have X1136 : ExC [0, 1, 2, 60, 61, 62, 63, 64, 65, 66, 67, 68, 70, 242, 243, 244, 999] σ0 σ1128 := X1108.tr (e1130.mo (by decide))
              have c1137 := (t1104.mi e1130 (by decide)).trans c1118
              have z1138 := congrArg Int32.toInt c1137
              have z1139 := congrArg Int32.toInt c1134
              refine k_inv (P := P_X7_accept) (Q := Q_X7_accept) rfl rfl rfl rfl (Nat.le_of_ble_eq_true rfl) (t1132.rc (by decide)) ⟨_, rfl, H1129, t1132, (rd_cd.st H0 h_0_0 X1136 R1135.1 (by decide)), (R1135.2.2.2.1 rd_at), (rd_bg.stn H0 h_0_0 X1136 R1135 (by decide) (by rw [c1134]; omega) (by omega)), (by have ct := R1135.2.2.1; rw [c1134, c1137, ct]; omega)⟩ (fun w1140 σ1141 q1142 => ?_)
              obtain ⟨rfl, H1143, e1144, R1145, q1146⟩ := q1142
              have t1152 := t1132.x e1144
              obtain ⟨x1147, e1148, c1149, h1150, h1151⟩ := cg242 H1143.1 t1152
              obtain ⟨x1153, e1154, c1155, h1156, h1157⟩ := cg243 H1143.1 t1152
              have z1158 := congrArg Int32.toInt c1149
              have z1159 := congrArg Int32.toInt c1155
              refine k_st (st' := []) rfl ?_
              have R1160 : RdC p0 none (-7) (1) (-1000) σ0 σ1141 := R1135.tr ⟨R1145.1, R1145.2⟩ (by omega) (by omega) (by omega) (by omega)
              have z1161 := R1160.2.2.1
              have z1162 := R1160.2.2.2.1 rd_at
              refine k_aload_n rfl ?_
              refine k_aload_n rfl ?_
              have t1163 := t1127.x e1130
              have t1164 := t1163.x e1144
              have X1165 : ExC [0, 1, 2, 60, 61, 62, 63, 64, 65, 66, 67, 68, 70, 242, 243, 244, 999] σ0 σ1141 := X1136.tr (e1144.mo (by decide))
              refine k_inv (P := P_X7_put) (Q := Q_X7_put) rfl rfl rfl rfl (Nat.le_of_ble_eq_true rfl) (t1152.rc (by decide)) ⟨_, _, rfl, H1143, t1152, t1164, (rd_cd.st H0 h_0_0 X1165 R1160.1 (by decide)), (R1160.2.2.2.1 rd_at), (rd_bg.st H0 h_0_0 X1165 R1160 (by decide) (by omega) (by omega) (by omega))⟩ (fun w1166 σ1167 q1168 => ?_)
              obtain ⟨a1169, rfl, H1170, e1171, h1173, R1172, q1174⟩ := q1168
              have c1175 := (t1152.mi e1171 (by decide)).trans c1149
              have c1176 := (t1152.mi e1171 (by decide)).trans c1155
              have z1177 := congrArg Int32.toInt c1175
              have z1178 := congrArg Int32.toInt c1176
              refine k_st (st' := [.inr (.inr (some a1169))]) rfl ?_
              refine k_areturn ?_
              have X1179 : ExC [0, 1, 2, 60, 61, 62, 63, 64, 65, 66, 67, 68, 70, 242, 243, 244, 999] σ0 σ1167 := X1165.tr (e1171.mo (by decide))
              have R1180 : RdC p0 none (-6) (2) (-999) σ0 σ1167 := R1160.tr ⟨R1172.1, R1172.2⟩ (by omega) (by omega) (by omega) (by omega)
              exact ⟨_, rfl, H1170, X1179, h1173, (R1180.mo (by omega) (by omega) (by omega)), (by omega)⟩
            · refine k_nil ?_
              refine hB _ _ _ _ (kgoC (is := KX7_readLiteral_99) rfl ?_)
              refine k_iconst (m := 2) rfl (fun x1181 h1182 => ?_)
              refine k_goto ?_
              refine hB _ _ _ _ (kgoC (is := KX7_readLiteral_112) rfl ?_)
              have t1183 := t1099.x e1102
              refine k_putI kp68 H1101 t1183 (Or.inl fk68) (tiC x1181).1 (tiC x1181).2 (fun σ1184 H1185 e1186 c1187 => ?_)
              refine k_aload_n rfl ?_
              have t1188 := t1104.x e1186
              have R1189 : RdC p0 none (1) (1) (-1000) σ0 σ1184 := R1107.tr ⟨(e1186.gw H1101.1 (by decide)), (e1186.cou (u := 0) H1101.1 t1104 (by decide) (by rw [e1186.cn (by decide)]; omega))⟩ (by omega) (by omega) (by omega) (by omega)
              have c1190 := (t1104.mi e1186 (by decide)).trans c1106
              have R1191 := R1189.nf (-1000) (-1000) (by rw [c1190]; omega)
              have X1192 : ExC [0, 1, 2, 60, 61, 62, 63, 64, 65, 66, 67, 68, 70, 242, 243, 244, 999] σ0 σ1184 := X1108.tr (e1186.mo (by decide))
              have c1193 := (t1104.mi e1186 (by decide)).trans c1118
              have z1194 := congrArg Int32.toInt c1193
              have z1195 := congrArg Int32.toInt c1190
              refine k_inv (P := P_X7_accept) (Q := Q_X7_accept) rfl rfl rfl rfl (Nat.le_of_ble_eq_true rfl) (t1188.rc (by decide)) ⟨_, rfl, H1185, t1188, (rd_cd.st H0 h_0_0 X1192 R1191.1 (by decide)), (R1191.2.2.2.1 rd_at), (rd_bg.stn H0 h_0_0 X1192 R1191 (by decide) (by rw [c1190]; omega) (by omega)), (by have ct := R1191.2.2.1; rw [c1190, c1193, ct]; omega)⟩ (fun w1196 σ1197 q1198 => ?_)
              obtain ⟨rfl, H1199, e1200, R1201, q1202⟩ := q1198
              have t1208 := t1188.x e1200
              obtain ⟨x1203, e1204, c1205, h1206, h1207⟩ := cg242 H1199.1 t1208
              obtain ⟨x1209, e1210, c1211, h1212, h1213⟩ := cg243 H1199.1 t1208
              have z1214 := congrArg Int32.toInt c1205
              have z1215 := congrArg Int32.toInt c1211
              refine k_st (st' := []) rfl ?_
              have R1216 : RdC p0 none (-7) (1) (-1000) σ0 σ1197 := R1191.tr ⟨R1201.1, R1201.2⟩ (by omega) (by omega) (by omega) (by omega)
              have z1217 := R1216.2.2.1
              have z1218 := R1216.2.2.2.1 rd_at
              refine k_aload_n rfl ?_
              refine k_aload_n rfl ?_
              have t1219 := t1183.x e1186
              have t1220 := t1219.x e1200
              have X1221 : ExC [0, 1, 2, 60, 61, 62, 63, 64, 65, 66, 67, 68, 70, 242, 243, 244, 999] σ0 σ1197 := X1192.tr (e1200.mo (by decide))
              refine k_inv (P := P_X7_put) (Q := Q_X7_put) rfl rfl rfl rfl (Nat.le_of_ble_eq_true rfl) (t1208.rc (by decide)) ⟨_, _, rfl, H1199, t1208, t1220, (rd_cd.st H0 h_0_0 X1221 R1216.1 (by decide)), (R1216.2.2.2.1 rd_at), (rd_bg.st H0 h_0_0 X1221 R1216 (by decide) (by omega) (by omega) (by omega))⟩ (fun w1222 σ1223 q1224 => ?_)
              obtain ⟨a1225, rfl, H1226, e1227, h1229, R1228, q1230⟩ := q1224
              have c1231 := (t1208.mi e1227 (by decide)).trans c1205
              have c1232 := (t1208.mi e1227 (by decide)).trans c1211
              have z1233 := congrArg Int32.toInt c1231
              have z1234 := congrArg Int32.toInt c1232
              refine k_st (st' := [.inr (.inr (some a1225))]) rfl ?_
              refine k_areturn ?_
              have X1235 : ExC [0, 1, 2, 60, 61, 62, 63, 64, 65, 66, 67, 68, 70, 242, 243, 244, 999] σ0 σ1223 := X1221.tr (e1227.mo (by decide))
              have R1236 : RdC p0 none (-6) (2) (-999) σ0 σ1223 := R1216.tr ⟨R1228.1, R1228.2⟩ (by omega) (by omega) (by omega) (by omega)
              exact ⟨_, rfl, H1226, X1235, h1229, (R1236.mo (by omega) (by omega) (by omega)), (by omega)⟩
          · refine k_nil ?_
            refine hB _ _ _ _ (kgoC (is := KX7_readLiteral_70) rfl ?_)
            refine k_lconst ?_
            refine k_goto ?_
            refine hB _ _ _ _ (kgoC (is := KX7_readLiteral_86) rfl ?_)
            have t1237 := h1040.x e1055
            refine k_putL kg71 H1054 t1237 fk71 (fun σ1238 H1239 e1240 c1241 => ?_)
            refine k_aload_n rfl ?_
            refine k_aload_n rfl ?_
            have t1242 := t1058.x e1240
            have R1243 : RdC p0 none (1) (1) (-1000) σ0 σ1238 := R1061.tr ⟨(e1240.gw H1054.1 (by decide)), (e1240.cou (u := 0) H1054.1 t1058 (by decide) (by rw [e1240.cn (by decide)]; omega))⟩ (by omega) (by omega) (by omega) (by omega)
            have c1244 := (t1058.mi e1240 (by decide)).trans c1060
            have R1245 := R1243.nf (-1000) (-1000) (by rw [c1244]; omega)
            have X1246 : ExC [0, 1, 2, 60, 61, 62, 63, 64, 65, 66, 67, 68, 70, 242, 243, 244, 999] σ0 σ1238 := X1063.tr (e1240.mo (by decide))
            refine k_inv (P := P_X7_code) (Q := Q_X7_code) rfl rfl rfl rfl (Nat.le_of_ble_eq_true rfl) (t1242.rc (by decide)) ⟨_, rfl, H1239, t1242, (rd_cd.st H0 h_0_0 X1246 R1245.1 (by decide))⟩ (fun w1247 σ1248 q1249 => ?_)
            obtain ⟨x1250, rfl, rfl, q1251, q1252, q1253⟩ := q1249
            refine k_st (st' := [.inl x1250, .inr (.inr (some a1036))]) rfl ?_
            have z1254 := R1245.2.2.1
            have z1255 := R1245.2.2.2.1 rd_at
            have c1256 := (t1058.mi e1240 (by decide)).trans c1073
            have z1257 := congrArg Int32.toInt c1256
            have z1258 := congrArg Int32.toInt c1244
            refine k_bipush (m := 83) rfl (fun x1259 h1260 => ?_)
            refine k_ic_ne (fun h1261 => ?_) (fun h1261 => ?_)
            · refine hB _ _ _ _ (kgoC (is := KX7_readLiteral_103) rfl ?_)
              refine k_iload_n rfl ?_
              refine k_if_eq (fun h1262 => by exfalso; omega) (fun h1262 => ?_)
              refine k_nil ?_
              refine hB _ _ _ _ (kgoC (is := KX7_readLiteral_107) rfl ?_)
              refine k_iconst (m := (-1)) rfl (fun x1263 h1264 => ?_)
              refine k_goto ?_
              refine hB _ _ _ _ (kgoC (is := KX7_readLiteral_112) rfl ?_)
              have t1265 := t1237.x e1240
              refine k_putI kp68 H1239 t1265 (Or.inl fk68) (tiC x1263).1 (tiC x1263).2 (fun σ1266 H1267 e1268 c1269 => ?_)
              refine k_aload_n rfl ?_
              have t1270 := t1242.x e1268
              have R1271 : RdC p0 none (1) (1) (-1000) σ0 σ1266 := R1245.tr ⟨(e1268.gw H1239.1 (by decide)), (e1268.cou (u := 0) H1239.1 t1242 (by decide) (by rw [e1268.cn (by decide)]; omega))⟩ (by omega) (by omega) (by omega) (by omega)
              have c1272 := (t1242.mi e1268 (by decide)).trans c1244
              have R1273 := R1271.nf (-1000) (-1000) (by rw [c1272]; omega)
              have X1274 : ExC [0, 1, 2, 60, 61, 62, 63, 64, 65, 66, 67, 68, 70, 242, 243, 244, 999] σ0 σ1266 := X1246.tr (e1268.mo (by decide))
              have c1275 := (t1242.mi e1268 (by decide)).trans c1256
              have z1276 := congrArg Int32.toInt c1275
              have z1277 := congrArg Int32.toInt c1272
              refine k_inv (P := P_X7_accept) (Q := Q_X7_accept) rfl rfl rfl rfl (Nat.le_of_ble_eq_true rfl) (t1270.rc (by decide)) ⟨_, rfl, H1267, t1270, (rd_cd.st H0 h_0_0 X1274 R1273.1 (by decide)), (R1273.2.2.2.1 rd_at), (rd_bg.stn H0 h_0_0 X1274 R1273 (by decide) (by rw [c1272]; omega) (by omega)), (by have ct := R1273.2.2.1; rw [c1272, c1275, ct]; omega)⟩ (fun w1278 σ1279 q1280 => ?_)
              obtain ⟨rfl, H1281, e1282, R1283, q1284⟩ := q1280
              have t1290 := t1270.x e1282
              obtain ⟨x1285, e1286, c1287, h1288, h1289⟩ := cg242 H1281.1 t1290
              obtain ⟨x1291, e1292, c1293, h1294, h1295⟩ := cg243 H1281.1 t1290
              have z1296 := congrArg Int32.toInt c1287
              have z1297 := congrArg Int32.toInt c1293
              refine k_st (st' := []) rfl ?_
              have R1298 : RdC p0 none (-7) (1) (-1000) σ0 σ1279 := R1273.tr ⟨R1283.1, R1283.2⟩ (by omega) (by omega) (by omega) (by omega)
              have z1299 := R1298.2.2.1
              have z1300 := R1298.2.2.2.1 rd_at
              refine k_aload_n rfl ?_
              refine k_aload_n rfl ?_
              have t1301 := t1265.x e1268
              have t1302 := t1301.x e1282
              have X1303 : ExC [0, 1, 2, 60, 61, 62, 63, 64, 65, 66, 67, 68, 70, 242, 243, 244, 999] σ0 σ1279 := X1274.tr (e1282.mo (by decide))
              refine k_inv (P := P_X7_put) (Q := Q_X7_put) rfl rfl rfl rfl (Nat.le_of_ble_eq_true rfl) (t1290.rc (by decide)) ⟨_, _, rfl, H1281, t1290, t1302, (rd_cd.st H0 h_0_0 X1303 R1298.1 (by decide)), (R1298.2.2.2.1 rd_at), (rd_bg.st H0 h_0_0 X1303 R1298 (by decide) (by omega) (by omega) (by omega))⟩ (fun w1304 σ1305 q1306 => ?_)
              obtain ⟨a1307, rfl, H1308, e1309, h1311, R1310, q1312⟩ := q1306
              have c1313 := (t1290.mi e1309 (by decide)).trans c1287
              have c1314 := (t1290.mi e1309 (by decide)).trans c1293
              have z1315 := congrArg Int32.toInt c1313
              have z1316 := congrArg Int32.toInt c1314
              refine k_st (st' := [.inr (.inr (some a1307))]) rfl ?_
              refine k_areturn ?_
              have X1317 : ExC [0, 1, 2, 60, 61, 62, 63, 64, 65, 66, 67, 68, 70, 242, 243, 244, 999] σ0 σ1305 := X1303.tr (e1309.mo (by decide))
              have R1318 : RdC p0 none (-6) (2) (-999) σ0 σ1305 := R1298.tr ⟨R1310.1, R1310.2⟩ (by omega) (by omega) (by omega) (by omega)
              exact ⟨_, rfl, H1308, X1317, h1311, (R1318.mo (by omega) (by omega) (by omega)), (by omega)⟩
            · refine k_nil ?_
              refine hB _ _ _ _ (kgoC (is := KX7_readLiteral_99) rfl ?_)
              refine k_iconst (m := 2) rfl (fun x1319 h1320 => ?_)
              refine k_goto ?_
              refine hB _ _ _ _ (kgoC (is := KX7_readLiteral_112) rfl ?_)
              have t1321 := t1237.x e1240
              refine k_putI kp68 H1239 t1321 (Or.inl fk68) (tiC x1319).1 (tiC x1319).2 (fun σ1322 H1323 e1324 c1325 => ?_)
              refine k_aload_n rfl ?_
              have t1326 := t1242.x e1324
              have R1327 : RdC p0 none (1) (1) (-1000) σ0 σ1322 := R1245.tr ⟨(e1324.gw H1239.1 (by decide)), (e1324.cou (u := 0) H1239.1 t1242 (by decide) (by rw [e1324.cn (by decide)]; omega))⟩ (by omega) (by omega) (by omega) (by omega)
              have c1328 := (t1242.mi e1324 (by decide)).trans c1244
              have R1329 := R1327.nf (-1000) (-1000) (by rw [c1328]; omega)
              have X1330 : ExC [0, 1, 2, 60, 61, 62, 63, 64, 65, 66, 67, 68, 70, 242, 243, 244, 999] σ0 σ1322 := X1246.tr (e1324.mo (by decide))
              have c1331 := (t1242.mi e1324 (by decide)).trans c1256
              have z1332 := congrArg Int32.toInt c1331
              have z1333 := congrArg Int32.toInt c1328
              refine k_inv (P := P_X7_accept) (Q := Q_X7_accept) rfl rfl rfl rfl (Nat.le_of_ble_eq_true rfl) (t1326.rc (by decide)) ⟨_, rfl, H1323, t1326, (rd_cd.st H0 h_0_0 X1330 R1329.1 (by decide)), (R1329.2.2.2.1 rd_at), (rd_bg.stn H0 h_0_0 X1330 R1329 (by decide) (by rw [c1328]; omega) (by omega)), (by have ct := R1329.2.2.1; rw [c1328, c1331, ct]; omega)⟩ (fun w1334 σ1335 q1336 => ?_)
              obtain ⟨rfl, H1337, e1338, R1339, q1340⟩ := q1336
              have t1346 := t1326.x e1338
              obtain ⟨x1341, e1342, c1343, h1344, h1345⟩ := cg242 H1337.1 t1346
              obtain ⟨x1347, e1348, c1349, h1350, h1351⟩ := cg243 H1337.1 t1346
              have z1352 := congrArg Int32.toInt c1343
              have z1353 := congrArg Int32.toInt c1349
              refine k_st (st' := []) rfl ?_
              have R1354 : RdC p0 none (-7) (1) (-1000) σ0 σ1335 := R1329.tr ⟨R1339.1, R1339.2⟩ (by omega) (by omega) (by omega) (by omega)
              have z1355 := R1354.2.2.1
              have z1356 := R1354.2.2.2.1 rd_at
              refine k_aload_n rfl ?_
              refine k_aload_n rfl ?_
              have t1357 := t1321.x e1324
              have t1358 := t1357.x e1338
              have X1359 : ExC [0, 1, 2, 60, 61, 62, 63, 64, 65, 66, 67, 68, 70, 242, 243, 244, 999] σ0 σ1335 := X1330.tr (e1338.mo (by decide))
              refine k_inv (P := P_X7_put) (Q := Q_X7_put) rfl rfl rfl rfl (Nat.le_of_ble_eq_true rfl) (t1346.rc (by decide)) ⟨_, _, rfl, H1337, t1346, t1358, (rd_cd.st H0 h_0_0 X1359 R1354.1 (by decide)), (R1354.2.2.2.1 rd_at), (rd_bg.st H0 h_0_0 X1359 R1354 (by decide) (by omega) (by omega) (by omega))⟩ (fun w1360 σ1361 q1362 => ?_)
              obtain ⟨a1363, rfl, H1364, e1365, h1367, R1366, q1368⟩ := q1362
              have c1369 := (t1346.mi e1365 (by decide)).trans c1343
              have c1370 := (t1346.mi e1365 (by decide)).trans c1349
              have z1371 := congrArg Int32.toInt c1369
              have z1372 := congrArg Int32.toInt c1370
              refine k_st (st' := [.inr (.inr (some a1363))]) rfl ?_
              refine k_areturn ?_
              have X1373 : ExC [0, 1, 2, 60, 61, 62, 63, 64, 65, 66, 67, 68, 70, 242, 243, 244, 999] σ0 σ1361 := X1359.tr (e1365.mo (by decide))
              have R1374 : RdC p0 none (-6) (2) (-999) σ0 σ1361 := R1354.tr ⟨R1366.1, R1366.2⟩ (by omega) (by omega) (by omega) (by omega)
              exact ⟨_, rfl, H1364, X1373, h1367, (R1374.mo (by omega) (by omega) (by omega)), (by omega)⟩
        · refine k_nil ?_
          refine hB _ _ _ _ (kgoC (is := KX7_readLiteral_57) rfl ?_)
          refine k_lconst ?_
          refine k_goto ?_
          refine hB _ _ _ _ (kgoC (is := KX7_readLiteral_86) rfl ?_)
          have t1375 := h1040.x e1055
          refine k_putL kg71 H1054 t1375 fk71 (fun σ1376 H1377 e1378 c1379 => ?_)
          refine k_aload_n rfl ?_
          refine k_aload_n rfl ?_
          have t1380 := t1058.x e1378
          have R1381 : RdC p0 none (1) (1) (-1000) σ0 σ1376 := R1061.tr ⟨(e1378.gw H1054.1 (by decide)), (e1378.cou (u := 0) H1054.1 t1058 (by decide) (by rw [e1378.cn (by decide)]; omega))⟩ (by omega) (by omega) (by omega) (by omega)
          have c1382 := (t1058.mi e1378 (by decide)).trans c1060
          have R1383 := R1381.nf (-1000) (-1000) (by rw [c1382]; omega)
          have X1384 : ExC [0, 1, 2, 60, 61, 62, 63, 64, 65, 66, 67, 68, 70, 242, 243, 244, 999] σ0 σ1376 := X1063.tr (e1378.mo (by decide))
          refine k_inv (P := P_X7_code) (Q := Q_X7_code) rfl rfl rfl rfl (Nat.le_of_ble_eq_true rfl) (t1380.rc (by decide)) ⟨_, rfl, H1377, t1380, (rd_cd.st H0 h_0_0 X1384 R1383.1 (by decide))⟩ (fun w1385 σ1386 q1387 => ?_)
          obtain ⟨x1388, rfl, rfl, q1389, q1390, q1391⟩ := q1387
          refine k_st (st' := [.inl x1388, .inr (.inr (some a1036))]) rfl ?_
          have z1392 := R1383.2.2.1
          have z1393 := R1383.2.2.2.1 rd_at
          have c1394 := (t1058.mi e1378 (by decide)).trans c1073
          have z1395 := congrArg Int32.toInt c1394
          have z1396 := congrArg Int32.toInt c1382
          refine k_bipush (m := 83) rfl (fun x1397 h1398 => ?_)
          refine k_ic_ne (fun h1399 => ?_) (fun h1399 => ?_)
          · refine hB _ _ _ _ (kgoC (is := KX7_readLiteral_103) rfl ?_)
            refine k_iload_n rfl ?_
            refine k_if_eq (fun h1400 => by exfalso; omega) (fun h1400 => ?_)
            refine k_nil ?_
            refine hB _ _ _ _ (kgoC (is := KX7_readLiteral_107) rfl ?_)
            refine k_iconst (m := (-1)) rfl (fun x1401 h1402 => ?_)
            refine k_goto ?_
            refine hB _ _ _ _ (kgoC (is := KX7_readLiteral_112) rfl ?_)
            have t1403 := t1375.x e1378
            refine k_putI kp68 H1377 t1403 (Or.inl fk68) (tiC x1401).1 (tiC x1401).2 (fun σ1404 H1405 e1406 c1407 => ?_)
            refine k_aload_n rfl ?_
            have t1408 := t1380.x e1406
            have R1409 : RdC p0 none (1) (1) (-1000) σ0 σ1404 := R1383.tr ⟨(e1406.gw H1377.1 (by decide)), (e1406.cou (u := 0) H1377.1 t1380 (by decide) (by rw [e1406.cn (by decide)]; omega))⟩ (by omega) (by omega) (by omega) (by omega)
            have c1410 := (t1380.mi e1406 (by decide)).trans c1382
            have R1411 := R1409.nf (-1000) (-1000) (by rw [c1410]; omega)
            have X1412 : ExC [0, 1, 2, 60, 61, 62, 63, 64, 65, 66, 67, 68, 70, 242, 243, 244, 999] σ0 σ1404 := X1384.tr (e1406.mo (by decide))
            have c1413 := (t1380.mi e1406 (by decide)).trans c1394
            have z1414 := congrArg Int32.toInt c1413
            have z1415 := congrArg Int32.toInt c1410
            refine k_inv (P := P_X7_accept) (Q := Q_X7_accept) rfl rfl rfl rfl (Nat.le_of_ble_eq_true rfl) (t1408.rc (by decide)) ⟨_, rfl, H1405, t1408, (rd_cd.st H0 h_0_0 X1412 R1411.1 (by decide)), (R1411.2.2.2.1 rd_at), (rd_bg.stn H0 h_0_0 X1412 R1411 (by decide) (by rw [c1410]; omega) (by omega)), (by have ct := R1411.2.2.1; rw [c1410, c1413, ct]; omega)⟩ (fun w1416 σ1417 q1418 => ?_)
            obtain ⟨rfl, H1419, e1420, R1421, q1422⟩ := q1418
            have t1428 := t1408.x e1420
            obtain ⟨x1423, e1424, c1425, h1426, h1427⟩ := cg242 H1419.1 t1428
            obtain ⟨x1429, e1430, c1431, h1432, h1433⟩ := cg243 H1419.1 t1428
            have z1434 := congrArg Int32.toInt c1425
            have z1435 := congrArg Int32.toInt c1431
            refine k_st (st' := []) rfl ?_
            have R1436 : RdC p0 none (-7) (1) (-1000) σ0 σ1417 := R1411.tr ⟨R1421.1, R1421.2⟩ (by omega) (by omega) (by omega) (by omega)
            have z1437 := R1436.2.2.1
            have z1438 := R1436.2.2.2.1 rd_at
            refine k_aload_n rfl ?_
            refine k_aload_n rfl ?_
            have t1439 := t1403.x e1406
            have t1440 := t1439.x e1420
            have X1441 : ExC [0, 1, 2, 60, 61, 62, 63, 64, 65, 66, 67, 68, 70, 242, 243, 244, 999] σ0 σ1417 := X1412.tr (e1420.mo (by decide))
            refine k_inv (P := P_X7_put) (Q := Q_X7_put) rfl rfl rfl rfl (Nat.le_of_ble_eq_true rfl) (t1428.rc (by decide)) ⟨_, _, rfl, H1419, t1428, t1440, (rd_cd.st H0 h_0_0 X1441 R1436.1 (by decide)), (R1436.2.2.2.1 rd_at), (rd_bg.st H0 h_0_0 X1441 R1436 (by decide) (by omega) (by omega) (by omega))⟩ (fun w1442 σ1443 q1444 => ?_)
            obtain ⟨a1445, rfl, H1446, e1447, h1449, R1448, q1450⟩ := q1444
            have c1451 := (t1428.mi e1447 (by decide)).trans c1425
            have c1452 := (t1428.mi e1447 (by decide)).trans c1431
            have z1453 := congrArg Int32.toInt c1451
            have z1454 := congrArg Int32.toInt c1452
            refine k_st (st' := [.inr (.inr (some a1445))]) rfl ?_
            refine k_areturn ?_
            have X1455 : ExC [0, 1, 2, 60, 61, 62, 63, 64, 65, 66, 67, 68, 70, 242, 243, 244, 999] σ0 σ1443 := X1441.tr (e1447.mo (by decide))
            have R1456 : RdC p0 none (-6) (2) (-999) σ0 σ1443 := R1436.tr ⟨R1448.1, R1448.2⟩ (by omega) (by omega) (by omega) (by omega)
            exact ⟨_, rfl, H1446, X1455, h1449, (R1456.mo (by omega) (by omega) (by omega)), (by omega)⟩
          · refine k_nil ?_
            refine hB _ _ _ _ (kgoC (is := KX7_readLiteral_99) rfl ?_)
            refine k_iconst (m := 2) rfl (fun x1457 h1458 => ?_)
            refine k_goto ?_
            refine hB _ _ _ _ (kgoC (is := KX7_readLiteral_112) rfl ?_)
            have t1459 := t1375.x e1378
            refine k_putI kp68 H1377 t1459 (Or.inl fk68) (tiC x1457).1 (tiC x1457).2 (fun σ1460 H1461 e1462 c1463 => ?_)
            refine k_aload_n rfl ?_
            have t1464 := t1380.x e1462
            have R1465 : RdC p0 none (1) (1) (-1000) σ0 σ1460 := R1383.tr ⟨(e1462.gw H1377.1 (by decide)), (e1462.cou (u := 0) H1377.1 t1380 (by decide) (by rw [e1462.cn (by decide)]; omega))⟩ (by omega) (by omega) (by omega) (by omega)
            have c1466 := (t1380.mi e1462 (by decide)).trans c1382
            have R1467 := R1465.nf (-1000) (-1000) (by rw [c1466]; omega)
            have X1468 : ExC [0, 1, 2, 60, 61, 62, 63, 64, 65, 66, 67, 68, 70, 242, 243, 244, 999] σ0 σ1460 := X1384.tr (e1462.mo (by decide))
            have c1469 := (t1380.mi e1462 (by decide)).trans c1394
            have z1470 := congrArg Int32.toInt c1469
            have z1471 := congrArg Int32.toInt c1466
            refine k_inv (P := P_X7_accept) (Q := Q_X7_accept) rfl rfl rfl rfl (Nat.le_of_ble_eq_true rfl) (t1464.rc (by decide)) ⟨_, rfl, H1461, t1464, (rd_cd.st H0 h_0_0 X1468 R1467.1 (by decide)), (R1467.2.2.2.1 rd_at), (rd_bg.stn H0 h_0_0 X1468 R1467 (by decide) (by rw [c1466]; omega) (by omega)), (by have ct := R1467.2.2.1; rw [c1466, c1469, ct]; omega)⟩ (fun w1472 σ1473 q1474 => ?_)
            obtain ⟨rfl, H1475, e1476, R1477, q1478⟩ := q1474
            have t1484 := t1464.x e1476
            obtain ⟨x1479, e1480, c1481, h1482, h1483⟩ := cg242 H1475.1 t1484
            obtain ⟨x1485, e1486, c1487, h1488, h1489⟩ := cg243 H1475.1 t1484
            have z1490 := congrArg Int32.toInt c1481
            have z1491 := congrArg Int32.toInt c1487
            refine k_st (st' := []) rfl ?_
            have R1492 : RdC p0 none (-7) (1) (-1000) σ0 σ1473 := R1467.tr ⟨R1477.1, R1477.2⟩ (by omega) (by omega) (by omega) (by omega)
            have z1493 := R1492.2.2.1
            have z1494 := R1492.2.2.2.1 rd_at
            refine k_aload_n rfl ?_
            refine k_aload_n rfl ?_
            have t1495 := t1459.x e1462
            have t1496 := t1495.x e1476
            have X1497 : ExC [0, 1, 2, 60, 61, 62, 63, 64, 65, 66, 67, 68, 70, 242, 243, 244, 999] σ0 σ1473 := X1468.tr (e1476.mo (by decide))
            refine k_inv (P := P_X7_put) (Q := Q_X7_put) rfl rfl rfl rfl (Nat.le_of_ble_eq_true rfl) (t1484.rc (by decide)) ⟨_, _, rfl, H1475, t1484, t1496, (rd_cd.st H0 h_0_0 X1497 R1492.1 (by decide)), (R1492.2.2.2.1 rd_at), (rd_bg.st H0 h_0_0 X1497 R1492 (by decide) (by omega) (by omega) (by omega))⟩ (fun w1498 σ1499 q1500 => ?_)
            obtain ⟨a1501, rfl, H1502, e1503, h1505, R1504, q1506⟩ := q1500
            have c1507 := (t1484.mi e1503 (by decide)).trans c1481
            have c1508 := (t1484.mi e1503 (by decide)).trans c1487
            have z1509 := congrArg Int32.toInt c1507
            have z1510 := congrArg Int32.toInt c1508
            refine k_st (st' := [.inr (.inr (some a1501))]) rfl ?_
            refine k_areturn ?_
            have X1511 : ExC [0, 1, 2, 60, 61, 62, 63, 64, 65, 66, 67, 68, 70, 242, 243, 244, 999] σ0 σ1499 := X1497.tr (e1503.mo (by decide))
            have R1512 : RdC p0 none (-6) (2) (-999) σ0 σ1499 := R1492.tr ⟨R1504.1, R1504.2⟩ (by omega) (by omega) (by omega) (by omega)
            exact ⟨_, rfl, H1502, X1511, h1505, (R1512.mo (by omega) (by omega) (by omega)), (by omega)⟩

set_option maxRecDepth 100000 in
set_option maxHeartbeats 4000000 in
theorem m_X7_readCountAhead (l : Launch) : CMetC l 13 173 P_X7_readCountAhead Q_X7_readCountAhead := by
  refine CMetC.of KX7_readCountAhead [(125, P_X7_code, Q_X7_code), (162, P_X7_opened, Q_X7_opened), (128, P_X7_accept, Q_X7_accept), (129, P_X7_expect, Q_X7_expect), (161, P_X7_put, Q_X7_put), (140, P_X7_meant, Q_X7_meant)] hX7_readCountAhead (by decide) (by decide) okX7_readCountAhead (cc1C (m_X7_code l) (by decide) (cc1C (m_X7_opened l) (by decide) (cc1C (m_X7_accept l) (by decide) (cc1C (m_X7_expect l) (by decide) (cc1C (m_X7_put l) (by decide) (cc1C (m_X7_meant l) (by decide) cc0C)))))) ?_ ?_
  · rintro As σ ⟨p0, rfl, -⟩
    exact Nat.le_of_ble_eq_true rfl
  · rintro As σ0 ⟨p0, rfl, H0, h_0_0, rd_cd, rd_at, rd_bl, rd_lv, rd_tk⟩ hgr G hB hW
    change G 0 [(0, .inr (.inr (some p0)))] [] σ0
    obtain ⟨x1, e2, c3, h4, h5⟩ := cg242 H0.1 h_0_0
    obtain ⟨x6, e7, c8, h9, h10⟩ := cg243 H0.1 h_0_0
    have z11 := congrArg Int32.toInt c3
    have z12 := congrArg Int32.toInt c8
    have h13 : x6.toInt = 0 := by rw [← c8]; exact rd_lv
    have rd_bg : BgC σ0 p0 (2) 1000000 := ⟨fun _ => rd_bl, fun z => absurd rd_lv z⟩
    refine hB _ _ _ _ (kgoC (is := KX7_readCountAhead_0) rfl ?_)
    refine k_aload_n rfl ?_
    refine k_bipush (m := 6) rfl (fun x14 h15 => ?_)
    refine k_aload_n rfl ?_
    have R16 := (RdC.rf : RdC p0 none 0 0 0 σ0 σ0).nf (-1000) (-1000) (by rw [c8]; omega)
    refine k_inv (P := P_X7_code) (Q := Q_X7_code) rfl rfl rfl rfl (Nat.le_of_ble_eq_true rfl) (h_0_0.rc (by decide)) ⟨_, rfl, H0, h_0_0, (rd_cd.st H0 h_0_0 (ExC.rf : ExC [0, 1, 2, 60, 61, 62, 63, 64, 65, 66, 67, 68, 242, 243, 244, 999] σ0 σ0) R16.1 (by decide))⟩ (fun w17 σ18 q19 => ?_)
    obtain ⟨x20, rfl, rfl, q21, q22, q23⟩ := q19
    refine k_st (st' := [.inl x20, .inl x14, .inr (.inr (some p0))]) rfl ?_
    have z24 := R16.2.2.1
    have z25 := R16.2.2.2.1 rd_at
    refine k_inv (P := P_X7_opened) (Q := Q_X7_opened) rfl rfl rfl rfl (Nat.le_of_ble_eq_true rfl) (h_0_0.rc (by decide)) ⟨_, _, _, rfl, H0, h_0_0, (rd_cd.st H0 h_0_0 (ExC.rf : ExC [0, 1, 2, 60, 61, 62, 63, 64, 65, 66, 67, 68, 242, 243, 244, 999] σ0 σ0) R16.1 (by decide)), (R16.2.2.2.1 rd_at), (rd_bg.stn H0 h_0_0 (ExC.rf : ExC [0, 1, 2, 60, 61, 62, 63, 64, 65, 66, 67, 68, 242, 243, 244, 999] σ0 σ0) R16 (by decide) (by rw [c8]; omega) (by omega)), (by omega)⟩ (fun w26 σ27 q28 => ?_)
    obtain ⟨a29, rfl, H30, e31, h33, R32, q34⟩ := q28
    have c35 := (h_0_0.mi e31 (by decide)).trans c3
    have c36 := (h_0_0.mi e31 (by decide)).trans c8
    have z37 := congrArg Int32.toInt c35
    have z38 := congrArg Int32.toInt c36
    refine k_st (st' := [.inr (.inr (some a29))]) rfl ?_
    have z39 := R16.1.1
    have R40 : RdC p0 none (1) (1) (-999) σ0 σ27 := R16.tr ⟨R32.1, R32.2⟩ (by omega) (by omega) (by omega) (by omega)
    have R41 := R40.nf (-1000) (-1000) (by rw [c36]; omega)
    have z42 := R41.2.2.1
    have z43 := R41.2.2.2.1 rd_at
    refine k_astore_n (ls' := [(1, .inr (.inr (some a29))), (0, .inr (.inr (some p0)))]) rfl ?_
    refine k_aload_n rfl ?_
    have t44 := h_0_0.x e31
    have X45 : ExC [0, 1, 2, 60, 61, 62, 63, 64, 65, 66, 67, 68, 242, 243, 244, 999] σ0 σ27 := ExC.rf.tr (e31.mo (by decide))
    refine k_inv (P := P_X7_accept) (Q := Q_X7_accept) rfl rfl rfl rfl (Nat.le_of_ble_eq_true rfl) (t44.rc (by decide)) ⟨_, rfl, H30, t44, (rd_cd.st H0 h_0_0 X45 R41.1 (by decide)), (R41.2.2.2.1 rd_at), (rd_bg.stn H0 h_0_0 X45 R41 (by decide) (by rw [c36]; omega) (by omega)), (by have ct := R41.2.2.1; rw [c36, c35, ct]; omega)⟩ (fun w46 σ47 q48 => ?_)
    obtain ⟨rfl, H49, e50, R51, q52⟩ := q48
    have t58 := t44.x e50
    obtain ⟨x53, e54, c55, h56, h57⟩ := cg242 H49.1 t58
    obtain ⟨x59, e60, c61, h62, h63⟩ := cg243 H49.1 t58
    have z64 := congrArg Int32.toInt c55
    have z65 := congrArg Int32.toInt c61
    refine k_st (st' := []) rfl ?_
    have R66 : RdC p0 none (-7) (1) (-1000) σ0 σ47 := R41.tr ⟨R51.1, R51.2⟩ (by omega) (by omega) (by omega) (by omega)
    have z67 := R66.2.2.1
    have z68 := R66.2.2.2.1 rd_at
    refine k_aload_n rfl ?_
    refine k_aload_n rfl ?_
    refine k_get kg242 t58 (congrArg (Sum.inl : Int32 → AvC) c55) ?_
    have t69 := h33.x e50
    refine k_putI kp66 H49 t69 (Or.inl fk66) (by show 0 ≤ _; omega) (by show _ ≤ 502; omega) (fun σ70 H71 e72 c73 => ?_)
    refine k_aload_n rfl ?_
    refine k_aload_n rfl ?_
    have t74 := t58.x e72
    have R75 : RdC p0 none (-7) (1) (-1000) σ0 σ70 := R66.tr ⟨(e72.gw H49.1 (by decide)), (e72.cou (u := 0) H49.1 t58 (by decide) (by rw [e72.cn (by decide)]; omega))⟩ (by omega) (by omega) (by omega) (by omega)
    have c76 := (t58.mi e72 (by decide)).trans c61
    have X77 : ExC [0, 1, 2, 60, 61, 62, 63, 64, 65, 66, 67, 68, 242, 243, 244, 999] σ0 σ47 := X45.tr (e50.mo (by decide))
    have X78 : ExC [0, 1, 2, 60, 61, 62, 63, 64, 65, 66, 67, 68, 242, 243, 244, 999] σ0 σ70 := X77.tr (e72.mo (by decide))
    refine k_inv (P := P_X7_code) (Q := Q_X7_code) rfl rfl rfl rfl (Nat.le_of_ble_eq_true rfl) (t74.rc (by decide)) ⟨_, rfl, H71, t74, (rd_cd.st H0 h_0_0 X78 R75.1 (by decide))⟩ (fun w79 σ80 q81 => ?_)
    obtain ⟨x82, rfl, rfl, q83, q84, q85⟩ := q81
    refine k_st (st' := [.inl x82, .inr (.inr (some a29))]) rfl ?_
    have z86 := R75.2.2.1
    have z87 := R75.2.2.2.1 rd_at
    have c88 := (t58.mi e72 (by decide)).trans c55
    have z89 := congrArg Int32.toInt c88
    have z90 := congrArg Int32.toInt c76
    refine k_bipush (m := 80) rfl (fun x91 h92 => ?_)
    refine k_ic_ne (fun h93 => ?_) (fun h93 => ?_)
    · refine hB _ _ _ _ (kgoC (is := KX7_readCountAhead_44) rfl ?_)
      refine k_iconst (m := (-1)) rfl (fun x94 h95 => ?_)
      refine k_nil ?_
      refine hB _ _ _ _ (kgoC (is := KX7_readCountAhead_45) rfl ?_)
      have t96 := t69.x e72
      refine k_putI kp67 H71 t96 (Or.inl fk67) (tiC x94).1 (tiC x94).2 (fun σ97 H98 e99 c100 => ?_)
      refine k_aload_n rfl ?_
      refine k_bipush (m := 80) rfl (fun x101 h102 => ?_)
      have t103 := t74.x e99
      have R104 : RdC p0 none (-7) (1) (-1000) σ0 σ97 := R75.tr ⟨(e99.gw H71.1 (by decide)), (e99.cou (u := 0) H71.1 t74 (by decide) (by rw [e99.cn (by decide)]; omega))⟩ (by omega) (by omega) (by omega) (by omega)
      have c105 := (t74.mi e99 (by decide)).trans c76
      have X106 : ExC [0, 1, 2, 60, 61, 62, 63, 64, 65, 66, 67, 68, 242, 243, 244, 999] σ0 σ97 := X78.tr (e99.mo (by decide))
      have c107 := (t74.mi e99 (by decide)).trans c88
      have z108 := congrArg Int32.toInt c107
      have z109 := congrArg Int32.toInt c105
      refine k_inv (P := P_X7_expect) (Q := Q_X7_expect) rfl rfl rfl rfl (Nat.le_of_ble_eq_true rfl) (t103.rc (by decide)) ⟨_, _, rfl, H98, t103, (by omega), (by omega), (rd_cd.st H0 h_0_0 X106 R104.1 (by decide)), (R104.2.2.2.1 rd_at), (rd_bg.st H0 h_0_0 X106 R104 (by decide) (by omega) (by omega) (by omega))⟩ (fun w110 σ111 q112 => ?_)
      obtain ⟨rfl, H113, e114, R115, q116⟩ := q112
      have t122 := t103.x e114
      obtain ⟨x117, e118, c119, h120, h121⟩ := cg242 H113.1 t122
      obtain ⟨x123, e124, c125, h126, h127⟩ := cg243 H113.1 t122
      have z128 := congrArg Int32.toInt c119
      have z129 := congrArg Int32.toInt c125
      refine k_st (st' := []) rfl ?_
      have R130 : RdC p0 none (-15) (1) (-1000) σ0 σ111 := R104.tr ⟨R115.1, R115.2⟩ (by omega) (by omega) (by omega) (by omega)
      have z131 := R130.2.2.1
      have z132 := R130.2.2.2.1 rd_at
      refine k_aload_n rfl ?_
      refine k_aload_n rfl ?_
      have t133 := t96.x e99
      have t134 := t133.x e114
      have X135 : ExC [0, 1, 2, 60, 61, 62, 63, 64, 65, 66, 67, 68, 242, 243, 244, 999] σ0 σ111 := X106.tr (e114.mo (by decide))
      refine k_inv (P := P_X7_put) (Q := Q_X7_put) rfl rfl rfl rfl (Nat.le_of_ble_eq_true rfl) (t122.rc (by decide)) ⟨_, _, rfl, H113, t122, t134, (rd_cd.st H0 h_0_0 X135 R130.1 (by decide)), (R130.2.2.2.1 rd_at), (rd_bg.st H0 h_0_0 X135 R130 (by decide) (by omega) (by omega) (by omega))⟩ (fun w136 σ137 q138 => ?_)
      obtain ⟨a139, rfl, H140, e141, h143, R142, q144⟩ := q138
      have c145 := (t122.mi e141 (by decide)).trans c119
      have c146 := (t122.mi e141 (by decide)).trans c125
      have z147 := congrArg Int32.toInt c145
      have z148 := congrArg Int32.toInt c146
      refine k_st (st' := [.inr (.inr (some a139))]) rfl ?_
      refine k_areturn ?_
      have X149 : ExC [0, 1, 2, 60, 61, 62, 63, 64, 65, 66, 67, 68, 242, 243, 244, 999] σ0 σ137 := X135.tr (e141.mo (by decide))
      have R150 : RdC p0 none (-14) (2) (-999) σ0 σ137 := R130.tr ⟨R142.1, R142.2⟩ (by omega) (by omega) (by omega) (by omega)
      exact ⟨_, rfl, H140, X149, h143, (R150.mo (by omega) (by omega) (by omega)), (by omega)⟩
    · have h151 : x59.toInt = 0 := by omega
      refine k_nil ?_
      refine hB _ _ _ _ (kgoC (is := KX7_readCountAhead_33) rfl ?_)
      refine k_aload_n rfl ?_
      refine k_aload_n rfl ?_
      refine k_get kg242 t74 (congrArg (Sum.inl : Int32 → AvC) c88) ?_
      refine k_inv (P := P_X7_meant) (Q := Q_X7_meant) rfl rfl rfl rfl (Nat.le_of_ble_eq_true rfl) (t74.rc (by decide)) ⟨_, _, rfl, H71, t74, (by omega), (by omega)⟩ (fun w152 σ153 q154 => ?_)
      obtain ⟨x155, rfl, H156, e157, h158⟩ := q154
      have c159 := (t74.mi e157 (by decide)).trans c88
      have c160 := (t74.mi e157 (by decide)).trans c76
      have z161 := congrArg Int32.toInt c159
      have z162 := congrArg Int32.toInt c160
      refine k_st (st' := [.inl x155, .inr (.inr (some a29))]) rfl ?_
      refine k_goto ?_
      refine hB _ _ _ _ (kgoC (is := KX7_readCountAhead_45) rfl ?_)
      have t163 := t69.x e72
      have t164 := t163.x e157
      refine k_putI kp67 H156 t164 (Or.inl fk67) (tiC x155).1 (tiC x155).2 (fun σ165 H166 e167 c168 => ?_)
      refine k_aload_n rfl ?_
      refine k_bipush (m := 80) rfl (fun x169 h170 => ?_)
      have t171 := t74.x e157
      have t172 := t171.x e167
      have R173 : RdC p0 none (-7) (1) (-1000) σ0 σ153 := R75.tr ⟨(e157.gw H71.1 (by decide)), (e157.cou (u := 0) H71.1 t74 (by decide) (by rw [e157.cn (by decide)]; omega))⟩ (by omega) (by omega) (by omega) (by omega)
      have R174 : RdC p0 none (-7) (1) (-1000) σ0 σ165 := R173.tr ⟨(e167.gw H156.1 (by decide)), (e167.cou (u := 0) H156.1 t171 (by decide) (by rw [e167.cn (by decide)]; omega))⟩ (by omega) (by omega) (by omega) (by omega)
      have c175 := (t171.mi e167 (by decide)).trans c160
      have R176 := R174.nf (-1000) (-1000) (by rw [c175]; omega)
      have X177 : ExC [0, 1, 2, 60, 61, 62, 63, 64, 65, 66, 67, 68, 242, 243, 244, 999] σ0 σ153 := X78.tr (e157.mo (by decide))
      have X178 : ExC [0, 1, 2, 60, 61, 62, 63, 64, 65, 66, 67, 68, 242, 243, 244, 999] σ0 σ165 := X177.tr (e167.mo (by decide))
      have c179 := (t171.mi e167 (by decide)).trans c159
      have z180 := congrArg Int32.toInt c179
      have z181 := congrArg Int32.toInt c175
      refine k_inv (P := P_X7_expect) (Q := Q_X7_expect) rfl rfl rfl rfl (Nat.le_of_ble_eq_true rfl) (t172.rc (by decide)) ⟨_, _, rfl, H166, t172, (by omega), (by omega), (rd_cd.st H0 h_0_0 X178 R176.1 (by decide)), (R176.2.2.2.1 rd_at), (rd_bg.stn H0 h_0_0 X178 R176 (by decide) (by rw [c175]; omega) (by omega))⟩ (fun w182 σ183 q184 => ?_)
      obtain ⟨rfl, H185, e186, R187, q188⟩ := q184
      have t194 := t172.x e186
      obtain ⟨x189, e190, c191, h192, h193⟩ := cg242 H185.1 t194
      obtain ⟨x195, e196, c197, h198, h199⟩ := cg243 H185.1 t194
      have z200 := congrArg Int32.toInt c191
      have z201 := congrArg Int32.toInt c197
      refine k_st (st' := []) rfl ?_
      have R202 : RdC p0 none (-15) (-7) (-1000) σ0 σ183 := R176.tr ⟨R187.1, R187.2⟩ (by omega) (by omega) (by omega) (by omega)
      have z203 := R202.2.2.1
      have z204 := R202.2.2.2.1 rd_at
      refine k_aload_n rfl ?_
      refine k_aload_n rfl ?_
      have t205 := t164.x e167
      have t206 := t205.x e186
      have X207 : ExC [0, 1, 2, 60, 61, 62, 63, 64, 65, 66, 67, 68, 242, 243, 244, 999] σ0 σ183 := X178.tr (e186.mo (by decide))
      refine k_inv (P := P_X7_put) (Q := Q_X7_put) rfl rfl rfl rfl (Nat.le_of_ble_eq_true rfl) (t194.rc (by decide)) ⟨_, _, rfl, H185, t194, t206, (rd_cd.st H0 h_0_0 X207 R202.1 (by decide)), (R202.2.2.2.1 rd_at), (rd_bg.st H0 h_0_0 X207 R202 (by decide) (by omega) (by omega) (by omega))⟩ (fun w208 σ209 q210 => ?_)
      obtain ⟨a211, rfl, H212, e213, h215, R214, q216⟩ := q210
      have c217 := (t194.mi e213 (by decide)).trans c191
      have c218 := (t194.mi e213 (by decide)).trans c197
      have z219 := congrArg Int32.toInt c217
      have z220 := congrArg Int32.toInt c218
      refine k_st (st' := [.inr (.inr (some a211))]) rfl ?_
      refine k_areturn ?_
      have X221 : ExC [0, 1, 2, 60, 61, 62, 63, 64, 65, 66, 67, 68, 242, 243, 244, 999] σ0 σ209 := X207.tr (e213.mo (by decide))
      have R222 : RdC p0 none (-14) (-6) (-999) σ0 σ209 := R202.tr ⟨R214.1, R214.2⟩ (by omega) (by omega) (by omega) (by omega)
      exact ⟨_, rfl, H212, X221, h215, (R222.mo (by omega) (by omega) (by omega)), (by omega)⟩

set_option maxRecDepth 100000 in
set_option maxHeartbeats 4000000 in
theorem m_X7_waitingFor (l : Launch) : CMetC l 13 168 P_X7_waitingFor Q_X7_waitingFor := by
  refine CMetC.of KX7_waitingFor [(17, P_X1_init, Q_X1_init), (163, P_X7_putMark, Q_X7_putMark)] hX7_waitingFor (by decide) (by decide) okX7_waitingFor (cc1C (m_X1_init l) (by decide) (cc1C (m_X7_putMark l) (by decide) cc0C)) ?_ ?_
  · rintro As σ ⟨p0, p1, p2, p3, rfl, -⟩
    exact Nat.le_of_ble_eq_true rfl
  · rintro As σ0 ⟨p0, p1, p2, p3, rfl, H0, h_0_0, h_2_0, h_3_0, rd_cd, rd_at, rd_bg⟩ hgr G hB hW
    change G 0 [(0, .inr (.inr (some p0))), (1, .inl p1), (2, .inr (.inr (some p2))), (3, .inr (.inr p3))] [] σ0
    obtain ⟨x1, e2, c3, h4, h5⟩ := cg242 H0.1 h_0_0
    obtain ⟨x6, e7, c8, h9, h10⟩ := cg243 H0.1 h_0_0
    have z11 := congrArg Int32.toInt c3
    have z12 := congrArg Int32.toInt c8
    refine hB _ _ _ _ (kgoC (is := KX7_waitingFor_0) rfl ?_)
    have B13 : BgC σ0 p0 1 1 := rd_bg.st H0 h_0_0 (ExC.rf : ExC [0, 1, 2, 60, 61, 62, 63, 64, 65, 66, 67, 68, 72, 75, 76, 999] σ0 σ0) (RdC.rf : RdC p0 none 0 0 0 σ0 σ0) (by decide) (by omega) (by omega) (by omega)
    obtain ⟨h14, h15⟩ := B13.new H0.1 h_0_0 (u := 1) (by omega) (by omega)
    have z16 := (RdC.rf : RdC p0 none 0 0 0 σ0 σ0).1.1
    refine k_new (c := 2) (g := 0) H0 (by decide) rfl (by omega) (by have hn : nfC 2 = 18 := rfl; omega) (fun a17 σ18 q19 H20 e21 r22 z23 l24 u25 u26 => ?_)
    rw [show nfC 2 = 18 from rfl] at u26
    have u27 : cpC σ18 = cpC σ0 := congrArg Prod.fst e21.2.1.1
    have u28 : spC σ18 = spC σ0 := congrArg Prod.snd e21.2.1.1
    refine k_dupR ?_
    refine k_bipush (m := 7) rfl (fun x29 h30 => ?_)
    refine k_iload_n rfl ?_
    refine k_aload_n rfl ?_
    have t31 := h_2_0.x e21
    obtain ⟨x34, e32, c33, h35, h36⟩ := cg62 H20.1 t31
    refine k_get kg62 t31 e32 ?_
    refine k_aload_n rfl ?_
    obtain ⟨x39, e37, c38, h40, h41⟩ := cg63 H20.1 t31
    refine k_get kg63 t31 e37 ?_
    refine k_spec (P := P_X1_init) (Q := Q_X1_init) rfl rfl rfl rfl (Nat.le_of_ble_eq_true rfl) ⟨_, _, _, _, _, rfl, H20, r22, z23, (by omega), (by omega), (by omega), (by omega), (by omega)⟩ (fun w42 σ43 q44 => ?_)
    have t52 := h_0_0.x e21
    obtain ⟨rfl, H45, e46, t47, t47', l48, u49, u50, g51, q54, q55, q56, q57⟩ := q44
    have l53 := l48.trans l24
    have c58 := (h_0_0.mi e21 (by decide)).trans c3
    have c59 := (t52.mit r22 (by decide) e46 (by decide)).trans c58
    have c60 := (h_0_0.mi e21 (by decide)).trans c8
    have c61 := (t52.mit r22 (by decide) e46 (by decide)).trans c60
    have z62 := congrArg Int32.toInt c59
    have z63 := congrArg Int32.toInt c61
    refine k_st (st' := [.inr (.inr (some a17))]) rfl ?_
    refine k_astore (ls' := [(4, .inr (.inr (some a17))), (0, .inr (.inr (some p0))), (1, .inl p1), (2, .inr (.inr (some p2))), (3, .inr (.inr p3))]) rfl ?_
    refine k_aload rfl ?_
    refine k_aload_n rfl ?_
    have t67 := t31.xt r22 (by decide) e46
    refine k_u72 H45 t47 t47' t67 (fun σ64 H65 e66 => ?_)
    refine k_aload rfl ?_
    refine k_aload_n rfl ?_
    have t73 := Nat.lt_of_lt_of_le t47 e66.1
    have t74 := (e66.2.2 a17 t47).1.1.trans t47'
    have c75 := ((e66.2.2 a17 t47).2.2.2 60 (by decide)).1.trans q54
    have c76 := ((e66.2.2 a17 t47).2.2.2 73 (by decide)).2.trans q55
    have X77 : ExC [0, 1, 2, 60, 61, 62, 63, 64, 65, 66, 67, 68, 72, 75, 76, 999] σ0 σ18 := ExC.rf.tr (e21.mo (by decide))
    have X78 : ExC [0, 1, 2, 60, 61, 62, 63, 64, 65, 66, 67, 68, 72, 75, 76, 999] σ0 σ43 := (X77 : ExC [0, 1, 2, 60, 61, 62, 63, 64, 65, 66, 67, 68, 72, 75, 76, 999] σ0 σ18).nt (Nat.le_of_eq q19.symm) (e46.mo (by decide))
    have X79 : ExC [0, 1, 2, 60, 61, 62, 63, 64, 65, 66, 67, 68, 72, 75, 76, 999] σ0 σ43 := ExC.rf.tr X78
    have X80 : ExC [0, 1, 2, 60, 61, 62, 63, 64, 65, 66, 67, 68, 72, 75, 76, 999] σ0 σ64 := X79.tr (e66.mo (by decide))
    refine k_u75 H65 t73 t74 (WtC.mk c75 (by omega) c76) ((fun c hc => by have hz := h_3_0 c hc; exact ⟨Nat.lt_of_lt_of_le hz.1 X80.1, (X80.2.2 c hz.1).1.1.trans hz.2⟩)) (fun σ68 H69 e70 g71 c72 => ?_)
    refine k_iload_n rfl ?_
    refine k_bipush (m := 21) rfl (fun x81 h82 => ?_)
    refine k_ic_eq (fun h83 => ?_) (fun h83 => ?_)
    · refine hB _ _ _ _ (kgoC (is := KX7_waitingFor_44) rfl ?_)
      refine k_aload rfl ?_
      refine k_aload_n rfl ?_
      refine k_bipush (m := 11) rfl (fun x84 h85 => ?_)
      refine k_iload_n rfl ?_
      have t86 := t52.xt r22 (by decide) e46
      have t87 := t86.x e66
      have t88 := t87.x e70
      have R89 : RdC p0 none (1) (1) (1) σ0 σ18 := (RdC.rf : RdC p0 none 0 0 0 σ0 σ0).tr ⟨(e21.gwn H0.1 u25 u26 (by decide) (by rw [← q19]; exact r22.n0)), (e21.cou (u := 1) H0.1 h_0_0 (by decide) (by omega))⟩ (by omega) (by omega) (by omega) (by omega)
      have R90 : RdC p0 none (1) (1) (1) σ0 σ43 := R89.tr ⟨g51, (e46.co (u := 0) H20.1 t52 r22 (by decide) (by omega))⟩ (by omega) (by omega) (by omega) (by omega)
      have R91 : RdC p0 none (1) (1) (1) σ0 σ64 := R90.tr ⟨(e66.gw H45.1 (by decide)), (e66.cou (u := 0) H45.1 t86 (by decide) (by rw [e66.cn (by decide)]; omega))⟩ (by omega) (by omega) (by omega) (by omega)
      have R92 : RdC p0 none (1) (1) (1) σ0 σ68 := R91.trx ⟨g71, (e70.cou (u := 0) H65.1 t87 (by decide) (by rw [e70.cn (by decide)]; omega))⟩ (by omega) (by omega) (by omega) (by omega) (by omega)
      have c93 := (t86.mi e66 (by decide)).trans c61
      have c94 := (t87.mi e70 (by decide)).trans c93
      have X95 : ExC [0, 1, 2, 60, 61, 62, 63, 64, 65, 66, 67, 68, 72, 75, 76, 999] σ0 σ68 := X80.tr (e70.mo (by decide))
      have c96 := (t86.mi e66 (by decide)).trans c59
      have c97 := (t87.mi e70 (by decide)).trans c96
      have z98 := congrArg Int32.toInt c97
      have z99 := congrArg Int32.toInt c94
      refine k_inv (P := P_X7_putMark) (Q := Q_X7_putMark) rfl rfl rfl rfl (Nat.le_of_ble_eq_true rfl) (t88.rc (by decide)) ⟨_, _, _, rfl, H69, t88, (rd_cd.st H0 h_0_0 X95 R92.1 (by decide)), (R92.2.2.2.1 rd_at), (rd_bg.st H0 h_0_0 X95 R92 (by decide) (by omega) (by omega) (by omega)), (by omega)⟩ (fun w100 σ101 q102 => ?_)
      obtain ⟨a103, rfl, H104, e105, h107, R106, q108⟩ := q102
      have c109 := (t88.mi e105 (by decide)).trans c97
      have c110 := (t88.mi e105 (by decide)).trans c94
      have z111 := congrArg Int32.toInt c109
      have z112 := congrArg Int32.toInt c110
      refine k_st (st' := [.inr (.inr (some a103)), .inr (.inr (some a17))]) rfl ?_
      have z113 := R92.1.1
      have R114 : RdC p0 none (3) (3) (3) σ0 σ101 := R92.tr ⟨R106.1, R106.2⟩ (by omega) (by omega) (by omega) (by omega)
      have z115 := R114.2.2.1
      have z116 := R114.2.2.2.1 rd_at
      have t120 := Nat.lt_of_lt_of_le t73 e70.1
      have t121 := (e70.2.2 a17 t73).1.1.trans t74
      have t122 := Nat.lt_of_lt_of_le t120 e105.1
      have t123 := (e105.2.2 a17 t120).1.1.trans t121
      refine k_u76 H104 t122 t123 h107 (fun σ117 H118 e119 => ?_)
      refine k_nil ?_
      refine hB _ _ _ _ (kgoC (is := KX7_waitingFor_56) rfl ?_)
      refine k_aload rfl ?_
      refine k_areturn ?_
      have X124 : ExC [0, 1, 2, 60, 61, 62, 63, 64, 65, 66, 67, 68, 72, 75, 76, 999] σ0 σ101 := X95.tr (e105.mo (by decide))
      have X125 : ExC [0, 1, 2, 60, 61, 62, 63, 64, 65, 66, 67, 68, 72, 75, 76, 999] σ0 σ117 := X124.tr (e119.mo (by decide))
      have t126 := Nat.lt_of_lt_of_le t122 e119.1
      have t127 := (e119.2.2 a17 t122).1.1.trans t123
      have t128 := t88.x e105
      have R129 : RdC p0 none (3) (3) (3) σ0 σ117 := R114.tr ⟨(e119.gw H104.1 (by decide)), (e119.cou (u := 0) H104.1 t128 (by decide) (by rw [e119.cn (by decide)]; omega))⟩ (by omega) (by omega) (by omega) (by omega)
      have c130 := (t128.mi e119 (by decide)).trans c110
      have c131 := (t128.mi e119 (by decide)).trans c109
      have c132 := ((e70.2.2 a17 t73).2.2.2 60 (by decide)).1.trans c75
      have t133 := Nat.lt_of_lt_of_le t73 e70.1
      have t134 := (e70.2.2 a17 t73).1.1.trans t74
      have c135 := ((e105.2.2 a17 t133).2.1 (by rw [t134]; decide) 60 (by decide)).1.trans c132
      have c136 := ((e119.2.2 a17 t122).2.2.2 60 (by decide)).1.trans c135
      have c137 := ((e70.2.2 a17 t73).2.2.2 73 (by decide)).2.trans c76
      have c138 := ((e105.2.2 a17 t133).2.2.2 73 (by decide)).2.trans c137
      have c139 := ((e119.2.2 a17 t122).2.2.2 73 (by decide)).2.trans c138
      have c140 := ((e105.2.2 a17 t133).2.2.2 75 (by decide)).2.trans c72
      have c141 := ((e119.2.2 a17 t122).2.2.2 75 (by decide)).2.trans c140
      exact ⟨_, rfl, H118, X125, t126, t127, (R129.mo (by omega) (by omega) (by omega)), (WtC.mk c136 (by omega) c139), c141, (by omega)⟩
    · refine k_nil ?_
      refine hB _ _ _ _ (kgoC (is := KX7_waitingFor_38) rfl ?_)
      refine k_iload_n rfl ?_
      refine k_bipush (m := 20) rfl (fun x142 h143 => ?_)
      refine k_ic_ne (fun h144 => ?_) (fun h144 => ?_)
      · refine hB _ _ _ _ (kgoC (is := KX7_waitingFor_56) rfl ?_)
        refine k_aload rfl ?_
        refine k_areturn ?_
        have X145 : ExC [0, 1, 2, 60, 61, 62, 63, 64, 65, 66, 67, 68, 72, 75, 76, 999] σ0 σ68 := X80.tr (e70.mo (by decide))
        have t146 := Nat.lt_of_lt_of_le t73 e70.1
        have t147 := (e70.2.2 a17 t73).1.1.trans t74
        have R148 : RdC p0 none (1) (1) (1) σ0 σ18 := (RdC.rf : RdC p0 none 0 0 0 σ0 σ0).tr ⟨(e21.gwn H0.1 u25 u26 (by decide) (by rw [← q19]; exact r22.n0)), (e21.cou (u := 1) H0.1 h_0_0 (by decide) (by omega))⟩ (by omega) (by omega) (by omega) (by omega)
        have R149 : RdC p0 none (1) (1) (1) σ0 σ43 := R148.tr ⟨g51, (e46.co (u := 0) H20.1 t52 r22 (by decide) (by omega))⟩ (by omega) (by omega) (by omega) (by omega)
        have t150 := t52.xt r22 (by decide) e46
        have R151 : RdC p0 none (1) (1) (1) σ0 σ64 := R149.tr ⟨(e66.gw H45.1 (by decide)), (e66.cou (u := 0) H45.1 t150 (by decide) (by rw [e66.cn (by decide)]; omega))⟩ (by omega) (by omega) (by omega) (by omega)
        have t152 := t150.x e66
        have R153 : RdC p0 none (1) (1) (1) σ0 σ68 := R151.trx ⟨g71, (e70.cou (u := 0) H65.1 t152 (by decide) (by rw [e70.cn (by decide)]; omega))⟩ (by omega) (by omega) (by omega) (by omega) (by omega)
        have c154 := (t150.mi e66 (by decide)).trans c61
        have c155 := (t152.mi e70 (by decide)).trans c154
        have c156 := (t150.mi e66 (by decide)).trans c59
        have c157 := (t152.mi e70 (by decide)).trans c156
        have c158 := ((e70.2.2 a17 t73).2.2.2 60 (by decide)).1.trans c75
        have c159 := ((e70.2.2 a17 t73).2.2.2 73 (by decide)).2.trans c76
        exact ⟨_, rfl, H69, X145, t146, t147, (R153.mo (by omega) (by omega) (by omega)), (WtC.mk c158 (by omega) c159), c72, (by omega)⟩
      · refine k_nil ?_
        refine hB _ _ _ _ (kgoC (is := KX7_waitingFor_44) rfl ?_)
        refine k_aload rfl ?_
        refine k_aload_n rfl ?_
        refine k_bipush (m := 11) rfl (fun x160 h161 => ?_)
        refine k_iload_n rfl ?_
        have t162 := t52.xt r22 (by decide) e46
        have t163 := t162.x e66
        have t164 := t163.x e70
        have R165 : RdC p0 none (1) (1) (1) σ0 σ18 := (RdC.rf : RdC p0 none 0 0 0 σ0 σ0).tr ⟨(e21.gwn H0.1 u25 u26 (by decide) (by rw [← q19]; exact r22.n0)), (e21.cou (u := 1) H0.1 h_0_0 (by decide) (by omega))⟩ (by omega) (by omega) (by omega) (by omega)
        have R166 : RdC p0 none (1) (1) (1) σ0 σ43 := R165.tr ⟨g51, (e46.co (u := 0) H20.1 t52 r22 (by decide) (by omega))⟩ (by omega) (by omega) (by omega) (by omega)
        have R167 : RdC p0 none (1) (1) (1) σ0 σ64 := R166.tr ⟨(e66.gw H45.1 (by decide)), (e66.cou (u := 0) H45.1 t162 (by decide) (by rw [e66.cn (by decide)]; omega))⟩ (by omega) (by omega) (by omega) (by omega)
        have R168 : RdC p0 none (1) (1) (1) σ0 σ68 := R167.trx ⟨g71, (e70.cou (u := 0) H65.1 t163 (by decide) (by rw [e70.cn (by decide)]; omega))⟩ (by omega) (by omega) (by omega) (by omega) (by omega)
        have c169 := (t162.mi e66 (by decide)).trans c61
        have c170 := (t163.mi e70 (by decide)).trans c169
        have X171 : ExC [0, 1, 2, 60, 61, 62, 63, 64, 65, 66, 67, 68, 72, 75, 76, 999] σ0 σ68 := X80.tr (e70.mo (by decide))
        have c172 := (t162.mi e66 (by decide)).trans c59
        have c173 := (t163.mi e70 (by decide)).trans c172
        have z174 := congrArg Int32.toInt c173
        have z175 := congrArg Int32.toInt c170
        refine k_inv (P := P_X7_putMark) (Q := Q_X7_putMark) rfl rfl rfl rfl (Nat.le_of_ble_eq_true rfl) (t164.rc (by decide)) ⟨_, _, _, rfl, H69, t164, (rd_cd.st H0 h_0_0 X171 R168.1 (by decide)), (R168.2.2.2.1 rd_at), (rd_bg.st H0 h_0_0 X171 R168 (by decide) (by omega) (by omega) (by omega)), (by omega)⟩ (fun w176 σ177 q178 => ?_)
        obtain ⟨a179, rfl, H180, e181, h183, R182, q184⟩ := q178
        have c185 := (t164.mi e181 (by decide)).trans c173
        have c186 := (t164.mi e181 (by decide)).trans c170
        have z187 := congrArg Int32.toInt c185
        have z188 := congrArg Int32.toInt c186
        refine k_st (st' := [.inr (.inr (some a179)), .inr (.inr (some a17))]) rfl ?_
        have z189 := R168.1.1
        have R190 : RdC p0 none (3) (3) (3) σ0 σ177 := R168.tr ⟨R182.1, R182.2⟩ (by omega) (by omega) (by omega) (by omega)
        have z191 := R190.2.2.1
        have z192 := R190.2.2.2.1 rd_at
        have t196 := Nat.lt_of_lt_of_le t73 e70.1
        have t197 := (e70.2.2 a17 t73).1.1.trans t74
        have t198 := Nat.lt_of_lt_of_le t196 e181.1
        have t199 := (e181.2.2 a17 t196).1.1.trans t197
        refine k_u76 H180 t198 t199 h183 (fun σ193 H194 e195 => ?_)
        refine k_nil ?_
        refine hB _ _ _ _ (kgoC (is := KX7_waitingFor_56) rfl ?_)
        refine k_aload rfl ?_
        refine k_areturn ?_
        have X200 : ExC [0, 1, 2, 60, 61, 62, 63, 64, 65, 66, 67, 68, 72, 75, 76, 999] σ0 σ177 := X171.tr (e181.mo (by decide))
        have X201 : ExC [0, 1, 2, 60, 61, 62, 63, 64, 65, 66, 67, 68, 72, 75, 76, 999] σ0 σ193 := X200.tr (e195.mo (by decide))
        have t202 := Nat.lt_of_lt_of_le t198 e195.1
        have t203 := (e195.2.2 a17 t198).1.1.trans t199
        have t204 := t164.x e181
        have R205 : RdC p0 none (3) (3) (3) σ0 σ193 := R190.tr ⟨(e195.gw H180.1 (by decide)), (e195.cou (u := 0) H180.1 t204 (by decide) (by rw [e195.cn (by decide)]; omega))⟩ (by omega) (by omega) (by omega) (by omega)
        have c206 := (t204.mi e195 (by decide)).trans c186
        have c207 := (t204.mi e195 (by decide)).trans c185
        have c208 := ((e70.2.2 a17 t73).2.2.2 60 (by decide)).1.trans c75
        have t209 := Nat.lt_of_lt_of_le t73 e70.1
        have t210 := (e70.2.2 a17 t73).1.1.trans t74
        have c211 := ((e181.2.2 a17 t209).2.1 (by rw [t210]; decide) 60 (by decide)).1.trans c208
        have c212 := ((e195.2.2 a17 t198).2.2.2 60 (by decide)).1.trans c211
        have c213 := ((e70.2.2 a17 t73).2.2.2 73 (by decide)).2.trans c76
        have c214 := ((e181.2.2 a17 t209).2.2.2 73 (by decide)).2.trans c213
        have c215 := ((e195.2.2 a17 t198).2.2.2 73 (by decide)).2.trans c214
        have c216 := ((e181.2.2 a17 t209).2.2.2 75 (by decide)).2.trans c72
        have c217 := ((e195.2.2 a17 t198).2.2.2 75 (by decide)).2.trans c216
        exact ⟨_, rfl, H194, X201, t202, t203, (R205.mo (by omega) (by omega) (by omega)), (WtC.mk c212 (by omega) c215), c217, (by omega)⟩

set_option maxRecDepth 100000 in
set_option maxHeartbeats 4000000 in
theorem m_X7_closed (l : Launch) : CMetC l 12 169 P_X7_closed Q_X7_closed := by
  refine CMetC.of KX7_closed [(161, P_X7_put, Q_X7_put)] hX7_closed (by decide) (by decide) okX7_closed (cc1C (m_X7_put l) (by decide) cc0C) ?_ ?_
  · rintro As σ ⟨p0, p1, p2, rfl, -⟩
    exact Nat.le_of_ble_eq_true rfl
  · rintro As σ0 ⟨p0, p1, p2, rfl, H0, h_0_0, h_1_0, h_1_1, h_2_0, rd_cd, rd_at, rd_bg⟩ hgr G hB hW
    change G 0 [(0, .inr (.inr (some p0))), (1, .inr (.inr (some p1))), (2, .inr (.inr (some p2)))] [] σ0
    obtain ⟨x1, e2, c3, h4, h5⟩ := cg242 H0.1 h_0_0
    obtain ⟨x6, e7, c8, h9, h10⟩ := cg243 H0.1 h_0_0
    have z11 := congrArg Int32.toInt c3
    have z12 := congrArg Int32.toInt c8
    refine hB _ _ _ _ (kgoC (is := KX7_closed_0) rfl ?_)
    refine k_aload_n rfl ?_
    refine k_aload_n rfl ?_
    refine k_cl rfl H0 h_1_0 h_1_1 h_2_0 (fun σ13 H14 e15 g16 t17 => ?_)
    refine k_aload_n rfl ?_
    refine k_aload_n rfl ?_
    have t18 := h_0_0.x e15
    have R19 : RdC p0 (some p1) (0) (0) (0) σ0 σ13 := (RdC.rf : RdC p0 (some p1) 0 0 0 σ0 σ0).tr ⟨g16, (e15.cou (u := 0) H0.1 h_0_0 (by decide) (by rw [e15.cn (by decide)]; omega))⟩ (by omega) (by omega) (by omega) (by omega)
    have c20 := (h_0_0.mi e15 (by decide)).trans c8
    have X21 : ExC [0, 1, 2, 64, 65, 73, 75, 999] σ0 σ13 := ExC.rf.tr (e15.mo (by decide))
    have c22 := (h_0_0.mi e15 (by decide)).trans c3
    have z23 := congrArg Int32.toInt c22
    have z24 := congrArg Int32.toInt c20
    refine k_inv (P := P_X7_put) (Q := Q_X7_put) rfl rfl rfl rfl (Nat.le_of_ble_eq_true rfl) (t18.rc (by decide)) ⟨_, _, rfl, H14, t18, t17, (rd_cd.st H0 h_0_0 X21 R19.1 (by decide)), (R19.2.2.2.1 rd_at), (rd_bg.st H0 h_0_0 X21 R19 (by decide) (by omega) (by omega) (by omega))⟩ (fun w25 σ26 q27 => ?_)
    obtain ⟨a28, rfl, H29, e30, h32, R31, q33⟩ := q27
    have c34 := (t18.mi e30 (by decide)).trans c22
    have c35 := (t18.mi e30 (by decide)).trans c20
    have z36 := congrArg Int32.toInt c34
    have z37 := congrArg Int32.toInt c35
    refine k_st (st' := [.inr (.inr (some a28))]) rfl ?_
    refine k_areturn ?_
    have X38 : ExC [0, 1, 2, 64, 65, 73, 75, 999] σ0 σ26 := X21.tr (e30.mo (by decide))
    have R39 : RdC p0 (some p1) (1) (1) (1) σ0 σ26 := R19.tr ⟨R31.1.ap, R31.2⟩ (by omega) (by omega) (by omega) (by omega)
    exact ⟨_, rfl, H29, X38, h32, (R39.mo (by omega) (by omega) (by omega)), (by omega)⟩
