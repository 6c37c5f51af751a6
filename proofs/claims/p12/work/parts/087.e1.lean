set_option maxRecDepth 100000 in
set_option maxHeartbeats 4000000 in
theorem b_X7_readLiteral : TbC KX7_readLiteral [(125, P_X7_code, Q_X7_code), (162, P_X7_opened, Q_X7_opened), (128, P_X7_accept, Q_X7_accept), (161, P_X7_put, Q_X7_put)] P_X7_readLiteral Q_X7_readLiteral := by
  · rintro As σ0 ⟨p0, rfl, H0, h_0_0, rd_cd, rd_at, rd_bl, rd_lv, rd_tk⟩ hgr G hB hW
    change G 0 [(0, .inr (.inr (some p0)))] [] σ0
    obtain ⟨x1, e2, c3, h4, h5⟩ := cg242 H0.1 h_0_0
    obtain ⟨x6, e7, c8, h9, h10⟩ := cg243 H0.1 h_0_0
    have z11 := congrArg Int32.toInt c3
    have z12 := congrArg Int32.toInt c8
    have h13 : x6.toInt = 0 := by rw [← c8]; exact rd_lv
    have rd_bg : BgC σ0 p0 (2) 1000000 := ⟨fun _ => rd_bl, fun z => absurd rd_lv z⟩
    refine hB _ _ _ _ (kgoC (is := KX7_readLiteral_0) rfl ?_)
    refine k_aload_n rfl ?_
    have R14 := (RdC.rf : RdC p0 none 0 0 0 σ0 σ0).nf (-1000) (-1000) (by rw [c8]; omega)
    refine k_inv (P := P_X7_code) (Q := Q_X7_code) rfl rfl rfl rfl (Nat.le_of_ble_eq_true rfl) (h_0_0.rc (by decide)) ⟨_, rfl, H0, h_0_0, (rd_cd.st H0 h_0_0 (ExC.rf : ExC [0, 1, 2, 60, 61, 62, 63, 64, 65, 66, 67, 68, 70, 242, 243, 244, 999] σ0 σ0) R14.1 (by decide))⟩ (fun w15 σ16 q17 => ?_)
    obtain ⟨x18, rfl, rfl, q19, q20, q21, q22⟩ := q17
    refine k_st (st' := [.inl x18]) rfl ?_
    have z23 := R14.2.2.1
    have z24 := R14.2.2.2.1 rd_at
    refine k_bipush (m := 81) rfl (fun x25 h26 => ?_)
    refine k_ic_eq (fun h27 => ?_) (fun h27 => ?_)
    · refine hB _ _ _ _ (kgoC (is := KX7_readLiteral_18) rfl ?_)
      refine k_iconst (m := 1) rfl (fun x28 h29 => ?_)
      refine k_goto ?_
      refine hB _ _ _ _ (kgoC (is := KX7_readLiteral_23) rfl ?_)
      refine k_istore_n (ls' := [(1, .inl x28), (0, .inr (.inr (some p0)))]) rfl ?_
      refine k_aload_n rfl ?_
      refine k_iload_n rfl ?_
      refine k_if_eq (fun h30 => by exfalso; omega) (fun h30 => ?_)
      refine k_nil ?_
      refine hB _ _ _ _ (kgoC (is := KX7_readLiteral_29) rfl ?_)
      refine k_iconst (m := 0) rfl (fun x31 h32 => ?_)
      refine k_goto ?_
      refine hB _ _ _ _ (kgoC (is := KX7_readLiteral_34) rfl ?_)
      refine k_aload_n rfl ?_
      refine k_inv (P := P_X7_code) (Q := Q_X7_code) rfl rfl rfl rfl (Nat.le_of_ble_eq_true rfl) (h_0_0.rc (by decide)) ⟨_, rfl, H0, h_0_0, (rd_cd.st H0 h_0_0 (ExC.rf : ExC [0, 1, 2, 60, 61, 62, 63, 64, 65, 66, 67, 68, 70, 242, 243, 244, 999] σ0 σ0) R14.1 (by decide))⟩ (fun w33 σ34 q35 => ?_)
      obtain ⟨x36, rfl, rfl, q37, q38, q39, q40⟩ := q35
      refine k_st (st' := [.inl x36, .inl x31, .inr (.inr (some p0))]) rfl ?_
      refine k_inv (P := P_X7_opened) (Q := Q_X7_opened) rfl rfl rfl rfl (Nat.le_of_ble_eq_true rfl) (h_0_0.rc (by decide)) ⟨_, _, _, rfl, H0, h_0_0, (rd_cd.st H0 h_0_0 (ExC.rf : ExC [0, 1, 2, 60, 61, 62, 63, 64, 65, 66, 67, 68, 70, 242, 243, 244, 999] σ0 σ0) R14.1 (by decide)), (R14.2.2.2.1 rd_at), (rd_bg.stn H0 h_0_0 (ExC.rf : ExC [0, 1, 2, 60, 61, 62, 63, 64, 65, 66, 67, 68, 70, 242, 243, 244, 999] σ0 σ0) R14 (by decide) (by rw [c8]; omega) (by omega)), (by omega)⟩ (fun w41 σ42 q43 => ?_)
      obtain ⟨a44, rfl, H45, e46, h48, R47, q49, q50⟩ := q43
      have c51 := (h_0_0.mi e46 (by decide)).trans c3
      have c52 := (h_0_0.mi e46 (by decide)).trans c8
      have z53 := congrArg Int32.toInt c51
      have z54 := congrArg Int32.toInt c52
      refine k_st (st' := [.inr (.inr (some a44))]) rfl ?_
      have z55 := R14.1.1
      have R56 : RdC p0 none (1) (1) (-999) σ0 σ42 := R14.tr ⟨R47.1, R47.2⟩ (by omega) (by omega) (by omega) (by omega)
      have R57 := R56.nf (-1000) (-1000) (by rw [c52]; omega)
      have z58 := R57.2.2.1
      have z59 := R57.2.2.2.1 rd_at
      refine k_astore_n (ls' := [(2, .inr (.inr (some a44))), (1, .inl x28), (0, .inr (.inr (some p0)))]) rfl ?_
      refine k_aload_n rfl ?_
      refine k_iconst (m := 1) rfl (fun x60 h61 => ?_)
      refine k_putI kp70 H45 h48 (Or.inr ⟨fk70, b01C (by omega) (by omega)⟩) (by show 0 ≤ _; omega) (by show _ ≤ 1; omega) (fun σ62 H63 e64 c65 => ?_)
      refine k_aload_n rfl ?_
      refine k_aload_n rfl ?_
      have t66 := h_0_0.x e46
      have t67 := t66.x e64
      have R68 : RdC p0 none (1) (1) (-1000) σ0 σ62 := R57.tr ⟨(e64.gw H45.1 (by decide)), (e64.cou (u := 0) H45.1 t66 (by decide) (by rw [e64.cn (by decide)]; omega))⟩ (by omega) (by omega) (by omega) (by omega)
      have c69 := (t66.mi e64 (by decide)).trans c52
      have R70 := R68.nf (-1000) (-1000) (by rw [c69]; omega)
      have X71 : ExC [0, 1, 2, 60, 61, 62, 63, 64, 65, 66, 67, 68, 70, 242, 243, 244, 999] σ0 σ42 := ExC.rf.tr (e46.mo (by decide))
      have X72 : ExC [0, 1, 2, 60, 61, 62, 63, 64, 65, 66, 67, 68, 70, 242, 243, 244, 999] σ0 σ62 := X71.tr (e64.mo (by decide))
      refine k_inv (P := P_X7_code) (Q := Q_X7_code) rfl rfl rfl rfl (Nat.le_of_ble_eq_true rfl) (t67.rc (by decide)) ⟨_, rfl, H63, t67, (rd_cd.st H0 h_0_0 X72 R70.1 (by decide))⟩ (fun w73 σ74 q75 => ?_)
      obtain ⟨x76, rfl, rfl, q77, q78, q79, q80⟩ := q75
      refine k_st (st' := [.inl x76, .inr (.inr (some a44))]) rfl ?_
      have z81 := R70.2.2.1
      have z82 := R70.2.2.2.1 rd_at
      have c83 := (t66.mi e64 (by decide)).trans c51
      have z84 := congrArg Int32.toInt c83
      have z85 := congrArg Int32.toInt c69
      refine k_bipush (m := 72) rfl (fun x86 h87 => ?_)
      refine k_ic_ne (fun h88 => ?_) (fun h88 => ?_)
      · refine hB _ _ _ _ (kgoC (is := KX7_readLiteral_61) rfl ?_)
        refine k_aload_n rfl ?_
        refine k_inv (P := P_X7_code) (Q := Q_X7_code) rfl rfl rfl rfl (Nat.le_of_ble_eq_true rfl) (t67.rc (by decide)) ⟨_, rfl, H63, t67, (rd_cd.st H0 h_0_0 X72 R70.1 (by decide))⟩ (fun w89 σ90 q91 => ?_)
        obtain ⟨x92, rfl, rfl, q93, q94, q95, q96⟩ := q91
        refine k_st (st' := [.inl x92, .inr (.inr (some a44))]) rfl ?_
        refine k_bipush (m := 73) rfl (fun x97 h98 => ?_)
        refine k_ic_ne (fun h99 => ?_) (fun h99 => ?_)
        · refine hB _ _ _ _ (kgoC (is := KX7_readLiteral_74) rfl ?_)
          refine k_aload_n rfl ?_
          obtain ⟨a102, e100, c101, t103⟩ := cg241 H63.1 t67
          refine k_get kg241 t67 e100 ?_
          obtain ⟨a106, e104, c105, t107, l108, l109⟩ := cg304 H63.1 t103
          refine k_get kg304 t103 e104 ?_
          refine k_aload_n rfl ?_
          refine k_get kg242 t67 (congrArg (Sum.inl : Int32 → AvC) c83) ?_
          refine k_laload t107 (by omega) (by omega) (fun y110 => ?_)
          refine k_nil ?_
          refine hB _ _ _ _ (kgoC (is := KX7_readLiteral_86) rfl ?_)
          have t111 := h48.x e64
          refine k_putL kg71 H63 t111 fk71 (fun σ112 H113 e114 c115 => ?_)
          refine k_aload_n rfl ?_
          refine k_aload_n rfl ?_
          have t116 := t67.x e114
          have R117 : RdC p0 none (1) (1) (-1000) σ0 σ112 := R70.tr ⟨(e114.gw H63.1 (by decide)), (e114.cou (u := 0) H63.1 t67 (by decide) (by rw [e114.cn (by decide)]; omega))⟩ (by omega) (by omega) (by omega) (by omega)
          have c118 := (t67.mi e114 (by decide)).trans c69
          have R119 := R117.nf (-1000) (-1000) (by rw [c118]; omega)
          have X120 : ExC [0, 1, 2, 60, 61, 62, 63, 64, 65, 66, 67, 68, 70, 242, 243, 244, 999] σ0 σ112 := X72.tr (e114.mo (by decide))
          refine k_inv (P := P_X7_code) (Q := Q_X7_code) rfl rfl rfl rfl (Nat.le_of_ble_eq_true rfl) (t116.rc (by decide)) ⟨_, rfl, H113, t116, (rd_cd.st H0 h_0_0 X120 R119.1 (by decide))⟩ (fun w121 σ122 q123 => ?_)
          obtain ⟨x124, rfl, rfl, q125, q126, q127, q128⟩ := q123
          refine k_st (st' := [.inl x124, .inr (.inr (some a44))]) rfl ?_
          have z129 := R119.2.2.1
          have z130 := R119.2.2.2.1 rd_at
          have c131 := (t67.mi e114 (by decide)).trans c83
          have z132 := congrArg Int32.toInt c131
          have z133 := congrArg Int32.toInt c118
          refine k_bipush (m := 83) rfl (fun x134 h135 => ?_)
          refine k_ic_ne (fun h136 => ?_) (fun h136 => ?_)
          · refine hB _ _ _ _ (kgoC (is := KX7_readLiteral_103) rfl ?_)
            refine k_iload_n rfl ?_
            refine k_if_eq (fun h137 => by exfalso; omega) (fun h137 => ?_)
            refine k_nil ?_
            refine hB _ _ _ _ (kgoC (is := KX7_readLiteral_107) rfl ?_)
            refine k_iconst (m := (-1)) rfl (fun x138 h139 => ?_)
            refine k_goto ?_
            refine hB _ _ _ _ (kgoC (is := KX7_readLiteral_112) rfl ?_)
            have t140 := t111.x e114
            refine k_putI kp68 H113 t140 (Or.inl fk68) (tiC x138).1 (tiC x138).2 (fun σ141 H142 e143 c144 => ?_)
            refine k_aload_n rfl ?_
            have t145 := t116.x e143
            have R146 : RdC p0 none (1) (1) (-1000) σ0 σ141 := R119.tr ⟨(e143.gw H113.1 (by decide)), (e143.cou (u := 0) H113.1 t116 (by decide) (by rw [e143.cn (by decide)]; omega))⟩ (by omega) (by omega) (by omega) (by omega)
            have c147 := (t116.mi e143 (by decide)).trans c118
            have R148 := R146.nf (-1000) (-1000) (by rw [c147]; omega)
            have X149 : ExC [0, 1, 2, 60, 61, 62, 63, 64, 65, 66, 67, 68, 70, 242, 243, 244, 999] σ0 σ141 := X120.tr (e143.mo (by decide))
            have c150 := (t116.mi e143 (by decide)).trans c131
            have z151 := congrArg Int32.toInt c150
            have z152 := congrArg Int32.toInt c147
            refine k_inv (P := P_X7_accept) (Q := Q_X7_accept) rfl rfl rfl rfl (Nat.le_of_ble_eq_true rfl) (t145.rc (by decide)) ⟨_, rfl, H142, t145, (rd_cd.st H0 h_0_0 X149 R148.1 (by decide)), (R148.2.2.2.1 rd_at), (rd_bg.stn H0 h_0_0 X149 R148 (by decide) (by rw [c147]; omega) (by omega)), (by have ct := R148.2.2.1; rw [c147, c150, ct]; omega)⟩ (fun w153 σ154 q155 => ?_)
            obtain ⟨rfl, H156, e157, R158, q159, q160⟩ := q155
            have t166 := t145.x e157
            obtain ⟨x161, e162, c163, h164, h165⟩ := cg242 H156.1 t166
            obtain ⟨x167, e168, c169, h170, h171⟩ := cg243 H156.1 t166
            have z172 := congrArg Int32.toInt c163
            have z173 := congrArg Int32.toInt c169
            refine k_st (st' := []) rfl ?_
            have R174 : RdC p0 none (-7) (1) (-1000) σ0 σ154 := R148.tr ⟨R158.1, R158.2⟩ (by omega) (by omega) (by omega) (by omega)
            have z175 := R174.2.2.1
            have z176 := R174.2.2.2.1 rd_at
            refine k_aload_n rfl ?_
            refine k_aload_n rfl ?_
            have t177 := t140.x e143
            have t178 := t177.x e157
            have X179 : ExC [0, 1, 2, 60, 61, 62, 63, 64, 65, 66, 67, 68, 70, 242, 243, 244, 999] σ0 σ154 := X149.tr (e157.mo (by decide))
            refine k_inv (P := P_X7_put) (Q := Q_X7_put) rfl rfl rfl rfl (Nat.le_of_ble_eq_true rfl) (t166.rc (by decide)) ⟨_, _, rfl, H156, t166, t178, (rd_cd.st H0 h_0_0 X179 R174.1 (by decide)), (R174.2.2.2.1 rd_at), (rd_bg.st H0 h_0_0 X179 R174 (by decide) (by omega) (by omega) (by omega))⟩ (fun w180 σ181 q182 => ?_)
            obtain ⟨a183, rfl, H184, e185, h187, R186, q188, q189⟩ := q182
            have c190 := (t166.mi e185 (by decide)).trans c163
            have c191 := (t166.mi e185 (by decide)).trans c169
            have z192 := congrArg Int32.toInt c190
            have z193 := congrArg Int32.toInt c191
            refine k_st (st' := [.inr (.inr (some a183))]) rfl ?_
            refine k_areturn ?_
            have X194 : ExC [0, 1, 2, 60, 61, 62, 63, 64, 65, 66, 67, 68, 70, 242, 243, 244, 999] σ0 σ181 := X179.tr (e185.mo (by decide))
            have R195 : RdC p0 none (-6) (2) (-999) σ0 σ181 := R174.tr ⟨R186.1, R186.2⟩ (by omega) (by omega) (by omega) (by omega)
            have S211 : ∀ s, ReC σ0 p0 s → ReC σ181 p0 (accY s) := by
              intro s hs
              have f196 := q22 _ hs
              have f197 := q40 _ hs
              have y198 := q50 _ hs
              have y200 := y198.x H45.1 t66 e64 (by decide)
              have f201 := q80 _ y200
              have f202 := q96 _ y200
              have f203 := y200.at_ c83
              have y204 := y200.x H63.1 t67 e114 (by decide)
              have f205 := q128 _ y204
              have y206 := y204.x H113.1 t116 e143 (by decide)
              have y207 := q160 _ y206
              have y209 := q189 _ y207
              refine y209.eq ?_
              try unfold tkY
              repeat (split <;> try (exfalso; omega))
              try unfold dpY
              repeat (split <;> try (exfalso; omega))
              all_goals rfl
            exact ⟨_, rfl, H184, X194, h187, (R195.mo (by omega) (by omega) (by omega)), (by omega), S211⟩
          · refine k_nil ?_
            refine hB _ _ _ _ (kgoC (is := KX7_readLiteral_99) rfl ?_)
            refine k_iconst (m := 2) rfl (fun x212 h213 => ?_)
            refine k_goto ?_
            refine hB _ _ _ _ (kgoC (is := KX7_readLiteral_112) rfl ?_)
            have t214 := t111.x e114
            refine k_putI kp68 H113 t214 (Or.inl fk68) (tiC x212).1 (tiC x212).2 (fun σ215 H216 e217 c218 => ?_)
            refine k_aload_n rfl ?_
            have t219 := t116.x e217
            have R220 : RdC p0 none (1) (1) (-1000) σ0 σ215 := R119.tr ⟨(e217.gw H113.1 (by decide)), (e217.cou (u := 0) H113.1 t116 (by decide) (by rw [e217.cn (by decide)]; omega))⟩ (by omega) (by omega) (by omega) (by omega)
            have c221 := (t116.mi e217 (by decide)).trans c118
            have R222 := R220.nf (-1000) (-1000) (by rw [c221]; omega)
            have X223 : ExC [0, 1, 2, 60, 61, 62, 63, 64, 65, 66, 67, 68, 70, 242, 243, 244, 999] σ0 σ215 := X120.tr (e217.mo (by decide))
            have c224 := (t116.mi e217 (by decide)).trans c131
            have z225 := congrArg Int32.toInt c224
            have z226 := congrArg Int32.toInt c221
            refine k_inv (P := P_X7_accept) (Q := Q_X7_accept) rfl rfl rfl rfl (Nat.le_of_ble_eq_true rfl) (t219.rc (by decide)) ⟨_, rfl, H216, t219, (rd_cd.st H0 h_0_0 X223 R222.1 (by decide)), (R222.2.2.2.1 rd_at), (rd_bg.stn H0 h_0_0 X223 R222 (by decide) (by rw [c221]; omega) (by omega)), (by have ct := R222.2.2.1; rw [c221, c224, ct]; omega)⟩ (fun w227 σ228 q229 => ?_)
            obtain ⟨rfl, H230, e231, R232, q233, q234⟩ := q229
            have t240 := t219.x e231
            obtain ⟨x235, e236, c237, h238, h239⟩ := cg242 H230.1 t240
            obtain ⟨x241, e242, c243, h244, h245⟩ := cg243 H230.1 t240
            have z246 := congrArg Int32.toInt c237
            have z247 := congrArg Int32.toInt c243
            refine k_st (st' := []) rfl ?_
            have R248 : RdC p0 none (-7) (1) (-1000) σ0 σ228 := R222.tr ⟨R232.1, R232.2⟩ (by omega) (by omega) (by omega) (by omega)
            have z249 := R248.2.2.1
            have z250 := R248.2.2.2.1 rd_at
            refine k_aload_n rfl ?_
            refine k_aload_n rfl ?_
            have t251 := t214.x e217
            have t252 := t251.x e231
            have X253 : ExC [0, 1, 2, 60, 61, 62, 63, 64, 65, 66, 67, 68, 70, 242, 243, 244, 999] σ0 σ228 := X223.tr (e231.mo (by decide))
            refine k_inv (P := P_X7_put) (Q := Q_X7_put) rfl rfl rfl rfl (Nat.le_of_ble_eq_true rfl) (t240.rc (by decide)) ⟨_, _, rfl, H230, t240, t252, (rd_cd.st H0 h_0_0 X253 R248.1 (by decide)), (R248.2.2.2.1 rd_at), (rd_bg.st H0 h_0_0 X253 R248 (by decide) (by omega) (by omega) (by omega))⟩ (fun w254 σ255 q256 => ?_)
            obtain ⟨a257, rfl, H258, e259, h261, R260, q262, q263⟩ := q256
            have c264 := (t240.mi e259 (by decide)).trans c237
            have c265 := (t240.mi e259 (by decide)).trans c243
            have z266 := congrArg Int32.toInt c264
            have z267 := congrArg Int32.toInt c265
            refine k_st (st' := [.inr (.inr (some a257))]) rfl ?_
            refine k_areturn ?_
            have X268 : ExC [0, 1, 2, 60, 61, 62, 63, 64, 65, 66, 67, 68, 70, 242, 243, 244, 999] σ0 σ255 := X253.tr (e259.mo (by decide))
            have R269 : RdC p0 none (-6) (2) (-999) σ0 σ255 := R248.tr ⟨R260.1, R260.2⟩ (by omega) (by omega) (by omega) (by omega)
            have S285 : ∀ s, ReC σ0 p0 s → ReC σ255 p0 (accY s) := by
              intro s hs
              have f270 := q22 _ hs
              have f271 := q40 _ hs
              have y272 := q50 _ hs
              have y274 := y272.x H45.1 t66 e64 (by decide)
              have f275 := q80 _ y274
              have f276 := q96 _ y274
              have f277 := y274.at_ c83
              have y278 := y274.x H63.1 t67 e114 (by decide)
              have f279 := q128 _ y278
              have y280 := y278.x H113.1 t116 e217 (by decide)
              have y281 := q234 _ y280
              have y283 := q263 _ y281
              refine y283.eq ?_
              try unfold tkY
              repeat (split <;> try (exfalso; omega))
              try unfold dpY
              repeat (split <;> try (exfalso; omega))
              all_goals rfl
            exact ⟨_, rfl, H258, X268, h261, (R269.mo (by omega) (by omega) (by omega)), (by omega), S285⟩
        · refine k_nil ?_
          refine hB _ _ _ _ (kgoC (is := KX7_readLiteral_70) rfl ?_)
          refine k_lconst ?_
          refine k_goto ?_
          refine hB _ _ _ _ (kgoC (is := KX7_readLiteral_86) rfl ?_)
          have t286 := h48.x e64
          refine k_putL kg71 H63 t286 fk71 (fun σ287 H288 e289 c290 => ?_)
          refine k_aload_n rfl ?_
          refine k_aload_n rfl ?_
          have t291 := t67.x e289
          have R292 : RdC p0 none (1) (1) (-1000) σ0 σ287 := R70.tr ⟨(e289.gw H63.1 (by decide)), (e289.cou (u := 0) H63.1 t67 (by decide) (by rw [e289.cn (by decide)]; omega))⟩ (by omega) (by omega) (by omega) (by omega)
          have c293 := (t67.mi e289 (by decide)).trans c69
          have R294 := R292.nf (-1000) (-1000) (by rw [c293]; omega)
          have X295 : ExC [0, 1, 2, 60, 61, 62, 63, 64, 65, 66, 67, 68, 70, 242, 243, 244, 999] σ0 σ287 := X72.tr (e289.mo (by decide))
          refine k_inv (P := P_X7_code) (Q := Q_X7_code) rfl rfl rfl rfl (Nat.le_of_ble_eq_true rfl) (t291.rc (by decide)) ⟨_, rfl, H288, t291, (rd_cd.st H0 h_0_0 X295 R294.1 (by decide))⟩ (fun w296 σ297 q298 => ?_)
          obtain ⟨x299, rfl, rfl, q300, q301, q302, q303⟩ := q298
          refine k_st (st' := [.inl x299, .inr (.inr (some a44))]) rfl ?_
          have z304 := R294.2.2.1
          have z305 := R294.2.2.2.1 rd_at
          have c306 := (t67.mi e289 (by decide)).trans c83
          have z307 := congrArg Int32.toInt c306
          have z308 := congrArg Int32.toInt c293
          refine k_bipush (m := 83) rfl (fun x309 h310 => ?_)
          refine k_ic_ne (fun h311 => ?_) (fun h311 => ?_)
          · refine hB _ _ _ _ (kgoC (is := KX7_readLiteral_103) rfl ?_)
            refine k_iload_n rfl ?_
            refine k_if_eq (fun h312 => by exfalso; omega) (fun h312 => ?_)
            refine k_nil ?_
            refine hB _ _ _ _ (kgoC (is := KX7_readLiteral_107) rfl ?_)
            refine k_iconst (m := (-1)) rfl (fun x313 h314 => ?_)
            refine k_goto ?_
            refine hB _ _ _ _ (kgoC (is := KX7_readLiteral_112) rfl ?_)
            have t315 := t286.x e289
            refine k_putI kp68 H288 t315 (Or.inl fk68) (tiC x313).1 (tiC x313).2 (fun σ316 H317 e318 c319 => ?_)
            refine k_aload_n rfl ?_
            have t320 := t291.x e318
            have R321 : RdC p0 none (1) (1) (-1000) σ0 σ316 := R294.tr ⟨(e318.gw H288.1 (by decide)), (e318.cou (u := 0) H288.1 t291 (by decide) (by rw [e318.cn (by decide)]; omega))⟩ (by omega) (by omega) (by omega) (by omega)
            have c322 := (t291.mi e318 (by decide)).trans c293
            have R323 := R321.nf (-1000) (-1000) (by rw [c322]; omega)
            have X324 : ExC [0, 1, 2, 60, 61, 62, 63, 64, 65, 66, 67, 68, 70, 242, 243, 244, 999] σ0 σ316 := X295.tr (e318.mo (by decide))
            have c325 := (t291.mi e318 (by decide)).trans c306
            have z326 := congrArg Int32.toInt c325
            have z327 := congrArg Int32.toInt c322
            refine k_inv (P := P_X7_accept) (Q := Q_X7_accept) rfl rfl rfl rfl (Nat.le_of_ble_eq_true rfl) (t320.rc (by decide)) ⟨_, rfl, H317, t320, (rd_cd.st H0 h_0_0 X324 R323.1 (by decide)), (R323.2.2.2.1 rd_at), (rd_bg.stn H0 h_0_0 X324 R323 (by decide) (by rw [c322]; omega) (by omega)), (by have ct := R323.2.2.1; rw [c322, c325, ct]; omega)⟩ (fun w328 σ329 q330 => ?_)
            obtain ⟨rfl, H331, e332, R333, q334, q335⟩ := q330
            have t341 := t320.x e332
            obtain ⟨x336, e337, c338, h339, h340⟩ := cg242 H331.1 t341
            obtain ⟨x342, e343, c344, h345, h346⟩ := cg243 H331.1 t341
            have z347 := congrArg Int32.toInt c338
            have z348 := congrArg Int32.toInt c344
            refine k_st (st' := []) rfl ?_
            have R349 : RdC p0 none (-7) (1) (-1000) σ0 σ329 := R323.tr ⟨R333.1, R333.2⟩ (by omega) (by omega) (by omega) (by omega)
            have z350 := R349.2.2.1
            have z351 := R349.2.2.2.1 rd_at
            refine k_aload_n rfl ?_
            refine k_aload_n rfl ?_
            have t352 := t315.x e318
            have t353 := t352.x e332
            have X354 : ExC [0, 1, 2, 60, 61, 62, 63, 64, 65, 66, 67, 68, 70, 242, 243, 244, 999] σ0 σ329 := X324.tr (e332.mo (by decide))
            refine k_inv (P := P_X7_put) (Q := Q_X7_put) rfl rfl rfl rfl (Nat.le_of_ble_eq_true rfl) (t341.rc (by decide)) ⟨_, _, rfl, H331, t341, t353, (rd_cd.st H0 h_0_0 X354 R349.1 (by decide)), (R349.2.2.2.1 rd_at), (rd_bg.st H0 h_0_0 X354 R349 (by decide) (by omega) (by omega) (by omega))⟩ (fun w355 σ356 q357 => ?_)
            obtain ⟨a358, rfl, H359, e360, h362, R361, q363, q364⟩ := q357
            have c365 := (t341.mi e360 (by decide)).trans c338
            have c366 := (t341.mi e360 (by decide)).trans c344
            have z367 := congrArg Int32.toInt c365
            have z368 := congrArg Int32.toInt c366
            refine k_st (st' := [.inr (.inr (some a358))]) rfl ?_
            refine k_areturn ?_
            have X369 : ExC [0, 1, 2, 60, 61, 62, 63, 64, 65, 66, 67, 68, 70, 242, 243, 244, 999] σ0 σ356 := X354.tr (e360.mo (by decide))
            have R370 : RdC p0 none (-6) (2) (-999) σ0 σ356 := R349.tr ⟨R361.1, R361.2⟩ (by omega) (by omega) (by omega) (by omega)
            have S385 : ∀ s, ReC σ0 p0 s → ReC σ356 p0 (accY s) := by
              intro s hs
              have f371 := q22 _ hs
              have f372 := q40 _ hs
              have y373 := q50 _ hs
              have y375 := y373.x H45.1 t66 e64 (by decide)
              have f376 := q80 _ y375
              have f377 := q96 _ y375
              have y378 := y375.x H63.1 t67 e289 (by decide)
              have f379 := q303 _ y378
              have y380 := y378.x H288.1 t291 e318 (by decide)
              have y381 := q335 _ y380
              have y383 := q364 _ y381
              refine y383.eq ?_
              try unfold tkY
              repeat (split <;> try (exfalso; omega))
              try unfold dpY
              repeat (split <;> try (exfalso; omega))
              all_goals rfl
            exact ⟨_, rfl, H359, X369, h362, (R370.mo (by omega) (by omega) (by omega)), (by omega), S385⟩
          · refine k_nil ?_
            refine hB _ _ _ _ (kgoC (is := KX7_readLiteral_99) rfl ?_)
            refine k_iconst (m := 2) rfl (fun x386 h387 => ?_)
            refine k_goto ?_
            refine hB _ _ _ _ (kgoC (is := KX7_readLiteral_112) rfl ?_)
            have t388 := t286.x e289
            refine k_putI kp68 H288 t388 (Or.inl fk68) (tiC x386).1 (tiC x386).2 (fun σ389 H390 e391 c392 => ?_)
            refine k_aload_n rfl ?_
            have t393 := t291.x e391
            have R394 : RdC p0 none (1) (1) (-1000) σ0 σ389 := R294.tr ⟨(e391.gw H288.1 (by decide)), (e391.cou (u := 0) H288.1 t291 (by decide) (by rw [e391.cn (by decide)]; omega))⟩ (by omega) (by omega) (by omega) (by omega)
            have c395 := (t291.mi e391 (by decide)).trans c293
            have R396 := R394.nf (-1000) (-1000) (by rw [c395]; omega)
            have X397 : ExC [0, 1, 2, 60, 61, 62, 63, 64, 65, 66, 67, 68, 70, 242, 243, 244, 999] σ0 σ389 := X295.tr (e391.mo (by decide))
            have c398 := (t291.mi e391 (by decide)).trans c306
            have z399 := congrArg Int32.toInt c398
            have z400 := congrArg Int32.toInt c395
            refine k_inv (P := P_X7_accept) (Q := Q_X7_accept) rfl rfl rfl rfl (Nat.le_of_ble_eq_true rfl) (t393.rc (by decide)) ⟨_, rfl, H390, t393, (rd_cd.st H0 h_0_0 X397 R396.1 (by decide)), (R396.2.2.2.1 rd_at), (rd_bg.stn H0 h_0_0 X397 R396 (by decide) (by rw [c395]; omega) (by omega)), (by have ct := R396.2.2.1; rw [c395, c398, ct]; omega)⟩ (fun w401 σ402 q403 => ?_)
            obtain ⟨rfl, H404, e405, R406, q407, q408⟩ := q403
            have t414 := t393.x e405
            obtain ⟨x409, e410, c411, h412, h413⟩ := cg242 H404.1 t414
            obtain ⟨x415, e416, c417, h418, h419⟩ := cg243 H404.1 t414
            have z420 := congrArg Int32.toInt c411
            have z421 := congrArg Int32.toInt c417
            refine k_st (st' := []) rfl ?_
            have R422 : RdC p0 none (-7) (1) (-1000) σ0 σ402 := R396.tr ⟨R406.1, R406.2⟩ (by omega) (by omega) (by omega) (by omega)
            have z423 := R422.2.2.1
            have z424 := R422.2.2.2.1 rd_at
            refine k_aload_n rfl ?_
            refine k_aload_n rfl ?_
            have t425 := t388.x e391
            have t426 := t425.x e405
            have X427 : ExC [0, 1, 2, 60, 61, 62, 63, 64, 65, 66, 67, 68, 70, 242, 243, 244, 999] σ0 σ402 := X397.tr (e405.mo (by decide))
            refine k_inv (P := P_X7_put) (Q := Q_X7_put) rfl rfl rfl rfl (Nat.le_of_ble_eq_true rfl) (t414.rc (by decide)) ⟨_, _, rfl, H404, t414, t426, (rd_cd.st H0 h_0_0 X427 R422.1 (by decide)), (R422.2.2.2.1 rd_at), (rd_bg.st H0 h_0_0 X427 R422 (by decide) (by omega) (by omega) (by omega))⟩ (fun w428 σ429 q430 => ?_)
            obtain ⟨a431, rfl, H432, e433, h435, R434, q436, q437⟩ := q430
            have c438 := (t414.mi e433 (by decide)).trans c411
            have c439 := (t414.mi e433 (by decide)).trans c417
            have z440 := congrArg Int32.toInt c438
            have z441 := congrArg Int32.toInt c439
            refine k_st (st' := [.inr (.inr (some a431))]) rfl ?_
            refine k_areturn ?_
            have X442 : ExC [0, 1, 2, 60, 61, 62, 63, 64, 65, 66, 67, 68, 70, 242, 243, 244, 999] σ0 σ429 := X427.tr (e433.mo (by decide))
            have R443 : RdC p0 none (-6) (2) (-999) σ0 σ429 := R422.tr ⟨R434.1, R434.2⟩ (by omega) (by omega) (by omega) (by omega)
            have S458 : ∀ s, ReC σ0 p0 s → ReC σ429 p0 (accY s) := by
              intro s hs
              have f444 := q22 _ hs
              have f445 := q40 _ hs
              have y446 := q50 _ hs
              have y448 := y446.x H45.1 t66 e64 (by decide)
              have f449 := q80 _ y448
              have f450 := q96 _ y448
              have y451 := y448.x H63.1 t67 e289 (by decide)
              have f452 := q303 _ y451
              have y453 := y451.x H288.1 t291 e391 (by decide)
              have y454 := q408 _ y453
              have y456 := q437 _ y454
              refine y456.eq ?_
              try unfold tkY
              repeat (split <;> try (exfalso; omega))
              try unfold dpY
              repeat (split <;> try (exfalso; omega))
              all_goals rfl
            exact ⟨_, rfl, H432, X442, h435, (R443.mo (by omega) (by omega) (by omega)), (by omega), S458⟩
      · refine k_nil ?_
        refine hB _ _ _ _ (kgoC (is := KX7_readLiteral_57) rfl ?_)
        refine k_lconst ?_
        refine k_goto ?_
        refine hB _ _ _ _ (kgoC (is := KX7_readLiteral_86) rfl ?_)
        have t459 := h48.x e64
        refine k_putL kg71 H63 t459 fk71 (fun σ460 H461 e462 c463 => ?_)
        refine k_aload_n rfl ?_
        refine k_aload_n rfl ?_
        have t464 := t67.x e462
        have R465 : RdC p0 none (1) (1) (-1000) σ0 σ460 := R70.tr ⟨(e462.gw H63.1 (by decide)), (e462.cou (u := 0) H63.1 t67 (by decide) (by rw [e462.cn (by decide)]; omega))⟩ (by omega) (by omega) (by omega) (by omega)
        have c466 := (t67.mi e462 (by decide)).trans c69
        have R467 := R465.nf (-1000) (-1000) (by rw [c466]; omega)
        have X468 : ExC [0, 1, 2, 60, 61, 62, 63, 64, 65, 66, 67, 68, 70, 242, 243, 244, 999] σ0 σ460 := X72.tr (e462.mo (by decide))
        refine k_inv (P := P_X7_code) (Q := Q_X7_code) rfl rfl rfl rfl (Nat.le_of_ble_eq_true rfl) (t464.rc (by decide)) ⟨_, rfl, H461, t464, (rd_cd.st H0 h_0_0 X468 R467.1 (by decide))⟩ (fun w469 σ470 q471 => ?_)
        obtain ⟨x472, rfl, rfl, q473, q474, q475, q476⟩ := q471
        refine k_st (st' := [.inl x472, .inr (.inr (some a44))]) rfl ?_
        have z477 := R467.2.2.1
        have z478 := R467.2.2.2.1 rd_at
        have c479 := (t67.mi e462 (by decide)).trans c83
        have z480 := congrArg Int32.toInt c479
        have z481 := congrArg Int32.toInt c466
        refine k_bipush (m := 83) rfl (fun x482 h483 => ?_)
        refine k_ic_ne (fun h484 => ?_) (fun h484 => ?_)
        · refine hB _ _ _ _ (kgoC (is := KX7_readLiteral_103) rfl ?_)
          refine k_iload_n rfl ?_
          refine k_if_eq (fun h485 => by exfalso; omega) (fun h485 => ?_)
          refine k_nil ?_
          refine hB _ _ _ _ (kgoC (is := KX7_readLiteral_107) rfl ?_)
          refine k_iconst (m := (-1)) rfl (fun x486 h487 => ?_)
          refine k_goto ?_
          refine hB _ _ _ _ (kgoC (is := KX7_readLiteral_112) rfl ?_)
          have t488 := t459.x e462
          refine k_putI kp68 H461 t488 (Or.inl fk68) (tiC x486).1 (tiC x486).2 (fun σ489 H490 e491 c492 => ?_)
          refine k_aload_n rfl ?_
          have t493 := t464.x e491
          have R494 : RdC p0 none (1) (1) (-1000) σ0 σ489 := R467.tr ⟨(e491.gw H461.1 (by decide)), (e491.cou (u := 0) H461.1 t464 (by decide) (by rw [e491.cn (by decide)]; omega))⟩ (by omega) (by omega) (by omega) (by omega)
          have c495 := (t464.mi e491 (by decide)).trans c466
          have R496 := R494.nf (-1000) (-1000) (by rw [c495]; omega)
          have X497 : ExC [0, 1, 2, 60, 61, 62, 63, 64, 65, 66, 67, 68, 70, 242, 243, 244, 999] σ0 σ489 := X468.tr (e491.mo (by decide))
          have c498 := (t464.mi e491 (by decide)).trans c479
          have z499 := congrArg Int32.toInt c498
          have z500 := congrArg Int32.toInt c495
          refine k_inv (P := P_X7_accept) (Q := Q_X7_accept) rfl rfl rfl rfl (Nat.le_of_ble_eq_true rfl) (t493.rc (by decide)) ⟨_, rfl, H490, t493, (rd_cd.st H0 h_0_0 X497 R496.1 (by decide)), (R496.2.2.2.1 rd_at), (rd_bg.stn H0 h_0_0 X497 R496 (by decide) (by rw [c495]; omega) (by omega)), (by have ct := R496.2.2.1; rw [c495, c498, ct]; omega)⟩ (fun w501 σ502 q503 => ?_)
          obtain ⟨rfl, H504, e505, R506, q507, q508⟩ := q503
          have t514 := t493.x e505
          obtain ⟨x509, e510, c511, h512, h513⟩ := cg242 H504.1 t514
          obtain ⟨x515, e516, c517, h518, h519⟩ := cg243 H504.1 t514
          have z520 := congrArg Int32.toInt c511
          have z521 := congrArg Int32.toInt c517
          refine k_st (st' := []) rfl ?_
          have R522 : RdC p0 none (-7) (1) (-1000) σ0 σ502 := R496.tr ⟨R506.1, R506.2⟩ (by omega) (by omega) (by omega) (by omega)
          have z523 := R522.2.2.1
          have z524 := R522.2.2.2.1 rd_at
          refine k_aload_n rfl ?_
          refine k_aload_n rfl ?_
          have t525 := t488.x e491
          have t526 := t525.x e505
          have X527 : ExC [0, 1, 2, 60, 61, 62, 63, 64, 65, 66, 67, 68, 70, 242, 243, 244, 999] σ0 σ502 := X497.tr (e505.mo (by decide))
          refine k_inv (P := P_X7_put) (Q := Q_X7_put) rfl rfl rfl rfl (Nat.le_of_ble_eq_true rfl) (t514.rc (by decide)) ⟨_, _, rfl, H504, t514, t526, (rd_cd.st H0 h_0_0 X527 R522.1 (by decide)), (R522.2.2.2.1 rd_at), (rd_bg.st H0 h_0_0 X527 R522 (by decide) (by omega) (by omega) (by omega))⟩ (fun w528 σ529 q530 => ?_)
          obtain ⟨a531, rfl, H532, e533, h535, R534, q536, q537⟩ := q530
          have c538 := (t514.mi e533 (by decide)).trans c511
          have c539 := (t514.mi e533 (by decide)).trans c517
          have z540 := congrArg Int32.toInt c538
          have z541 := congrArg Int32.toInt c539
          refine k_st (st' := [.inr (.inr (some a531))]) rfl ?_
          refine k_areturn ?_
          have X542 : ExC [0, 1, 2, 60, 61, 62, 63, 64, 65, 66, 67, 68, 70, 242, 243, 244, 999] σ0 σ529 := X527.tr (e533.mo (by decide))
          have R543 : RdC p0 none (-6) (2) (-999) σ0 σ529 := R522.tr ⟨R534.1, R534.2⟩ (by omega) (by omega) (by omega) (by omega)
          have S557 : ∀ s, ReC σ0 p0 s → ReC σ529 p0 (accY s) := by
            intro s hs
            have f544 := q22 _ hs
            have f545 := q40 _ hs
            have y546 := q50 _ hs
            have y548 := y546.x H45.1 t66 e64 (by decide)
            have f549 := q80 _ y548
            have y550 := y548.x H63.1 t67 e462 (by decide)
            have f551 := q476 _ y550
            have y552 := y550.x H461.1 t464 e491 (by decide)
            have y553 := q508 _ y552
            have y555 := q537 _ y553
            refine y555.eq ?_
            try unfold tkY
            repeat (split <;> try (exfalso; omega))
            try unfold dpY
            repeat (split <;> try (exfalso; omega))
            all_goals rfl
          exact ⟨_, rfl, H532, X542, h535, (R543.mo (by omega) (by omega) (by omega)), (by omega), S557⟩
        · refine k_nil ?_
          refine hB _ _ _ _ (kgoC (is := KX7_readLiteral_99) rfl ?_)
          refine k_iconst (m := 2) rfl (fun x558 h559 => ?_)
          refine k_goto ?_
          refine hB _ _ _ _ (kgoC (is := KX7_readLiteral_112) rfl ?_)
          have t560 := t459.x e462
          refine k_putI kp68 H461 t560 (Or.inl fk68) (tiC x558).1 (tiC x558).2 (fun σ561 H562 e563 c564 => ?_)
          refine k_aload_n rfl ?_
          have t565 := t464.x e563
          have R566 : RdC p0 none (1) (1) (-1000) σ0 σ561 := R467.tr ⟨(e563.gw H461.1 (by decide)), (e563.cou (u := 0) H461.1 t464 (by decide) (by rw [e563.cn (by decide)]; omega))⟩ (by omega) (by omega) (by omega) (by omega)
          have c567 := (t464.mi e563 (by decide)).trans c466
          have R568 := R566.nf (-1000) (-1000) (by rw [c567]; omega)
          have X569 : ExC [0, 1, 2, 60, 61, 62, 63, 64, 65, 66, 67, 68, 70, 242, 243, 244, 999] σ0 σ561 := X468.tr (e563.mo (by decide))
          have c570 := (t464.mi e563 (by decide)).trans c479
          have z571 := congrArg Int32.toInt c570
          have z572 := congrArg Int32.toInt c567
          refine k_inv (P := P_X7_accept) (Q := Q_X7_accept) rfl rfl rfl rfl (Nat.le_of_ble_eq_true rfl) (t565.rc (by decide)) ⟨_, rfl, H562, t565, (rd_cd.st H0 h_0_0 X569 R568.1 (by decide)), (R568.2.2.2.1 rd_at), (rd_bg.stn H0 h_0_0 X569 R568 (by decide) (by rw [c567]; omega) (by omega)), (by have ct := R568.2.2.1; rw [c567, c570, ct]; omega)⟩ (fun w573 σ574 q575 => ?_)
          obtain ⟨rfl, H576, e577, R578, q579, q580⟩ := q575
          have t586 := t565.x e577
          obtain ⟨x581, e582, c583, h584, h585⟩ := cg242 H576.1 t586
          obtain ⟨x587, e588, c589, h590, h591⟩ := cg243 H576.1 t586
          have z592 := congrArg Int32.toInt c583
          have z593 := congrArg Int32.toInt c589
          refine k_st (st' := []) rfl ?_
          have R594 : RdC p0 none (-7) (1) (-1000) σ0 σ574 := R568.tr ⟨R578.1, R578.2⟩ (by omega) (by omega) (by omega) (by omega)
          have z595 := R594.2.2.1
          have z596 := R594.2.2.2.1 rd_at
          refine k_aload_n rfl ?_
          refine k_aload_n rfl ?_
          have t597 := t560.x e563
          have t598 := t597.x e577
          have X599 : ExC [0, 1, 2, 60, 61, 62, 63, 64, 65, 66, 67, 68, 70, 242, 243, 244, 999] σ0 σ574 := X569.tr (e577.mo (by decide))
          refine k_inv (P := P_X7_put) (Q := Q_X7_put) rfl rfl rfl rfl (Nat.le_of_ble_eq_true rfl) (t586.rc (by decide)) ⟨_, _, rfl, H576, t586, t598, (rd_cd.st H0 h_0_0 X599 R594.1 (by decide)), (R594.2.2.2.1 rd_at), (rd_bg.st H0 h_0_0 X599 R594 (by decide) (by omega) (by omega) (by omega))⟩ (fun w600 σ601 q602 => ?_)
          obtain ⟨a603, rfl, H604, e605, h607, R606, q608, q609⟩ := q602
          have c610 := (t586.mi e605 (by decide)).trans c583
          have c611 := (t586.mi e605 (by decide)).trans c589
          have z612 := congrArg Int32.toInt c610
          have z613 := congrArg Int32.toInt c611
          refine k_st (st' := [.inr (.inr (some a603))]) rfl ?_
          refine k_areturn ?_
          have X614 : ExC [0, 1, 2, 60, 61, 62, 63, 64, 65, 66, 67, 68, 70, 242, 243, 244, 999] σ0 σ601 := X599.tr (e605.mo (by decide))
          have R615 : RdC p0 none (-6) (2) (-999) σ0 σ601 := R594.tr ⟨R606.1, R606.2⟩ (by omega) (by omega) (by omega) (by omega)
          have S629 : ∀ s, ReC σ0 p0 s → ReC σ601 p0 (accY s) := by
            intro s hs
            have f616 := q22 _ hs
            have f617 := q40 _ hs
            have y618 := q50 _ hs
            have y620 := y618.x H45.1 t66 e64 (by decide)
            have f621 := q80 _ y620
            have y622 := y620.x H63.1 t67 e462 (by decide)
            have f623 := q476 _ y622
            have y624 := y622.x H461.1 t464 e563 (by decide)
            have y625 := q580 _ y624
            have y627 := q609 _ y625
            refine y627.eq ?_
            try unfold tkY
            repeat (split <;> try (exfalso; omega))
            try unfold dpY
            repeat (split <;> try (exfalso; omega))
            all_goals rfl
          exact ⟨_, rfl, H604, X614, h607, (R615.mo (by omega) (by omega) (by omega)), (by omega), S629⟩
    · refine k_nil ?_
      refine hB _ _ _ _ (kgoC (is := KX7_readLiteral_9) rfl ?_)
      refine k_aload_n rfl ?_
      refine k_inv (P := P_X7_code) (Q := Q_X7_code) rfl rfl rfl rfl (Nat.le_of_ble_eq_true rfl) (h_0_0.rc (by decide)) ⟨_, rfl, H0, h_0_0, (rd_cd.st H0 h_0_0 (ExC.rf : ExC [0, 1, 2, 60, 61, 62, 63, 64, 65, 66, 67, 68, 70, 242, 243, 244, 999] σ0 σ0) R14.1 (by decide))⟩ (fun w630 σ631 q632 => ?_)
      obtain ⟨x633, rfl, rfl, q634, q635, q636, q637⟩ := q632
      refine k_st (st' := [.inl x633]) rfl ?_
      refine k_bipush (m := 82) rfl (fun x638 h639 => ?_)
      refine k_ic_ne (fun h640 => ?_) (fun h640 => ?_)
      · refine hB _ _ _ _ (kgoC (is := KX7_readLiteral_22) rfl ?_)
        refine k_iconst (m := 0) rfl (fun x641 h642 => ?_)
        refine k_nil ?_
        refine hB _ _ _ _ (kgoC (is := KX7_readLiteral_23) rfl ?_)
        refine k_istore_n (ls' := [(1, .inl x641), (0, .inr (.inr (some p0)))]) rfl ?_
        refine k_aload_n rfl ?_
        refine k_iload_n rfl ?_
        refine k_if_eq (fun h643 => ?_) (fun h643 => by exfalso; omega)
        refine hB _ _ _ _ (kgoC (is := KX7_readLiteral_33) rfl ?_)
        refine k_iconst (m := 1) rfl (fun x644 h645 => ?_)
        refine k_nil ?_
        refine hB _ _ _ _ (kgoC (is := KX7_readLiteral_34) rfl ?_)
        refine k_aload_n rfl ?_
        refine k_inv (P := P_X7_code) (Q := Q_X7_code) rfl rfl rfl rfl (Nat.le_of_ble_eq_true rfl) (h_0_0.rc (by decide)) ⟨_, rfl, H0, h_0_0, (rd_cd.st H0 h_0_0 (ExC.rf : ExC [0, 1, 2, 60, 61, 62, 63, 64, 65, 66, 67, 68, 70, 242, 243, 244, 999] σ0 σ0) R14.1 (by decide))⟩ (fun w646 σ647 q648 => ?_)
        obtain ⟨x649, rfl, rfl, q650, q651, q652, q653⟩ := q648
        refine k_st (st' := [.inl x649, .inl x644, .inr (.inr (some p0))]) rfl ?_
        refine k_inv (P := P_X7_opened) (Q := Q_X7_opened) rfl rfl rfl rfl (Nat.le_of_ble_eq_true rfl) (h_0_0.rc (by decide)) ⟨_, _, _, rfl, H0, h_0_0, (rd_cd.st H0 h_0_0 (ExC.rf : ExC [0, 1, 2, 60, 61, 62, 63, 64, 65, 66, 67, 68, 70, 242, 243, 244, 999] σ0 σ0) R14.1 (by decide)), (R14.2.2.2.1 rd_at), (rd_bg.stn H0 h_0_0 (ExC.rf : ExC [0, 1, 2, 60, 61, 62, 63, 64, 65, 66, 67, 68, 70, 242, 243, 244, 999] σ0 σ0) R14 (by decide) (by rw [c8]; omega) (by omega)), (by omega)⟩ (fun w654 σ655 q656 => ?_)
        obtain ⟨a657, rfl, H658, e659, h661, R660, q662, q663⟩ := q656
        have c664 := (h_0_0.mi e659 (by decide)).trans c3
        have c665 := (h_0_0.mi e659 (by decide)).trans c8
        have z666 := congrArg Int32.toInt c664
        have z667 := congrArg Int32.toInt c665
        refine k_st (st' := [.inr (.inr (some a657))]) rfl ?_
        have z668 := R14.1.1
        have R669 : RdC p0 none (1) (1) (-999) σ0 σ655 := R14.tr ⟨R660.1, R660.2⟩ (by omega) (by omega) (by omega) (by omega)
        have R670 := R669.nf (-1000) (-1000) (by rw [c665]; omega)
        have z671 := R670.2.2.1
        have z672 := R670.2.2.2.1 rd_at
        refine k_astore_n (ls' := [(2, .inr (.inr (some a657))), (1, .inl x641), (0, .inr (.inr (some p0)))]) rfl ?_
        refine k_aload_n rfl ?_
        refine k_iconst (m := 1) rfl (fun x673 h674 => ?_)
        refine k_putI kp70 H658 h661 (Or.inr ⟨fk70, b01C (by omega) (by omega)⟩) (by show 0 ≤ _; omega) (by show _ ≤ 1; omega) (fun σ675 H676 e677 c678 => ?_)
        refine k_aload_n rfl ?_
        refine k_aload_n rfl ?_
        have t679 := h_0_0.x e659
        have t680 := t679.x e677
        have R681 : RdC p0 none (1) (1) (-1000) σ0 σ675 := R670.tr ⟨(e677.gw H658.1 (by decide)), (e677.cou (u := 0) H658.1 t679 (by decide) (by rw [e677.cn (by decide)]; omega))⟩ (by omega) (by omega) (by omega) (by omega)
        have c682 := (t679.mi e677 (by decide)).trans c665
        have R683 := R681.nf (-1000) (-1000) (by rw [c682]; omega)
        have X684 : ExC [0, 1, 2, 60, 61, 62, 63, 64, 65, 66, 67, 68, 70, 242, 243, 244, 999] σ0 σ655 := ExC.rf.tr (e659.mo (by decide))
        have X685 : ExC [0, 1, 2, 60, 61, 62, 63, 64, 65, 66, 67, 68, 70, 242, 243, 244, 999] σ0 σ675 := X684.tr (e677.mo (by decide))
        refine k_inv (P := P_X7_code) (Q := Q_X7_code) rfl rfl rfl rfl (Nat.le_of_ble_eq_true rfl) (t680.rc (by decide)) ⟨_, rfl, H676, t680, (rd_cd.st H0 h_0_0 X685 R683.1 (by decide))⟩ (fun w686 σ687 q688 => ?_)
        obtain ⟨x689, rfl, rfl, q690, q691, q692, q693⟩ := q688
        refine k_st (st' := [.inl x689, .inr (.inr (some a657))]) rfl ?_
        have z694 := R683.2.2.1
        have z695 := R683.2.2.2.1 rd_at
        have c696 := (t679.mi e677 (by decide)).trans c664
        have z697 := congrArg Int32.toInt c696
        have z698 := congrArg Int32.toInt c682
        refine k_bipush (m := 72) rfl (fun x699 h700 => ?_)
        refine k_ic_ne (fun h701 => ?_) (fun h701 => ?_)
        · refine hB _ _ _ _ (kgoC (is := KX7_readLiteral_61) rfl ?_)
          refine k_aload_n rfl ?_
          refine k_inv (P := P_X7_code) (Q := Q_X7_code) rfl rfl rfl rfl (Nat.le_of_ble_eq_true rfl) (t680.rc (by decide)) ⟨_, rfl, H676, t680, (rd_cd.st H0 h_0_0 X685 R683.1 (by decide))⟩ (fun w702 σ703 q704 => ?_)
          obtain ⟨x705, rfl, rfl, q706, q707, q708, q709⟩ := q704
          refine k_st (st' := [.inl x705, .inr (.inr (some a657))]) rfl ?_
          refine k_bipush (m := 73) rfl (fun x710 h711 => ?_)
          refine k_ic_ne (fun h712 => ?_) (fun h712 => ?_)
          · refine hB _ _ _ _ (kgoC (is := KX7_readLiteral_74) rfl ?_)
            refine k_aload_n rfl ?_
            obtain ⟨a715, e713, c714, t716⟩ := cg241 H676.1 t680
            refine k_get kg241 t680 e713 ?_
            obtain ⟨a719, e717, c718, t720, l721, l722⟩ := cg304 H676.1 t716
            refine k_get kg304 t716 e717 ?_
            refine k_aload_n rfl ?_
            refine k_get kg242 t680 (congrArg (Sum.inl : Int32 → AvC) c696) ?_
            refine k_laload t720 (by omega) (by omega) (fun y723 => ?_)
            refine k_nil ?_
            refine hB _ _ _ _ (kgoC (is := KX7_readLiteral_86) rfl ?_)
            have t724 := h661.x e677
            refine k_putL kg71 H676 t724 fk71 (fun σ725 H726 e727 c728 => ?_)
            refine k_aload_n rfl ?_
            refine k_aload_n rfl ?_
            have t729 := t680.x e727
            have R730 : RdC p0 none (1) (1) (-1000) σ0 σ725 := R683.tr ⟨(e727.gw H676.1 (by decide)), (e727.cou (u := 0) H676.1 t680 (by decide) (by rw [e727.cn (by decide)]; omega))⟩ (by omega) (by omega) (by omega) (by omega)
            have c731 := (t680.mi e727 (by decide)).trans c682
            have R732 := R730.nf (-1000) (-1000) (by rw [c731]; omega)
            have X733 : ExC [0, 1, 2, 60, 61, 62, 63, 64, 65, 66, 67, 68, 70, 242, 243, 244, 999] σ0 σ725 := X685.tr (e727.mo (by decide))
            refine k_inv (P := P_X7_code) (Q := Q_X7_code) rfl rfl rfl rfl (Nat.le_of_ble_eq_true rfl) (t729.rc (by decide)) ⟨_, rfl, H726, t729, (rd_cd.st H0 h_0_0 X733 R732.1 (by decide))⟩ (fun w734 σ735 q736 => ?_)
            obtain ⟨x737, rfl, rfl, q738, q739, q740, q741⟩ := q736
            refine k_st (st' := [.inl x737, .inr (.inr (some a657))]) rfl ?_
            have z742 := R732.2.2.1
            have z743 := R732.2.2.2.1 rd_at
            have c744 := (t680.mi e727 (by decide)).trans c696
            have z745 := congrArg Int32.toInt c744
            have z746 := congrArg Int32.toInt c731
            refine k_bipush (m := 83) rfl (fun x747 h748 => ?_)
            refine k_ic_ne (fun h749 => ?_) (fun h749 => ?_)
            · refine hB _ _ _ _ (kgoC (is := KX7_readLiteral_103) rfl ?_)
              refine k_iload_n rfl ?_
              refine k_if_eq (fun h750 => ?_) (fun h750 => by exfalso; omega)
              refine hB _ _ _ _ (kgoC (is := KX7_readLiteral_111) rfl ?_)
              refine k_iconst (m := 0) rfl (fun x751 h752 => ?_)
              refine k_nil ?_
              refine hB _ _ _ _ (kgoC (is := KX7_readLiteral_112) rfl ?_)
              have t753 := t724.x e727
              refine k_putI kp68 H726 t753 (Or.inl fk68) (tiC x751).1 (tiC x751).2 (fun σ754 H755 e756 c757 => ?_)
              refine k_aload_n rfl ?_
              have t758 := t729.x e756
              have R759 : RdC p0 none (1) (1) (-1000) σ0 σ754 := R732.tr ⟨(e756.gw H726.1 (by decide)), (e756.cou (u := 0) H726.1 t729 (by decide) (by rw [e756.cn (by decide)]; omega))⟩ (by omega) (by omega) (by omega) (by omega)
              have c760 := (t729.mi e756 (by decide)).trans c731
              have R761 := R759.nf (-1000) (-1000) (by rw [c760]; omega)
              have X762 : ExC [0, 1, 2, 60, 61, 62, 63, 64, 65, 66, 67, 68, 70, 242, 243, 244, 999] σ0 σ754 := X733.tr (e756.mo (by decide))
              have c763 := (t729.mi e756 (by decide)).trans c744
              have z764 := congrArg Int32.toInt c763
              have z765 := congrArg Int32.toInt c760
              refine k_inv (P := P_X7_accept) (Q := Q_X7_accept) rfl rfl rfl rfl (Nat.le_of_ble_eq_true rfl) (t758.rc (by decide)) ⟨_, rfl, H755, t758, (rd_cd.st H0 h_0_0 X762 R761.1 (by decide)), (R761.2.2.2.1 rd_at), (rd_bg.stn H0 h_0_0 X762 R761 (by decide) (by rw [c760]; omega) (by omega)), (by have ct := R761.2.2.1; rw [c760, c763, ct]; omega)⟩ (fun w766 σ767 q768 => ?_)
              obtain ⟨rfl, H769, e770, R771, q772, q773⟩ := q768
              have t779 := t758.x e770
              obtain ⟨x774, e775, c776, h777, h778⟩ := cg242 H769.1 t779
              obtain ⟨x780, e781, c782, h783, h784⟩ := cg243 H769.1 t779
              have z785 := congrArg Int32.toInt c776
              have z786 := congrArg Int32.toInt c782
              refine k_st (st' := []) rfl ?_
              have R787 : RdC p0 none (-7) (1) (-1000) σ0 σ767 := R761.tr ⟨R771.1, R771.2⟩ (by omega) (by omega) (by omega) (by omega)
              have z788 := R787.2.2.1
              have z789 := R787.2.2.2.1 rd_at
              refine k_aload_n rfl ?_
              refine k_aload_n rfl ?_
              have t790 := t753.x e756
              have t791 := t790.x e770
              have X792 : ExC [0, 1, 2, 60, 61, 62, 63, 64, 65, 66, 67, 68, 70, 242, 243, 244, 999] σ0 σ767 := X762.tr (e770.mo (by decide))
              refine k_inv (P := P_X7_put) (Q := Q_X7_put) rfl rfl rfl rfl (Nat.le_of_ble_eq_true rfl) (t779.rc (by decide)) ⟨_, _, rfl, H769, t779, t791, (rd_cd.st H0 h_0_0 X792 R787.1 (by decide)), (R787.2.2.2.1 rd_at), (rd_bg.st H0 h_0_0 X792 R787 (by decide) (by omega) (by omega) (by omega))⟩ (fun w793 σ794 q795 => ?_)
              obtain ⟨a796, rfl, H797, e798, h800, R799, q801, q802⟩ := q795
              have c803 := (t779.mi e798 (by decide)).trans c776
              have c804 := (t779.mi e798 (by decide)).trans c782
              have z805 := congrArg Int32.toInt c803
              have z806 := congrArg Int32.toInt c804
              refine k_st (st' := [.inr (.inr (some a796))]) rfl ?_
              refine k_areturn ?_
              have X807 : ExC [0, 1, 2, 60, 61, 62, 63, 64, 65, 66, 67, 68, 70, 242, 243, 244, 999] σ0 σ794 := X792.tr (e798.mo (by decide))
              have R808 : RdC p0 none (-6) (2) (-999) σ0 σ794 := R787.tr ⟨R799.1, R799.2⟩ (by omega) (by omega) (by omega) (by omega)
              have S825 : ∀ s, ReC σ0 p0 s → ReC σ794 p0 (accY s) := by
                intro s hs
                have f809 := q22 _ hs
                have f810 := q637 _ hs
                have f811 := q653 _ hs
                have y812 := q663 _ hs
                have y814 := y812.x H658.1 t679 e677 (by decide)
                have f815 := q693 _ y814
                have f816 := q709 _ y814
                have f817 := y814.at_ c696
                have y818 := y814.x H676.1 t680 e727 (by decide)
                have f819 := q741 _ y818
                have y820 := y818.x H726.1 t729 e756 (by decide)
                have y821 := q773 _ y820
                have y823 := q802 _ y821
                refine y823.eq ?_
                try unfold tkY
                repeat (split <;> try (exfalso; omega))
                try unfold dpY
                repeat (split <;> try (exfalso; omega))
                all_goals rfl
              exact ⟨_, rfl, H797, X807, h800, (R808.mo (by omega) (by omega) (by omega)), (by omega), S825⟩
            · refine k_nil ?_
              refine hB _ _ _ _ (kgoC (is := KX7_readLiteral_99) rfl ?_)
              refine k_iconst (m := 2) rfl (fun x826 h827 => ?_)
              refine k_goto ?_
              refine hB _ _ _ _ (kgoC (is := KX7_readLiteral_112) rfl ?_)
              have t828 := t724.x e727
              refine k_putI kp68 H726 t828 (Or.inl fk68) (tiC x826).1 (tiC x826).2 (fun σ829 H830 e831 c832 => ?_)
              refine k_aload_n rfl ?_
              have t833 := t729.x e831
              have R834 : RdC p0 none (1) (1) (-1000) σ0 σ829 := R732.tr ⟨(e831.gw H726.1 (by decide)), (e831.cou (u := 0) H726.1 t729 (by decide) (by rw [e831.cn (by decide)]; omega))⟩ (by omega) (by omega) (by omega) (by omega)
              have c835 := (t729.mi e831 (by decide)).trans c731
              have R836 := R834.nf (-1000) (-1000) (by rw [c835]; omega)
              have X837 : ExC [0, 1, 2, 60, 61, 62, 63, 64, 65, 66, 67, 68, 70, 242, 243, 244, 999] σ0 σ829 := X733.tr (e831.mo (by decide))
              have c838 := (t729.mi e831 (by decide)).trans c744
              have z839 := congrArg Int32.toInt c838
              have z840 := congrArg Int32.toInt c835
              refine k_inv (P := P_X7_accept) (Q := Q_X7_accept) rfl rfl rfl rfl (Nat.le_of_ble_eq_true rfl) (t833.rc (by decide)) ⟨_, rfl, H830, t833, (rd_cd.st H0 h_0_0 X837 R836.1 (by decide)), (R836.2.2.2.1 rd_at), (rd_bg.stn H0 h_0_0 X837 R836 (by decide) (by rw [c835]; omega) (by omega)), (by have ct := R836.2.2.1; rw [c835, c838, ct]; omega)⟩ (fun w841 σ842 q843 => ?_)
              obtain ⟨rfl, H844, e845, R846, q847, q848⟩ := q843
              have t854 := t833.x e845
              obtain ⟨x849, e850, c851, h852, h853⟩ := cg242 H844.1 t854
              obtain ⟨x855, e856, c857, h858, h859⟩ := cg243 H844.1 t854
              have z860 := congrArg Int32.toInt c851
              have z861 := congrArg Int32.toInt c857
              refine k_st (st' := []) rfl ?_
              have R862 : RdC p0 none (-7) (1) (-1000) σ0 σ842 := R836.tr ⟨R846.1, R846.2⟩ (by omega) (by omega) (by omega) (by omega)
              have z863 := R862.2.2.1
              have z864 := R862.2.2.2.1 rd_at
              refine k_aload_n rfl ?_
              refine k_aload_n rfl ?_
              have t865 := t828.x e831
              have t866 := t865.x e845
              have X867 : ExC [0, 1, 2, 60, 61, 62, 63, 64, 65, 66, 67, 68, 70, 242, 243, 244, 999] σ0 σ842 := X837.tr (e845.mo (by decide))
              refine k_inv (P := P_X7_put) (Q := Q_X7_put) rfl rfl rfl rfl (Nat.le_of_ble_eq_true rfl) (t854.rc (by decide)) ⟨_, _, rfl, H844, t854, t866, (rd_cd.st H0 h_0_0 X867 R862.1 (by decide)), (R862.2.2.2.1 rd_at), (rd_bg.st H0 h_0_0 X867 R862 (by decide) (by omega) (by omega) (by omega))⟩ (fun w868 σ869 q870 => ?_)
              obtain ⟨a871, rfl, H872, e873, h875, R874, q876, q877⟩ := q870
              have c878 := (t854.mi e873 (by decide)).trans c851
              have c879 := (t854.mi e873 (by decide)).trans c857
              have z880 := congrArg Int32.toInt c878
              have z881 := congrArg Int32.toInt c879
              refine k_st (st' := [.inr (.inr (some a871))]) rfl ?_
              refine k_areturn ?_
              have X882 : ExC [0, 1, 2, 60, 61, 62, 63, 64, 65, 66, 67, 68, 70, 242, 243, 244, 999] σ0 σ869 := X867.tr (e873.mo (by decide))
              have R883 : RdC p0 none (-6) (2) (-999) σ0 σ869 := R862.tr ⟨R874.1, R874.2⟩ (by omega) (by omega) (by omega) (by omega)
              have S900 : ∀ s, ReC σ0 p0 s → ReC σ869 p0 (accY s) := by
                intro s hs
                have f884 := q22 _ hs
                have f885 := q637 _ hs
                have f886 := q653 _ hs
                have y887 := q663 _ hs
                have y889 := y887.x H658.1 t679 e677 (by decide)
                have f890 := q693 _ y889
                have f891 := q709 _ y889
                have f892 := y889.at_ c696
                have y893 := y889.x H676.1 t680 e727 (by decide)
                have f894 := q741 _ y893
                have y895 := y893.x H726.1 t729 e831 (by decide)
                have y896 := q848 _ y895
                have y898 := q877 _ y896
                refine y898.eq ?_
                try unfold tkY
                repeat (split <;> try (exfalso; omega))
                try unfold dpY
                repeat (split <;> try (exfalso; omega))
                all_goals rfl
              exact ⟨_, rfl, H872, X882, h875, (R883.mo (by omega) (by omega) (by omega)), (by omega), S900⟩
          · refine k_nil ?_
            refine hB _ _ _ _ (kgoC (is := KX7_readLiteral_70) rfl ?_)
            refine k_lconst ?_
            refine k_goto ?_
            refine hB _ _ _ _ (kgoC (is := KX7_readLiteral_86) rfl ?_)
            have t901 := h661.x e677
            refine k_putL kg71 H676 t901 fk71 (fun σ902 H903 e904 c905 => ?_)
            refine k_aload_n rfl ?_
            refine k_aload_n rfl ?_
            have t906 := t680.x e904
            have R907 : RdC p0 none (1) (1) (-1000) σ0 σ902 := R683.tr ⟨(e904.gw H676.1 (by decide)), (e904.cou (u := 0) H676.1 t680 (by decide) (by rw [e904.cn (by decide)]; omega))⟩ (by omega) (by omega) (by omega) (by omega)
            have c908 := (t680.mi e904 (by decide)).trans c682
            have R909 := R907.nf (-1000) (-1000) (by rw [c908]; omega)
            have X910 : ExC [0, 1, 2, 60, 61, 62, 63, 64, 65, 66, 67, 68, 70, 242, 243, 244, 999] σ0 σ902 := X685.tr (e904.mo (by decide))
            refine k_inv (P := P_X7_code) (Q := Q_X7_code) rfl rfl rfl rfl (Nat.le_of_ble_eq_true rfl) (t906.rc (by decide)) ⟨_, rfl, H903, t906, (rd_cd.st H0 h_0_0 X910 R909.1 (by decide))⟩ (fun w911 σ912 q913 => ?_)
            obtain ⟨x914, rfl, rfl, q915, q916, q917, q918⟩ := q913
            refine k_st (st' := [.inl x914, .inr (.inr (some a657))]) rfl ?_
            have z919 := R909.2.2.1
            have z920 := R909.2.2.2.1 rd_at
            have c921 := (t680.mi e904 (by decide)).trans c696
            have z922 := congrArg Int32.toInt c921
            have z923 := congrArg Int32.toInt c908
            refine k_bipush (m := 83) rfl (fun x924 h925 => ?_)
            refine k_ic_ne (fun h926 => ?_) (fun h926 => ?_)
            · refine hB _ _ _ _ (kgoC (is := KX7_readLiteral_103) rfl ?_)
              refine k_iload_n rfl ?_
              refine k_if_eq (fun h927 => ?_) (fun h927 => by exfalso; omega)
              refine hB _ _ _ _ (kgoC (is := KX7_readLiteral_111) rfl ?_)
              refine k_iconst (m := 0) rfl (fun x928 h929 => ?_)
              refine k_nil ?_
              refine hB _ _ _ _ (kgoC (is := KX7_readLiteral_112) rfl ?_)
              have t930 := t901.x e904
              refine k_putI kp68 H903 t930 (Or.inl fk68) (tiC x928).1 (tiC x928).2 (fun σ931 H932 e933 c934 => ?_)
              refine k_aload_n rfl ?_
              have t935 := t906.x e933
              have R936 : RdC p0 none (1) (1) (-1000) σ0 σ931 := R909.tr ⟨(e933.gw H903.1 (by decide)), (e933.cou (u := 0) H903.1 t906 (by decide) (by rw [e933.cn (by decide)]; omega))⟩ (by omega) (by omega) (by omega) (by omega)
              have c937 := (t906.mi e933 (by decide)).trans c908
              have R938 := R936.nf (-1000) (-1000) (by rw [c937]; omega)
              have X939 : ExC [0, 1, 2, 60, 61, 62, 63, 64, 65, 66, 67, 68, 70, 242, 243, 244, 999] σ0 σ931 := X910.tr (e933.mo (by decide))
              have c940 := (t906.mi e933 (by decide)).trans c921
              have z941 := congrArg Int32.toInt c940
              have z942 := congrArg Int32.toInt c937
              refine k_inv (P := P_X7_accept) (Q := Q_X7_accept) rfl rfl rfl rfl (Nat.le_of_ble_eq_true rfl) (t935.rc (by decide)) ⟨_, rfl, H932, t935, (rd_cd.st H0 h_0_0 X939 R938.1 (by decide)), (R938.2.2.2.1 rd_at), (rd_bg.stn H0 h_0_0 X939 R938 (by decide) (by rw [c937]; omega) (by omega)), (by have ct := R938.2.2.1; rw [c937, c940, ct]; omega)⟩ (fun w943 σ944 q945 => ?_)
              obtain ⟨rfl, H946, e947, R948, q949, q950⟩ := q945
              have t956 := t935.x e947
              obtain ⟨x951, e952, c953, h954, h955⟩ := cg242 H946.1 t956
              obtain ⟨x957, e958, c959, h960, h961⟩ := cg243 H946.1 t956
              have z962 := congrArg Int32.toInt c953
              have z963 := congrArg Int32.toInt c959
              refine k_st (st' := []) rfl ?_
              have R964 : RdC p0 none (-7) (1) (-1000) σ0 σ944 := R938.tr ⟨R948.1, R948.2⟩ (by omega) (by omega) (by omega) (by omega)
              have z965 := R964.2.2.1
              have z966 := R964.2.2.2.1 rd_at
              refine k_aload_n rfl ?_
              refine k_aload_n rfl ?_
              have t967 := t930.x e933
              have t968 := t967.x e947
              have X969 : ExC [0, 1, 2, 60, 61, 62, 63, 64, 65, 66, 67, 68, 70, 242, 243, 244, 999] σ0 σ944 := X939.tr (e947.mo (by decide))
              refine k_inv (P := P_X7_put) (Q := Q_X7_put) rfl rfl rfl rfl (Nat.le_of_ble_eq_true rfl) (t956.rc (by decide)) ⟨_, _, rfl, H946, t956, t968, (rd_cd.st H0 h_0_0 X969 R964.1 (by decide)), (R964.2.2.2.1 rd_at), (rd_bg.st H0 h_0_0 X969 R964 (by decide) (by omega) (by omega) (by omega))⟩ (fun w970 σ971 q972 => ?_)
              obtain ⟨a973, rfl, H974, e975, h977, R976, q978, q979⟩ := q972
              have c980 := (t956.mi e975 (by decide)).trans c953
              have c981 := (t956.mi e975 (by decide)).trans c959
              have z982 := congrArg Int32.toInt c980
              have z983 := congrArg Int32.toInt c981
              refine k_st (st' := [.inr (.inr (some a973))]) rfl ?_
              refine k_areturn ?_
              have X984 : ExC [0, 1, 2, 60, 61, 62, 63, 64, 65, 66, 67, 68, 70, 242, 243, 244, 999] σ0 σ971 := X969.tr (e975.mo (by decide))
              have R985 : RdC p0 none (-6) (2) (-999) σ0 σ971 := R964.tr ⟨R976.1, R976.2⟩ (by omega) (by omega) (by omega) (by omega)
              have S1001 : ∀ s, ReC σ0 p0 s → ReC σ971 p0 (accY s) := by
                intro s hs
                have f986 := q22 _ hs
                have f987 := q637 _ hs
                have f988 := q653 _ hs
                have y989 := q663 _ hs
                have y991 := y989.x H658.1 t679 e677 (by decide)
                have f992 := q693 _ y991
                have f993 := q709 _ y991
                have y994 := y991.x H676.1 t680 e904 (by decide)
                have f995 := q918 _ y994
                have y996 := y994.x H903.1 t906 e933 (by decide)
                have y997 := q950 _ y996
                have y999 := q979 _ y997
                refine y999.eq ?_
                try unfold tkY
                repeat (split <;> try (exfalso; omega))
                try unfold dpY
                repeat (split <;> try (exfalso; omega))
                all_goals rfl
              exact ⟨_, rfl, H974, X984, h977, (R985.mo (by omega) (by omega) (by omega)), (by omega), S1001⟩
            · refine k_nil ?_
              refine hB _ _ _ _ (kgoC (is := KX7_readLiteral_99) rfl ?_)
              refine k_iconst (m := 2) rfl (fun x1002 h1003 => ?_)
              refine k_goto ?_
              refine hB _ _ _ _ (kgoC (is := KX7_readLiteral_112) rfl ?_)
              have t1004 := t901.x e904
              refine k_putI kp68 H903 t1004 (Or.inl fk68) (tiC x1002).1 (tiC x1002).2 (fun σ1005 H1006 e1007 c1008 => ?_)
              refine k_aload_n rfl ?_
              have t1009 := t906.x e1007
              have R1010 : RdC p0 none (1) (1) (-1000) σ0 σ1005 := R909.tr ⟨(e1007.gw H903.1 (by decide)), (e1007.cou (u := 0) H903.1 t906 (by decide) (by rw [e1007.cn (by decide)]; omega))⟩ (by omega) (by omega) (by omega) (by omega)
              have c1011 := (t906.mi e1007 (by decide)).trans c908
              have R1012 := R1010.nf (-1000) (-1000) (by rw [c1011]; omega)
              have X1013 : ExC [0, 1, 2, 60, 61, 62, 63, 64, 65, 66, 67, 68, 70, 242, 243, 244, 999] σ0 σ1005 := X910.tr (e1007.mo (by decide))
              have c1014 := (t906.mi e1007 (by decide)).trans c921
              have z1015 := congrArg Int32.toInt c1014
              have z1016 := congrArg Int32.toInt c1011
              refine k_inv (P := P_X7_accept) (Q := Q_X7_accept) rfl rfl rfl rfl (Nat.le_of_ble_eq_true rfl) (t1009.rc (by decide)) ⟨_, rfl, H1006, t1009, (rd_cd.st H0 h_0_0 X1013 R1012.1 (by decide)), (R1012.2.2.2.1 rd_at), (rd_bg.stn H0 h_0_0 X1013 R1012 (by decide) (by rw [c1011]; omega) (by omega)), (by have ct := R1012.2.2.1; rw [c1011, c1014, ct]; omega)⟩ (fun w1017 σ1018 q1019 => ?_)
              obtain ⟨rfl, H1020, e1021, R1022, q1023, q1024⟩ := q1019
              have t1030 := t1009.x e1021
              obtain ⟨x1025, e1026, c1027, h1028, h1029⟩ := cg242 H1020.1 t1030
              obtain ⟨x1031, e1032, c1033, h1034, h1035⟩ := cg243 H1020.1 t1030
              have z1036 := congrArg Int32.toInt c1027
              have z1037 := congrArg Int32.toInt c1033
              refine k_st (st' := []) rfl ?_
              have R1038 : RdC p0 none (-7) (1) (-1000) σ0 σ1018 := R1012.tr ⟨R1022.1, R1022.2⟩ (by omega) (by omega) (by omega) (by omega)
              have z1039 := R1038.2.2.1
              have z1040 := R1038.2.2.2.1 rd_at
              refine k_aload_n rfl ?_
              refine k_aload_n rfl ?_
              have t1041 := t1004.x e1007
              have t1042 := t1041.x e1021
              have X1043 : ExC [0, 1, 2, 60, 61, 62, 63, 64, 65, 66, 67, 68, 70, 242, 243, 244, 999] σ0 σ1018 := X1013.tr (e1021.mo (by decide))
              refine k_inv (P := P_X7_put) (Q := Q_X7_put) rfl rfl rfl rfl (Nat.le_of_ble_eq_true rfl) (t1030.rc (by decide)) ⟨_, _, rfl, H1020, t1030, t1042, (rd_cd.st H0 h_0_0 X1043 R1038.1 (by decide)), (R1038.2.2.2.1 rd_at), (rd_bg.st H0 h_0_0 X1043 R1038 (by decide) (by omega) (by omega) (by omega))⟩ (fun w1044 σ1045 q1046 => ?_)
              obtain ⟨a1047, rfl, H1048, e1049, h1051, R1050, q1052, q1053⟩ := q1046
              have c1054 := (t1030.mi e1049 (by decide)).trans c1027
              have c1055 := (t1030.mi e1049 (by decide)).trans c1033
              have z1056 := congrArg Int32.toInt c1054
              have z1057 := congrArg Int32.toInt c1055
              refine k_st (st' := [.inr (.inr (some a1047))]) rfl ?_
              refine k_areturn ?_
              have X1058 : ExC [0, 1, 2, 60, 61, 62, 63, 64, 65, 66, 67, 68, 70, 242, 243, 244, 999] σ0 σ1045 := X1043.tr (e1049.mo (by decide))
              have R1059 : RdC p0 none (-6) (2) (-999) σ0 σ1045 := R1038.tr ⟨R1050.1, R1050.2⟩ (by omega) (by omega) (by omega) (by omega)
              have S1075 : ∀ s, ReC σ0 p0 s → ReC σ1045 p0 (accY s) := by
                intro s hs
                have f1060 := q22 _ hs
                have f1061 := q637 _ hs
                have f1062 := q653 _ hs
                have y1063 := q663 _ hs
                have y1065 := y1063.x H658.1 t679 e677 (by decide)
                have f1066 := q693 _ y1065
                have f1067 := q709 _ y1065
                have y1068 := y1065.x H676.1 t680 e904 (by decide)
                have f1069 := q918 _ y1068
                have y1070 := y1068.x H903.1 t906 e1007 (by decide)
                have y1071 := q1024 _ y1070
                have y1073 := q1053 _ y1071
                refine y1073.eq ?_
                try unfold tkY
                repeat (split <;> try (exfalso; omega))
                try unfold dpY
                repeat (split <;> try (exfalso; omega))
                all_goals rfl
              exact ⟨_, rfl, H1048, X1058, h1051, (R1059.mo (by omega) (by omega) (by omega)), (by omega), S1075⟩
        · refine k_nil ?_
          refine hB _ _ _ _ (kgoC (is := KX7_readLiteral_57) rfl ?_)
          refine k_lconst ?_
          refine k_goto ?_
          refine hB _ _ _ _ (kgoC (is := KX7_readLiteral_86) rfl ?_)
          have t1076 := h661.x e677
          refine k_putL kg71 H676 t1076 fk71 (fun σ1077 H1078 e1079 c1080 => ?_)
          refine k_aload_n rfl ?_
          refine k_aload_n rfl ?_
          have t1081 := t680.x e1079
          have R1082 : RdC p0 none (1) (1) (-1000) σ0 σ1077 := R683.tr ⟨(e1079.gw H676.1 (by decide)), (e1079.cou (u := 0) H676.1 t680 (by decide) (by rw [e1079.cn (by decide)]; omega))⟩ (by omega) (by omega) (by omega) (by omega)
          have c1083 := (t680.mi e1079 (by decide)).trans c682
          have R1084 := R1082.nf (-1000) (-1000) (by rw [c1083]; omega)
          have X1085 : ExC [0, 1, 2, 60, 61, 62, 63, 64, 65, 66, 67, 68, 70, 242, 243, 244, 999] σ0 σ1077 := X685.tr (e1079.mo (by decide))
          refine k_inv (P := P_X7_code) (Q := Q_X7_code) rfl rfl rfl rfl (Nat.le_of_ble_eq_true rfl) (t1081.rc (by decide)) ⟨_, rfl, H1078, t1081, (rd_cd.st H0 h_0_0 X1085 R1084.1 (by decide))⟩ (fun w1086 σ1087 q1088 => ?_)
          obtain ⟨x1089, rfl, rfl, q1090, q1091, q1092, q1093⟩ := q1088
          refine k_st (st' := [.inl x1089, .inr (.inr (some a657))]) rfl ?_
          have z1094 := R1084.2.2.1
          have z1095 := R1084.2.2.2.1 rd_at
          have c1096 := (t680.mi e1079 (by decide)).trans c696
          have z1097 := congrArg Int32.toInt c1096
          have z1098 := congrArg Int32.toInt c1083
          refine k_bipush (m := 83) rfl (fun x1099 h1100 => ?_)
          refine k_ic_ne (fun h1101 => ?_) (fun h1101 => ?_)
          · refine hB _ _ _ _ (kgoC (is := KX7_readLiteral_103) rfl ?_)
            refine k_iload_n rfl ?_
            refine k_if_eq (fun h1102 => ?_) (fun h1102 => by exfalso; omega)
            refine hB _ _ _ _ (kgoC (is := KX7_readLiteral_111) rfl ?_)
            refine k_iconst (m := 0) rfl (fun x1103 h1104 => ?_)
            refine k_nil ?_
            refine hB _ _ _ _ (kgoC (is := KX7_readLiteral_112) rfl ?_)
            have t1105 := t1076.x e1079
            refine k_putI kp68 H1078 t1105 (Or.inl fk68) (tiC x1103).1 (tiC x1103).2 (fun σ1106 H1107 e1108 c1109 => ?_)
            refine k_aload_n rfl ?_
            have t1110 := t1081.x e1108
            have R1111 : RdC p0 none (1) (1) (-1000) σ0 σ1106 := R1084.tr ⟨(e1108.gw H1078.1 (by decide)), (e1108.cou (u := 0) H1078.1 t1081 (by decide) (by rw [e1108.cn (by decide)]; omega))⟩ (by omega) (by omega) (by omega) (by omega)
            have c1112 := (t1081.mi e1108 (by decide)).trans c1083
            have R1113 := R1111.nf (-1000) (-1000) (by rw [c1112]; omega)
            have X1114 : ExC [0, 1, 2, 60, 61, 62, 63, 64, 65, 66, 67, 68, 70, 242, 243, 244, 999] σ0 σ1106 := X1085.tr (e1108.mo (by decide))
            have c1115 := (t1081.mi e1108 (by decide)).trans c1096
            have z1116 := congrArg Int32.toInt c1115
            have z1117 := congrArg Int32.toInt c1112
            refine k_inv (P := P_X7_accept) (Q := Q_X7_accept) rfl rfl rfl rfl (Nat.le_of_ble_eq_true rfl) (t1110.rc (by decide)) ⟨_, rfl, H1107, t1110, (rd_cd.st H0 h_0_0 X1114 R1113.1 (by decide)), (R1113.2.2.2.1 rd_at), (rd_bg.stn H0 h_0_0 X1114 R1113 (by decide) (by rw [c1112]; omega) (by omega)), (by have ct := R1113.2.2.1; rw [c1112, c1115, ct]; omega)⟩ (fun w1118 σ1119 q1120 => ?_)
            obtain ⟨rfl, H1121, e1122, R1123, q1124, q1125⟩ := q1120
            have t1131 := t1110.x e1122
            obtain ⟨x1126, e1127, c1128, h1129, h1130⟩ := cg242 H1121.1 t1131
            obtain ⟨x1132, e1133, c1134, h1135, h1136⟩ := cg243 H1121.1 t1131
            have z1137 := congrArg Int32.toInt c1128
            have z1138 := congrArg Int32.toInt c1134
            refine k_st (st' := []) rfl ?_
            have R1139 : RdC p0 none (-7) (1) (-1000) σ0 σ1119 := R1113.tr ⟨R1123.1, R1123.2⟩ (by omega) (by omega) (by omega) (by omega)
            have z1140 := R1139.2.2.1
            have z1141 := R1139.2.2.2.1 rd_at
            refine k_aload_n rfl ?_
            refine k_aload_n rfl ?_
            have t1142 := t1105.x e1108
            have t1143 := t1142.x e1122
            have X1144 : ExC [0, 1, 2, 60, 61, 62, 63, 64, 65, 66, 67, 68, 70, 242, 243, 244, 999] σ0 σ1119 := X1114.tr (e1122.mo (by decide))
            refine k_inv (P := P_X7_put) (Q := Q_X7_put) rfl rfl rfl rfl (Nat.le_of_ble_eq_true rfl) (t1131.rc (by decide)) ⟨_, _, rfl, H1121, t1131, t1143, (rd_cd.st H0 h_0_0 X1144 R1139.1 (by decide)), (R1139.2.2.2.1 rd_at), (rd_bg.st H0 h_0_0 X1144 R1139 (by decide) (by omega) (by omega) (by omega))⟩ (fun w1145 σ1146 q1147 => ?_)
            obtain ⟨a1148, rfl, H1149, e1150, h1152, R1151, q1153, q1154⟩ := q1147
            have c1155 := (t1131.mi e1150 (by decide)).trans c1128
            have c1156 := (t1131.mi e1150 (by decide)).trans c1134
            have z1157 := congrArg Int32.toInt c1155
            have z1158 := congrArg Int32.toInt c1156
            refine k_st (st' := [.inr (.inr (some a1148))]) rfl ?_
            refine k_areturn ?_
            have X1159 : ExC [0, 1, 2, 60, 61, 62, 63, 64, 65, 66, 67, 68, 70, 242, 243, 244, 999] σ0 σ1146 := X1144.tr (e1150.mo (by decide))
            have R1160 : RdC p0 none (-6) (2) (-999) σ0 σ1146 := R1139.tr ⟨R1151.1, R1151.2⟩ (by omega) (by omega) (by omega) (by omega)
            have S1175 : ∀ s, ReC σ0 p0 s → ReC σ1146 p0 (accY s) := by
              intro s hs
              have f1161 := q22 _ hs
              have f1162 := q637 _ hs
              have f1163 := q653 _ hs
              have y1164 := q663 _ hs
              have y1166 := y1164.x H658.1 t679 e677 (by decide)
              have f1167 := q693 _ y1166
              have y1168 := y1166.x H676.1 t680 e1079 (by decide)
              have f1169 := q1093 _ y1168
              have y1170 := y1168.x H1078.1 t1081 e1108 (by decide)
              have y1171 := q1125 _ y1170
              have y1173 := q1154 _ y1171
              refine y1173.eq ?_
              try unfold tkY
              repeat (split <;> try (exfalso; omega))
              try unfold dpY
              repeat (split <;> try (exfalso; omega))
              all_goals rfl
            exact ⟨_, rfl, H1149, X1159, h1152, (R1160.mo (by omega) (by omega) (by omega)), (by omega), S1175⟩
          · refine k_nil ?_
            refine hB _ _ _ _ (kgoC (is := KX7_readLiteral_99) rfl ?_)
            refine k_iconst (m := 2) rfl (fun x1176 h1177 => ?_)
            refine k_goto ?_
            refine hB _ _ _ _ (kgoC (is := KX7_readLiteral_112) rfl ?_)
            have t1178 := t1076.x e1079
            refine k_putI kp68 H1078 t1178 (Or.inl fk68) (tiC x1176).1 (tiC x1176).2 (fun σ1179 H1180 e1181 c1182 => ?_)
            refine k_aload_n rfl ?_
            have t1183 := t1081.x e1181
            have R1184 : RdC p0 none (1) (1) (-1000) σ0 σ1179 := R1084.tr ⟨(e1181.gw H1078.1 (by decide)), (e1181.cou (u := 0) H1078.1 t1081 (by decide) (by rw [e1181.cn (by decide)]; omega))⟩ (by omega) (by omega) (by omega) (by omega)
            have c1185 := (t1081.mi e1181 (by decide)).trans c1083
            have R1186 := R1184.nf (-1000) (-1000) (by rw [c1185]; omega)
            have X1187 : ExC [0, 1, 2, 60, 61, 62, 63, 64, 65, 66, 67, 68, 70, 242, 243, 244, 999] σ0 σ1179 := X1085.tr (e1181.mo (by decide))
            have c1188 := (t1081.mi e1181 (by decide)).trans c1096
            have z1189 := congrArg Int32.toInt c1188
            have z1190 := congrArg Int32.toInt c1185
            refine k_inv (P := P_X7_accept) (Q := Q_X7_accept) rfl rfl rfl rfl (Nat.le_of_ble_eq_true rfl) (t1183.rc (by decide)) ⟨_, rfl, H1180, t1183, (rd_cd.st H0 h_0_0 X1187 R1186.1 (by decide)), (R1186.2.2.2.1 rd_at), (rd_bg.stn H0 h_0_0 X1187 R1186 (by decide) (by rw [c1185]; omega) (by omega)), (by have ct := R1186.2.2.1; rw [c1185, c1188, ct]; omega)⟩ (fun w1191 σ1192 q1193 => ?_)
            obtain ⟨rfl, H1194, e1195, R1196, q1197, q1198⟩ := q1193
            have t1204 := t1183.x e1195
            obtain ⟨x1199, e1200, c1201, h1202, h1203⟩ := cg242 H1194.1 t1204
            obtain ⟨x1205, e1206, c1207, h1208, h1209⟩ := cg243 H1194.1 t1204
            have z1210 := congrArg Int32.toInt c1201
            have z1211 := congrArg Int32.toInt c1207
            refine k_st (st' := []) rfl ?_
            have R1212 : RdC p0 none (-7) (1) (-1000) σ0 σ1192 := R1186.tr ⟨R1196.1, R1196.2⟩ (by omega) (by omega) (by omega) (by omega)
            have z1213 := R1212.2.2.1
            have z1214 := R1212.2.2.2.1 rd_at
            refine k_aload_n rfl ?_
            refine k_aload_n rfl ?_
            have t1215 := t1178.x e1181
            have t1216 := t1215.x e1195
            have X1217 : ExC [0, 1, 2, 60, 61, 62, 63, 64, 65, 66, 67, 68, 70, 242, 243, 244, 999] σ0 σ1192 := X1187.tr (e1195.mo (by decide))
            refine k_inv (P := P_X7_put) (Q := Q_X7_put) rfl rfl rfl rfl (Nat.le_of_ble_eq_true rfl) (t1204.rc (by decide)) ⟨_, _, rfl, H1194, t1204, t1216, (rd_cd.st H0 h_0_0 X1217 R1212.1 (by decide)), (R1212.2.2.2.1 rd_at), (rd_bg.st H0 h_0_0 X1217 R1212 (by decide) (by omega) (by omega) (by omega))⟩ (fun w1218 σ1219 q1220 => ?_)
            obtain ⟨a1221, rfl, H1222, e1223, h1225, R1224, q1226, q1227⟩ := q1220
            have c1228 := (t1204.mi e1223 (by decide)).trans c1201
            have c1229 := (t1204.mi e1223 (by decide)).trans c1207
            have z1230 := congrArg Int32.toInt c1228
            have z1231 := congrArg Int32.toInt c1229
            refine k_st (st' := [.inr (.inr (some a1221))]) rfl ?_
            refine k_areturn ?_
            have X1232 : ExC [0, 1, 2, 60, 61, 62, 63, 64, 65, 66, 67, 68, 70, 242, 243, 244, 999] σ0 σ1219 := X1217.tr (e1223.mo (by decide))
            have R1233 : RdC p0 none (-6) (2) (-999) σ0 σ1219 := R1212.tr ⟨R1224.1, R1224.2⟩ (by omega) (by omega) (by omega) (by omega)
            have S1248 : ∀ s, ReC σ0 p0 s → ReC σ1219 p0 (accY s) := by
              intro s hs
              have f1234 := q22 _ hs
              have f1235 := q637 _ hs
              have f1236 := q653 _ hs
              have y1237 := q663 _ hs
              have y1239 := y1237.x H658.1 t679 e677 (by decide)
              have f1240 := q693 _ y1239
              have y1241 := y1239.x H676.1 t680 e1079 (by decide)
              have f1242 := q1093 _ y1241
              have y1243 := y1241.x H1078.1 t1081 e1181 (by decide)
              have y1244 := q1198 _ y1243
              have y1246 := q1227 _ y1244
              refine y1246.eq ?_
              try unfold tkY
              repeat (split <;> try (exfalso; omega))
              try unfold dpY
              repeat (split <;> try (exfalso; omega))
              all_goals rfl
            exact ⟨_, rfl, H1222, X1232, h1225, (R1233.mo (by omega) (by omega) (by omega)), (by omega), S1248⟩
      · refine k_nil ?_
        refine hB _ _ _ _ (kgoC (is := KX7_readLiteral_18) rfl ?_)
        refine k_iconst (m := 1) rfl (fun x1249 h1250 => ?_)
        refine k_goto ?_
        refine hB _ _ _ _ (kgoC (is := KX7_readLiteral_23) rfl ?_)
        refine k_istore_n (ls' := [(1, .inl x1249), (0, .inr (.inr (some p0)))]) rfl ?_
        refine k_aload_n rfl ?_
        refine k_iload_n rfl ?_
        refine k_if_eq (fun h1251 => by exfalso; omega) (fun h1251 => ?_)
        refine k_nil ?_
        refine hB _ _ _ _ (kgoC (is := KX7_readLiteral_29) rfl ?_)
        refine k_iconst (m := 0) rfl (fun x1252 h1253 => ?_)
        refine k_goto ?_
        refine hB _ _ _ _ (kgoC (is := KX7_readLiteral_34) rfl ?_)
        refine k_aload_n rfl ?_
        refine k_inv (P := P_X7_code) (Q := Q_X7_code) rfl rfl rfl rfl (Nat.le_of_ble_eq_true rfl) (h_0_0.rc (by decide)) ⟨_, rfl, H0, h_0_0, (rd_cd.st H0 h_0_0 (ExC.rf : ExC [0, 1, 2, 60, 61, 62, 63, 64, 65, 66, 67, 68, 70, 242, 243, 244, 999] σ0 σ0) R14.1 (by decide))⟩ (fun w1254 σ1255 q1256 => ?_)
        obtain ⟨x1257, rfl, rfl, q1258, q1259, q1260, q1261⟩ := q1256
        refine k_st (st' := [.inl x1257, .inl x1252, .inr (.inr (some p0))]) rfl ?_
        refine k_inv (P := P_X7_opened) (Q := Q_X7_opened) rfl rfl rfl rfl (Nat.le_of_ble_eq_true rfl) (h_0_0.rc (by decide)) ⟨_, _, _, rfl, H0, h_0_0, (rd_cd.st H0 h_0_0 (ExC.rf : ExC [0, 1, 2, 60, 61, 62, 63, 64, 65, 66, 67, 68, 70, 242, 243, 244, 999] σ0 σ0) R14.1 (by decide)), (R14.2.2.2.1 rd_at), (rd_bg.stn H0 h_0_0 (ExC.rf : ExC [0, 1, 2, 60, 61, 62, 63, 64, 65, 66, 67, 68, 70, 242, 243, 244, 999] σ0 σ0) R14 (by decide) (by rw [c8]; omega) (by omega)), (by omega)⟩ (fun w1262 σ1263 q1264 => ?_)
        obtain ⟨a1265, rfl, H1266, e1267, h1269, R1268, q1270, q1271⟩ := q1264
        have c1272 := (h_0_0.mi e1267 (by decide)).trans c3
        have c1273 := (h_0_0.mi e1267 (by decide)).trans c8
        have z1274 := congrArg Int32.toInt c1272
        have z1275 := congrArg Int32.toInt c1273
        refine k_st (st' := [.inr (.inr (some a1265))]) rfl ?_
        have z1276 := R14.1.1
        have R1277 : RdC p0 none (1) (1) (-999) σ0 σ1263 := R14.tr ⟨R1268.1, R1268.2⟩ (by omega) (by omega) (by omega) (by omega)
        have R1278 := R1277.nf (-1000) (-1000) (by rw [c1273]; omega)
        have z1279 := R1278.2.2.1
        have z1280 := R1278.2.2.2.1 rd_at
        refine k_astore_n (ls' := [(2, .inr (.inr (some a1265))), (1, .inl x1249), (0, .inr (.inr (some p0)))]) rfl ?_
        refine k_aload_n rfl ?_
        refine k_iconst (m := 1) rfl (fun x1281 h1282 => ?_)
        refine k_putI kp70 H1266 h1269 (Or.inr ⟨fk70, b01C (by omega) (by omega)⟩) (by show 0 ≤ _; omega) (by show _ ≤ 1; omega) (fun σ1283 H1284 e1285 c1286 => ?_)
        refine k_aload_n rfl ?_
        refine k_aload_n rfl ?_
        have t1287 := h_0_0.x e1267
        have t1288 := t1287.x e1285
        have R1289 : RdC p0 none (1) (1) (-1000) σ0 σ1283 := R1278.tr ⟨(e1285.gw H1266.1 (by decide)), (e1285.cou (u := 0) H1266.1 t1287 (by decide) (by rw [e1285.cn (by decide)]; omega))⟩ (by omega) (by omega) (by omega) (by omega)
        have c1290 := (t1287.mi e1285 (by decide)).trans c1273
        have R1291 := R1289.nf (-1000) (-1000) (by rw [c1290]; omega)
        have X1292 : ExC [0, 1, 2, 60, 61, 62, 63, 64, 65, 66, 67, 68, 70, 242, 243, 244, 999] σ0 σ1263 := ExC.rf.tr (e1267.mo (by decide))
        have X1293 : ExC [0, 1, 2, 60, 61, 62, 63, 64, 65, 66, 67, 68, 70, 242, 243, 244, 999] σ0 σ1283 := X1292.tr (e1285.mo (by decide))
        refine k_inv (P := P_X7_code) (Q := Q_X7_code) rfl rfl rfl rfl (Nat.le_of_ble_eq_true rfl) (t1288.rc (by decide)) ⟨_, rfl, H1284, t1288, (rd_cd.st H0 h_0_0 X1293 R1291.1 (by decide))⟩ (fun w1294 σ1295 q1296 => ?_)
        obtain ⟨x1297, rfl, rfl, q1298, q1299, q1300, q1301⟩ := q1296
        refine k_st (st' := [.inl x1297, .inr (.inr (some a1265))]) rfl ?_
        have z1302 := R1291.2.2.1
        have z1303 := R1291.2.2.2.1 rd_at
        have c1304 := (t1287.mi e1285 (by decide)).trans c1272
        have z1305 := congrArg Int32.toInt c1304
        have z1306 := congrArg Int32.toInt c1290
        refine k_bipush (m := 72) rfl (fun x1307 h1308 => ?_)
        refine k_ic_ne (fun h1309 => ?_) (fun h1309 => ?_)
        · refine hB _ _ _ _ (kgoC (is := KX7_readLiteral_61) rfl ?_)
          refine k_aload_n rfl ?_
          refine k_inv (P := P_X7_code) (Q := Q_X7_code) rfl rfl rfl rfl (Nat.le_of_ble_eq_true rfl) (t1288.rc (by decide)) ⟨_, rfl, H1284, t1288, (rd_cd.st H0 h_0_0 X1293 R1291.1 (by decide))⟩ (fun w1310 σ1311 q1312 => ?_)
          obtain ⟨x1313, rfl, rfl, q1314, q1315, q1316, q1317⟩ := q1312
          refine k_st (st' := [.inl x1313, .inr (.inr (some a1265))]) rfl ?_
          refine k_bipush (m := 73) rfl (fun x1318 h1319 => ?_)
          refine k_ic_ne (fun h1320 => ?_) (fun h1320 => ?_)
          · refine hB _ _ _ _ (kgoC (is := KX7_readLiteral_74) rfl ?_)
            refine k_aload_n rfl ?_
            obtain ⟨a1323, e1321, c1322, t1324⟩ := cg241 H1284.1 t1288
            refine k_get kg241 t1288 e1321 ?_
            obtain ⟨a1327, e1325, c1326, t1328, l1329, l1330⟩ := cg304 H1284.1 t1324
            refine k_get kg304 t1324 e1325 ?_
            refine k_aload_n rfl ?_
            refine k_get kg242 t1288 (congrArg (Sum.inl : Int32 → AvC) c1304) ?_
            refine k_laload t1328 (by omega) (by omega) (fun y1331 => ?_)
            refine k_nil ?_
            refine hB _ _ _ _ (kgoC (is := KX7_readLiteral_86) rfl ?_)
            have t1332 := h1269.x e1285
            refine k_putL kg71 H1284 t1332 fk71 (fun σ1333 H1334 e1335 c1336 => ?_)
            refine k_aload_n rfl ?_
            refine k_aload_n rfl ?_
            have t1337 := t1288.x e1335
            have R1338 : RdC p0 none (1) (1) (-1000) σ0 σ1333 := R1291.tr ⟨(e1335.gw H1284.1 (by decide)), (e1335.cou (u := 0) H1284.1 t1288 (by decide) (by rw [e1335.cn (by decide)]; omega))⟩ (by omega) (by omega) (by omega) (by omega)
            have c1339 := (t1288.mi e1335 (by decide)).trans c1290
            have R1340 := R1338.nf (-1000) (-1000) (by rw [c1339]; omega)
            have X1341 : ExC [0, 1, 2, 60, 61, 62, 63, 64, 65, 66, 67, 68, 70, 242, 243, 244, 999] σ0 σ1333 := X1293.tr (e1335.mo (by decide))
            refine k_inv (P := P_X7_code) (Q := Q_X7_code) rfl rfl rfl rfl (Nat.le_of_ble_eq_true rfl) (t1337.rc (by decide)) ⟨_, rfl, H1334, t1337, (rd_cd.st H0 h_0_0 X1341 R1340.1 (by decide))⟩ (fun w1342 σ1343 q1344 => ?_)
            obtain ⟨x1345, rfl, rfl, q1346, q1347, q1348, q1349⟩ := q1344
            refine k_st (st' := [.inl x1345, .inr (.inr (some a1265))]) rfl ?_
            have z1350 := R1340.2.2.1
            have z1351 := R1340.2.2.2.1 rd_at
            have c1352 := (t1288.mi e1335 (by decide)).trans c1304
            have z1353 := congrArg Int32.toInt c1352
            have z1354 := congrArg Int32.toInt c1339
            refine k_bipush (m := 83) rfl (fun x1355 h1356 => ?_)
            refine k_ic_ne (fun h1357 => ?_) (fun h1357 => ?_)
            · refine hB _ _ _ _ (kgoC (is := KX7_readLiteral_103) rfl ?_)
              refine k_iload_n rfl ?_
              refine k_if_eq (fun h1358 => by exfalso; omega) (fun h1358 => ?_)
              refine k_nil ?_
              refine hB _ _ _ _ (kgoC (is := KX7_readLiteral_107) rfl ?_)
              refine k_iconst (m := (-1)) rfl (fun x1359 h1360 => ?_)
              refine k_goto ?_
              refine hB _ _ _ _ (kgoC (is := KX7_readLiteral_112) rfl ?_)
              have t1361 := t1332.x e1335
              refine k_putI kp68 H1334 t1361 (Or.inl fk68) (tiC x1359).1 (tiC x1359).2 (fun σ1362 H1363 e1364 c1365 => ?_)
              refine k_aload_n rfl ?_
              have t1366 := t1337.x e1364
              have R1367 : RdC p0 none (1) (1) (-1000) σ0 σ1362 := R1340.tr ⟨(e1364.gw H1334.1 (by decide)), (e1364.cou (u := 0) H1334.1 t1337 (by decide) (by rw [e1364.cn (by decide)]; omega))⟩ (by omega) (by omega) (by omega) (by omega)
              have c1368 := (t1337.mi e1364 (by decide)).trans c1339
              have R1369 := R1367.nf (-1000) (-1000) (by rw [c1368]; omega)
              have X1370 : ExC [0, 1, 2, 60, 61, 62, 63, 64, 65, 66, 67, 68, 70, 242, 243, 244, 999] σ0 σ1362 := X1341.tr (e1364.mo (by decide))
              have c1371 := (t1337.mi e1364 (by decide)).trans c1352
              have z1372 := congrArg Int32.toInt c1371
              have z1373 := congrArg Int32.toInt c1368
              refine k_inv (P := P_X7_accept) (Q := Q_X7_accept) rfl rfl rfl rfl (Nat.le_of_ble_eq_true rfl) (t1366.rc (by decide)) ⟨_, rfl, H1363, t1366, (rd_cd.st H0 h_0_0 X1370 R1369.1 (by decide)), (R1369.2.2.2.1 rd_at), (rd_bg.stn H0 h_0_0 X1370 R1369 (by decide) (by rw [c1368]; omega) (by omega)), (by have ct := R1369.2.2.1; rw [c1368, c1371, ct]; omega)⟩ (fun w1374 σ1375 q1376 => ?_)
              obtain ⟨rfl, H1377, e1378, R1379, q1380, q1381⟩ := q1376
              have t1387 := t1366.x e1378
              obtain ⟨x1382, e1383, c1384, h1385, h1386⟩ := cg242 H1377.1 t1387
              obtain ⟨x1388, e1389, c1390, h1391, h1392⟩ := cg243 H1377.1 t1387
              have z1393 := congrArg Int32.toInt c1384
              have z1394 := congrArg Int32.toInt c1390
              refine k_st (st' := []) rfl ?_
              have R1395 : RdC p0 none (-7) (1) (-1000) σ0 σ1375 := R1369.tr ⟨R1379.1, R1379.2⟩ (by omega) (by omega) (by omega) (by omega)
              have z1396 := R1395.2.2.1
              have z1397 := R1395.2.2.2.1 rd_at
              refine k_aload_n rfl ?_
              refine k_aload_n rfl ?_
              have t1398 := t1361.x e1364
              have t1399 := t1398.x e1378
              have X1400 : ExC [0, 1, 2, 60, 61, 62, 63, 64, 65, 66, 67, 68, 70, 242, 243, 244, 999] σ0 σ1375 := X1370.tr (e1378.mo (by decide))
              refine k_inv (P := P_X7_put) (Q := Q_X7_put) rfl rfl rfl rfl (Nat.le_of_ble_eq_true rfl) (t1387.rc (by decide)) ⟨_, _, rfl, H1377, t1387, t1399, (rd_cd.st H0 h_0_0 X1400 R1395.1 (by decide)), (R1395.2.2.2.1 rd_at), (rd_bg.st H0 h_0_0 X1400 R1395 (by decide) (by omega) (by omega) (by omega))⟩ (fun w1401 σ1402 q1403 => ?_)
              obtain ⟨a1404, rfl, H1405, e1406, h1408, R1407, q1409, q1410⟩ := q1403
              have c1411 := (t1387.mi e1406 (by decide)).trans c1384
              have c1412 := (t1387.mi e1406 (by decide)).trans c1390
              have z1413 := congrArg Int32.toInt c1411
              have z1414 := congrArg Int32.toInt c1412
              refine k_st (st' := [.inr (.inr (some a1404))]) rfl ?_
              refine k_areturn ?_
              have X1415 : ExC [0, 1, 2, 60, 61, 62, 63, 64, 65, 66, 67, 68, 70, 242, 243, 244, 999] σ0 σ1402 := X1400.tr (e1406.mo (by decide))
              have R1416 : RdC p0 none (-6) (2) (-999) σ0 σ1402 := R1395.tr ⟨R1407.1, R1407.2⟩ (by omega) (by omega) (by omega) (by omega)
              have S1433 : ∀ s, ReC σ0 p0 s → ReC σ1402 p0 (accY s) := by
                intro s hs
                have f1417 := q22 _ hs
                have f1418 := q637 _ hs
                have f1419 := q1261 _ hs
                have y1420 := q1271 _ hs
                have y1422 := y1420.x H1266.1 t1287 e1285 (by decide)
                have f1423 := q1301 _ y1422
                have f1424 := q1317 _ y1422
                have f1425 := y1422.at_ c1304
                have y1426 := y1422.x H1284.1 t1288 e1335 (by decide)
                have f1427 := q1349 _ y1426
                have y1428 := y1426.x H1334.1 t1337 e1364 (by decide)
                have y1429 := q1381 _ y1428
                have y1431 := q1410 _ y1429
                refine y1431.eq ?_
                try unfold tkY
                repeat (split <;> try (exfalso; omega))
                try unfold dpY
                repeat (split <;> try (exfalso; omega))
                all_goals rfl
              exact ⟨_, rfl, H1405, X1415, h1408, (R1416.mo (by omega) (by omega) (by omega)), (by omega), S1433⟩
            · refine k_nil ?_
              refine hB _ _ _ _ (kgoC (is := KX7_readLiteral_99) rfl ?_)
              refine k_iconst (m := 2) rfl (fun x1434 h1435 => ?_)
              refine k_goto ?_
              refine hB _ _ _ _ (kgoC (is := KX7_readLiteral_112) rfl ?_)
              have t1436 := t1332.x e1335
              refine k_putI kp68 H1334 t1436 (Or.inl fk68) (tiC x1434).1 (tiC x1434).2 (fun σ1437 H1438 e1439 c1440 => ?_)
              refine k_aload_n rfl ?_
              have t1441 := t1337.x e1439
              have R1442 : RdC p0 none (1) (1) (-1000) σ0 σ1437 := R1340.tr ⟨(e1439.gw H1334.1 (by decide)), (e1439.cou (u := 0) H1334.1 t1337 (by decide) (by rw [e1439.cn (by decide)]; omega))⟩ (by omega) (by omega) (by omega) (by omega)
              have c1443 := (t1337.mi e1439 (by decide)).trans c1339
              have R1444 := R1442.nf (-1000) (-1000) (by rw [c1443]; omega)
              have X1445 : ExC [0, 1, 2, 60, 61, 62, 63, 64, 65, 66, 67, 68, 70, 242, 243, 244, 999] σ0 σ1437 := X1341.tr (e1439.mo (by decide))
              have c1446 := (t1337.mi e1439 (by decide)).trans c1352
              have z1447 := congrArg Int32.toInt c1446
              have z1448 := congrArg Int32.toInt c1443
              refine k_inv (P := P_X7_accept) (Q := Q_X7_accept) rfl rfl rfl rfl (Nat.le_of_ble_eq_true rfl) (t1441.rc (by decide)) ⟨_, rfl, H1438, t1441, (rd_cd.st H0 h_0_0 X1445 R1444.1 (by decide)), (R1444.2.2.2.1 rd_at), (rd_bg.stn H0 h_0_0 X1445 R1444 (by decide) (by rw [c1443]; omega) (by omega)), (by have ct := R1444.2.2.1; rw [c1443, c1446, ct]; omega)⟩ (fun w1449 σ1450 q1451 => ?_)
              obtain ⟨rfl, H1452, e1453, R1454, q1455, q1456⟩ := q1451
              have t1462 := t1441.x e1453
              obtain ⟨x1457, e1458, c1459, h1460, h1461⟩ := cg242 H1452.1 t1462
              obtain ⟨x1463, e1464, c1465, h1466, h1467⟩ := cg243 H1452.1 t1462
              have z1468 := congrArg Int32.toInt c1459
              have z1469 := congrArg Int32.toInt c1465
              refine k_st (st' := []) rfl ?_
              have R1470 : RdC p0 none (-7) (1) (-1000) σ0 σ1450 := R1444.tr ⟨R1454.1, R1454.2⟩ (by omega) (by omega) (by omega) (by omega)
              have z1471 := R1470.2.2.1
              have z1472 := R1470.2.2.2.1 rd_at
              refine k_aload_n rfl ?_
              refine k_aload_n rfl ?_
              have t1473 := t1436.x e1439
              have t1474 := t1473.x e1453
              have X1475 : ExC [0, 1, 2, 60, 61, 62, 63, 64, 65, 66, 67, 68, 70, 242, 243, 244, 999] σ0 σ1450 := X1445.tr (e1453.mo (by decide))
              refine k_inv (P := P_X7_put) (Q := Q_X7_put) rfl rfl rfl rfl (Nat.le_of_ble_eq_true rfl) (t1462.rc (by decide)) ⟨_, _, rfl, H1452, t1462, t1474, (rd_cd.st H0 h_0_0 X1475 R1470.1 (by decide)), (R1470.2.2.2.1 rd_at), (rd_bg.st H0 h_0_0 X1475 R1470 (by decide) (by omega) (by omega) (by omega))⟩ (fun w1476 σ1477 q1478 => ?_)
              obtain ⟨a1479, rfl, H1480, e1481, h1483, R1482, q1484, q1485⟩ := q1478
              have c1486 := (t1462.mi e1481 (by decide)).trans c1459
              have c1487 := (t1462.mi e1481 (by decide)).trans c1465
              have z1488 := congrArg Int32.toInt c1486
              have z1489 := congrArg Int32.toInt c1487
              refine k_st (st' := [.inr (.inr (some a1479))]) rfl ?_
              refine k_areturn ?_
              have X1490 : ExC [0, 1, 2, 60, 61, 62, 63, 64, 65, 66, 67, 68, 70, 242, 243, 244, 999] σ0 σ1477 := X1475.tr (e1481.mo (by decide))
              have R1491 : RdC p0 none (-6) (2) (-999) σ0 σ1477 := R1470.tr ⟨R1482.1, R1482.2⟩ (by omega) (by omega) (by omega) (by omega)
              have S1508 : ∀ s, ReC σ0 p0 s → ReC σ1477 p0 (accY s) := by
                intro s hs
                have f1492 := q22 _ hs
                have f1493 := q637 _ hs
                have f1494 := q1261 _ hs
                have y1495 := q1271 _ hs
                have y1497 := y1495.x H1266.1 t1287 e1285 (by decide)
                have f1498 := q1301 _ y1497
                have f1499 := q1317 _ y1497
                have f1500 := y1497.at_ c1304
                have y1501 := y1497.x H1284.1 t1288 e1335 (by decide)
                have f1502 := q1349 _ y1501
                have y1503 := y1501.x H1334.1 t1337 e1439 (by decide)
                have y1504 := q1456 _ y1503
                have y1506 := q1485 _ y1504
                refine y1506.eq ?_
                try unfold tkY
                repeat (split <;> try (exfalso; omega))
                try unfold dpY
                repeat (split <;> try (exfalso; omega))
                all_goals rfl
              exact ⟨_, rfl, H1480, X1490, h1483, (R1491.mo (by omega) (by omega) (by omega)), (by omega), S1508⟩
          · refine k_nil ?_
            refine hB _ _ _ _ (kgoC (is := KX7_readLiteral_70) rfl ?_)
            refine k_lconst ?_
            refine k_goto ?_
            refine hB _ _ _ _ (kgoC (is := KX7_readLiteral_86) rfl ?_)
            have t1509 := h1269.x e1285
            refine k_putL kg71 H1284 t1509 fk71 (fun σ1510 H1511 e1512 c1513 => ?_)
            refine k_aload_n rfl ?_
            refine k_aload_n rfl ?_
            have t1514 := t1288.x e1512
            have R1515 : RdC p0 none (1) (1) (-1000) σ0 σ1510 := R1291.tr ⟨(e1512.gw H1284.1 (by decide)), (e1512.cou (u := 0) H1284.1 t1288 (by decide) (by rw [e1512.cn (by decide)]; omega))⟩ (by omega) (by omega) (by omega) (by omega)
            have c1516 := (t1288.mi e1512 (by decide)).trans c1290
            have R1517 := R1515.nf (-1000) (-1000) (by rw [c1516]; omega)
            have X1518 : ExC [0, 1, 2, 60, 61, 62, 63, 64, 65, 66, 67, 68, 70, 242, 243, 244, 999] σ0 σ1510 := X1293.tr (e1512.mo (by decide))
            refine k_inv (P := P_X7_code) (Q := Q_X7_code) rfl rfl rfl rfl (Nat.le_of_ble_eq_true rfl) (t1514.rc (by decide)) ⟨_, rfl, H1511, t1514, (rd_cd.st H0 h_0_0 X1518 R1517.1 (by decide))⟩ (fun w1519 σ1520 q1521 => ?_)
            obtain ⟨x1522, rfl, rfl, q1523, q1524, q1525, q1526⟩ := q1521
            refine k_st (st' := [.inl x1522, .inr (.inr (some a1265))]) rfl ?_
            have z1527 := R1517.2.2.1
            have z1528 := R1517.2.2.2.1 rd_at
            have c1529 := (t1288.mi e1512 (by decide)).trans c1304
            have z1530 := congrArg Int32.toInt c1529
            have z1531 := congrArg Int32.toInt c1516
            refine k_bipush (m := 83) rfl (fun x1532 h1533 => ?_)
            refine k_ic_ne (fun h1534 => ?_) (fun h1534 => ?_)
            · refine hB _ _ _ _ (kgoC (is := KX7_readLiteral_103) rfl ?_)
              refine k_iload_n rfl ?_
              refine k_if_eq (fun h1535 => by exfalso; omega) (fun h1535 => ?_)
              refine k_nil ?_
              refine hB _ _ _ _ (kgoC (is := KX7_readLiteral_107) rfl ?_)
              refine k_iconst (m := (-1)) rfl (fun x1536 h1537 => ?_)
              refine k_goto ?_
              refine hB _ _ _ _ (kgoC (is := KX7_readLiteral_112) rfl ?_)
              have t1538 := t1509.x e1512
              refine k_putI kp68 H1511 t1538 (Or.inl fk68) (tiC x1536).1 (tiC x1536).2 (fun σ1539 H1540 e1541 c1542 => ?_)
              refine k_aload_n rfl ?_
              have t1543 := t1514.x e1541
              have R1544 : RdC p0 none (1) (1) (-1000) σ0 σ1539 := R1517.tr ⟨(e1541.gw H1511.1 (by decide)), (e1541.cou (u := 0) H1511.1 t1514 (by decide) (by rw [e1541.cn (by decide)]; omega))⟩ (by omega) (by omega) (by omega) (by omega)
              have c1545 := (t1514.mi e1541 (by decide)).trans c1516
              have R1546 := R1544.nf (-1000) (-1000) (by rw [c1545]; omega)
              have X1547 : ExC [0, 1, 2, 60, 61, 62, 63, 64, 65, 66, 67, 68, 70, 242, 243, 244, 999] σ0 σ1539 := X1518.tr (e1541.mo (by decide))
              have c1548 := (t1514.mi e1541 (by decide)).trans c1529
              have z1549 := congrArg Int32.toInt c1548
              have z1550 := congrArg Int32.toInt c1545
              refine k_inv (P := P_X7_accept) (Q := Q_X7_accept) rfl rfl rfl rfl (Nat.le_of_ble_eq_true rfl) (t1543.rc (by decide)) ⟨_, rfl, H1540, t1543, (rd_cd.st H0 h_0_0 X1547 R1546.1 (by decide)), (R1546.2.2.2.1 rd_at), (rd_bg.stn H0 h_0_0 X1547 R1546 (by decide) (by rw [c1545]; omega) (by omega)), (by have ct := R1546.2.2.1; rw [c1545, c1548, ct]; omega)⟩ (fun w1551 σ1552 q1553 => ?_)
              obtain ⟨rfl, H1554, e1555, R1556, q1557, q1558⟩ := q1553
              have t1564 := t1543.x e1555
              obtain ⟨x1559, e1560, c1561, h1562, h1563⟩ := cg242 H1554.1 t1564
              obtain ⟨x1565, e1566, c1567, h1568, h1569⟩ := cg243 H1554.1 t1564
              have z1570 := congrArg Int32.toInt c1561
              have z1571 := congrArg Int32.toInt c1567
              refine k_st (st' := []) rfl ?_
              have R1572 : RdC p0 none (-7) (1) (-1000) σ0 σ1552 := R1546.tr ⟨R1556.1, R1556.2⟩ (by omega) (by omega) (by omega) (by omega)
              have z1573 := R1572.2.2.1
              have z1574 := R1572.2.2.2.1 rd_at
              refine k_aload_n rfl ?_
              refine k_aload_n rfl ?_
              have t1575 := t1538.x e1541
              have t1576 := t1575.x e1555
              have X1577 : ExC [0, 1, 2, 60, 61, 62, 63, 64, 65, 66, 67, 68, 70, 242, 243, 244, 999] σ0 σ1552 := X1547.tr (e1555.mo (by decide))
              refine k_inv (P := P_X7_put) (Q := Q_X7_put) rfl rfl rfl rfl (Nat.le_of_ble_eq_true rfl) (t1564.rc (by decide)) ⟨_, _, rfl, H1554, t1564, t1576, (rd_cd.st H0 h_0_0 X1577 R1572.1 (by decide)), (R1572.2.2.2.1 rd_at), (rd_bg.st H0 h_0_0 X1577 R1572 (by decide) (by omega) (by omega) (by omega))⟩ (fun w1578 σ1579 q1580 => ?_)
              obtain ⟨a1581, rfl, H1582, e1583, h1585, R1584, q1586, q1587⟩ := q1580
              have c1588 := (t1564.mi e1583 (by decide)).trans c1561
              have c1589 := (t1564.mi e1583 (by decide)).trans c1567
              have z1590 := congrArg Int32.toInt c1588
              have z1591 := congrArg Int32.toInt c1589
              refine k_st (st' := [.inr (.inr (some a1581))]) rfl ?_
              refine k_areturn ?_
              have X1592 : ExC [0, 1, 2, 60, 61, 62, 63, 64, 65, 66, 67, 68, 70, 242, 243, 244, 999] σ0 σ1579 := X1577.tr (e1583.mo (by decide))
              have R1593 : RdC p0 none (-6) (2) (-999) σ0 σ1579 := R1572.tr ⟨R1584.1, R1584.2⟩ (by omega) (by omega) (by omega) (by omega)
              have S1609 : ∀ s, ReC σ0 p0 s → ReC σ1579 p0 (accY s) := by
                intro s hs
                have f1594 := q22 _ hs
                have f1595 := q637 _ hs
                have f1596 := q1261 _ hs
                have y1597 := q1271 _ hs
                have y1599 := y1597.x H1266.1 t1287 e1285 (by decide)
                have f1600 := q1301 _ y1599
                have f1601 := q1317 _ y1599
                have y1602 := y1599.x H1284.1 t1288 e1512 (by decide)
                have f1603 := q1526 _ y1602
                have y1604 := y1602.x H1511.1 t1514 e1541 (by decide)
                have y1605 := q1558 _ y1604
                have y1607 := q1587 _ y1605
                refine y1607.eq ?_
                try unfold tkY
                repeat (split <;> try (exfalso; omega))
                try unfold dpY
                repeat (split <;> try (exfalso; omega))
                all_goals rfl
              exact ⟨_, rfl, H1582, X1592, h1585, (R1593.mo (by omega) (by omega) (by omega)), (by omega), S1609⟩
            · refine k_nil ?_
              refine hB _ _ _ _ (kgoC (is := KX7_readLiteral_99) rfl ?_)
              refine k_iconst (m := 2) rfl (fun x1610 h1611 => ?_)
              refine k_goto ?_
              refine hB _ _ _ _ (kgoC (is := KX7_readLiteral_112) rfl ?_)
              have t1612 := t1509.x e1512
              refine k_putI kp68 H1511 t1612 (Or.inl fk68) (tiC x1610).1 (tiC x1610).2 (fun σ1613 H1614 e1615 c1616 => ?_)
              refine k_aload_n rfl ?_
              have t1617 := t1514.x e1615
              have R1618 : RdC p0 none (1) (1) (-1000) σ0 σ1613 := R1517.tr ⟨(e1615.gw H1511.1 (by decide)), (e1615.cou (u := 0) H1511.1 t1514 (by decide) (by rw [e1615.cn (by decide)]; omega))⟩ (by omega) (by omega) (by omega) (by omega)
              have c1619 := (t1514.mi e1615 (by decide)).trans c1516
              have R1620 := R1618.nf (-1000) (-1000) (by rw [c1619]; omega)
              have X1621 : ExC [0, 1, 2, 60, 61, 62, 63, 64, 65, 66, 67, 68, 70, 242, 243, 244, 999] σ0 σ1613 := X1518.tr (e1615.mo (by decide))
              have c1622 := (t1514.mi e1615 (by decide)).trans c1529
              have z1623 := congrArg Int32.toInt c1622
              have z1624 := congrArg Int32.toInt c1619
              refine k_inv (P := P_X7_accept) (Q := Q_X7_accept) rfl rfl rfl rfl (Nat.le_of_ble_eq_true rfl) (t1617.rc (by decide)) ⟨_, rfl, H1614, t1617, (rd_cd.st H0 h_0_0 X1621 R1620.1 (by decide)), (R1620.2.2.2.1 rd_at), (rd_bg.stn H0 h_0_0 X1621 R1620 (by decide) (by rw [c1619]; omega) (by omega)), (by have ct := R1620.2.2.1; rw [c1619, c1622, ct]; omega)⟩ (fun w1625 σ1626 q1627 => ?_)
              obtain ⟨rfl, H1628, e1629, R1630, q1631, q1632⟩ := q1627
              have t1638 := t1617.x e1629
              obtain ⟨x1633, e1634, c1635, h1636, h1637⟩ := cg242 H1628.1 t1638
              obtain ⟨x1639, e1640, c1641, h1642, h1643⟩ := cg243 H1628.1 t1638
              have z1644 := congrArg Int32.toInt c1635
              have z1645 := congrArg Int32.toInt c1641
              refine k_st (st' := []) rfl ?_
              have R1646 : RdC p0 none (-7) (1) (-1000) σ0 σ1626 := R1620.tr ⟨R1630.1, R1630.2⟩ (by omega) (by omega) (by omega) (by omega)
              have z1647 := R1646.2.2.1
              have z1648 := R1646.2.2.2.1 rd_at
              refine k_aload_n rfl ?_
              refine k_aload_n rfl ?_
              have t1649 := t1612.x e1615
              have t1650 := t1649.x e1629
              have X1651 : ExC [0, 1, 2, 60, 61, 62, 63, 64, 65, 66, 67, 68, 70, 242, 243, 244, 999] σ0 σ1626 := X1621.tr (e1629.mo (by decide))
              refine k_inv (P := P_X7_put) (Q := Q_X7_put) rfl rfl rfl rfl (Nat.le_of_ble_eq_true rfl) (t1638.rc (by decide)) ⟨_, _, rfl, H1628, t1638, t1650, (rd_cd.st H0 h_0_0 X1651 R1646.1 (by decide)), (R1646.2.2.2.1 rd_at), (rd_bg.st H0 h_0_0 X1651 R1646 (by decide) (by omega) (by omega) (by omega))⟩ (fun w1652 σ1653 q1654 => ?_)
              obtain ⟨a1655, rfl, H1656, e1657, h1659, R1658, q1660, q1661⟩ := q1654
              have c1662 := (t1638.mi e1657 (by decide)).trans c1635
              have c1663 := (t1638.mi e1657 (by decide)).trans c1641
              have z1664 := congrArg Int32.toInt c1662
              have z1665 := congrArg Int32.toInt c1663
              refine k_st (st' := [.inr (.inr (some a1655))]) rfl ?_
              refine k_areturn ?_
              have X1666 : ExC [0, 1, 2, 60, 61, 62, 63, 64, 65, 66, 67, 68, 70, 242, 243, 244, 999] σ0 σ1653 := X1651.tr (e1657.mo (by decide))
              have R1667 : RdC p0 none (-6) (2) (-999) σ0 σ1653 := R1646.tr ⟨R1658.1, R1658.2⟩ (by omega) (by omega) (by omega) (by omega)
              have S1683 : ∀ s, ReC σ0 p0 s → ReC σ1653 p0 (accY s) := by
                intro s hs
                have f1668 := q22 _ hs
                have f1669 := q637 _ hs
                have f1670 := q1261 _ hs
                have y1671 := q1271 _ hs
                have y1673 := y1671.x H1266.1 t1287 e1285 (by decide)
                have f1674 := q1301 _ y1673
                have f1675 := q1317 _ y1673
                have y1676 := y1673.x H1284.1 t1288 e1512 (by decide)
                have f1677 := q1526 _ y1676
                have y1678 := y1676.x H1511.1 t1514 e1615 (by decide)
                have y1679 := q1632 _ y1678
                have y1681 := q1661 _ y1679
                refine y1681.eq ?_
                try unfold tkY
                repeat (split <;> try (exfalso; omega))
                try unfold dpY
                repeat (split <;> try (exfalso; omega))
                all_goals rfl
              exact ⟨_, rfl, H1656, X1666, h1659, (R1667.mo (by omega) (by omega) (by omega)), (by omega), S1683⟩
        · refine k_nil ?_
          refine hB _ _ _ _ (kgoC (is := KX7_readLiteral_57) rfl ?_)
          refine k_lconst ?_
          refine k_goto ?_
          refine hB _ _ _ _ (kgoC (is := KX7_readLiteral_86) rfl ?_)
          have t1684 := h1269.x e1285
          refine k_putL kg71 H1284 t1684 fk71 (fun σ1685 H1686 e1687 c1688 => ?_)
          refine k_aload_n rfl ?_
          refine k_aload_n rfl ?_
          have t1689 := t1288.x e1687
          have R1690 : RdC p0 none (1) (1) (-1000) σ0 σ1685 := R1291.tr ⟨(e1687.gw H1284.1 (by decide)), (e1687.cou (u := 0) H1284.1 t1288 (by decide) (by rw [e1687.cn (by decide)]; omega))⟩ (by omega) (by omega) (by omega) (by omega)
          have c1691 := (t1288.mi e1687 (by decide)).trans c1290
          have R1692 := R1690.nf (-1000) (-1000) (by rw [c1691]; omega)
          have X1693 : ExC [0, 1, 2, 60, 61, 62, 63, 64, 65, 66, 67, 68, 70, 242, 243, 244, 999] σ0 σ1685 := X1293.tr (e1687.mo (by decide))
          refine k_inv (P := P_X7_code) (Q := Q_X7_code) rfl rfl rfl rfl (Nat.le_of_ble_eq_true rfl) (t1689.rc (by decide)) ⟨_, rfl, H1686, t1689, (rd_cd.st H0 h_0_0 X1693 R1692.1 (by decide))⟩ (fun w1694 σ1695 q1696 => ?_)
          obtain ⟨x1697, rfl, rfl, q1698, q1699, q1700, q1701⟩ := q1696
          refine k_st (st' := [.inl x1697, .inr (.inr (some a1265))]) rfl ?_
          have z1702 := R1692.2.2.1
          have z1703 := R1692.2.2.2.1 rd_at
          have c1704 := (t1288.mi e1687 (by decide)).trans c1304
          have z1705 := congrArg Int32.toInt c1704
          have z1706 := congrArg Int32.toInt c1691
          refine k_bipush (m := 83) rfl (fun x1707 h1708 => ?_)
          refine k_ic_ne (fun h1709 => ?_) (fun h1709 => ?_)
          · refine hB _ _ _ _ (kgoC (is := KX7_readLiteral_103) rfl ?_)
            refine k_iload_n rfl ?_
            refine k_if_eq (fun h1710 => by exfalso; omega) (fun h1710 => ?_)
            refine k_nil ?_
            refine hB _ _ _ _ (kgoC (is := KX7_readLiteral_107) rfl ?_)
            refine k_iconst (m := (-1)) rfl (fun x1711 h1712 => ?_)
            refine k_goto ?_
            refine hB _ _ _ _ (kgoC (is := KX7_readLiteral_112) rfl ?_)
            have t1713 := t1684.x e1687
            refine k_putI kp68 H1686 t1713 (Or.inl fk68) (tiC x1711).1 (tiC x1711).2 (fun σ1714 H1715 e1716 c1717 => ?_)
            refine k_aload_n rfl ?_
            have t1718 := t1689.x e1716
            have R1719 : RdC p0 none (1) (1) (-1000) σ0 σ1714 := R1692.tr ⟨(e1716.gw H1686.1 (by decide)), (e1716.cou (u := 0) H1686.1 t1689 (by decide) (by rw [e1716.cn (by decide)]; omega))⟩ (by omega) (by omega) (by omega) (by omega)
            have c1720 := (t1689.mi e1716 (by decide)).trans c1691
            have R1721 := R1719.nf (-1000) (-1000) (by rw [c1720]; omega)
            have X1722 : ExC [0, 1, 2, 60, 61, 62, 63, 64, 65, 66, 67, 68, 70, 242, 243, 244, 999] σ0 σ1714 := X1693.tr (e1716.mo (by decide))
            have c1723 := (t1689.mi e1716 (by decide)).trans c1704
            have z1724 := congrArg Int32.toInt c1723
            have z1725 := congrArg Int32.toInt c1720
            refine k_inv (P := P_X7_accept) (Q := Q_X7_accept) rfl rfl rfl rfl (Nat.le_of_ble_eq_true rfl) (t1718.rc (by decide)) ⟨_, rfl, H1715, t1718, (rd_cd.st H0 h_0_0 X1722 R1721.1 (by decide)), (R1721.2.2.2.1 rd_at), (rd_bg.stn H0 h_0_0 X1722 R1721 (by decide) (by rw [c1720]; omega) (by omega)), (by have ct := R1721.2.2.1; rw [c1720, c1723, ct]; omega)⟩ (fun w1726 σ1727 q1728 => ?_)
            obtain ⟨rfl, H1729, e1730, R1731, q1732, q1733⟩ := q1728
            have t1739 := t1718.x e1730
            obtain ⟨x1734, e1735, c1736, h1737, h1738⟩ := cg242 H1729.1 t1739
            obtain ⟨x1740, e1741, c1742, h1743, h1744⟩ := cg243 H1729.1 t1739
            have z1745 := congrArg Int32.toInt c1736
            have z1746 := congrArg Int32.toInt c1742
            refine k_st (st' := []) rfl ?_
            have R1747 : RdC p0 none (-7) (1) (-1000) σ0 σ1727 := R1721.tr ⟨R1731.1, R1731.2⟩ (by omega) (by omega) (by omega) (by omega)
            have z1748 := R1747.2.2.1
            have z1749 := R1747.2.2.2.1 rd_at
            refine k_aload_n rfl ?_
            refine k_aload_n rfl ?_
            have t1750 := t1713.x e1716
            have t1751 := t1750.x e1730
            have X1752 : ExC [0, 1, 2, 60, 61, 62, 63, 64, 65, 66, 67, 68, 70, 242, 243, 244, 999] σ0 σ1727 := X1722.tr (e1730.mo (by decide))
            refine k_inv (P := P_X7_put) (Q := Q_X7_put) rfl rfl rfl rfl (Nat.le_of_ble_eq_true rfl) (t1739.rc (by decide)) ⟨_, _, rfl, H1729, t1739, t1751, (rd_cd.st H0 h_0_0 X1752 R1747.1 (by decide)), (R1747.2.2.2.1 rd_at), (rd_bg.st H0 h_0_0 X1752 R1747 (by decide) (by omega) (by omega) (by omega))⟩ (fun w1753 σ1754 q1755 => ?_)
            obtain ⟨a1756, rfl, H1757, e1758, h1760, R1759, q1761, q1762⟩ := q1755
            have c1763 := (t1739.mi e1758 (by decide)).trans c1736
            have c1764 := (t1739.mi e1758 (by decide)).trans c1742
            have z1765 := congrArg Int32.toInt c1763
            have z1766 := congrArg Int32.toInt c1764
            refine k_st (st' := [.inr (.inr (some a1756))]) rfl ?_
            refine k_areturn ?_
            have X1767 : ExC [0, 1, 2, 60, 61, 62, 63, 64, 65, 66, 67, 68, 70, 242, 243, 244, 999] σ0 σ1754 := X1752.tr (e1758.mo (by decide))
            have R1768 : RdC p0 none (-6) (2) (-999) σ0 σ1754 := R1747.tr ⟨R1759.1, R1759.2⟩ (by omega) (by omega) (by omega) (by omega)
            have S1783 : ∀ s, ReC σ0 p0 s → ReC σ1754 p0 (accY s) := by
              intro s hs
              have f1769 := q22 _ hs
              have f1770 := q637 _ hs
              have f1771 := q1261 _ hs
              have y1772 := q1271 _ hs
              have y1774 := y1772.x H1266.1 t1287 e1285 (by decide)
              have f1775 := q1301 _ y1774
              have y1776 := y1774.x H1284.1 t1288 e1687 (by decide)
              have f1777 := q1701 _ y1776
              have y1778 := y1776.x H1686.1 t1689 e1716 (by decide)
              have y1779 := q1733 _ y1778
              have y1781 := q1762 _ y1779
              refine y1781.eq ?_
              try unfold tkY
              repeat (split <;> try (exfalso; omega))
              try unfold dpY
              repeat (split <;> try (exfalso; omega))
              all_goals rfl
            exact ⟨_, rfl, H1757, X1767, h1760, (R1768.mo (by omega) (by omega) (by omega)), (by omega), S1783⟩
          · refine k_nil ?_
            refine hB _ _ _ _ (kgoC (is := KX7_readLiteral_99) rfl ?_)
            refine k_iconst (m := 2) rfl (fun x1784 h1785 => ?_)
            refine k_goto ?_
            refine hB _ _ _ _ (kgoC (is := KX7_readLiteral_112) rfl ?_)
            have t1786 := t1684.x e1687
            refine k_putI kp68 H1686 t1786 (Or.inl fk68) (tiC x1784).1 (tiC x1784).2 (fun σ1787 H1788 e1789 c1790 => ?_)
            refine k_aload_n rfl ?_
            have t1791 := t1689.x e1789
            have R1792 : RdC p0 none (1) (1) (-1000) σ0 σ1787 := R1692.tr ⟨(e1789.gw H1686.1 (by decide)), (e1789.cou (u := 0) H1686.1 t1689 (by decide) (by rw [e1789.cn (by decide)]; omega))⟩ (by omega) (by omega) (by omega) (by omega)
            have c1793 := (t1689.mi e1789 (by decide)).trans c1691
            have R1794 := R1792.nf (-1000) (-1000) (by rw [c1793]; omega)
            have X1795 : ExC [0, 1, 2, 60, 61, 62, 63, 64, 65, 66, 67, 68, 70, 242, 243, 244, 999] σ0 σ1787 := X1693.tr (e1789.mo (by decide))
            have c1796 := (t1689.mi e1789 (by decide)).trans c1704
            have z1797 := congrArg Int32.toInt c1796
            have z1798 := congrArg Int32.toInt c1793
            refine k_inv (P := P_X7_accept) (Q := Q_X7_accept) rfl rfl rfl rfl (Nat.le_of_ble_eq_true rfl) (t1791.rc (by decide)) ⟨_, rfl, H1788, t1791, (rd_cd.st H0 h_0_0 X1795 R1794.1 (by decide)), (R1794.2.2.2.1 rd_at), (rd_bg.stn H0 h_0_0 X1795 R1794 (by decide) (by rw [c1793]; omega) (by omega)), (by have ct := R1794.2.2.1; rw [c1793, c1796, ct]; omega)⟩ (fun w1799 σ1800 q1801 => ?_)
            obtain ⟨rfl, H1802, e1803, R1804, q1805, q1806⟩ := q1801
            have t1812 := t1791.x e1803
            obtain ⟨x1807, e1808, c1809, h1810, h1811⟩ := cg242 H1802.1 t1812
            obtain ⟨x1813, e1814, c1815, h1816, h1817⟩ := cg243 H1802.1 t1812
            have z1818 := congrArg Int32.toInt c1809
            have z1819 := congrArg Int32.toInt c1815
            refine k_st (st' := []) rfl ?_
            have R1820 : RdC p0 none (-7) (1) (-1000) σ0 σ1800 := R1794.tr ⟨R1804.1, R1804.2⟩ (by omega) (by omega) (by omega) (by omega)
            have z1821 := R1820.2.2.1
            have z1822 := R1820.2.2.2.1 rd_at
            refine k_aload_n rfl ?_
            refine k_aload_n rfl ?_
            have t1823 := t1786.x e1789
            have t1824 := t1823.x e1803
            have X1825 : ExC [0, 1, 2, 60, 61, 62, 63, 64, 65, 66, 67, 68, 70, 242, 243, 244, 999] σ0 σ1800 := X1795.tr (e1803.mo (by decide))
            refine k_inv (P := P_X7_put) (Q := Q_X7_put) rfl rfl rfl rfl (Nat.le_of_ble_eq_true rfl) (t1812.rc (by decide)) ⟨_, _, rfl, H1802, t1812, t1824, (rd_cd.st H0 h_0_0 X1825 R1820.1 (by decide)), (R1820.2.2.2.1 rd_at), (rd_bg.st H0 h_0_0 X1825 R1820 (by decide) (by omega) (by omega) (by omega))⟩ (fun w1826 σ1827 q1828 => ?_)
            obtain ⟨a1829, rfl, H1830, e1831, h1833, R1832, q1834, q1835⟩ := q1828
            have c1836 := (t1812.mi e1831 (by decide)).trans c1809
            have c1837 := (t1812.mi e1831 (by decide)).trans c1815
            have z1838 := congrArg Int32.toInt c1836
            have z1839 := congrArg Int32.toInt c1837
            refine k_st (st' := [.inr (.inr (some a1829))]) rfl ?_
            refine k_areturn ?_
            have X1840 : ExC [0, 1, 2, 60, 61, 62, 63, 64, 65, 66, 67, 68, 70, 242, 243, 244, 999] σ0 σ1827 := X1825.tr (e1831.mo (by decide))
            have R1841 : RdC p0 none (-6) (2) (-999) σ0 σ1827 := R1820.tr ⟨R1832.1, R1832.2⟩ (by omega) (by omega) (by omega) (by omega)
            have S1856 : ∀ s, ReC σ0 p0 s → ReC σ1827 p0 (accY s) := by
              intro s hs
              have f1842 := q22 _ hs
              have f1843 := q637 _ hs
              have f1844 := q1261 _ hs
              have y1845 := q1271 _ hs
              have y1847 := y1845.x H1266.1 t1287 e1285 (by decide)
              have f1848 := q1301 _ y1847
              have y1849 := y1847.x H1284.1 t1288 e1687 (by decide)
              have f1850 := q1701 _ y1849
              have y1851 := y1849.x H1686.1 t1689 e1789 (by decide)
              have y1852 := q1806 _ y1851
              have y1854 := q1835 _ y1852
              refine y1854.eq ?_
              try unfold tkY
              repeat (split <;> try (exfalso; omega))
              try unfold dpY
              repeat (split <;> try (exfalso; omega))
              all_goals rfl
            exact ⟨_, rfl, H1830, X1840, h1833, (R1841.mo (by omega) (by omega) (by omega)), (by omega), S1856⟩
theorem lg_X7_readLiteral : ∀ (As : List AvC) (σ : CsC), P_X7_readLiteral As σ → lgC As ≤ rX7_readLiteral.2.2.1 := by
  rintro As σ ⟨p0, rfl, -⟩
  exact Nat.le_of_ble_eq_true rfl
theorem m_X7_readLiteral (l : Launch) : CMetC l 12 177 P_X7_readLiteral Q_X7_readLiteral :=
  CMetC.of KX7_readLiteral [(125, P_X7_code, Q_X7_code), (162, P_X7_opened, Q_X7_opened), (128, P_X7_accept, Q_X7_accept), (161, P_X7_put, Q_X7_put)] hX7_readLiteral (by decide) (by decide) okX7_readLiteral (cc1C (m_X7_code l) (by decide) (cc1C (m_X7_opened l) (by decide) (cc1C (m_X7_accept l) (by decide) (cc1C (m_X7_put l) (by decide) cc0C)))) (lg_X7_readLiteral) (b_X7_readLiteral)

set_option maxRecDepth 100000 in
set_option maxHeartbeats 4000000 in
theorem b_X7_readCountAhead : TbC KX7_readCountAhead [(125, P_X7_code, Q_X7_code), (162, P_X7_opened, Q_X7_opened), (128, P_X7_accept, Q_X7_accept), (129, P_X7_expect, Q_X7_expect), (161, P_X7_put, Q_X7_put), (140, P_X7_meant, Q_X7_meant)] P_X7_readCountAhead Q_X7_readCountAhead := by
  · rintro As σ0 ⟨p0, rfl, H0, h_0_0, rd_cd, rd_at, rd_bl, rd_lv, rd_tk⟩ hgr G hB hW
    change G 0 [(0, .inr (.inr (some p0)))] [] σ0
    obtain ⟨x1, e2, c3, h4, h5⟩ := cg242 H0.1 h_0_0
    obtain ⟨x6, e7, c8, h9, h10⟩ := cg243 H0.1 h_0_0
    have z11 := congrArg Int32.toInt c3
    have z12 := congrArg Int32.toInt c8
    have h13 : x6.toInt = 0 := by rw [← c8]; exact rd_lv
    have rd_bg : BgC σ0 p0 (2) 1000000 := ⟨fun _ => rd_bl, fun z => absurd rd_lv z⟩
    refine hB _ _ _ _ (kgoC (is := KX7_readCountAhead_0) rfl ?_)
    refine k_aload_n rfl ?_
    refine k_bipush (m := 6) rfl (fun x14 h15 => ?_)
    refine k_aload_n rfl ?_
    have R16 := (RdC.rf : RdC p0 none 0 0 0 σ0 σ0).nf (-1000) (-1000) (by rw [c8]; omega)
    refine k_inv (P := P_X7_code) (Q := Q_X7_code) rfl rfl rfl rfl (Nat.le_of_ble_eq_true rfl) (h_0_0.rc (by decide)) ⟨_, rfl, H0, h_0_0, (rd_cd.st H0 h_0_0 (ExC.rf : ExC [0, 1, 2, 60, 61, 62, 63, 64, 65, 66, 67, 68, 242, 243, 244, 999] σ0 σ0) R16.1 (by decide))⟩ (fun w17 σ18 q19 => ?_)
    obtain ⟨x20, rfl, rfl, q21, q22, q23, q24⟩ := q19
    refine k_st (st' := [.inl x20, .inl x14, .inr (.inr (some p0))]) rfl ?_
    have z25 := R16.2.2.1
    have z26 := R16.2.2.2.1 rd_at
    refine k_inv (P := P_X7_opened) (Q := Q_X7_opened) rfl rfl rfl rfl (Nat.le_of_ble_eq_true rfl) (h_0_0.rc (by decide)) ⟨_, _, _, rfl, H0, h_0_0, (rd_cd.st H0 h_0_0 (ExC.rf : ExC [0, 1, 2, 60, 61, 62, 63, 64, 65, 66, 67, 68, 242, 243, 244, 999] σ0 σ0) R16.1 (by decide)), (R16.2.2.2.1 rd_at), (rd_bg.stn H0 h_0_0 (ExC.rf : ExC [0, 1, 2, 60, 61, 62, 63, 64, 65, 66, 67, 68, 242, 243, 244, 999] σ0 σ0) R16 (by decide) (by rw [c8]; omega) (by omega)), (by omega)⟩ (fun w27 σ28 q29 => ?_)
    obtain ⟨a30, rfl, H31, e32, h34, R33, q35, q36⟩ := q29
    have c37 := (h_0_0.mi e32 (by decide)).trans c3
    have c38 := (h_0_0.mi e32 (by decide)).trans c8
    have z39 := congrArg Int32.toInt c37
    have z40 := congrArg Int32.toInt c38
    refine k_st (st' := [.inr (.inr (some a30))]) rfl ?_
    have z41 := R16.1.1
    have R42 : RdC p0 none (1) (1) (-999) σ0 σ28 := R16.tr ⟨R33.1, R33.2⟩ (by omega) (by omega) (by omega) (by omega)
    have R43 := R42.nf (-1000) (-1000) (by rw [c38]; omega)
    have z44 := R43.2.2.1
    have z45 := R43.2.2.2.1 rd_at
    refine k_astore_n (ls' := [(1, .inr (.inr (some a30))), (0, .inr (.inr (some p0)))]) rfl ?_
    refine k_aload_n rfl ?_
    have t46 := h_0_0.x e32
    have X47 : ExC [0, 1, 2, 60, 61, 62, 63, 64, 65, 66, 67, 68, 242, 243, 244, 999] σ0 σ28 := ExC.rf.tr (e32.mo (by decide))
    refine k_inv (P := P_X7_accept) (Q := Q_X7_accept) rfl rfl rfl rfl (Nat.le_of_ble_eq_true rfl) (t46.rc (by decide)) ⟨_, rfl, H31, t46, (rd_cd.st H0 h_0_0 X47 R43.1 (by decide)), (R43.2.2.2.1 rd_at), (rd_bg.stn H0 h_0_0 X47 R43 (by decide) (by rw [c38]; omega) (by omega)), (by have ct := R43.2.2.1; rw [c38, c37, ct]; omega)⟩ (fun w48 σ49 q50 => ?_)
    obtain ⟨rfl, H51, e52, R53, q54, q55⟩ := q50
    have t61 := t46.x e52
    obtain ⟨x56, e57, c58, h59, h60⟩ := cg242 H51.1 t61
    obtain ⟨x62, e63, c64, h65, h66⟩ := cg243 H51.1 t61
    have z67 := congrArg Int32.toInt c58
    have z68 := congrArg Int32.toInt c64
    refine k_st (st' := []) rfl ?_
    have R69 : RdC p0 none (-7) (1) (-1000) σ0 σ49 := R43.tr ⟨R53.1, R53.2⟩ (by omega) (by omega) (by omega) (by omega)
    have z70 := R69.2.2.1
    have z71 := R69.2.2.2.1 rd_at
    refine k_aload_n rfl ?_
    refine k_aload_n rfl ?_
    refine k_get kg242 t61 (congrArg (Sum.inl : Int32 → AvC) c58) ?_
    have t72 := h34.x e52
    refine k_putI kp66 H51 t72 (Or.inl fk66) (by show 0 ≤ _; omega) (by show _ ≤ 502; omega) (fun σ73 H74 e75 c76 => ?_)
    refine k_aload_n rfl ?_
    refine k_aload_n rfl ?_
    have t77 := t61.x e75
    have R78 : RdC p0 none (-7) (1) (-1000) σ0 σ73 := R69.tr ⟨(e75.gw H51.1 (by decide)), (e75.cou (u := 0) H51.1 t61 (by decide) (by rw [e75.cn (by decide)]; omega))⟩ (by omega) (by omega) (by omega) (by omega)
    have c79 := (t61.mi e75 (by decide)).trans c64
    have X80 : ExC [0, 1, 2, 60, 61, 62, 63, 64, 65, 66, 67, 68, 242, 243, 244, 999] σ0 σ49 := X47.tr (e52.mo (by decide))
    have X81 : ExC [0, 1, 2, 60, 61, 62, 63, 64, 65, 66, 67, 68, 242, 243, 244, 999] σ0 σ73 := X80.tr (e75.mo (by decide))
    refine k_inv (P := P_X7_code) (Q := Q_X7_code) rfl rfl rfl rfl (Nat.le_of_ble_eq_true rfl) (t77.rc (by decide)) ⟨_, rfl, H74, t77, (rd_cd.st H0 h_0_0 X81 R78.1 (by decide))⟩ (fun w82 σ83 q84 => ?_)
    obtain ⟨x85, rfl, rfl, q86, q87, q88, q89⟩ := q84
    refine k_st (st' := [.inl x85, .inr (.inr (some a30))]) rfl ?_
    have z90 := R78.2.2.1
    have z91 := R78.2.2.2.1 rd_at
    have c92 := (t61.mi e75 (by decide)).trans c58
    have z93 := congrArg Int32.toInt c92
    have z94 := congrArg Int32.toInt c79
    refine k_bipush (m := 80) rfl (fun x95 h96 => ?_)
    refine k_ic_ne (fun h97 => ?_) (fun h97 => ?_)
    · refine hB _ _ _ _ (kgoC (is := KX7_readCountAhead_44) rfl ?_)
      refine k_iconst (m := (-1)) rfl (fun x98 h99 => ?_)
      refine k_nil ?_
      refine hB _ _ _ _ (kgoC (is := KX7_readCountAhead_45) rfl ?_)
      have t100 := t72.x e75
      refine k_putI kp67 H74 t100 (Or.inl fk67) (tiC x98).1 (tiC x98).2 (fun σ101 H102 e103 c104 => ?_)
      refine k_aload_n rfl ?_
      refine k_bipush (m := 80) rfl (fun x105 h106 => ?_)
      have t107 := t77.x e103
      have R108 : RdC p0 none (-7) (1) (-1000) σ0 σ101 := R78.tr ⟨(e103.gw H74.1 (by decide)), (e103.cou (u := 0) H74.1 t77 (by decide) (by rw [e103.cn (by decide)]; omega))⟩ (by omega) (by omega) (by omega) (by omega)
      have c109 := (t77.mi e103 (by decide)).trans c79
      have X110 : ExC [0, 1, 2, 60, 61, 62, 63, 64, 65, 66, 67, 68, 242, 243, 244, 999] σ0 σ101 := X81.tr (e103.mo (by decide))
      have c111 := (t77.mi e103 (by decide)).trans c92
      have z112 := congrArg Int32.toInt c111
      have z113 := congrArg Int32.toInt c109
      refine k_inv (P := P_X7_expect) (Q := Q_X7_expect) rfl rfl rfl rfl (Nat.le_of_ble_eq_true rfl) (t107.rc (by decide)) ⟨_, _, rfl, H102, t107, (by omega), (by omega), (rd_cd.st H0 h_0_0 X110 R108.1 (by decide)), (R108.2.2.2.1 rd_at), (rd_bg.st H0 h_0_0 X110 R108 (by decide) (by omega) (by omega) (by omega))⟩ (fun w114 σ115 q116 => ?_)
      obtain ⟨rfl, H117, e118, R119, q120, q121⟩ := q116
      have t127 := t107.x e118
      obtain ⟨x122, e123, c124, h125, h126⟩ := cg242 H117.1 t127
      obtain ⟨x128, e129, c130, h131, h132⟩ := cg243 H117.1 t127
      have z133 := congrArg Int32.toInt c124
      have z134 := congrArg Int32.toInt c130
      refine k_st (st' := []) rfl ?_
      have R135 : RdC p0 none (-15) (1) (-1000) σ0 σ115 := R108.tr ⟨R119.1, R119.2⟩ (by omega) (by omega) (by omega) (by omega)
      have z136 := R135.2.2.1
      have z137 := R135.2.2.2.1 rd_at
      refine k_aload_n rfl ?_
      refine k_aload_n rfl ?_
      have t138 := t100.x e103
      have t139 := t138.x e118
      have X140 : ExC [0, 1, 2, 60, 61, 62, 63, 64, 65, 66, 67, 68, 242, 243, 244, 999] σ0 σ115 := X110.tr (e118.mo (by decide))
      refine k_inv (P := P_X7_put) (Q := Q_X7_put) rfl rfl rfl rfl (Nat.le_of_ble_eq_true rfl) (t127.rc (by decide)) ⟨_, _, rfl, H117, t127, t139, (rd_cd.st H0 h_0_0 X140 R135.1 (by decide)), (R135.2.2.2.1 rd_at), (rd_bg.st H0 h_0_0 X140 R135 (by decide) (by omega) (by omega) (by omega))⟩ (fun w141 σ142 q143 => ?_)
      obtain ⟨a144, rfl, H145, e146, h148, R147, q149, q150⟩ := q143
      have c151 := (t127.mi e146 (by decide)).trans c124
      have c152 := (t127.mi e146 (by decide)).trans c130
      have z153 := congrArg Int32.toInt c151
      have z154 := congrArg Int32.toInt c152
      refine k_st (st' := [.inr (.inr (some a144))]) rfl ?_
      refine k_areturn ?_
      have X155 : ExC [0, 1, 2, 60, 61, 62, 63, 64, 65, 66, 67, 68, 242, 243, 244, 999] σ0 σ142 := X140.tr (e146.mo (by decide))
      have R156 : RdC p0 none (-14) (2) (-999) σ0 σ142 := R135.tr ⟨R147.1, R147.2⟩ (by omega) (by omega) (by omega) (by omega)
      have S170 : ∀ s, ReC σ0 p0 s → ReC σ142 p0 (cntY s) := by
        intro s hs
        have f157 := q24 _ hs
        have y158 := q36 _ hs
        have y160 := q55 _ y158
        have f162 := y160.at_ c58
        have y163 := y160.x H51.1 t61 e75 (by decide)
        have f164 := q89 _ y163
        have y165 := y163.x H74.1 t77 e103 (by decide)
        have y166 := q121 _ y165
        rw [h106] at y166
        have y168 := q150 _ y166
        refine y168.eq ?_
        try unfold cntY
        repeat (split <;> try (exfalso; omega))
        try unfold tkY
        repeat (split <;> try (exfalso; omega))
        try unfold dpY
        repeat (split <;> try (exfalso; omega))
        all_goals rfl
      exact ⟨_, rfl, H145, X155, h148, (R156.mo (by omega) (by omega) (by omega)), (by omega), S170⟩
    · have h171 : x62.toInt = 0 := by omega
      refine k_nil ?_
      refine hB _ _ _ _ (kgoC (is := KX7_readCountAhead_33) rfl ?_)
      refine k_aload_n rfl ?_
      refine k_aload_n rfl ?_
      refine k_get kg242 t77 (congrArg (Sum.inl : Int32 → AvC) c92) ?_
      refine k_inv (P := P_X7_meant) (Q := Q_X7_meant) rfl rfl rfl rfl (Nat.le_of_ble_eq_true rfl) (t77.rc (by decide)) ⟨_, _, rfl, H74, t77, (by omega), (by omega)⟩ (fun w172 σ173 q174 => ?_)
      obtain ⟨x175, rfl, H176, e177, h178⟩ := q174
      have c179 := (t77.mi e177 (by decide)).trans c92
      have c180 := (t77.mi e177 (by decide)).trans c79
      have z181 := congrArg Int32.toInt c179
      have z182 := congrArg Int32.toInt c180
      refine k_st (st' := [.inl x175, .inr (.inr (some a30))]) rfl ?_
      refine k_goto ?_
      refine hB _ _ _ _ (kgoC (is := KX7_readCountAhead_45) rfl ?_)
      have t183 := t72.x e75
      have t184 := t183.x e177
      refine k_putI kp67 H176 t184 (Or.inl fk67) (tiC x175).1 (tiC x175).2 (fun σ185 H186 e187 c188 => ?_)
      refine k_aload_n rfl ?_
      refine k_bipush (m := 80) rfl (fun x189 h190 => ?_)
      have t191 := t77.x e177
      have t192 := t191.x e187
      have R193 : RdC p0 none (-7) (1) (-1000) σ0 σ173 := R78.tr ⟨(e177.gw H74.1 (by decide)), (e177.cou (u := 0) H74.1 t77 (by decide) (by rw [e177.cn (by decide)]; omega))⟩ (by omega) (by omega) (by omega) (by omega)
      have R194 : RdC p0 none (-7) (1) (-1000) σ0 σ185 := R193.tr ⟨(e187.gw H176.1 (by decide)), (e187.cou (u := 0) H176.1 t191 (by decide) (by rw [e187.cn (by decide)]; omega))⟩ (by omega) (by omega) (by omega) (by omega)
      have c195 := (t191.mi e187 (by decide)).trans c180
      have R196 := R194.nf (-1000) (-1000) (by rw [c195]; omega)
      have X197 : ExC [0, 1, 2, 60, 61, 62, 63, 64, 65, 66, 67, 68, 242, 243, 244, 999] σ0 σ173 := X81.tr (e177.mo (by decide))
      have X198 : ExC [0, 1, 2, 60, 61, 62, 63, 64, 65, 66, 67, 68, 242, 243, 244, 999] σ0 σ185 := X197.tr (e187.mo (by decide))
      have c199 := (t191.mi e187 (by decide)).trans c179
      have z200 := congrArg Int32.toInt c199
      have z201 := congrArg Int32.toInt c195
      refine k_inv (P := P_X7_expect) (Q := Q_X7_expect) rfl rfl rfl rfl (Nat.le_of_ble_eq_true rfl) (t192.rc (by decide)) ⟨_, _, rfl, H186, t192, (by omega), (by omega), (rd_cd.st H0 h_0_0 X198 R196.1 (by decide)), (R196.2.2.2.1 rd_at), (rd_bg.stn H0 h_0_0 X198 R196 (by decide) (by rw [c195]; omega) (by omega))⟩ (fun w202 σ203 q204 => ?_)
      obtain ⟨rfl, H205, e206, R207, q208, q209⟩ := q204
      have t215 := t192.x e206
      obtain ⟨x210, e211, c212, h213, h214⟩ := cg242 H205.1 t215
      obtain ⟨x216, e217, c218, h219, h220⟩ := cg243 H205.1 t215
      have z221 := congrArg Int32.toInt c212
      have z222 := congrArg Int32.toInt c218
      refine k_st (st' := []) rfl ?_
      have R223 : RdC p0 none (-15) (-7) (-1000) σ0 σ203 := R196.tr ⟨R207.1, R207.2⟩ (by omega) (by omega) (by omega) (by omega)
      have z224 := R223.2.2.1
      have z225 := R223.2.2.2.1 rd_at
      refine k_aload_n rfl ?_
      refine k_aload_n rfl ?_
      have t226 := t184.x e187
      have t227 := t226.x e206
      have X228 : ExC [0, 1, 2, 60, 61, 62, 63, 64, 65, 66, 67, 68, 242, 243, 244, 999] σ0 σ203 := X198.tr (e206.mo (by decide))
      refine k_inv (P := P_X7_put) (Q := Q_X7_put) rfl rfl rfl rfl (Nat.le_of_ble_eq_true rfl) (t215.rc (by decide)) ⟨_, _, rfl, H205, t215, t227, (rd_cd.st H0 h_0_0 X228 R223.1 (by decide)), (R223.2.2.2.1 rd_at), (rd_bg.st H0 h_0_0 X228 R223 (by decide) (by omega) (by omega) (by omega))⟩ (fun w229 σ230 q231 => ?_)
      obtain ⟨a232, rfl, H233, e234, h236, R235, q237, q238⟩ := q231
      have c239 := (t215.mi e234 (by decide)).trans c212
      have c240 := (t215.mi e234 (by decide)).trans c218
      have z241 := congrArg Int32.toInt c239
      have z242 := congrArg Int32.toInt c240
      refine k_st (st' := [.inr (.inr (some a232))]) rfl ?_
      refine k_areturn ?_
      have X243 : ExC [0, 1, 2, 60, 61, 62, 63, 64, 65, 66, 67, 68, 242, 243, 244, 999] σ0 σ230 := X228.tr (e234.mo (by decide))
      have R244 : RdC p0 none (-14) (-6) (-999) σ0 σ230 := R223.tr ⟨R235.1, R235.2⟩ (by omega) (by omega) (by omega) (by omega)
      have S260 : ∀ s, ReC σ0 p0 s → ReC σ230 p0 (cntY s) := by
        intro s hs
        have f245 := q24 _ hs
        have y246 := q36 _ hs
        have y248 := q55 _ y246
        have f250 := y248.at_ c58
        have y251 := y248.x H51.1 t61 e75 (by decide)
        have f252 := q89 _ y251
        have f253 := y251.at_ c92
        have y254 := y251.x H74.1 t77 e177 (by decide)
        have y255 := y254.x H176.1 t191 e187 (by decide)
        have y256 := q209 _ y255
        rw [h190] at y256
        have y258 := q238 _ y256
        refine y258.eq ?_
        try unfold cntY
        repeat (split <;> try (exfalso; omega))
        try unfold tkY
        repeat (split <;> try (exfalso; omega))
        try unfold dpY
        repeat (split <;> try (exfalso; omega))
        all_goals rfl
      exact ⟨_, rfl, H233, X243, h236, (R244.mo (by omega) (by omega) (by omega)), (by omega), S260⟩
theorem lg_X7_readCountAhead : ∀ (As : List AvC) (σ : CsC), P_X7_readCountAhead As σ → lgC As ≤ rX7_readCountAhead.2.2.1 := by
  rintro As σ ⟨p0, rfl, -⟩
  exact Nat.le_of_ble_eq_true rfl
theorem m_X7_readCountAhead (l : Launch) : CMetC l 13 173 P_X7_readCountAhead Q_X7_readCountAhead :=
  CMetC.of KX7_readCountAhead [(125, P_X7_code, Q_X7_code), (162, P_X7_opened, Q_X7_opened), (128, P_X7_accept, Q_X7_accept), (129, P_X7_expect, Q_X7_expect), (161, P_X7_put, Q_X7_put), (140, P_X7_meant, Q_X7_meant)] hX7_readCountAhead (by decide) (by decide) okX7_readCountAhead (cc1C (m_X7_code l) (by decide) (cc1C (m_X7_opened l) (by decide) (cc1C (m_X7_accept l) (by decide) (cc1C (m_X7_expect l) (by decide) (cc1C (m_X7_put l) (by decide) (cc1C (m_X7_meant l) (by decide) cc0C)))))) (lg_X7_readCountAhead) (b_X7_readCountAhead)

set_option maxRecDepth 100000 in
set_option maxHeartbeats 4000000 in
theorem b_X7_waitingFor : TbC KX7_waitingFor [(17, P_X1_init, Q_X1_init), (163, P_X7_putMark, Q_X7_putMark)] P_X7_waitingFor Q_X7_waitingFor := by
  · rintro As σ0 ⟨p0, p1, p2, p3, rfl, H0, h_0_0, h_2_0, h_3_0, rd_cd, rd_at, rd_bg⟩ hgr G hB hW
    change G 0 [(0, .inr (.inr (some p0))), (1, .inl p1), (2, .inr (.inr (some p2))), (3, .inr (.inr p3))] [] σ0
    obtain ⟨x1, e2, c3, h4, h5⟩ := cg242 H0.1 h_0_0
    obtain ⟨x6, e7, c8, h9, h10⟩ := cg243 H0.1 h_0_0
    have z11 := congrArg Int32.toInt c3
    have z12 := congrArg Int32.toInt c8
    refine hB _ _ _ _ (kgoC (is := KX7_waitingFor_0) rfl ?_)
    have B13 : BgC σ0 p0 1 1 := rd_bg.st H0 h_0_0 (ExC.rf : ExC [0, 1, 2, 60, 61, 62, 63, 64, 65, 66, 67, 68, 72, 75, 76, 999] σ0 σ0) (RdC.rf : RdC p0 none 0 0 0 σ0 σ0) (by decide) (by omega) (by omega) (by omega)
    obtain ⟨h14, h15⟩ := B13.new H0.1 h_0_0 (u := 1) (by omega) (by omega)
    have z16 := (RdC.rf : RdC p0 none 0 0 0 σ0 σ0).1.1
    refine k_new (c := 2) (g := 0) H0 (by decide) rfl (by omega) (by have hn : nfC 2 = 18 := rfl; omega) (fun a17 σ18 q19 H20 e21 r22 z23 l24 u25 u26 => ?_)
    rw [show nfC 2 = 18 from rfl] at u26
    have u27 : cpC σ18 = cpC σ0 := congrArg Prod.fst e21.2.1.1
    have u28 : spC σ18 = spC σ0 := congrArg Prod.snd e21.2.1.1
    refine k_dupR ?_
    refine k_bipush (m := 7) rfl (fun x29 h30 => ?_)
    refine k_iload_n rfl ?_
    refine k_aload_n rfl ?_
    have t31 := h_2_0.x e21
    obtain ⟨x34, e32, c33, h35, h36⟩ := cg62 H20.1 t31
    refine k_get kg62 t31 e32 ?_
    refine k_aload_n rfl ?_
    obtain ⟨x39, e37, c38, h40, h41⟩ := cg63 H20.1 t31
    refine k_get kg63 t31 e37 ?_
    refine k_spec (P := P_X1_init) (Q := Q_X1_init) rfl rfl rfl rfl (Nat.le_of_ble_eq_true rfl) ⟨_, _, _, _, _, rfl, H20, r22, z23, (by omega), (by omega), (by omega), (by omega), (by omega)⟩ (fun w42 σ43 q44 => ?_)
    have t52 := h_0_0.x e21
    obtain ⟨rfl, H45, e46, t47, t47', l48, u49, u50, g51, q54, q55, q56, q57⟩ := q44
    have l53 := l48.trans l24
    have c58 := (h_0_0.mi e21 (by decide)).trans c3
    have c59 := (t52.mit r22 (by decide) e46 (by decide)).trans c58
    have c60 := (h_0_0.mi e21 (by decide)).trans c8
    have c61 := (t52.mit r22 (by decide) e46 (by decide)).trans c60
    have z62 := congrArg Int32.toInt c59
    have z63 := congrArg Int32.toInt c61
    refine k_st (st' := [.inr (.inr (some a17))]) rfl ?_
    refine k_astore (ls' := [(4, .inr (.inr (some a17))), (0, .inr (.inr (some p0))), (1, .inl p1), (2, .inr (.inr (some p2))), (3, .inr (.inr p3))]) rfl ?_
    refine k_aload rfl ?_
    refine k_aload_n rfl ?_
    have t67 := t31.xt r22 (by decide) e46
    refine k_u72 H45 t47 t47' t67 (fun σ64 H65 e66 => ?_)
    refine k_aload rfl ?_
    refine k_aload_n rfl ?_
    have t73 := Nat.lt_of_lt_of_le t47 e66.1
    have t74 := (e66.2.2 a17 t47).1.1.trans t47'
    have c75 := ((e66.2.2 a17 t47).2.2.2 60 (by decide)).1.trans q54
    have c76 := ((e66.2.2 a17 t47).2.2.2 73 (by decide)).2.trans q55
    have X77 : ExC [0, 1, 2, 60, 61, 62, 63, 64, 65, 66, 67, 68, 72, 75, 76, 999] σ0 σ18 := ExC.rf.tr (e21.mo (by decide))
    have X78 : ExC [0, 1, 2, 60, 61, 62, 63, 64, 65, 66, 67, 68, 72, 75, 76, 999] σ0 σ43 := (X77 : ExC [0, 1, 2, 60, 61, 62, 63, 64, 65, 66, 67, 68, 72, 75, 76, 999] σ0 σ18).nt (Nat.le_of_eq q19.symm) (e46.mo (by decide))
    have X79 : ExC [0, 1, 2, 60, 61, 62, 63, 64, 65, 66, 67, 68, 72, 75, 76, 999] σ0 σ43 := ExC.rf.tr X78
    have X80 : ExC [0, 1, 2, 60, 61, 62, 63, 64, 65, 66, 67, 68, 72, 75, 76, 999] σ0 σ64 := X79.tr (e66.mo (by decide))
    refine k_u75 H65 t73 t74 (WtC.mk c75 (by omega) c76) ((fun c hc => by have hz := h_3_0 c hc; exact ⟨Nat.lt_of_lt_of_le hz.1 X80.1, (X80.2.2 c hz.1).1.1.trans hz.2⟩)) (fun σ68 H69 e70 g71 c72 => ?_)
    refine k_iload_n rfl ?_
    refine k_bipush (m := 21) rfl (fun x81 h82 => ?_)
    refine k_ic_eq (fun h83 => ?_) (fun h83 => ?_)
    · refine hB _ _ _ _ (kgoC (is := KX7_waitingFor_44) rfl ?_)
      refine k_aload rfl ?_
      refine k_aload_n rfl ?_
      refine k_bipush (m := 11) rfl (fun x84 h85 => ?_)
      refine k_iload_n rfl ?_
      have t86 := t52.xt r22 (by decide) e46
      have t87 := t86.x e66
      have t88 := t87.x e70
      have R89 : RdC p0 none (1) (1) (1) σ0 σ18 := (RdC.rf : RdC p0 none 0 0 0 σ0 σ0).tr ⟨(e21.gwn H0.1 u25 u26 (by decide) (by rw [← q19]; exact r22.n0)), (e21.cou (u := 1) H0.1 h_0_0 (by decide) (by omega))⟩ (by omega) (by omega) (by omega) (by omega)
      have R90 : RdC p0 none (1) (1) (1) σ0 σ43 := R89.tr ⟨g51, (e46.co (u := 0) H20.1 t52 r22 (by decide) (by omega))⟩ (by omega) (by omega) (by omega) (by omega)
      have R91 : RdC p0 none (1) (1) (1) σ0 σ64 := R90.tr ⟨(e66.gw H45.1 (by decide)), (e66.cou (u := 0) H45.1 t86 (by decide) (by rw [e66.cn (by decide)]; omega))⟩ (by omega) (by omega) (by omega) (by omega)
      have R92 : RdC p0 none (1) (1) (1) σ0 σ68 := R91.trx ⟨g71, (e70.cou (u := 0) H65.1 t87 (by decide) (by rw [e70.cn (by decide)]; omega))⟩ (by omega) (by omega) (by omega) (by omega) (by omega)
      have c93 := (t86.mi e66 (by decide)).trans c61
      have c94 := (t87.mi e70 (by decide)).trans c93
      have X95 : ExC [0, 1, 2, 60, 61, 62, 63, 64, 65, 66, 67, 68, 72, 75, 76, 999] σ0 σ68 := X80.tr (e70.mo (by decide))
      have c96 := (t86.mi e66 (by decide)).trans c59
      have c97 := (t87.mi e70 (by decide)).trans c96
      have z98 := congrArg Int32.toInt c97
      have z99 := congrArg Int32.toInt c94
      refine k_inv (P := P_X7_putMark) (Q := Q_X7_putMark) rfl rfl rfl rfl (Nat.le_of_ble_eq_true rfl) (t88.rc (by decide)) ⟨_, _, _, rfl, H69, t88, (rd_cd.st H0 h_0_0 X95 R92.1 (by decide)), (R92.2.2.2.1 rd_at), (rd_bg.st H0 h_0_0 X95 R92 (by decide) (by omega) (by omega) (by omega)), (by omega)⟩ (fun w100 σ101 q102 => ?_)
      obtain ⟨a103, rfl, H104, e105, h107, R106, q108, q109⟩ := q102
      have c110 := (t88.mi e105 (by decide)).trans c97
      have c111 := (t88.mi e105 (by decide)).trans c94
      have z112 := congrArg Int32.toInt c110
      have z113 := congrArg Int32.toInt c111
      refine k_st (st' := [.inr (.inr (some a103)), .inr (.inr (some a17))]) rfl ?_
      have z114 := R92.1.1
      have R115 : RdC p0 none (3) (3) (3) σ0 σ101 := R92.tr ⟨R106.1, R106.2⟩ (by omega) (by omega) (by omega) (by omega)
      have z116 := R115.2.2.1
      have z117 := R115.2.2.2.1 rd_at
      have t121 := Nat.lt_of_lt_of_le t73 e70.1
      have t122 := (e70.2.2 a17 t73).1.1.trans t74
      have t123 := Nat.lt_of_lt_of_le t121 e105.1
      have t124 := (e105.2.2 a17 t121).1.1.trans t122
      refine k_u76 H104 t123 t124 h107 (fun σ118 H119 e120 => ?_)
      refine k_nil ?_
      refine hB _ _ _ _ (kgoC (is := KX7_waitingFor_56) rfl ?_)
      refine k_aload rfl ?_
      refine k_areturn ?_
      have X125 : ExC [0, 1, 2, 60, 61, 62, 63, 64, 65, 66, 67, 68, 72, 75, 76, 999] σ0 σ101 := X95.tr (e105.mo (by decide))
      have X126 : ExC [0, 1, 2, 60, 61, 62, 63, 64, 65, 66, 67, 68, 72, 75, 76, 999] σ0 σ118 := X125.tr (e120.mo (by decide))
      have t127 := Nat.lt_of_lt_of_le t123 e120.1
      have t128 := (e120.2.2 a17 t123).1.1.trans t124
      have t129 := t88.x e105
      have R130 : RdC p0 none (3) (3) (3) σ0 σ118 := R115.tr ⟨(e120.gw H104.1 (by decide)), (e120.cou (u := 0) H104.1 t129 (by decide) (by rw [e120.cn (by decide)]; omega))⟩ (by omega) (by omega) (by omega) (by omega)
      have c131 := (t129.mi e120 (by decide)).trans c111
      have c132 := (t129.mi e120 (by decide)).trans c110
      have c133 := ((e70.2.2 a17 t73).2.2.2 60 (by decide)).1.trans c75
      have t134 := Nat.lt_of_lt_of_le t73 e70.1
      have t135 := (e70.2.2 a17 t73).1.1.trans t74
      have c136 := ((e105.2.2 a17 t134).2.1 (by rw [t135]; decide) 60 (by decide)).1.trans c133
      have c137 := ((e120.2.2 a17 t123).2.2.2 60 (by decide)).1.trans c136
      have c138 := ((e70.2.2 a17 t73).2.2.2 73 (by decide)).2.trans c76
      have c139 := ((e105.2.2 a17 t134).2.2.2 73 (by decide)).2.trans c138
      have c140 := ((e120.2.2 a17 t123).2.2.2 73 (by decide)).2.trans c139
      have c141 := ((e105.2.2 a17 t134).2.2.2 75 (by decide)).2.trans c72
      have c142 := ((e120.2.2 a17 t123).2.2.2 75 (by decide)).2.trans c141
      have S150 : ∀ s, ReC σ0 p0 s → ReC σ118 p0 ( s) := by
        intro s hs
        have y143 := hs.x H0.1 h_0_0 e21 (by decide)
        have y144 := y143.xt H20.1 t52 r22 e46 (by decide)
        have y145 := y144.x H45.1 t86 e66 (by decide)
        have y146 := y145.x H65.1 t87 e70 (by decide)
        have y147 := q109 _ y146
        have y149 := y147.x H104.1 t129 e120 (by decide)
        refine y149.eq ?_
        try unfold tkY
        repeat (split <;> try (exfalso; omega))
        try unfold dpY
        repeat (split <;> try (exfalso; omega))
        all_goals rfl
      exact ⟨_, rfl, H119, X126, t127, t128, (R130.mo (by omega) (by omega) (by omega)), (WtC.mk c137 (by omega) c140), c142, (by omega), S150⟩
    · refine k_nil ?_
      refine hB _ _ _ _ (kgoC (is := KX7_waitingFor_38) rfl ?_)
      refine k_iload_n rfl ?_
      refine k_bipush (m := 20) rfl (fun x151 h152 => ?_)
      refine k_ic_ne (fun h153 => ?_) (fun h153 => ?_)
      · refine hB _ _ _ _ (kgoC (is := KX7_waitingFor_56) rfl ?_)
        refine k_aload rfl ?_
        refine k_areturn ?_
        have X154 : ExC [0, 1, 2, 60, 61, 62, 63, 64, 65, 66, 67, 68, 72, 75, 76, 999] σ0 σ68 := X80.tr (e70.mo (by decide))
        have t155 := Nat.lt_of_lt_of_le t73 e70.1
        have t156 := (e70.2.2 a17 t73).1.1.trans t74
        have R157 : RdC p0 none (1) (1) (1) σ0 σ18 := (RdC.rf : RdC p0 none 0 0 0 σ0 σ0).tr ⟨(e21.gwn H0.1 u25 u26 (by decide) (by rw [← q19]; exact r22.n0)), (e21.cou (u := 1) H0.1 h_0_0 (by decide) (by omega))⟩ (by omega) (by omega) (by omega) (by omega)
        have R158 : RdC p0 none (1) (1) (1) σ0 σ43 := R157.tr ⟨g51, (e46.co (u := 0) H20.1 t52 r22 (by decide) (by omega))⟩ (by omega) (by omega) (by omega) (by omega)
        have t159 := t52.xt r22 (by decide) e46
        have R160 : RdC p0 none (1) (1) (1) σ0 σ64 := R158.tr ⟨(e66.gw H45.1 (by decide)), (e66.cou (u := 0) H45.1 t159 (by decide) (by rw [e66.cn (by decide)]; omega))⟩ (by omega) (by omega) (by omega) (by omega)
        have t161 := t159.x e66
        have R162 : RdC p0 none (1) (1) (1) σ0 σ68 := R160.trx ⟨g71, (e70.cou (u := 0) H65.1 t161 (by decide) (by rw [e70.cn (by decide)]; omega))⟩ (by omega) (by omega) (by omega) (by omega) (by omega)
        have c163 := (t159.mi e66 (by decide)).trans c61
        have c164 := (t161.mi e70 (by decide)).trans c163
        have c165 := (t159.mi e66 (by decide)).trans c59
        have c166 := (t161.mi e70 (by decide)).trans c165
        have c167 := ((e70.2.2 a17 t73).2.2.2 60 (by decide)).1.trans c75
        have c168 := ((e70.2.2 a17 t73).2.2.2 73 (by decide)).2.trans c76
        have S173 : ∀ s, ReC σ0 p0 s → ReC σ68 p0 ( s) := by
          intro s hs
          have y169 := hs.x H0.1 h_0_0 e21 (by decide)
          have y170 := y169.xt H20.1 t52 r22 e46 (by decide)
          have y171 := y170.x H45.1 t159 e66 (by decide)
          have y172 := y171.x H65.1 t161 e70 (by decide)
          refine y172.eq ?_
          try unfold tkY
          repeat (split <;> try (exfalso; omega))
          try unfold dpY
          repeat (split <;> try (exfalso; omega))
          all_goals rfl
        exact ⟨_, rfl, H69, X154, t155, t156, (R162.mo (by omega) (by omega) (by omega)), (WtC.mk c167 (by omega) c168), c72, (by omega), S173⟩
      · refine k_nil ?_
        refine hB _ _ _ _ (kgoC (is := KX7_waitingFor_44) rfl ?_)
        refine k_aload rfl ?_
        refine k_aload_n rfl ?_
        refine k_bipush (m := 11) rfl (fun x174 h175 => ?_)
        refine k_iload_n rfl ?_
        have t176 := t52.xt r22 (by decide) e46
        have t177 := t176.x e66
        have t178 := t177.x e70
        have R179 : RdC p0 none (1) (1) (1) σ0 σ18 := (RdC.rf : RdC p0 none 0 0 0 σ0 σ0).tr ⟨(e21.gwn H0.1 u25 u26 (by decide) (by rw [← q19]; exact r22.n0)), (e21.cou (u := 1) H0.1 h_0_0 (by decide) (by omega))⟩ (by omega) (by omega) (by omega) (by omega)
        have R180 : RdC p0 none (1) (1) (1) σ0 σ43 := R179.tr ⟨g51, (e46.co (u := 0) H20.1 t52 r22 (by decide) (by omega))⟩ (by omega) (by omega) (by omega) (by omega)
        have R181 : RdC p0 none (1) (1) (1) σ0 σ64 := R180.tr ⟨(e66.gw H45.1 (by decide)), (e66.cou (u := 0) H45.1 t176 (by decide) (by rw [e66.cn (by decide)]; omega))⟩ (by omega) (by omega) (by omega) (by omega)
        have R182 : RdC p0 none (1) (1) (1) σ0 σ68 := R181.trx ⟨g71, (e70.cou (u := 0) H65.1 t177 (by decide) (by rw [e70.cn (by decide)]; omega))⟩ (by omega) (by omega) (by omega) (by omega) (by omega)
        have c183 := (t176.mi e66 (by decide)).trans c61
        have c184 := (t177.mi e70 (by decide)).trans c183
        have X185 : ExC [0, 1, 2, 60, 61, 62, 63, 64, 65, 66, 67, 68, 72, 75, 76, 999] σ0 σ68 := X80.tr (e70.mo (by decide))
        have c186 := (t176.mi e66 (by decide)).trans c59
        have c187 := (t177.mi e70 (by decide)).trans c186
        have z188 := congrArg Int32.toInt c187
        have z189 := congrArg Int32.toInt c184
        refine k_inv (P := P_X7_putMark) (Q := Q_X7_putMark) rfl rfl rfl rfl (Nat.le_of_ble_eq_true rfl) (t178.rc (by decide)) ⟨_, _, _, rfl, H69, t178, (rd_cd.st H0 h_0_0 X185 R182.1 (by decide)), (R182.2.2.2.1 rd_at), (rd_bg.st H0 h_0_0 X185 R182 (by decide) (by omega) (by omega) (by omega)), (by omega)⟩ (fun w190 σ191 q192 => ?_)
        obtain ⟨a193, rfl, H194, e195, h197, R196, q198, q199⟩ := q192
        have c200 := (t178.mi e195 (by decide)).trans c187
        have c201 := (t178.mi e195 (by decide)).trans c184
        have z202 := congrArg Int32.toInt c200
        have z203 := congrArg Int32.toInt c201
        refine k_st (st' := [.inr (.inr (some a193)), .inr (.inr (some a17))]) rfl ?_
        have z204 := R182.1.1
        have R205 : RdC p0 none (3) (3) (3) σ0 σ191 := R182.tr ⟨R196.1, R196.2⟩ (by omega) (by omega) (by omega) (by omega)
        have z206 := R205.2.2.1
        have z207 := R205.2.2.2.1 rd_at
        have t211 := Nat.lt_of_lt_of_le t73 e70.1
        have t212 := (e70.2.2 a17 t73).1.1.trans t74
        have t213 := Nat.lt_of_lt_of_le t211 e195.1
        have t214 := (e195.2.2 a17 t211).1.1.trans t212
        refine k_u76 H194 t213 t214 h197 (fun σ208 H209 e210 => ?_)
        refine k_nil ?_
        refine hB _ _ _ _ (kgoC (is := KX7_waitingFor_56) rfl ?_)
        refine k_aload rfl ?_
        refine k_areturn ?_
        have X215 : ExC [0, 1, 2, 60, 61, 62, 63, 64, 65, 66, 67, 68, 72, 75, 76, 999] σ0 σ191 := X185.tr (e195.mo (by decide))
        have X216 : ExC [0, 1, 2, 60, 61, 62, 63, 64, 65, 66, 67, 68, 72, 75, 76, 999] σ0 σ208 := X215.tr (e210.mo (by decide))
        have t217 := Nat.lt_of_lt_of_le t213 e210.1
        have t218 := (e210.2.2 a17 t213).1.1.trans t214
        have t219 := t178.x e195
        have R220 : RdC p0 none (3) (3) (3) σ0 σ208 := R205.tr ⟨(e210.gw H194.1 (by decide)), (e210.cou (u := 0) H194.1 t219 (by decide) (by rw [e210.cn (by decide)]; omega))⟩ (by omega) (by omega) (by omega) (by omega)
        have c221 := (t219.mi e210 (by decide)).trans c201
        have c222 := (t219.mi e210 (by decide)).trans c200
        have c223 := ((e70.2.2 a17 t73).2.2.2 60 (by decide)).1.trans c75
        have t224 := Nat.lt_of_lt_of_le t73 e70.1
        have t225 := (e70.2.2 a17 t73).1.1.trans t74
        have c226 := ((e195.2.2 a17 t224).2.1 (by rw [t225]; decide) 60 (by decide)).1.trans c223
        have c227 := ((e210.2.2 a17 t213).2.2.2 60 (by decide)).1.trans c226
        have c228 := ((e70.2.2 a17 t73).2.2.2 73 (by decide)).2.trans c76
        have c229 := ((e195.2.2 a17 t224).2.2.2 73 (by decide)).2.trans c228
        have c230 := ((e210.2.2 a17 t213).2.2.2 73 (by decide)).2.trans c229
        have c231 := ((e195.2.2 a17 t224).2.2.2 75 (by decide)).2.trans c72
        have c232 := ((e210.2.2 a17 t213).2.2.2 75 (by decide)).2.trans c231
        have S240 : ∀ s, ReC σ0 p0 s → ReC σ208 p0 ( s) := by
          intro s hs
          have y233 := hs.x H0.1 h_0_0 e21 (by decide)
          have y234 := y233.xt H20.1 t52 r22 e46 (by decide)
          have y235 := y234.x H45.1 t176 e66 (by decide)
          have y236 := y235.x H65.1 t177 e70 (by decide)
          have y237 := q199 _ y236
          have y239 := y237.x H194.1 t219 e210 (by decide)
          refine y239.eq ?_
          try unfold tkY
          repeat (split <;> try (exfalso; omega))
          try unfold dpY
          repeat (split <;> try (exfalso; omega))
          all_goals rfl
        exact ⟨_, rfl, H209, X216, t217, t218, (R220.mo (by omega) (by omega) (by omega)), (WtC.mk c227 (by omega) c230), c232, (by omega), S240⟩
theorem lg_X7_waitingFor : ∀ (As : List AvC) (σ : CsC), P_X7_waitingFor As σ → lgC As ≤ rX7_waitingFor.2.2.1 := by
  rintro As σ ⟨p0, p1, p2, p3, rfl, -⟩
  exact Nat.le_of_ble_eq_true rfl
theorem m_X7_waitingFor (l : Launch) : CMetC l 13 168 P_X7_waitingFor Q_X7_waitingFor :=
  CMetC.of KX7_waitingFor [(17, P_X1_init, Q_X1_init), (163, P_X7_putMark, Q_X7_putMark)] hX7_waitingFor (by decide) (by decide) okX7_waitingFor (cc1C (m_X1_init l) (by decide) (cc1C (m_X7_putMark l) (by decide) cc0C)) (lg_X7_waitingFor) (b_X7_waitingFor)

set_option maxRecDepth 100000 in
set_option maxHeartbeats 4000000 in
theorem b_X7_closed : TbC KX7_closed [(161, P_X7_put, Q_X7_put)] P_X7_closed Q_X7_closed := by
  · rintro As σ0 ⟨p0, p1, p2, rfl, H0, h_0_0, h_1_0, h_1_1, h_2_0, rd_cd, rd_at, rd_bg⟩ hgr G hB hW
    change G 0 [(0, .inr (.inr (some p0))), (1, .inr (.inr (some p1))), (2, .inr (.inr (some p2)))] [] σ0
    obtain ⟨x1, e2, c3, h4, h5⟩ := cg242 H0.1 h_0_0
    obtain ⟨x6, e7, c8, h9, h10⟩ := cg243 H0.1 h_0_0
    have z11 := congrArg Int32.toInt c3
    have z12 := congrArg Int32.toInt c8
    refine hB _ _ _ _ (kgoC (is := KX7_closed_0) rfl ?_)
    refine k_aload_n rfl ?_
    refine k_aload_n rfl ?_
    refine k_cl rfl H0 h_1_0 h_1_1 h_2_0 (fun σ13 H14 e15 g16 t17 => ?_)
    refine k_aload_n rfl ?_
    refine k_aload_n rfl ?_
    have t18 := h_0_0.x e15
    have R19 : RdC p0 (some p1) (0) (0) (0) σ0 σ13 := (RdC.rf : RdC p0 (some p1) 0 0 0 σ0 σ0).tr ⟨g16, (e15.cou (u := 0) H0.1 h_0_0 (by decide) (by rw [e15.cn (by decide)]; omega))⟩ (by omega) (by omega) (by omega) (by omega)
    have c20 := (h_0_0.mi e15 (by decide)).trans c8
    have X21 : ExC [0, 1, 2, 64, 65, 73, 75, 999] σ0 σ13 := ExC.rf.tr (e15.mo (by decide))
    have c22 := (h_0_0.mi e15 (by decide)).trans c3
    have z23 := congrArg Int32.toInt c22
    have z24 := congrArg Int32.toInt c20
    refine k_inv (P := P_X7_put) (Q := Q_X7_put) rfl rfl rfl rfl (Nat.le_of_ble_eq_true rfl) (t18.rc (by decide)) ⟨_, _, rfl, H14, t18, t17, (rd_cd.st H0 h_0_0 X21 R19.1 (by decide)), (R19.2.2.2.1 rd_at), (rd_bg.st H0 h_0_0 X21 R19 (by decide) (by omega) (by omega) (by omega))⟩ (fun w25 σ26 q27 => ?_)
    obtain ⟨a28, rfl, H29, e30, h32, R31, q33, q34⟩ := q27
    have c35 := (t18.mi e30 (by decide)).trans c22
    have c36 := (t18.mi e30 (by decide)).trans c20
    have z37 := congrArg Int32.toInt c35
    have z38 := congrArg Int32.toInt c36
    refine k_st (st' := [.inr (.inr (some a28))]) rfl ?_
    refine k_areturn ?_
    have X39 : ExC [0, 1, 2, 64, 65, 73, 75, 999] σ0 σ26 := X21.tr (e30.mo (by decide))
    have R40 : RdC p0 (some p1) (1) (1) (1) σ0 σ26 := R19.tr ⟨R31.1.ap, R31.2⟩ (by omega) (by omega) (by omega) (by omega)
    have S44 : ∀ s, ReC σ0 p0 s → ReC σ26 p0 ( s) := by
      intro s hs
      have y41 := hs.x H0.1 h_0_0 e15 (by decide)
      have y42 := q34 _ y41
      refine y42.eq ?_
      try unfold tkY
      repeat (split <;> try (exfalso; omega))
      try unfold dpY
      repeat (split <;> try (exfalso; omega))
      all_goals rfl
    exact ⟨_, rfl, H29, X39, h32, (R40.mo (by omega) (by omega) (by omega)), (by omega), S44⟩
theorem lg_X7_closed : ∀ (As : List AvC) (σ : CsC), P_X7_closed As σ → lgC As ≤ rX7_closed.2.2.1 := by
  rintro As σ ⟨p0, p1, p2, rfl, -⟩
  exact Nat.le_of_ble_eq_true rfl
theorem m_X7_closed (l : Launch) : CMetC l 12 169 P_X7_closed Q_X7_closed :=
  CMetC.of KX7_closed [(161, P_X7_put, Q_X7_put)] hX7_closed (by decide) (by decide) okX7_closed (cc1C (m_X7_put l) (by decide) cc0C) (lg_X7_closed) (b_X7_closed)
