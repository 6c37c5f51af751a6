set_option maxRecDepth 100000 in
set_option maxHeartbeats 4000000 in
theorem b_X7_readSimple (d : Nat) : TbC KX7_readSimple [(125, P_X7_code, Q_X7_code), (142, P_X7_begin, Q_X7_begin), (128, P_X7_accept, Q_X7_accept), (164, (P_X7_readExp d), (Q_X7_readExp d)), (129, P_X7_expect, Q_X7_expect), (234, P_Jx4a65c_size_8abf5, Q_Jx4a65c_size_8abf5), (144, (P_X7_readBlock d), (Q_X7_readBlock d))] (P_X7_readSimple d) (Q_X7_readSimple d) := by
  · rintro As σ0 ⟨p0, p1, rfl, H0, h_0_0, h_1_0, h_1_1, rd_cd, rd_at, rd_bl, rd_lv, rd_tk, rd_dp, q_0⟩ hgr G hB hW
    change G 0 [(0, .inr (.inr (some p0))), (1, .inl p1)] [] σ0
    obtain ⟨x1, e2, c3, h4, h5⟩ := cg242 H0.1 h_0_0
    obtain ⟨x6, e7, c8, h9, h10⟩ := cg243 H0.1 h_0_0
    have z11 := congrArg Int32.toInt c3
    have z12 := congrArg Int32.toInt c8
    have h13 : x6.toInt = 0 := by rw [← c8]; exact rd_lv
    have rd_bg : BgC σ0 p0 (24 + 8 * (d : Int)) 1000000 := ⟨fun _ => rd_bl, fun z => absurd rd_lv z⟩
    refine hB _ _ _ _ (kgoC (is := KX7_readSimple_0) rfl ?_)
    refine k_aload_n rfl ?_
    refine k_aload_n rfl ?_
    have R14 := (RdC.rf : RdC p0 none 0 0 0 σ0 σ0).nf (-1000) (-1000) (by rw [c8]; omega)
    refine k_inv (P := P_X7_code) (Q := Q_X7_code) rfl rfl rfl rfl (Nat.le_of_ble_eq_true rfl) (h_0_0.rc (by decide)) ⟨_, rfl, H0, h_0_0, (rd_cd.st H0 h_0_0 (ExC.rf : ExC [0, 1, 2, 60, 61, 62, 63, 64, 65, 66, 67, 68, 69, 70, 72, 73, 74, 75, 76, 242, 243, 244, 246, 270, 271, 272, 273, 275, 276, 277, 278, 279, 280, 330, 331, 332, 333, 334, 999] σ0 σ0) R14.1 (by decide))⟩ (fun w15 σ16 q17 => ?_)
    obtain ⟨x18, rfl, rfl, q19, q20, q21, q22⟩ := q17
    refine k_st (st' := [.inl x18, .inr (.inr (some p0))]) rfl ?_
    have z23 := R14.2.2.1
    have z24 := R14.2.2.2.1 rd_at
    refine k_iload_n rfl ?_
    refine k_inv (P := P_X7_begin) (Q := Q_X7_begin) rfl rfl rfl rfl (Nat.le_of_ble_eq_true rfl) (h_0_0.rc (by decide)) ⟨_, _, _, rfl, H0, h_0_0, (by omega), (by omega), (rd_cd.st H0 h_0_0 (ExC.rf : ExC [0, 1, 2, 60, 61, 62, 63, 64, 65, 66, 67, 68, 69, 70, 72, 73, 74, 75, 76, 242, 243, 244, 246, 270, 271, 272, 273, 275, 276, 277, 278, 279, 280, 330, 331, 332, 333, 334, 999] σ0 σ0) R14.1 (by decide)), (R14.2.2.2.1 rd_at), (rd_bg.stn H0 h_0_0 (ExC.rf : ExC [0, 1, 2, 60, 61, 62, 63, 64, 65, 66, 67, 68, 69, 70, 72, 73, 74, 75, 76, 242, 243, 244, 246, 270, 271, 272, 273, 275, 276, 277, 278, 279, 280, 330, 331, 332, 333, 334, 999] σ0 σ0) R14 (by decide) (by rw [c8]; omega) (by omega)), (by omega)⟩ (fun w25 σ26 q27 => ?_)
    obtain ⟨a28, rfl, H29, e30, h32, R31, q33, q34, q35, q36⟩ := q27
    have c37 := (h_0_0.mi e30 (by decide)).trans c3
    have c38 := (h_0_0.mi e30 (by decide)).trans c8
    have z39 := congrArg Int32.toInt c37
    have z40 := congrArg Int32.toInt c38
    refine k_st (st' := [.inr (.inr (some a28))]) rfl ?_
    have z41 := R14.1.1
    refine k_astore_n (ls' := [(2, .inr (.inr (some a28))), (0, .inr (.inr (some p0))), (1, .inl p1)]) rfl ?_
    refine k_aload_n rfl ?_
    refine k_get kg270 h32 (congrArg (Sum.inl : Int32 → AvC) q34) ?_
    refine k_iconst (m := 2) rfl (fun x42 h43 => ?_)
    refine k_ic_ne (fun h44 => ?_) (fun h44 => ?_)
    · refine hB _ _ _ _ (kgoC (is := KX7_readSimple_26) rfl ?_)
      refine k_aload_n rfl ?_
      have t45 := h_0_0.x e30
      have R46 : RdC p0 none (2) (2) (-998) σ0 σ26 := R14.tr ⟨R31.1, R31.2⟩ (by omega) (by omega) (by omega) (by omega)
      have R47 := R46.nf (-1000) (-1000) (by rw [c38]; omega)
      have X48 : ExC [0, 1, 2, 60, 61, 62, 63, 64, 65, 66, 67, 68, 69, 70, 72, 73, 74, 75, 76, 242, 243, 244, 246, 270, 271, 272, 273, 275, 276, 277, 278, 279, 280, 330, 331, 332, 333, 334, 999] σ0 σ26 := ExC.rf.tr (e30.mo (by decide))
      refine k_inv (P := P_X7_accept) (Q := Q_X7_accept) rfl rfl rfl rfl (Nat.le_of_ble_eq_true rfl) (t45.rc (by decide)) ⟨_, rfl, H29, t45, (rd_cd.st H0 h_0_0 X48 R47.1 (by decide)), (R47.2.2.2.1 rd_at), (rd_bg.stn H0 h_0_0 X48 R47 (by decide) (by rw [c38]; omega) (by omega)), (by have ct := R47.2.2.1; rw [c38, c37, ct]; omega)⟩ (fun w49 σ50 q51 => ?_)
      obtain ⟨rfl, H52, e53, R54, q55, q56⟩ := q51
      have t62 := t45.x e53
      obtain ⟨x57, e58, c59, h60, h61⟩ := cg242 H52.1 t62
      obtain ⟨x63, e64, c65, h66, h67⟩ := cg243 H52.1 t62
      have z68 := congrArg Int32.toInt c59
      have z69 := congrArg Int32.toInt c65
      refine k_st (st' := []) rfl ?_
      have R70 : RdC p0 none (-6) (2) (-1000) σ0 σ50 := R47.tr ⟨R54.1, R54.2⟩ (by omega) (by omega) (by omega) (by omega)
      have z71 := R70.2.2.1
      have z72 := R70.2.2.2.1 rd_at
      refine k_aload_n rfl ?_
      have t73 := h32.x e53
      have c74 := (h32.mi e53 (by decide)).trans q34
      refine k_get kg270 t73 (congrArg (Sum.inl : Int32 → AvC) c74) ?_
      refine k_iconst (m := 4) rfl (fun x75 h76 => ?_)
      refine k_ic_ne (fun h77 => ?_) (fun h77 => ?_)
      · refine hB _ _ _ _ (kgoC (is := KX7_readSimple_40) rfl ?_)
        refine k_aload_n rfl ?_
        refine k_get kg270 t73 (congrArg (Sum.inl : Int32 → AvC) c74) ?_
        refine k_bipush (m := 67) rfl (fun x78 h79 => ?_)
        refine k_ic_eq (fun h80 => ?_) (fun h80 => ?_)
        · refine hB _ _ _ _ (kgoC (is := KX7_readSimple_66) rfl ?_)
          refine k_aload_n rfl ?_
          refine k_aload_n rfl ?_
          refine k_iload_n rfl ?_
          have X81 : ExC [0, 1, 2, 60, 61, 62, 63, 64, 65, 66, 67, 68, 69, 70, 72, 73, 74, 75, 76, 242, 243, 244, 246, 270, 271, 272, 273, 275, 276, 277, 278, 279, 280, 330, 331, 332, 333, 334, 999] σ0 σ50 := X48.tr (e53.mo (by decide))
          refine k_inv (P := (P_X7_readExp d)) (Q := (Q_X7_readExp d)) rfl rfl rfl rfl (Nat.le_of_ble_eq_true rfl) (t62.rc (by decide)) ⟨_, _, rfl, H52, t62, (by omega), (by omega), (rd_cd.st H0 h_0_0 X81 R70.1 (by decide)), (R70.2.2.2.1 rd_at), (rd_bg.st H0 h_0_0 X81 R70 (by decide) (by omega) (by omega) (by omega)), (by omega)⟩ (fun w82 σ83 q84 => ?_)
          obtain ⟨a85, rfl, H86, e87, h89, R88, q90, q91⟩ := q84
          have t97 := t62.x e87
          obtain ⟨x92, e93, c94, h95, h96⟩ := cg242 H86.1 t97
          obtain ⟨x98, e99, c100, h101, h102⟩ := cg243 H86.1 t97
          have z103 := congrArg Int32.toInt c94
          have z104 := congrArg Int32.toInt c100
          refine k_st (st' := [.inr (.inr (some a85)), .inr (.inr (some a28))]) rfl ?_
          have z105 := R70.1.1
          have R106 : RdC p0 none (-6) (14 + 8 * (d : Int)) (-999) σ0 σ83 := R70.tr ⟨R88.1, R88.2⟩ (by omega) (by omega) (by omega) (by omega)
          have z107 := R106.2.2.1
          have z108 := R106.2.2.2.1 rd_at
          have t109 := t73.x e87
          refine k_putR kp279 H86 t109 fk279 (rf279 h89) (fun σ110 H111 e112 c113 => ?_)
          refine k_nil ?_
          refine hB _ _ _ _ (kgoC (is := KX7_readSimple_75) rfl ?_)
          refine k_aload_n rfl ?_
          have t114 := t109.x e112
          have c115 := (t73.mi e87 (by decide)).trans c74
          have c116 := (t109.mi e112 (by decide)).trans c115
          refine k_get kg270 t114 (congrArg (Sum.inl : Int32 → AvC) c116) ?_
          refine k_bipush (m := 66) rfl (fun x117 h118 => ?_)
          refine k_ic_ne (fun h119 => ?_) (fun h119 => by exfalso; omega)
          refine hB _ _ _ _ (kgoC (is := KX7_readSimple_103) rfl ?_)
          refine k_aload_n rfl ?_
          refine k_get kg270 t114 (congrArg (Sum.inl : Int32 → AvC) c116) ?_
          refine k_bipush (m := 67) rfl (fun x120 h121 => ?_)
          refine k_ic_eq (fun h122 => ?_) (fun h122 => by exfalso; omega)
          refine hB _ _ _ _ (kgoC (is := KX7_readSimple_148) rfl ?_)
          refine k_aload_n rfl ?_
          refine k_iconst (m := 4) rfl (fun x123 h124 => ?_)
          have t125 := t97.x e112
          have R126 : RdC p0 none (-6) (14 + 8 * (d : Int)) (-999) σ0 σ110 := R106.tr ⟨(e112.gw H86.1 (by decide)), (e112.cou (u := 0) H86.1 t97 (by decide) (by rw [e112.cn (by decide)]; omega))⟩ (by omega) (by omega) (by omega) (by omega)
          have c127 := (t97.mi e112 (by decide)).trans c100
          have X128 : ExC [0, 1, 2, 60, 61, 62, 63, 64, 65, 66, 67, 68, 69, 70, 72, 73, 74, 75, 76, 242, 243, 244, 246, 270, 271, 272, 273, 275, 276, 277, 278, 279, 280, 330, 331, 332, 333, 334, 999] σ0 σ83 := X81.tr (e87.mo (by decide))
          have X129 : ExC [0, 1, 2, 60, 61, 62, 63, 64, 65, 66, 67, 68, 69, 70, 72, 73, 74, 75, 76, 242, 243, 244, 246, 270, 271, 272, 273, 275, 276, 277, 278, 279, 280, 330, 331, 332, 333, 334, 999] σ0 σ110 := X128.tr (e112.mo (by decide))
          have c130 := (t97.mi e112 (by decide)).trans c94
          have z131 := congrArg Int32.toInt c130
          have z132 := congrArg Int32.toInt c127
          refine k_inv (P := P_X7_expect) (Q := Q_X7_expect) rfl rfl rfl rfl (Nat.le_of_ble_eq_true rfl) (t125.rc (by decide)) ⟨_, _, rfl, H111, t125, (by omega), (by omega), (rd_cd.st H0 h_0_0 X129 R126.1 (by decide)), (R126.2.2.2.1 rd_at), (rd_bg.st H0 h_0_0 X129 R126 (by decide) (by omega) (by omega) (by omega))⟩ (fun w133 σ134 q135 => ?_)
          obtain ⟨rfl, H136, e137, R138, q139, q140⟩ := q135
          have t146 := t125.x e137
          obtain ⟨x141, e142, c143, h144, h145⟩ := cg242 H136.1 t146
          obtain ⟨x147, e148, c149, h150, h151⟩ := cg243 H136.1 t146
          have z152 := congrArg Int32.toInt c143
          have z153 := congrArg Int32.toInt c149
          refine k_st (st' := []) rfl ?_
          have R154 : RdC p0 none (-14) (14 + 8 * (d : Int)) (-999) σ0 σ134 := R126.tr ⟨R138.1, R138.2⟩ (by omega) (by omega) (by omega) (by omega)
          have z155 := R154.2.2.1
          have z156 := R154.2.2.2.1 rd_at
          refine k_aload_n rfl ?_
          refine k_areturn ?_
          have X157 : ExC [0, 1, 2, 60, 61, 62, 63, 64, 65, 66, 67, 68, 69, 70, 72, 73, 74, 75, 76, 242, 243, 244, 246, 270, 271, 272, 273, 275, 276, 277, 278, 279, 280, 330, 331, 332, 333, 334, 999] σ0 σ134 := X129.tr (e137.mo (by decide))
          have t158 := t114.x e137
          have c159 := (h32.mi e53 (by decide)).trans q35
          have c160 := (t73.mi e87 (by decide)).trans c159
          have c161 := (t109.mi e112 (by decide)).trans c160
          have c162 := (t114.mi e137 (by decide)).trans c161
          have c163 := (t114.mi e137 (by decide)).trans c116
          have S179 : ∀ s, ReC σ0 p0 s → ReC σ134 p0 (simY d (rwY (d - 1)) s) := by
            intro s hs
            have f164 := q22 _ hs
            have y165 := q36 _ hs
            have y167 := q56 _ y165
            have y169 := q91 _ y167
            have y171 := y169.x H86.1 t97 e112 (by decide)
            have y172 := q140 _ y171
            rw [h124] at y172
            have g174 := neY f164 h44 h43
            have g175 := neY f164 h77 h76
            have g176 := f164.symm.trans (h80.trans h79)
            have g177 := neY f164 h119 h118
            have g178 := f164.symm.trans (h122.trans h121)
            refine y172.eq ?_
            all_goals try simp only [simY, si2Y, si3Y, g174, g175, g176, g177, g178, or_false, false_or, or_true, true_or, and_false, false_and, and_true, true_and, not_true, not_false_iff, ↓reduceIte, Int.reduceEq, Int.reduceLE, Int.reduceLT, Int.reduceNeg]
            all_goals first | rfl | (exfalso; omega)
          exact ⟨_, rfl, H136, X157, t158, (R154.mo (by omega) (by omega) (by omega)), (by omega), (by rw [c162] <;> omega), (by rw [c163] <;> omega), S179⟩
        · refine k_nil ?_
          refine hB _ _ _ _ (kgoC (is := KX7_readSimple_49) rfl ?_)
          refine k_aload_n rfl ?_
          refine k_get kg270 t73 (congrArg (Sum.inl : Int32 → AvC) c74) ?_
          refine k_bipush (m := 66) rfl (fun x180 h181 => ?_)
          refine k_ic_ne (fun h182 => ?_) (fun h182 => ?_)
          · refine hB _ _ _ _ (kgoC (is := KX7_readSimple_75) rfl ?_)
            refine k_aload_n rfl ?_
            refine k_get kg270 t73 (congrArg (Sum.inl : Int32 → AvC) c74) ?_
            refine k_bipush (m := 66) rfl (fun x183 h184 => ?_)
            refine k_ic_ne (fun h185 => ?_) (fun h185 => ?_)
            · refine hB _ _ _ _ (kgoC (is := KX7_readSimple_103) rfl ?_)
              refine k_aload_n rfl ?_
              refine k_get kg270 t73 (congrArg (Sum.inl : Int32 → AvC) c74) ?_
              refine k_bipush (m := 67) rfl (fun x186 h187 => ?_)
              refine k_ic_eq (fun h188 => ?_) (fun h188 => ?_)
              · refine hB _ _ _ _ (kgoC (is := KX7_readSimple_148) rfl ?_)
                refine k_aload_n rfl ?_
                refine k_iconst (m := 4) rfl (fun x189 h190 => ?_)
                have X191 : ExC [0, 1, 2, 60, 61, 62, 63, 64, 65, 66, 67, 68, 69, 70, 72, 73, 74, 75, 76, 242, 243, 244, 246, 270, 271, 272, 273, 275, 276, 277, 278, 279, 280, 330, 331, 332, 333, 334, 999] σ0 σ50 := X48.tr (e53.mo (by decide))
                refine k_inv (P := P_X7_expect) (Q := Q_X7_expect) rfl rfl rfl rfl (Nat.le_of_ble_eq_true rfl) (t62.rc (by decide)) ⟨_, _, rfl, H52, t62, (by omega), (by omega), (rd_cd.st H0 h_0_0 X191 R70.1 (by decide)), (R70.2.2.2.1 rd_at), (rd_bg.st H0 h_0_0 X191 R70 (by decide) (by omega) (by omega) (by omega))⟩ (fun w192 σ193 q194 => ?_)
                obtain ⟨rfl, H195, e196, R197, q198, q199⟩ := q194
                have t205 := t62.x e196
                obtain ⟨x200, e201, c202, h203, h204⟩ := cg242 H195.1 t205
                obtain ⟨x206, e207, c208, h209, h210⟩ := cg243 H195.1 t205
                have z211 := congrArg Int32.toInt c202
                have z212 := congrArg Int32.toInt c208
                refine k_st (st' := []) rfl ?_
                have R213 : RdC p0 none (-14) (2) (-1000) σ0 σ193 := R70.tr ⟨R197.1, R197.2⟩ (by omega) (by omega) (by omega) (by omega)
                have z214 := R213.2.2.1
                have z215 := R213.2.2.2.1 rd_at
                refine k_aload_n rfl ?_
                refine k_areturn ?_
                have X216 : ExC [0, 1, 2, 60, 61, 62, 63, 64, 65, 66, 67, 68, 69, 70, 72, 73, 74, 75, 76, 242, 243, 244, 246, 270, 271, 272, 273, 275, 276, 277, 278, 279, 280, 330, 331, 332, 333, 334, 999] σ0 σ193 := X191.tr (e196.mo (by decide))
                have t217 := t73.x e196
                have c218 := (h32.mi e53 (by decide)).trans q35
                have c219 := (t73.mi e196 (by decide)).trans c218
                have c220 := (t73.mi e196 (by decide)).trans c74
                have S234 : ∀ s, ReC σ0 p0 s → ReC σ193 p0 (simY d (rwY (d - 1)) s) := by
                  intro s hs
                  have f221 := q22 _ hs
                  have y222 := q36 _ hs
                  have y224 := q56 _ y222
                  have y226 := q199 _ y224
                  rw [h190] at y226
                  have g228 := neY f221 h44 h43
                  have g229 := neY f221 h77 h76
                  have g230 := neY f221 h80 h79
                  have g231 := neY f221 h182 h181
                  have g232 := neY f221 h185 h184
                  have g233 := f221.symm.trans (h188.trans h187)
                  refine y226.eq ?_
                  all_goals try simp only [simY, si2Y, si3Y, g228, g229, g230, g231, g232, g233, or_false, false_or, or_true, true_or, and_false, false_and, and_true, true_and, not_true, not_false_iff, ↓reduceIte, Int.reduceEq, Int.reduceLE, Int.reduceLT, Int.reduceNeg]
                  all_goals first | rfl | (exfalso; omega)
                exact ⟨_, rfl, H195, X216, t217, (R213.mo (by omega) (by omega) (by omega)), (by omega), (by rw [c219] <;> omega), (by rw [c220] <;> omega), S234⟩
              · refine k_nil ?_
                refine hB _ _ _ _ (kgoC (is := KX7_readSimple_112) rfl ?_)
                refine k_aload_n rfl ?_
                have X235 : ExC [0, 1, 2, 60, 61, 62, 63, 64, 65, 66, 67, 68, 69, 70, 72, 73, 74, 75, 76, 242, 243, 244, 246, 270, 271, 272, 273, 275, 276, 277, 278, 279, 280, 330, 331, 332, 333, 334, 999] σ0 σ50 := X48.tr (e53.mo (by decide))
                refine k_inv (P := P_X7_code) (Q := Q_X7_code) rfl rfl rfl rfl (Nat.le_of_ble_eq_true rfl) (t62.rc (by decide)) ⟨_, rfl, H52, t62, (rd_cd.st H0 h_0_0 X235 R70.1 (by decide))⟩ (fun w236 σ237 q238 => ?_)
                obtain ⟨x239, rfl, rfl, q240, q241, q242, q243⟩ := q238
                refine k_st (st' := [.inl x239]) rfl ?_
                refine k_bipush (m := 80) rfl (fun x244 h245 => ?_)
                refine k_ic_ne (fun h246 => ?_) (fun h246 => ?_)
                · refine hB _ _ _ _ (kgoC (is := KX7_readSimple_148) rfl ?_)
                  refine k_aload_n rfl ?_
                  refine k_iconst (m := 4) rfl (fun x247 h248 => ?_)
                  refine k_inv (P := P_X7_expect) (Q := Q_X7_expect) rfl rfl rfl rfl (Nat.le_of_ble_eq_true rfl) (t62.rc (by decide)) ⟨_, _, rfl, H52, t62, (by omega), (by omega), (rd_cd.st H0 h_0_0 X235 R70.1 (by decide)), (R70.2.2.2.1 rd_at), (rd_bg.st H0 h_0_0 X235 R70 (by decide) (by omega) (by omega) (by omega))⟩ (fun w249 σ250 q251 => ?_)
                  obtain ⟨rfl, H252, e253, R254, q255, q256⟩ := q251
                  have t262 := t62.x e253
                  obtain ⟨x257, e258, c259, h260, h261⟩ := cg242 H252.1 t262
                  obtain ⟨x263, e264, c265, h266, h267⟩ := cg243 H252.1 t262
                  have z268 := congrArg Int32.toInt c259
                  have z269 := congrArg Int32.toInt c265
                  refine k_st (st' := []) rfl ?_
                  have R270 : RdC p0 none (-14) (2) (-1000) σ0 σ250 := R70.tr ⟨R254.1, R254.2⟩ (by omega) (by omega) (by omega) (by omega)
                  have z271 := R270.2.2.1
                  have z272 := R270.2.2.2.1 rd_at
                  refine k_aload_n rfl ?_
                  refine k_areturn ?_
                  have X273 : ExC [0, 1, 2, 60, 61, 62, 63, 64, 65, 66, 67, 68, 69, 70, 72, 73, 74, 75, 76, 242, 243, 244, 246, 270, 271, 272, 273, 275, 276, 277, 278, 279, 280, 330, 331, 332, 333, 334, 999] σ0 σ250 := X235.tr (e253.mo (by decide))
                  have t274 := t73.x e253
                  have c275 := (h32.mi e53 (by decide)).trans q35
                  have c276 := (t73.mi e253 (by decide)).trans c275
                  have c277 := (t73.mi e253 (by decide)).trans c74
                  have S293 : ∀ s, ReC σ0 p0 s → ReC σ250 p0 (simY d (rwY (d - 1)) s) := by
                    intro s hs
                    have f278 := q22 _ hs
                    have y279 := q36 _ hs
                    have y281 := q56 _ y279
                    have f283 := q243 _ y281
                    have y284 := q256 _ y281
                    rw [h248] at y284
                    have g286 := neY f278 h44 h43
                    have g287 := neY f278 h77 h76
                    have g288 := neY f278 h80 h79
                    have g289 := neY f278 h182 h181
                    have g290 := neY f278 h185 h184
                    have g291 := neY f278 h188 h187
                    have g292 := neY f283 h246 h245
                    refine y284.eq ?_
                    all_goals try simp only [simY, si2Y, si3Y, g286, g287, g288, g289, g290, g291, g292, or_false, false_or, or_true, true_or, and_false, false_and, and_true, true_and, not_true, not_false_iff, ↓reduceIte, Int.reduceEq, Int.reduceLE, Int.reduceLT, Int.reduceNeg]
                    all_goals first | rfl | (exfalso; omega)
                  exact ⟨_, rfl, H252, X273, t274, (R270.mo (by omega) (by omega) (by omega)), (by omega), (by rw [c276] <;> omega), (by rw [c277] <;> omega), S293⟩
                · have h294 : x63.toInt = 0 := by omega
                  refine k_nil ?_
                  refine hB _ _ _ _ (kgoC (is := KX7_readSimple_121) rfl ?_)
                  refine k_aload_n rfl ?_
                  refine k_aload_n rfl ?_
                  refine k_get kg242 t62 (congrArg (Sum.inl : Int32 → AvC) c59) ?_
                  refine k_p280 H52 t73 (by omega) (by omega) (by rw [c74]; omega) (fun σ295 H296 e297 c298 => ?_)
                  refine k_aload_n rfl ?_
                  have t299 := t62.x e297
                  obtain ⟨a302, e300, c301, t303⟩ := cg241 H296.1 t299
                  refine k_get kg241 t299 e300 ?_
                  obtain ⟨a306, e304, c305, t307, l308, l309⟩ := cg303 H296.1 t303
                  refine k_get kg303 t303 e304 ?_
                  refine k_aload_n rfl ?_
                  have c310 := (t62.mi e297 (by decide)).trans c59
                  refine k_get kg242 t299 (congrArg (Sum.inl : Int32 → AvC) c310) ?_
                  refine k_sipush (m := 200) rfl (fun x311 h312 => ?_)
                  refine k_iastore H296 t307 l309 (by omega) (by omega) (fun σ313 H314 e315 => ?_)
                  refine k_aload_n rfl ?_
                  have t316 := t299.x e315
                  have R317 : RdC p0 none (-6) (2) (-1000) σ0 σ295 := R70.tr ⟨(e297.gw H52.1 (by decide)), (e297.cou (u := 0) H52.1 t62 (by decide) (by rw [e297.cn (by decide)]; omega))⟩ (by omega) (by omega) (by omega) (by omega)
                  have R318 : RdC p0 none (-6) (2) (-1000) σ0 σ313 := R317.tr ⟨(e315.gw H296.1 (by decide)), (e315.cou (u := 0) H296.1 t299 (by decide) (by rw [e315.cn (by decide)]; omega))⟩ (by omega) (by omega) (by omega) (by omega)
                  have c319 := (t62.mi e297 (by decide)).trans c65
                  have c320 := (t299.mi e315 (by decide)).trans c319
                  have R321 := R318.nf (-1000) (-1000) (by rw [c320]; omega)
                  have X322 : ExC [0, 1, 2, 60, 61, 62, 63, 64, 65, 66, 67, 68, 69, 70, 72, 73, 74, 75, 76, 242, 243, 244, 246, 270, 271, 272, 273, 275, 276, 277, 278, 279, 280, 330, 331, 332, 333, 334, 999] σ0 σ295 := X235.tr (e297.mo (by decide))
                  have X323 : ExC [0, 1, 2, 60, 61, 62, 63, 64, 65, 66, 67, 68, 69, 70, 72, 73, 74, 75, 76, 242, 243, 244, 246, 270, 271, 272, 273, 275, 276, 277, 278, 279, 280, 330, 331, 332, 333, 334, 999] σ0 σ313 := X322.tr (e315.mo (by decide))
                  have c324 := (t299.mi e315 (by decide)).trans c310
                  have z325 := congrArg Int32.toInt c324
                  have z326 := congrArg Int32.toInt c320
                  refine k_inv (P := P_X7_accept) (Q := Q_X7_accept) rfl rfl rfl rfl (Nat.le_of_ble_eq_true rfl) (t316.rc (by decide)) ⟨_, rfl, H314, t316, (rd_cd.st H0 h_0_0 X323 R321.1 (by decide)), (R321.2.2.2.1 rd_at), (rd_bg.stn H0 h_0_0 X323 R321 (by decide) (by rw [c320]; omega) (by omega)), (by have ct := R321.2.2.1; rw [c320, c324, ct]; omega)⟩ (fun w327 σ328 q329 => ?_)
                  obtain ⟨rfl, H330, e331, R332, q333, q334⟩ := q329
                  have t340 := t316.x e331
                  obtain ⟨x335, e336, c337, h338, h339⟩ := cg242 H330.1 t340
                  obtain ⟨x341, e342, c343, h344, h345⟩ := cg243 H330.1 t340
                  have z346 := congrArg Int32.toInt c337
                  have z347 := congrArg Int32.toInt c343
                  refine k_st (st' := []) rfl ?_
                  have R348 : RdC p0 none (-14) (-6) (-1000) σ0 σ328 := R321.tr ⟨R332.1, R332.2⟩ (by omega) (by omega) (by omega) (by omega)
                  have z349 := R348.2.2.1
                  have z350 := R348.2.2.2.1 rd_at
                  refine k_nil ?_
                  refine hB _ _ _ _ (kgoC (is := KX7_readSimple_148) rfl ?_)
                  refine k_aload_n rfl ?_
                  refine k_iconst (m := 4) rfl (fun x351 h352 => ?_)
                  have X353 : ExC [0, 1, 2, 60, 61, 62, 63, 64, 65, 66, 67, 68, 69, 70, 72, 73, 74, 75, 76, 242, 243, 244, 246, 270, 271, 272, 273, 275, 276, 277, 278, 279, 280, 330, 331, 332, 333, 334, 999] σ0 σ328 := X323.tr (e331.mo (by decide))
                  refine k_inv (P := P_X7_expect) (Q := Q_X7_expect) rfl rfl rfl rfl (Nat.le_of_ble_eq_true rfl) (t340.rc (by decide)) ⟨_, _, rfl, H330, t340, (by omega), (by omega), (rd_cd.st H0 h_0_0 X353 R348.1 (by decide)), (R348.2.2.2.1 rd_at), (rd_bg.st H0 h_0_0 X353 R348 (by decide) (by omega) (by omega) (by omega))⟩ (fun w354 σ355 q356 => ?_)
                  obtain ⟨rfl, H357, e358, R359, q360, q361⟩ := q356
                  have t367 := t340.x e358
                  obtain ⟨x362, e363, c364, h365, h366⟩ := cg242 H357.1 t367
                  obtain ⟨x368, e369, c370, h371, h372⟩ := cg243 H357.1 t367
                  have z373 := congrArg Int32.toInt c364
                  have z374 := congrArg Int32.toInt c370
                  refine k_st (st' := []) rfl ?_
                  have R375 : RdC p0 none (-22) (-6) (-1000) σ0 σ355 := R348.tr ⟨R359.1, R359.2⟩ (by omega) (by omega) (by omega) (by omega)
                  have z376 := R375.2.2.1
                  have z377 := R375.2.2.2.1 rd_at
                  refine k_aload_n rfl ?_
                  refine k_areturn ?_
                  have X378 : ExC [0, 1, 2, 60, 61, 62, 63, 64, 65, 66, 67, 68, 69, 70, 72, 73, 74, 75, 76, 242, 243, 244, 246, 270, 271, 272, 273, 275, 276, 277, 278, 279, 280, 330, 331, 332, 333, 334, 999] σ0 σ355 := X353.tr (e358.mo (by decide))
                  have t379 := t73.x e297
                  have t380 := t379.x e315
                  have t381 := t380.x e331
                  have t382 := t381.x e358
                  have c383 := (h32.mi e53 (by decide)).trans q35
                  have c384 := (t73.mi e297 (by decide)).trans c383
                  have c385 := (t379.mi e315 (by decide)).trans c384
                  have c386 := (t380.mi e331 (by decide)).trans c385
                  have c387 := (t381.mi e358 (by decide)).trans c386
                  have c388 := (t73.mi e297 (by decide)).trans c74
                  have c389 := (t379.mi e315 (by decide)).trans c388
                  have c390 := (t380.mi e331 (by decide)).trans c389
                  have c391 := (t381.mi e358 (by decide)).trans c390
                  have S413 : ∀ s, ReC σ0 p0 s → ReC σ355 p0 (simY d (rwY (d - 1)) s) := by
                    intro s hs
                    have f392 := q22 _ hs
                    have y393 := q36 _ hs
                    have y395 := q56 _ y393
                    have f397 := q243 _ y395
                    have f398 := y395.at_ c59
                    have y399 := y395.x H52.1 t62 e297 (by decide)
                    have f400 := y399.at_ c310
                    have y401 := y399.x H296.1 t299 e315 (by decide)
                    have y402 := q334 _ y401
                    have y404 := q361 _ y402
                    rw [h352] at y404
                    have g406 := neY f392 h44 h43
                    have g407 := neY f392 h77 h76
                    have g408 := neY f392 h80 h79
                    have g409 := neY f392 h182 h181
                    have g410 := neY f392 h185 h184
                    have g411 := neY f392 h188 h187
                    have g412 := f397.symm.trans (h246.trans h245)
                    refine y404.eq ?_
                    all_goals try simp only [simY, si2Y, si3Y, g406, g407, g408, g409, g410, g411, g412, or_false, false_or, or_true, true_or, and_false, false_and, and_true, true_and, not_true, not_false_iff, ↓reduceIte, Int.reduceEq, Int.reduceLE, Int.reduceLT, Int.reduceNeg]
                    all_goals first | rfl | (exfalso; omega)
                  exact ⟨_, rfl, H357, X378, t382, (R375.mo (by omega) (by omega) (by omega)), (by omega), (by rw [c387] <;> omega), (by rw [c391] <;> omega), S413⟩
            · refine k_nil ?_
              refine hB _ _ _ _ (kgoC (is := KX7_readSimple_84) rfl ?_)
              refine k_aload_n rfl ?_
              refine k_aload_n rfl ?_
              obtain ⟨a416, e414, c415, t417⟩ := cg240 H52.1 t62
              refine k_get kg240 t62 e414 ?_
              obtain ⟨a420, e418, c419, t421, l422⟩ := cg211 H52.1 t417
              refine k_get kg211 t417 e418 ?_
              refine k_inv (P := P_Jx4a65c_size_8abf5) (Q := Q_Jx4a65c_size_8abf5) rfl rfl rfl rfl (Nat.le_of_ble_eq_true rfl) (t421.rc (by decide)) ⟨_, rfl, H52, t421⟩ (fun w423 σ424 q425 => ?_)
              obtain ⟨x426, rfl, rfl, h427, h428, q429, q430⟩ := q425
              refine k_st (st' := [.inl x426, .inr (.inr (some a28))]) rfl ?_
              have z431 := q430 l422
              refine k_iconst (m := 1) rfl (fun x432 h433 => ?_)
              refine k_isub (by omega) (by omega) (fun x434 h435 => ?_)
              refine k_p280 H52 t73 (by omega) (by omega) (by rw [c74]; omega) (fun σ436 H437 e438 c439 => ?_)
              refine k_goto ?_
              refine hB _ _ _ _ (kgoC (is := KX7_readSimple_148) rfl ?_)
              refine k_aload_n rfl ?_
              refine k_iconst (m := 4) rfl (fun x440 h441 => ?_)
              have t442 := t62.x e438
              have R443 : RdC p0 none (-6) (2) (-1000) σ0 σ436 := R70.tr ⟨(e438.gw H52.1 (by decide)), (e438.cou (u := 0) H52.1 t62 (by decide) (by rw [e438.cn (by decide)]; omega))⟩ (by omega) (by omega) (by omega) (by omega)
              have c444 := (t62.mi e438 (by decide)).trans c65
              have X445 : ExC [0, 1, 2, 60, 61, 62, 63, 64, 65, 66, 67, 68, 69, 70, 72, 73, 74, 75, 76, 242, 243, 244, 246, 270, 271, 272, 273, 275, 276, 277, 278, 279, 280, 330, 331, 332, 333, 334, 999] σ0 σ50 := X48.tr (e53.mo (by decide))
              have X446 : ExC [0, 1, 2, 60, 61, 62, 63, 64, 65, 66, 67, 68, 69, 70, 72, 73, 74, 75, 76, 242, 243, 244, 246, 270, 271, 272, 273, 275, 276, 277, 278, 279, 280, 330, 331, 332, 333, 334, 999] σ0 σ436 := X445.tr (e438.mo (by decide))
              have c447 := (t62.mi e438 (by decide)).trans c59
              have z448 := congrArg Int32.toInt c447
              have z449 := congrArg Int32.toInt c444
              refine k_inv (P := P_X7_expect) (Q := Q_X7_expect) rfl rfl rfl rfl (Nat.le_of_ble_eq_true rfl) (t442.rc (by decide)) ⟨_, _, rfl, H437, t442, (by omega), (by omega), (rd_cd.st H0 h_0_0 X446 R443.1 (by decide)), (R443.2.2.2.1 rd_at), (rd_bg.st H0 h_0_0 X446 R443 (by decide) (by omega) (by omega) (by omega))⟩ (fun w450 σ451 q452 => ?_)
              obtain ⟨rfl, H453, e454, R455, q456, q457⟩ := q452
              have t463 := t442.x e454
              obtain ⟨x458, e459, c460, h461, h462⟩ := cg242 H453.1 t463
              obtain ⟨x464, e465, c466, h467, h468⟩ := cg243 H453.1 t463
              have z469 := congrArg Int32.toInt c460
              have z470 := congrArg Int32.toInt c466
              refine k_st (st' := []) rfl ?_
              have R471 : RdC p0 none (-14) (2) (-1000) σ0 σ451 := R443.tr ⟨R455.1, R455.2⟩ (by omega) (by omega) (by omega) (by omega)
              have z472 := R471.2.2.1
              have z473 := R471.2.2.2.1 rd_at
              refine k_aload_n rfl ?_
              refine k_areturn ?_
              have X474 : ExC [0, 1, 2, 60, 61, 62, 63, 64, 65, 66, 67, 68, 69, 70, 72, 73, 74, 75, 76, 242, 243, 244, 246, 270, 271, 272, 273, 275, 276, 277, 278, 279, 280, 330, 331, 332, 333, 334, 999] σ0 σ451 := X446.tr (e454.mo (by decide))
              have t475 := t73.x e438
              have t476 := t475.x e454
              have c477 := (h32.mi e53 (by decide)).trans q35
              have c478 := (t73.mi e438 (by decide)).trans c477
              have c479 := (t475.mi e454 (by decide)).trans c478
              have c480 := (t73.mi e438 (by decide)).trans c74
              have c481 := (t475.mi e454 (by decide)).trans c480
              have S496 : ∀ s, ReC σ0 p0 s → ReC σ451 p0 (simY d (rwY (d - 1)) s) := by
                intro s hs
                have f482 := q22 _ hs
                have y483 := q36 _ hs
                have y485 := q56 _ y483
                have f487 := y485.nm c415 c419 q429
                have y488 := y485.x H52.1 t62 e438 (by decide)
                have y489 := q457 _ y488
                rw [h441] at y489
                have g491 := neY f482 h44 h43
                have g492 := neY f482 h77 h76
                have g493 := neY f482 h80 h79
                have g494 := neY f482 h182 h181
                have g495 := f482.symm.trans (h185.trans h184)
                refine y489.eq ?_
                all_goals try simp only [simY, si2Y, si3Y, g491, g492, g493, g494, g495, or_false, false_or, or_true, true_or, and_false, false_and, and_true, true_and, not_true, not_false_iff, ↓reduceIte, Int.reduceEq, Int.reduceLE, Int.reduceLT, Int.reduceNeg]
                all_goals first | rfl | (exfalso; omega)
              exact ⟨_, rfl, H453, X474, t476, (R471.mo (by omega) (by omega) (by omega)), (by omega), (by rw [c479] <;> omega), (by rw [c481] <;> omega), S496⟩
          · refine k_nil ?_
            refine hB _ _ _ _ (kgoC (is := KX7_readSimple_58) rfl ?_)
            refine k_aload_n rfl ?_
            have X497 : ExC [0, 1, 2, 60, 61, 62, 63, 64, 65, 66, 67, 68, 69, 70, 72, 73, 74, 75, 76, 242, 243, 244, 246, 270, 271, 272, 273, 275, 276, 277, 278, 279, 280, 330, 331, 332, 333, 334, 999] σ0 σ50 := X48.tr (e53.mo (by decide))
            refine k_inv (P := P_X7_code) (Q := Q_X7_code) rfl rfl rfl rfl (Nat.le_of_ble_eq_true rfl) (t62.rc (by decide)) ⟨_, rfl, H52, t62, (rd_cd.st H0 h_0_0 X497 R70.1 (by decide))⟩ (fun w498 σ499 q500 => ?_)
            obtain ⟨x501, rfl, rfl, q502, q503, q504, q505⟩ := q500
            refine k_st (st' := [.inl x501]) rfl ?_
            refine k_iconst (m := 4) rfl (fun x506 h507 => ?_)
            refine k_ic_eq (fun h508 => ?_) (fun h508 => ?_)
            · have h509 : x63.toInt = 0 := by omega
              refine hB _ _ _ _ (kgoC (is := KX7_readSimple_75) rfl ?_)
              refine k_aload_n rfl ?_
              refine k_get kg270 t73 (congrArg (Sum.inl : Int32 → AvC) c74) ?_
              refine k_bipush (m := 66) rfl (fun x510 h511 => ?_)
              refine k_ic_ne (fun h512 => by exfalso; omega) (fun h512 => ?_)
              refine k_nil ?_
              refine hB _ _ _ _ (kgoC (is := KX7_readSimple_84) rfl ?_)
              refine k_aload_n rfl ?_
              refine k_aload_n rfl ?_
              obtain ⟨a515, e513, c514, t516⟩ := cg240 H52.1 t62
              refine k_get kg240 t62 e513 ?_
              obtain ⟨a519, e517, c518, t520, l521⟩ := cg211 H52.1 t516
              refine k_get kg211 t516 e517 ?_
              refine k_inv (P := P_Jx4a65c_size_8abf5) (Q := Q_Jx4a65c_size_8abf5) rfl rfl rfl rfl (Nat.le_of_ble_eq_true rfl) (t520.rc (by decide)) ⟨_, rfl, H52, t520⟩ (fun w522 σ523 q524 => ?_)
              obtain ⟨x525, rfl, rfl, h526, h527, q528, q529⟩ := q524
              refine k_st (st' := [.inl x525, .inr (.inr (some a28))]) rfl ?_
              have z530 := q529 l521
              refine k_iconst (m := 1) rfl (fun x531 h532 => ?_)
              refine k_isub (by omega) (by omega) (fun x533 h534 => ?_)
              refine k_p280 H52 t73 (by omega) (by omega) (by rw [c74]; omega) (fun σ535 H536 e537 c538 => ?_)
              refine k_goto ?_
              refine hB _ _ _ _ (kgoC (is := KX7_readSimple_148) rfl ?_)
              refine k_aload_n rfl ?_
              refine k_iconst (m := 4) rfl (fun x539 h540 => ?_)
              have t541 := t62.x e537
              have R542 : RdC p0 none (-6) (2) (-1000) σ0 σ535 := R70.tr ⟨(e537.gw H52.1 (by decide)), (e537.cou (u := 0) H52.1 t62 (by decide) (by rw [e537.cn (by decide)]; omega))⟩ (by omega) (by omega) (by omega) (by omega)
              have c543 := (t62.mi e537 (by decide)).trans c65
              have R544 := R542.nf (-1000) (-1000) (by rw [c543]; omega)
              have X545 : ExC [0, 1, 2, 60, 61, 62, 63, 64, 65, 66, 67, 68, 69, 70, 72, 73, 74, 75, 76, 242, 243, 244, 246, 270, 271, 272, 273, 275, 276, 277, 278, 279, 280, 330, 331, 332, 333, 334, 999] σ0 σ535 := X497.tr (e537.mo (by decide))
              have c546 := (t62.mi e537 (by decide)).trans c59
              have z547 := congrArg Int32.toInt c546
              have z548 := congrArg Int32.toInt c543
              refine k_inv (P := P_X7_expect) (Q := Q_X7_expect) rfl rfl rfl rfl (Nat.le_of_ble_eq_true rfl) (t541.rc (by decide)) ⟨_, _, rfl, H536, t541, (by omega), (by omega), (rd_cd.st H0 h_0_0 X545 R544.1 (by decide)), (R544.2.2.2.1 rd_at), (rd_bg.stn H0 h_0_0 X545 R544 (by decide) (by rw [c543]; omega) (by omega))⟩ (fun w549 σ550 q551 => ?_)
              obtain ⟨rfl, H552, e553, R554, q555, q556⟩ := q551
              have t562 := t541.x e553
              obtain ⟨x557, e558, c559, h560, h561⟩ := cg242 H552.1 t562
              obtain ⟨x563, e564, c565, h566, h567⟩ := cg243 H552.1 t562
              have z568 := congrArg Int32.toInt c559
              have z569 := congrArg Int32.toInt c565
              refine k_st (st' := []) rfl ?_
              have R570 : RdC p0 none (-14) (-6) (-1000) σ0 σ550 := R544.tr ⟨R554.1, R554.2⟩ (by omega) (by omega) (by omega) (by omega)
              have z571 := R570.2.2.1
              have z572 := R570.2.2.2.1 rd_at
              refine k_aload_n rfl ?_
              refine k_areturn ?_
              have X573 : ExC [0, 1, 2, 60, 61, 62, 63, 64, 65, 66, 67, 68, 69, 70, 72, 73, 74, 75, 76, 242, 243, 244, 246, 270, 271, 272, 273, 275, 276, 277, 278, 279, 280, 330, 331, 332, 333, 334, 999] σ0 σ550 := X545.tr (e553.mo (by decide))
              have t574 := t73.x e537
              have t575 := t574.x e553
              have c576 := (h32.mi e53 (by decide)).trans q35
              have c577 := (t73.mi e537 (by decide)).trans c576
              have c578 := (t574.mi e553 (by decide)).trans c577
              have c579 := (t73.mi e537 (by decide)).trans c74
              have c580 := (t574.mi e553 (by decide)).trans c579
              have S597 : ∀ s, ReC σ0 p0 s → ReC σ550 p0 (simY d (rwY (d - 1)) s) := by
                intro s hs
                have f581 := q22 _ hs
                have y582 := q36 _ hs
                have y584 := q56 _ y582
                have f586 := q505 _ y584
                have f587 := y584.nm c514 c518 q528
                have y588 := y584.x H52.1 t62 e537 (by decide)
                have y589 := q556 _ y588
                rw [h540] at y589
                have g591 := neY f581 h44 h43
                have g592 := neY f581 h77 h76
                have g593 := neY f581 h80 h79
                have g594 := f581.symm.trans (h182.trans h181)
                have g595 := f581.symm.trans (h512.trans h511)
                have g596 := f586.symm.trans (h508.trans h507)
                refine y589.eq ?_
                all_goals try simp only [simY, si2Y, si3Y, g591, g592, g593, g594, g595, g596, or_false, false_or, or_true, true_or, and_false, false_and, and_true, true_and, not_true, not_false_iff, ↓reduceIte, Int.reduceEq, Int.reduceLE, Int.reduceLT, Int.reduceNeg]
                all_goals first | rfl | (exfalso; omega)
              exact ⟨_, rfl, H552, X573, t575, (R570.mo (by omega) (by omega) (by omega)), (by omega), (by rw [c578] <;> omega), (by rw [c580] <;> omega), S597⟩
            · refine k_nil ?_
              refine hB _ _ _ _ (kgoC (is := KX7_readSimple_66) rfl ?_)
              refine k_aload_n rfl ?_
              refine k_aload_n rfl ?_
              refine k_iload_n rfl ?_
              refine k_inv (P := (P_X7_readExp d)) (Q := (Q_X7_readExp d)) rfl rfl rfl rfl (Nat.le_of_ble_eq_true rfl) (t62.rc (by decide)) ⟨_, _, rfl, H52, t62, (by omega), (by omega), (rd_cd.st H0 h_0_0 X497 R70.1 (by decide)), (R70.2.2.2.1 rd_at), (rd_bg.st H0 h_0_0 X497 R70 (by decide) (by omega) (by omega) (by omega)), (by omega)⟩ (fun w598 σ599 q600 => ?_)
              obtain ⟨a601, rfl, H602, e603, h605, R604, q606, q607⟩ := q600
              have t613 := t62.x e603
              obtain ⟨x608, e609, c610, h611, h612⟩ := cg242 H602.1 t613
              obtain ⟨x614, e615, c616, h617, h618⟩ := cg243 H602.1 t613
              have z619 := congrArg Int32.toInt c610
              have z620 := congrArg Int32.toInt c616
              refine k_st (st' := [.inr (.inr (some a601)), .inr (.inr (some a28))]) rfl ?_
              have z621 := R70.1.1
              have R622 : RdC p0 none (-6) (14 + 8 * (d : Int)) (-999) σ0 σ599 := R70.tr ⟨R604.1, R604.2⟩ (by omega) (by omega) (by omega) (by omega)
              have z623 := R622.2.2.1
              have z624 := R622.2.2.2.1 rd_at
              have t625 := t73.x e603
              refine k_putR kp279 H602 t625 fk279 (rf279 h605) (fun σ626 H627 e628 c629 => ?_)
              refine k_nil ?_
              refine hB _ _ _ _ (kgoC (is := KX7_readSimple_75) rfl ?_)
              refine k_aload_n rfl ?_
              have t630 := t625.x e628
              have c631 := (t73.mi e603 (by decide)).trans c74
              have c632 := (t625.mi e628 (by decide)).trans c631
              refine k_get kg270 t630 (congrArg (Sum.inl : Int32 → AvC) c632) ?_
              refine k_bipush (m := 66) rfl (fun x633 h634 => ?_)
              refine k_ic_ne (fun h635 => by exfalso; omega) (fun h635 => ?_)
              refine k_nil ?_
              refine hB _ _ _ _ (kgoC (is := KX7_readSimple_84) rfl ?_)
              refine k_aload_n rfl ?_
              refine k_aload_n rfl ?_
              have t636 := t613.x e628
              obtain ⟨a639, e637, c638, t640⟩ := cg240 H627.1 t636
              refine k_get kg240 t636 e637 ?_
              obtain ⟨a643, e641, c642, t644, l645⟩ := cg211 H627.1 t640
              refine k_get kg211 t640 e641 ?_
              refine k_inv (P := P_Jx4a65c_size_8abf5) (Q := Q_Jx4a65c_size_8abf5) rfl rfl rfl rfl (Nat.le_of_ble_eq_true rfl) (t644.rc (by decide)) ⟨_, rfl, H627, t644⟩ (fun w646 σ647 q648 => ?_)
              obtain ⟨x649, rfl, rfl, h650, h651, q652, q653⟩ := q648
              refine k_st (st' := [.inl x649, .inr (.inr (some a28))]) rfl ?_
              have z654 := q653 l645
              refine k_iconst (m := 1) rfl (fun x655 h656 => ?_)
              refine k_isub (by omega) (by omega) (fun x657 h658 => ?_)
              refine k_p280 H627 t630 (by omega) (by omega) (by rw [c632]; omega) (fun σ659 H660 e661 c662 => ?_)
              refine k_goto ?_
              refine hB _ _ _ _ (kgoC (is := KX7_readSimple_148) rfl ?_)
              refine k_aload_n rfl ?_
              refine k_iconst (m := 4) rfl (fun x663 h664 => ?_)
              have t665 := t636.x e661
              have R666 : RdC p0 none (-6) (14 + 8 * (d : Int)) (-999) σ0 σ626 := R622.tr ⟨(e628.gw H602.1 (by decide)), (e628.cou (u := 0) H602.1 t613 (by decide) (by rw [e628.cn (by decide)]; omega))⟩ (by omega) (by omega) (by omega) (by omega)
              have R667 : RdC p0 none (-6) (14 + 8 * (d : Int)) (-999) σ0 σ659 := R666.tr ⟨(e661.gw H627.1 (by decide)), (e661.cou (u := 0) H627.1 t636 (by decide) (by rw [e661.cn (by decide)]; omega))⟩ (by omega) (by omega) (by omega) (by omega)
              have c668 := (t613.mi e628 (by decide)).trans c616
              have c669 := (t636.mi e661 (by decide)).trans c668
              have X670 : ExC [0, 1, 2, 60, 61, 62, 63, 64, 65, 66, 67, 68, 69, 70, 72, 73, 74, 75, 76, 242, 243, 244, 246, 270, 271, 272, 273, 275, 276, 277, 278, 279, 280, 330, 331, 332, 333, 334, 999] σ0 σ599 := X497.tr (e603.mo (by decide))
              have X671 : ExC [0, 1, 2, 60, 61, 62, 63, 64, 65, 66, 67, 68, 69, 70, 72, 73, 74, 75, 76, 242, 243, 244, 246, 270, 271, 272, 273, 275, 276, 277, 278, 279, 280, 330, 331, 332, 333, 334, 999] σ0 σ626 := X670.tr (e628.mo (by decide))
              have X672 : ExC [0, 1, 2, 60, 61, 62, 63, 64, 65, 66, 67, 68, 69, 70, 72, 73, 74, 75, 76, 242, 243, 244, 246, 270, 271, 272, 273, 275, 276, 277, 278, 279, 280, 330, 331, 332, 333, 334, 999] σ0 σ659 := X671.tr (e661.mo (by decide))
              have c673 := (t613.mi e628 (by decide)).trans c610
              have c674 := (t636.mi e661 (by decide)).trans c673
              have z675 := congrArg Int32.toInt c674
              have z676 := congrArg Int32.toInt c669
              refine k_inv (P := P_X7_expect) (Q := Q_X7_expect) rfl rfl rfl rfl (Nat.le_of_ble_eq_true rfl) (t665.rc (by decide)) ⟨_, _, rfl, H660, t665, (by omega), (by omega), (rd_cd.st H0 h_0_0 X672 R667.1 (by decide)), (R667.2.2.2.1 rd_at), (rd_bg.st H0 h_0_0 X672 R667 (by decide) (by omega) (by omega) (by omega))⟩ (fun w677 σ678 q679 => ?_)
              obtain ⟨rfl, H680, e681, R682, q683, q684⟩ := q679
              have t690 := t665.x e681
              obtain ⟨x685, e686, c687, h688, h689⟩ := cg242 H680.1 t690
              obtain ⟨x691, e692, c693, h694, h695⟩ := cg243 H680.1 t690
              have z696 := congrArg Int32.toInt c687
              have z697 := congrArg Int32.toInt c693
              refine k_st (st' := []) rfl ?_
              have R698 : RdC p0 none (-14) (14 + 8 * (d : Int)) (-999) σ0 σ678 := R667.tr ⟨R682.1, R682.2⟩ (by omega) (by omega) (by omega) (by omega)
              have z699 := R698.2.2.1
              have z700 := R698.2.2.2.1 rd_at
              refine k_aload_n rfl ?_
              refine k_areturn ?_
              have X701 : ExC [0, 1, 2, 60, 61, 62, 63, 64, 65, 66, 67, 68, 69, 70, 72, 73, 74, 75, 76, 242, 243, 244, 246, 270, 271, 272, 273, 275, 276, 277, 278, 279, 280, 330, 331, 332, 333, 334, 999] σ0 σ678 := X672.tr (e681.mo (by decide))
              have t702 := t630.x e661
              have t703 := t702.x e681
              have c704 := (h32.mi e53 (by decide)).trans q35
              have c705 := (t73.mi e603 (by decide)).trans c704
              have c706 := (t625.mi e628 (by decide)).trans c705
              have c707 := (t630.mi e661 (by decide)).trans c706
              have c708 := (t702.mi e681 (by decide)).trans c707
              have c709 := (t630.mi e661 (by decide)).trans c632
              have c710 := (t702.mi e681 (by decide)).trans c709
              have S730 : ∀ s, ReC σ0 p0 s → ReC σ678 p0 (simY d (rwY (d - 1)) s) := by
                intro s hs
                have f711 := q22 _ hs
                have y712 := q36 _ hs
                have y714 := q56 _ y712
                have f716 := q505 _ y714
                have y717 := q607 _ y714
                have y719 := y717.x H602.1 t613 e628 (by decide)
                have f720 := y719.nm c638 c642 q652
                have y721 := y719.x H627.1 t636 e661 (by decide)
                have y722 := q684 _ y721
                rw [h664] at y722
                have g724 := neY f711 h44 h43
                have g725 := neY f711 h77 h76
                have g726 := neY f711 h80 h79
                have g727 := f711.symm.trans (h182.trans h181)
                have g728 := f711.symm.trans (h635.trans h634)
                have g729 := neY f716 h508 h507
                refine y722.eq ?_
                all_goals try simp only [simY, si2Y, si3Y, g724, g725, g726, g727, g728, g729, or_false, false_or, or_true, true_or, and_false, false_and, and_true, true_and, not_true, not_false_iff, ↓reduceIte, Int.reduceEq, Int.reduceLE, Int.reduceLT, Int.reduceNeg]
                all_goals first | rfl | (exfalso; omega)
              exact ⟨_, rfl, H680, X701, t703, (R698.mo (by omega) (by omega) (by omega)), (by omega), (by rw [c708] <;> omega), (by rw [c710] <;> omega), S730⟩
      · refine k_nil ?_
        refine hB _ _ _ _ (kgoC (is := KX7_readSimple_38) rfl ?_)
        refine k_aload_n rfl ?_
        refine k_areturn ?_
        have X731 : ExC [0, 1, 2, 60, 61, 62, 63, 64, 65, 66, 67, 68, 69, 70, 72, 73, 74, 75, 76, 242, 243, 244, 246, 270, 271, 272, 273, 275, 276, 277, 278, 279, 280, 330, 331, 332, 333, 334, 999] σ0 σ50 := X48.tr (e53.mo (by decide))
        have c732 := (h32.mi e53 (by decide)).trans q35
        have S740 : ∀ s, ReC σ0 p0 s → ReC σ50 p0 (simY d (rwY (d - 1)) s) := by
          intro s hs
          have f733 := q22 _ hs
          have y734 := q36 _ hs
          have y736 := q56 _ y734
          have g738 := neY f733 h44 h43
          have g739 := f733.symm.trans (h77.trans h76)
          refine y736.eq ?_
          all_goals try simp only [simY, si2Y, si3Y, g738, g739, or_false, false_or, or_true, true_or, and_false, false_and, and_true, true_and, not_true, not_false_iff, ↓reduceIte, Int.reduceEq, Int.reduceLE, Int.reduceLT, Int.reduceNeg]
          all_goals first | rfl | (exfalso; omega)
        exact ⟨_, rfl, H52, X731, t73, (R70.mo (by omega) (by omega) (by omega)), (by omega), (by rw [c732] <;> omega), (by rw [c74] <;> omega), S740⟩
    · refine k_nil ?_
      refine hB _ _ _ _ (kgoC (is := KX7_readSimple_18) rfl ?_)
      refine k_aload_n rfl ?_
      refine k_aload_n rfl ?_
      refine k_iload_n rfl ?_
      have t741 := h_0_0.x e30
      have R742 : RdC p0 none (2) (2) (-998) σ0 σ26 := R14.tr ⟨R31.1, R31.2⟩ (by omega) (by omega) (by omega) (by omega)
      have R743 := R742.nf (-1000) (-1000) (by rw [c38]; omega)
      have X744 : ExC [0, 1, 2, 60, 61, 62, 63, 64, 65, 66, 67, 68, 69, 70, 72, 73, 74, 75, 76, 242, 243, 244, 246, 270, 271, 272, 273, 275, 276, 277, 278, 279, 280, 330, 331, 332, 333, 334, 999] σ0 σ26 := ExC.rf.tr (e30.mo (by decide))
      refine k_inv (P := (P_X7_readBlock d)) (Q := (Q_X7_readBlock d)) rfl rfl rfl rfl (Nat.le_of_ble_eq_true rfl) (t741.rc (by decide)) ⟨_, _, _, rfl, H29, t741, h32, (by omega), (by omega), (rd_cd.st H0 h_0_0 X744 R743.1 (by decide)), (R743.2.2.2.1 rd_at), (rd_bg.stn H0 h_0_0 X744 R743 (by decide) (by rw [c38]; omega) (by omega)), (by omega), (by rw [q34] <;> omega), (by rw [q35] <;> omega)⟩ (fun w745 σ746 q747 => ?_)
      obtain ⟨rfl, H748, e749, R750, q751⟩ := q747
      have t757 := t741.x e749
      obtain ⟨x752, e753, c754, h755, h756⟩ := cg242 H748.1 t757
      obtain ⟨x758, e759, c760, h761, h762⟩ := cg243 H748.1 t757
      have z763 := congrArg Int32.toInt c754
      have z764 := congrArg Int32.toInt c760
      refine k_st (st' := []) rfl ?_
      have R765 : RdC p0 none (-6) (18 + 8 * (d : Int)) (-1000) σ0 σ746 := R743.tr ⟨R750.1, R750.2⟩ (by omega) (by omega) (by omega) (by omega)
      have z766 := R765.2.2.1
      have z767 := R765.2.2.2.1 rd_at
      refine k_aload_n rfl ?_
      refine k_areturn ?_
      have X768 : ExC [0, 1, 2, 60, 61, 62, 63, 64, 65, 66, 67, 68, 69, 70, 72, 73, 74, 75, 76, 242, 243, 244, 246, 270, 271, 272, 273, 275, 276, 277, 278, 279, 280, 330, 331, 332, 333, 334, 999] σ0 σ746 := X744.tr (e749.mo (by decide))
      have t769 := h32.x e749
      have c770 := (h32.fi e749 (by decide) (by decide)).trans q35
      have c771 := (h32.fi e749 (by decide) (by decide)).trans q34
      have S778 : ∀ s, ReC σ0 p0 s → ReC σ746 p0 (simY d (rwY (d - 1)) s) := by
        intro s hs
        have f772 := q22 _ hs
        have y773 := q36 _ hs
        have y775 := q751 _ y773
        have g777 := f772.symm.trans (h44.trans h43)
        refine y775.eq ?_
        all_goals try simp only [simY, si2Y, si3Y, g777, or_false, false_or, or_true, true_or, and_false, false_and, and_true, true_and, not_true, not_false_iff, ↓reduceIte, Int.reduceEq, Int.reduceLE, Int.reduceLT, Int.reduceNeg]
        all_goals first | rfl | (exfalso; omega)
      exact ⟨_, rfl, H748, X768, t769, (R765.mo (by omega) (by omega) (by omega)), (by omega), (by rw [c770] <;> omega), (by rw [c771] <;> omega), S778⟩
theorem lg_X7_readSimple (d : Nat) : ∀ (As : List AvC) (σ : CsC), (P_X7_readSimple d) As σ → lgC As ≤ rX7_readSimple.2.2.1 := by
  rintro As σ ⟨p0, p1, rfl, -⟩
  exact Nat.le_of_ble_eq_true rfl
theorem s_X7_readSimple (l : Launch) (d : Nat) (h_X7_readExp : CMetC l (13 * d + 36) 164 (P_X7_readExp d) (Q_X7_readExp d)) (h_X7_readBlock : CMetC l (13 * d + 37) 144 (P_X7_readBlock d) (Q_X7_readBlock d)) : CMetC l (13 * d + 38) 150 (P_X7_readSimple d) (Q_X7_readSimple d) :=
  CMetC.of KX7_readSimple [(125, P_X7_code, Q_X7_code), (142, P_X7_begin, Q_X7_begin), (128, P_X7_accept, Q_X7_accept), (164, (P_X7_readExp d), (Q_X7_readExp d)), (129, P_X7_expect, Q_X7_expect), (234, P_Jx4a65c_size_8abf5, Q_Jx4a65c_size_8abf5), (144, (P_X7_readBlock d), (Q_X7_readBlock d))] hX7_readSimple (by decide) (by omega) okX7_readSimple (cc1C (m_X7_code l) (by omega) (cc1C (m_X7_begin l) (by omega) (cc1C (m_X7_accept l) (by omega) (cc1C h_X7_readExp (by omega) (cc1C (m_X7_expect l) (by omega) (cc1C (m_Jx4a65c_size_8abf5 l) (by omega) (cc1C h_X7_readBlock (by omega) cc0C))))))) (lg_X7_readSimple d) (b_X7_readSimple d)
