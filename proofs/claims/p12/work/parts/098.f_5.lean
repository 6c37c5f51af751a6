set_option maxRecDepth 100000 in
set_option maxHeartbeats 4000000 in
theorem b_X7_readLabel (d : Nat) : TbC KX7_readLabel [(142, P_X7_begin6, Q_X7_begin6), (128, P_X7_accept, Q_X7_accept), (129, P_X7_expect, Q_X7_expect), (148, (P_X7_readInner d), (Q_X7_readInner d))] (P_X7_readLabel d) (Q_X7_readLabel d) := by
  · rintro As σ0 ⟨p0, p1, rfl, H0, h_0_0, h_1_0, h_1_1, rd_cd, rd_at, rd_bl, rd_lv, rd_tk, rd_dp⟩ hgr G hB hW
    change G 0 [(0, .inr (.inr (some p0))), (1, .inl p1)] [] σ0
    obtain ⟨x1, e2, c3, h4, h5⟩ := cg242 H0.1 h_0_0
    obtain ⟨x6, e7, c8, h9, h10⟩ := cg243 H0.1 h_0_0
    have z11 := congrArg Int32.toInt c3
    have z12 := congrArg Int32.toInt c8
    have h13 : x6.toInt = 0 := by rw [← c8]; exact rd_lv
    have rd_bg : BgC σ0 p0 (24 + 8 * (d : Int)) 1000000 := ⟨fun _ => rd_bl, fun z => absurd rd_lv z⟩
    refine hB _ _ _ _ (kgoC (is := KX7_readLabel_0) rfl ?_)
    refine k_aload_n rfl ?_
    refine k_bipush (m := 6) rfl (fun x14 h15 => ?_)
    refine k_iload_n rfl ?_
    have R16 := (RdC.rf : RdC p0 none 0 0 0 σ0 σ0).nf (-1000) (-1000) (by rw [c8]; omega)
    refine k_inv (P := P_X7_begin6) (Q := Q_X7_begin6) rfl rfl rfl rfl (Nat.le_of_ble_eq_true rfl) (h_0_0.rc (by decide)) ⟨_, _, _, rfl, H0, h_0_0, (by omega), (by omega), (rd_cd.st H0 h_0_0 (ExC.rf : ExC [0, 1, 2, 60, 61, 62, 63, 64, 65, 66, 67, 68, 69, 70, 72, 73, 74, 75, 76, 242, 243, 244, 246, 270, 271, 272, 273, 275, 276, 277, 278, 279, 280, 330, 331, 332, 333, 334, 999] σ0 σ0) R16.1 (by decide)), (R16.2.2.2.1 rd_at), (rd_bg.stn H0 h_0_0 (ExC.rf : ExC [0, 1, 2, 60, 61, 62, 63, 64, 65, 66, 67, 68, 69, 70, 72, 73, 74, 75, 76, 242, 243, 244, 246, 270, 271, 272, 273, 275, 276, 277, 278, 279, 280, 330, 331, 332, 333, 334, 999] σ0 σ0) R16 (by decide) (by rw [c8]; omega) (by omega)), (by omega)⟩ (fun w17 σ18 q19 => ?_)
    obtain ⟨a20, rfl, H21, e22, h24, R23, q25, q26, q27, q28⟩ := q19
    have c29 := (h_0_0.mi e22 (by decide)).trans c3
    have c30 := (h_0_0.mi e22 (by decide)).trans c8
    have z31 := congrArg Int32.toInt c29
    have z32 := congrArg Int32.toInt c30
    refine k_st (st' := [.inr (.inr (some a20))]) rfl ?_
    have z33 := R16.1.1
    refine k_astore_n (ls' := [(2, .inr (.inr (some a20))), (0, .inr (.inr (some p0))), (1, .inl p1)]) rfl ?_
    refine k_aload_n rfl ?_
    refine k_aload_n rfl ?_
    have t34 := h_0_0.x e22
    refine k_get kg242 t34 (congrArg (Sum.inl : Int32 → AvC) c29) ?_
    refine k_p280x H21 h24 (by omega) (by omega) (fun σ35 H36 e37 c38 => ?_)
    refine k_aload_n rfl ?_
    have t39 := t34.x e37
    obtain ⟨a42, e40, c41, t43⟩ := cg241 H36.1 t39
    refine k_get kg241 t39 e40 ?_
    obtain ⟨a46, e44, c45, t47, l48, l49⟩ := cg303 H36.1 t43
    refine k_get kg303 t43 e44 ?_
    refine k_aload_n rfl ?_
    have c50 := (t34.mi e37 (by decide)).trans c29
    refine k_get kg242 t39 (congrArg (Sum.inl : Int32 → AvC) c50) ?_
    refine k_sipush (m := 200) rfl (fun x51 h52 => ?_)
    refine k_iastore H36 t47 l49 (by omega) (by omega) (fun σ53 H54 e55 => ?_)
    refine k_aload_n rfl ?_
    have t56 := t39.x e55
    have R57 : RdC p0 none (2) (2) (-998) σ0 σ18 := R16.tr ⟨R23.1, R23.2⟩ (by omega) (by omega) (by omega) (by omega)
    have R58 : RdC p0 none (2) (2) (-998) σ0 σ35 := R57.tr ⟨(e37.gw H21.1 (by decide)), (e37.cou (u := 0) H21.1 t34 (by decide) (by rw [e37.cn (by decide)]; omega))⟩ (by omega) (by omega) (by omega) (by omega)
    have R59 : RdC p0 none (2) (2) (-998) σ0 σ53 := R58.tr ⟨(e55.gw H36.1 (by decide)), (e55.cou (u := 0) H36.1 t39 (by decide) (by rw [e55.cn (by decide)]; omega))⟩ (by omega) (by omega) (by omega) (by omega)
    have c60 := (t34.mi e37 (by decide)).trans c30
    have c61 := (t39.mi e55 (by decide)).trans c60
    have R62 := R59.nf (-1000) (-1000) (by rw [c61]; omega)
    have X63 : ExC [0, 1, 2, 60, 61, 62, 63, 64, 65, 66, 67, 68, 69, 70, 72, 73, 74, 75, 76, 242, 243, 244, 246, 270, 271, 272, 273, 275, 276, 277, 278, 279, 280, 330, 331, 332, 333, 334, 999] σ0 σ18 := ExC.rf.tr (e22.mo (by decide))
    have X64 : ExC [0, 1, 2, 60, 61, 62, 63, 64, 65, 66, 67, 68, 69, 70, 72, 73, 74, 75, 76, 242, 243, 244, 246, 270, 271, 272, 273, 275, 276, 277, 278, 279, 280, 330, 331, 332, 333, 334, 999] σ0 σ35 := X63.tr (e37.mo (by decide))
    have X65 : ExC [0, 1, 2, 60, 61, 62, 63, 64, 65, 66, 67, 68, 69, 70, 72, 73, 74, 75, 76, 242, 243, 244, 246, 270, 271, 272, 273, 275, 276, 277, 278, 279, 280, 330, 331, 332, 333, 334, 999] σ0 σ53 := X64.tr (e55.mo (by decide))
    have c66 := (t39.mi e55 (by decide)).trans c50
    have z67 := congrArg Int32.toInt c66
    have z68 := congrArg Int32.toInt c61
    refine k_inv (P := P_X7_accept) (Q := Q_X7_accept) rfl rfl rfl rfl (Nat.le_of_ble_eq_true rfl) (t56.rc (by decide)) ⟨_, rfl, H54, t56, (rd_cd.st H0 h_0_0 X65 R62.1 (by decide)), (R62.2.2.2.1 rd_at), (rd_bg.stn H0 h_0_0 X65 R62 (by decide) (by rw [c61]; omega) (by omega)), (by have ct := R62.2.2.1; rw [c61, c66, ct]; omega)⟩ (fun w69 σ70 q71 => ?_)
    obtain ⟨rfl, H72, e73, R74, q75, q76⟩ := q71
    have t82 := t56.x e73
    obtain ⟨x77, e78, c79, h80, h81⟩ := cg242 H72.1 t82
    obtain ⟨x83, e84, c85, h86, h87⟩ := cg243 H72.1 t82
    have z88 := congrArg Int32.toInt c79
    have z89 := congrArg Int32.toInt c85
    refine k_st (st' := []) rfl ?_
    have R90 : RdC p0 none (-6) (2) (-1000) σ0 σ70 := R62.tr ⟨R74.1, R74.2⟩ (by omega) (by omega) (by omega) (by omega)
    have z91 := R90.2.2.1
    have z92 := R90.2.2.2.1 rd_at
    refine k_aload_n rfl ?_
    refine k_bipush (m := 6) rfl (fun x93 h94 => ?_)
    have X95 : ExC [0, 1, 2, 60, 61, 62, 63, 64, 65, 66, 67, 68, 69, 70, 72, 73, 74, 75, 76, 242, 243, 244, 246, 270, 271, 272, 273, 275, 276, 277, 278, 279, 280, 330, 331, 332, 333, 334, 999] σ0 σ70 := X65.tr (e73.mo (by decide))
    refine k_inv (P := P_X7_expect) (Q := Q_X7_expect) rfl rfl rfl rfl (Nat.le_of_ble_eq_true rfl) (t82.rc (by decide)) ⟨_, _, rfl, H72, t82, (by omega), (by omega), (rd_cd.st H0 h_0_0 X95 R90.1 (by decide)), (R90.2.2.2.1 rd_at), (rd_bg.st H0 h_0_0 X95 R90 (by decide) (by omega) (by omega) (by omega))⟩ (fun w96 σ97 q98 => ?_)
    obtain ⟨rfl, H99, e100, R101, q102, q103⟩ := q98
    have t109 := t82.x e100
    obtain ⟨x104, e105, c106, h107, h108⟩ := cg242 H99.1 t109
    obtain ⟨x110, e111, c112, h113, h114⟩ := cg243 H99.1 t109
    have z115 := congrArg Int32.toInt c106
    have z116 := congrArg Int32.toInt c112
    refine k_st (st' := []) rfl ?_
    have R117 : RdC p0 none (-14) (2) (-1000) σ0 σ97 := R90.tr ⟨R101.1, R101.2⟩ (by omega) (by omega) (by omega) (by omega)
    have z118 := R117.2.2.1
    have z119 := R117.2.2.2.1 rd_at
    refine k_aload_n rfl ?_
    refine k_aload_n rfl ?_
    refine k_aload_n rfl ?_
    refine k_iload_n rfl ?_
    have t120 := h24.x e37
    have t121 := t120.x e55
    have t122 := t121.x e73
    have t123 := t122.x e100
    have X124 : ExC [0, 1, 2, 60, 61, 62, 63, 64, 65, 66, 67, 68, 69, 70, 72, 73, 74, 75, 76, 242, 243, 244, 246, 270, 271, 272, 273, 275, 276, 277, 278, 279, 280, 330, 331, 332, 333, 334, 999] σ0 σ97 := X95.tr (e100.mo (by decide))
    refine k_inv (P := (P_X7_readInner d)) (Q := (Q_X7_readInner d)) rfl rfl rfl rfl (Nat.le_of_ble_eq_true rfl) (t109.rc (by decide)) ⟨_, _, _, rfl, H99, t109, t123, (by omega), (by omega), (rd_cd.st H0 h_0_0 X124 R117.1 (by decide)), (R117.2.2.2.1 rd_at), (rd_bg.st H0 h_0_0 X124 R117 (by decide) (by omega) (by omega) (by omega)), (by omega)⟩ (fun w125 σ126 q127 => ?_)
    obtain ⟨a128, rfl, H129, e130, h132, R131, q133, q134, q135, q136⟩ := q127
    have t142 := t109.x e130
    obtain ⟨x137, e138, c139, h140, h141⟩ := cg242 H129.1 t142
    obtain ⟨x143, e144, c145, h146, h147⟩ := cg243 H129.1 t142
    have z148 := congrArg Int32.toInt c139
    have z149 := congrArg Int32.toInt c145
    refine k_st (st' := [.inr (.inr (some a128)), .inr (.inr (some a20))]) rfl ?_
    have z150 := R117.1.1
    obtain ⟨x151, e152, c153, h154, h155⟩ := cg272 H129.1 h132
    rw [c153] at q134
    obtain ⟨x156, e157, c158, h159, h160⟩ := cg270 H129.1 h132
    rw [c158] at q135
    have R161 : RdC p0 none (-14) (5 + 8 * (d : Int)) (-997) σ0 σ126 := R117.tr ⟨R131.1, R131.2⟩ (by omega) (by omega) (by omega) (by omega)
    have z162 := R161.2.2.1
    have z163 := R161.2.2.2.1 rd_at
    have c164 := (h24.mi e37 (by decide)).trans q26
    have c165 := (t120.mi e55 (by decide)).trans c164
    have c166 := (t121.mi e73 (by decide)).trans c165
    have c167 := (t122.mi e100 (by decide)).trans c166
    have c168 := (t123.fi e130 (by decide) (by decide)).trans c167
    have c169 := (h24.mi e37 (by decide)).trans q27
    have c170 := (t120.mi e55 (by decide)).trans c169
    have c171 := (t121.mi e73 (by decide)).trans c170
    have c172 := (t122.mi e100 (by decide)).trans c171
    have c173 := (t123.fi e130 (by decide) (by decide)).trans c172
    have z178 := t123.1
    have t179 := t123.x e130
    refine k_p276 H129 t179 (h132.ot) (fun z hz => by cases hz; exact ⟨by omega, by unfold LvC; rw [c168, c173, c158, c153]; omega⟩) (fun σ174 H175 e176 c177 => ?_)
    refine k_aload_n rfl ?_
    refine k_areturn ?_
    have X180 : ExC [0, 1, 2, 60, 61, 62, 63, 64, 65, 66, 67, 68, 69, 70, 72, 73, 74, 75, 76, 242, 243, 244, 246, 270, 271, 272, 273, 275, 276, 277, 278, 279, 280, 330, 331, 332, 333, 334, 999] σ0 σ126 := X124.tr (e130.mo (by decide))
    have X181 : ExC [0, 1, 2, 60, 61, 62, 63, 64, 65, 66, 67, 68, 69, 70, 72, 73, 74, 75, 76, 242, 243, 244, 246, 270, 271, 272, 273, 275, 276, 277, 278, 279, 280, 330, 331, 332, 333, 334, 999] σ0 σ174 := X180.tr (e176.mo (by decide))
    have t182 := t179.x e176
    have R183 : RdC p0 none (-14) (5 + 8 * (d : Int)) (-997) σ0 σ174 := R161.tr ⟨(e176.gw H129.1 (by decide)), (e176.cou (u := 0) H129.1 t142 (by decide) (by rw [e176.cn (by decide)]; omega))⟩ (by omega) (by omega) (by omega) (by omega)
    have c184 := (t142.mi e176 (by decide)).trans c145
    have c185 := (t142.mi e176 (by decide)).trans c139
    have c186 := (t179.mi e176 (by decide)).trans c173
    have c187 := (t179.mi e176 (by decide)).trans c168
    have S201 : ∀ s, ReC σ0 p0 s → ReC σ174 p0 (labY (stY (d - 1)) s) := by
      intro s hs
      have y188 := q28 _ hs
      have f190 := y188.at_ c29
      have y191 := y188.x H21.1 t34 e37 (by decide)
      have f192 := y191.at_ c50
      have y193 := y191.x H36.1 t39 e55 (by decide)
      have y194 := q76 _ y193
      have y196 := q103 _ y194
      rw [h94] at y196
      have y198 := q136 _ y196
      have y200 := y198.x H129.1 t142 e176 (by decide)
      refine y200.eq ?_
      try unfold labY
      repeat (split <;> try (exfalso; omega))
      try unfold tkY
      repeat (split <;> try (exfalso; omega))
      try unfold dpY
      repeat (split <;> try (exfalso; omega))
      all_goals rfl
    exact ⟨_, rfl, H175, X181, t182, (R183.mo (by omega) (by omega) (by omega)), (by omega), (by rw [c186] <;> omega), (by rw [c187] <;> omega), S201⟩
theorem lg_X7_readLabel (d : Nat) : ∀ (As : List AvC) (σ : CsC), (P_X7_readLabel d) As σ → lgC As ≤ rX7_readLabel.2.2.1 := by
  rintro As σ ⟨p0, p1, rfl, -⟩
  exact Nat.le_of_ble_eq_true rfl
theorem s_X7_readLabel (l : Launch) (d : Nat) (h_X7_readInner : CMetC l (13 * d + 37) 148 (P_X7_readInner d) (Q_X7_readInner d)) : CMetC l (13 * d + 38) 151 (P_X7_readLabel d) (Q_X7_readLabel d) :=
  CMetC.of KX7_readLabel [(142, P_X7_begin6, Q_X7_begin6), (128, P_X7_accept, Q_X7_accept), (129, P_X7_expect, Q_X7_expect), (148, (P_X7_readInner d), (Q_X7_readInner d))] hX7_readLabel (by decide) (by omega) okX7_readLabel (cc1C (m_X7_begin6 l) (by omega) (cc1C (m_X7_accept l) (by omega) (cc1C (m_X7_expect l) (by omega) (cc1C h_X7_readInner (by omega) cc0C)))) (lg_X7_readLabel d) (b_X7_readLabel d)
