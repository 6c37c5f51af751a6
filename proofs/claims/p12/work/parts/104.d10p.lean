abbrev P_X7_readParams : CpC := fun As σ => ∃ (p0 : Nat) (p1 : Nat), As = [.inr (.inr (some p0)), .inr (.inr (some p1))] ∧ HIC σ ∧ TyC σ p0 8 ∧ TyC σ p1 6 ∧ CdC σ p0 ∧ (fIC σ p0 242).toInt ≤ CtC σ p0 ∧ BgC σ p0 (10) (0) ∧ (fIC σ p1 185).toInt = 0
abbrev Q_X7_readParams : CqC := fun As σ w τ => match As with
  | [.inr (.inr (some p0)), .inr (.inr (some p1))] => w = none ∧ HIC τ ∧ ExC [0, 1, 2, 185, 242, 243, 244, 330, 331, 332, 333, 334, 995, 999] σ τ ∧ RdC p0 none (0) (10) (0) σ τ ∧ (∀ s, ReC σ p0 s → TpY p1 s → ReC τ p0 (parY s))
  | _ => False
set_option maxRecDepth 100000 in
set_option maxHeartbeats 4000000 in
theorem b_X7_readParams : TbC KX7_readParams [(129, P_X7_expect, Q_X7_expect), (125, P_X7_code, Q_X7_code), (130, P_X7_takes, Q_X7_takes), (136, P_X7_readType, Q_X7_readType), (137, P_X7_declare, Q_X7_declare), (138, P_X7_know, Q_X7_know), (112, P_X5_addParam, Q_X5_addParam)] P_X7_readParams Q_X7_readParams := by
  · rintro As σ0 ⟨p0, p1, rfl, H0, h_0_0, h_1_0, rd_cd, rd_at, rd_bg, q_0⟩ hgr G hB hW
    change G 0 [(0, .inr (.inr (some p0))), (1, .inr (.inr (some p1)))] [] σ0
    obtain ⟨x1, e2, c3, h4, h5⟩ := cg242 H0.1 h_0_0
    obtain ⟨x6, e7, c8, h9, h10⟩ := cg243 H0.1 h_0_0
    have z11 := congrArg Int32.toInt c3
    have z12 := congrArg Int32.toInt c8
    obtain ⟨x13, e14, c15, h16, h17⟩ := cg185 H0.1 h_1_0
    have h18 : x13.toInt = 0 := by rw [← c15]; exact q_0
    have L17 : ∀ (n17 : Nat), ∀ (σ19 : CsC) (v17_2 : Int32) (v17_3 : Int32), (2147483647 - v17_3.toInt).toNat = n17 → HIC σ19 → ExC [0, 1, 2, 185, 242, 243, 244, 330, 331, 332, 333, 334, 995, 999] σ0 σ19 → RdC p0 none (-8) (0) (0) σ0 σ19 → 0 ≤ v17_2.toInt → v17_2.toInt ≤ 1 → 0 ≤ v17_3.toInt → v17_3.toInt ≤ 10 → (∀ s, ReC σ0 p0 s → TpY p1 s → ∃ s', ReC σ19 p0 s' ∧ (NpY s s' ∧ LpY s s') ∧ xpY 1 (plY v17_2.toInt (7 - v17_3.toInt).toNat v17_3.toInt.toNat s') = parY s) → (0 ≤ v17_3.toInt ∧ v17_3.toInt ≤ 7 ∧ (v17_3.toInt ≤ 6 → (fIC σ19 p1 185).toInt = v17_3.toInt)) → G 17 [(0, .inr (.inr (some p0))), (1, .inr (.inr (some p1))), (2, .inl v17_2), (3, .inl v17_3)] [] σ19 := by
      intro n17
      induction n17 using Nat.strongRecOn with
      | _ n17 ih17 =>
        intro σ19 v17_2 v17_3 n17_ H20 e21 R22 h23 h24 h25 h26 h27 h28
        have t34 := h_0_0.x e21
        obtain ⟨x29, e30, c31, h32, h33⟩ := cg242 H20.1 t34
        obtain ⟨x35, e36, c37, h38, h39⟩ := cg243 H20.1 t34
        have z40 := congrArg Int32.toInt c31
        have z41 := congrArg Int32.toInt c37
        obtain ⟨h42, h43, h44⟩ := h28
        have t50 := h_1_0.x e21
        obtain ⟨x45, e46, c47, h48, h49⟩ := cg185 H20.1 t50
        rw [c47] at h44
        refine hB _ _ _ _ (kgoC (is := KX7_readParams_17) rfl ?_)
        refine k_iload_n rfl ?_
        refine k_if_eq (fun h51 => ?_) (fun h51 => ?_)
        · refine hB _ _ _ _ (kgoC (is := KX7_readParams_89) rfl ?_)
          refine k_aload_n rfl ?_
          refine k_iconst (m := 1) rfl (fun x52 h53 => ?_)
          have X54 : ExC [0, 1, 2, 185, 242, 243, 244, 330, 331, 332, 333, 334, 995, 999] σ0 σ19 := ExC.rf.tr (e21.mo (by decide))
          refine k_inv (P := P_X7_expect) (Q := Q_X7_expect) rfl rfl rfl rfl (Nat.le_of_ble_eq_true rfl) (t34.rc (by decide)) ⟨_, _, rfl, H20, t34, (by omega), (by omega), (rd_cd.st H0 h_0_0 X54 R22.1 (by decide)), (R22.2.2.2.1 rd_at), (rd_bg.st H0 h_0_0 X54 R22 (by decide) (by omega) (by omega) (by omega))⟩ (fun w55 σ56 q57 => ?_)
          obtain ⟨rfl, H58, e59, R60, q61, q62⟩ := q57
          have t68 := t34.x e59
          obtain ⟨x63, e64, c65, h66, h67⟩ := cg242 H58.1 t68
          obtain ⟨x69, e70, c71, h72, h73⟩ := cg243 H58.1 t68
          have z74 := congrArg Int32.toInt c65
          have z75 := congrArg Int32.toInt c71
          refine k_st (st' := []) rfl ?_
          have R76 : RdC p0 none (-16) (0) (0) σ0 σ56 := R22.tr ⟨R60.1, R60.2⟩ (by omega) (by omega) (by omega) (by omega)
          have z77 := R76.2.2.1
          have z78 := R76.2.2.2.1 rd_at
          refine k_return ?_
          have X79 : ExC [0, 1, 2, 185, 242, 243, 244, 330, 331, 332, 333, 334, 995, 999] σ0 σ56 := X54.tr (e59.mo (by decide))
          have S85 : ∀ s, ReC σ0 p0 s → TpY p1 s → ReC σ56 p0 (parY s) := by
            intro s hs ht
            obtain ⟨s', hs', hnl, hp⟩ := h27 s hs ht
            unfold plY at hp
            first | rw [show (7 - v17_3.toInt).toNat = 0 from by omega] at hp | rw [show (7 - v17_3.toInt).toNat = (6 - v17_3.toInt).toNat + 1 from by omega] at hp | skip
            try rw [palY] at hp
            have y80 := q62 _ hs'
            rw [h53] at y80
            have n82 := ReC.n_xp y80 hnl.1
            have n83 := ReC.l_xp y80 hnl.2
            have g84 := (show v17_2.toInt = 0 from by omega)
            refine y80.eq ?_
            rw [← hp]
            all_goals try simp only [parY, pa3Y, plY, pa1Y, pa2Y, g84, or_false, false_or, or_true, true_or, and_false, false_and, and_true, true_and, not_true, not_false_iff, ↓reduceIte, Int.reduceEq, Int.reduceLE, Int.reduceLT, Int.reduceNeg]
            all_goals first | rfl | (exfalso; omega)
          exact ⟨rfl, H58, X79, (R76.mo (by omega) (by omega) (by omega)), S85⟩
        · refine k_nil ?_
          refine hB _ _ _ _ (kgoC (is := KX7_readParams_21) rfl ?_)
          refine k_iload_n rfl ?_
          refine k_bipush (m := 6) rfl (fun x86 h87 => ?_)
          refine k_ic_gt (fun h88 => ?_) (fun h88 => ?_)
          · refine hB _ _ _ _ (kgoC (is := KX7_readParams_89) rfl ?_)
            refine k_aload_n rfl ?_
            refine k_iconst (m := 1) rfl (fun x89 h90 => ?_)
            have X91 : ExC [0, 1, 2, 185, 242, 243, 244, 330, 331, 332, 333, 334, 995, 999] σ0 σ19 := ExC.rf.tr (e21.mo (by decide))
            refine k_inv (P := P_X7_expect) (Q := Q_X7_expect) rfl rfl rfl rfl (Nat.le_of_ble_eq_true rfl) (t34.rc (by decide)) ⟨_, _, rfl, H20, t34, (by omega), (by omega), (rd_cd.st H0 h_0_0 X91 R22.1 (by decide)), (R22.2.2.2.1 rd_at), (rd_bg.st H0 h_0_0 X91 R22 (by decide) (by omega) (by omega) (by omega))⟩ (fun w92 σ93 q94 => ?_)
            obtain ⟨rfl, H95, e96, R97, q98, q99⟩ := q94
            have t105 := t34.x e96
            obtain ⟨x100, e101, c102, h103, h104⟩ := cg242 H95.1 t105
            obtain ⟨x106, e107, c108, h109, h110⟩ := cg243 H95.1 t105
            have z111 := congrArg Int32.toInt c102
            have z112 := congrArg Int32.toInt c108
            refine k_st (st' := []) rfl ?_
            have R113 : RdC p0 none (-16) (0) (0) σ0 σ93 := R22.tr ⟨R97.1, R97.2⟩ (by omega) (by omega) (by omega) (by omega)
            have z114 := R113.2.2.1
            have z115 := R113.2.2.2.1 rd_at
            refine k_return ?_
            have X116 : ExC [0, 1, 2, 185, 242, 243, 244, 330, 331, 332, 333, 334, 995, 999] σ0 σ93 := X91.tr (e96.mo (by decide))
            have S122 : ∀ s, ReC σ0 p0 s → TpY p1 s → ReC σ93 p0 (parY s) := by
              intro s hs ht
              obtain ⟨s', hs', hnl, hp⟩ := h27 s hs ht
              unfold plY at hp
              first | rw [show (7 - v17_3.toInt).toNat = 0 from by omega] at hp | rw [show (7 - v17_3.toInt).toNat = (6 - v17_3.toInt).toNat + 1 from by omega] at hp | skip
              try rw [palY] at hp
              have y117 := q99 _ hs'
              rw [h90] at y117
              have n119 := ReC.n_xp y117 hnl.1
              have n120 := ReC.l_xp y117 hnl.2
              have g121 := (show v17_2.toInt = 1 from by omega)
              refine y117.eq ?_
              rw [← hp]
              all_goals try simp only [parY, pa3Y, plY, pa1Y, pa2Y, g121, or_false, false_or, or_true, true_or, and_false, false_and, and_true, true_and, not_true, not_false_iff, ↓reduceIte, Int.reduceEq, Int.reduceLE, Int.reduceLT, Int.reduceNeg]
              all_goals first | rfl | (exfalso; omega)
            exact ⟨rfl, H95, X116, (R113.mo (by omega) (by omega) (by omega)), S122⟩
          · refine k_nil ?_
            refine hB _ _ _ _ (kgoC (is := KX7_readParams_27) rfl ?_)
            refine k_aload_n rfl ?_
            refine k_bipush (m := 71) rfl (fun x123 h124 => ?_)
            have X125 : ExC [0, 1, 2, 185, 242, 243, 244, 330, 331, 332, 333, 334, 995, 999] σ0 σ19 := ExC.rf.tr (e21.mo (by decide))
            refine k_inv (P := P_X7_takes) (Q := Q_X7_takes) rfl rfl rfl rfl (Nat.le_of_ble_eq_true rfl) (t34.rc (by decide)) ⟨_, _, rfl, H20, t34, (by omega), (by omega), (rd_cd.st H0 h_0_0 X125 R22.1 (by decide)), (R22.2.2.2.1 rd_at), (rd_bg.st H0 h_0_0 X125 R22 (by decide) (by omega) (by omega) (by omega))⟩ (fun w126 σ127 q128 => ?_)
            obtain ⟨x129, rfl, H130, e131, h133, h134, R132, q135, q136⟩ := q128
            have t142 := t34.x e131
            obtain ⟨x137, e138, c139, h140, h141⟩ := cg242 H130.1 t142
            obtain ⟨x143, e144, c145, h146, h147⟩ := cg243 H130.1 t142
            have z148 := congrArg Int32.toInt c139
            have z149 := congrArg Int32.toInt c145
            refine k_st (st' := [.inl x129]) rfl ?_
            rcases (by omega : x129.toInt = 0 ∨ x129.toInt = 1) with g150 | g150
            · have R151 : RdC p0 none (-8) (0) (0) σ0 σ127 := R22.tr ⟨R132.1, R132.2⟩ (by omega) (by omega) (by omega) (by omega)
              have z152 := R151.2.2.1
              have z153 := R151.2.2.2.1 rd_at
              refine k_istore (ls' := [(4, .inl x129), (0, .inr (.inr (some p0))), (1, .inr (.inr (some p1))), (2, .inl v17_2), (3, .inl v17_3)]) rfl ?_
              refine k_aload_n rfl ?_
              have X154 : ExC [0, 1, 2, 185, 242, 243, 244, 330, 331, 332, 333, 334, 995, 999] σ0 σ127 := X125.tr (e131.mo (by decide))
              refine k_inv (P := P_X7_readType) (Q := Q_X7_readType) rfl rfl rfl rfl (Nat.le_of_ble_eq_true rfl) (t142.rc (by decide)) ⟨_, rfl, H130, t142, (rd_cd.st H0 h_0_0 X154 R151.1 (by decide)), (R151.2.2.2.1 rd_at), (rd_bg.st H0 h_0_0 X154 R151 (by decide) (by omega) (by omega) (by omega))⟩ (fun w155 σ156 q157 => ?_)
              obtain ⟨x158, rfl, H159, e160, R161, q162⟩ := q157
              have t168 := t142.x e160
              obtain ⟨x163, e164, c165, h166, h167⟩ := cg242 H159.1 t168
              obtain ⟨x169, e170, c171, h172, h173⟩ := cg243 H159.1 t168
              have z174 := congrArg Int32.toInt c165
              have z175 := congrArg Int32.toInt c171
              refine k_st (st' := [.inl x158]) rfl ?_
              refine k_istore (ls' := [(5, .inl x158), (4, .inl x129), (0, .inr (.inr (some p0))), (1, .inr (.inr (some p1))), (2, .inl v17_2), (3, .inl v17_3)]) rfl ?_
              refine k_aload_n rfl ?_
              refine k_iload rfl ?_
              refine k_iload rfl ?_
              refine k_aload_n rfl ?_
              have t176 := t50.x e131
              have t177 := t176.x e160
              have c178 := (t50.mi e131 (by decide)).trans c47
              have c179 := (t176.mi e160 (by decide)).trans c178
              refine k_get kg185 t177 (congrArg (Sum.inl : Int32 → AvC) c179) ?_
              refine k_bipush (m := 6) rfl (fun x180 h181 => ?_)
              refine k_ic_ge (fun h182 => ?_) (fun h182 => ?_)
              · refine hB _ _ _ _ (kgoC (is := KX7_readParams_59) rfl ?_)
                refine k_iconst (m := 0) rfl (fun x183 h184 => ?_)
                refine k_nil ?_
                refine hB _ _ _ _ (kgoC (is := KX7_readParams_60) rfl ?_)
                have R185 : RdC p0 none (-16) (0) (0) σ0 σ156 := R151.tr ⟨R161.1, R161.2⟩ (by omega) (by omega) (by omega) (by omega)
                have X186 : ExC [0, 1, 2, 185, 242, 243, 244, 330, 331, 332, 333, 334, 995, 999] σ0 σ156 := X154.tr (e160.mo (by decide))
                refine k_inv (P := P_X7_declare) (Q := Q_X7_declare) rfl rfl rfl rfl (Nat.le_of_ble_eq_true rfl) (t168.rc (by decide)) ⟨_, _, _, _, rfl, H159, t168, (by omega), (by omega), (by omega), (by omega), (rd_cd.st H0 h_0_0 X186 R185.1 (by decide)), (R185.2.2.2.1 rd_at), (rd_bg.st H0 h_0_0 X186 R185 (by decide) (by omega) (by omega) (by omega))⟩ (fun w187 σ188 q189 => ?_)
                obtain ⟨x190, rfl, H191, e192, h194, h195, R193, q196⟩ := q189
                have t202 := t168.x e192
                obtain ⟨x197, e198, c199, h200, h201⟩ := cg242 H191.1 t202
                obtain ⟨x203, e204, c205, h206, h207⟩ := cg243 H191.1 t202
                have z208 := congrArg Int32.toInt c199
                have z209 := congrArg Int32.toInt c205
                refine k_st (st' := [.inl x190]) rfl ?_
                have c210 := (t177.mi e192 (by decide)).trans c179
                refine k_istore (ls' := [(6, .inl x190), (5, .inl x158), (4, .inl x129), (0, .inr (.inr (some p0))), (1, .inr (.inr (some p1))), (2, .inl v17_2), (3, .inl v17_3)]) rfl ?_
                refine k_aload_n rfl ?_
                refine k_iload rfl ?_
                refine k_inv (P := P_X7_know) (Q := Q_X7_know) rfl rfl rfl rfl (Nat.le_of_ble_eq_true rfl) (t202.rc (by decide)) ⟨_, _, rfl, H191, t202⟩ (fun w211 σ212 q213 => ?_)
                obtain ⟨rfl, H214, e215⟩ := q213
                have c216 := (t202.mi e215 (by decide)).trans c199
                have c217 := (t202.mi e215 (by decide)).trans c205
                have z218 := congrArg Int32.toInt c216
                have z219 := congrArg Int32.toInt c217
                refine k_st (st' := []) rfl ?_
                have t220 := t177.x e192
                have c221 := (t220.mi e215 (by decide)).trans c210
                refine k_aload_n rfl ?_
                refine k_iload rfl ?_
                have t222 := t220.x e215
                refine k_inv (P := P_X5_addParam) (Q := Q_X5_addParam) rfl rfl rfl rfl (Nat.le_of_ble_eq_true rfl) (t222.rc (by decide)) ⟨_, _, rfl, H214, t222⟩ (fun w223 σ224 q225 => ?_)
                obtain ⟨rfl, H226, e227, q228, q229, q230, q231, q232, q233⟩ := q225
                have t234 := t202.x e215
                have c235 := (t234.mi e227 (by decide)).trans c216
                have c236 := (t234.mi e227 (by decide)).trans c217
                have z237 := congrArg Int32.toInt c235
                have z238 := congrArg Int32.toInt c236
                refine k_st (st' := []) rfl ?_
                have k239 := q228
                have k240 := q229
                have k241 := q230
                have k242 := q231
                have k243 := q232
                have k244 := q233
                have t250 := t222.x e227
                obtain ⟨x245, e246, c247, h248, h249⟩ := cg185 H226.1 t250
                rw [c247, c221] at q228 q229
                refine k_aload_n rfl ?_
                refine k_iconst (m := 5) rfl (fun x251 h252 => ?_)
                have t253 := t234.x e227
                have R254 : RdC p0 none (-22) (0) (0) σ0 σ188 := R185.tr ⟨R193.1, R193.2⟩ (by omega) (by omega) (by omega) (by omega)
                have R255 : RdC p0 none (-22) (0) (0) σ0 σ212 := R254.tr ⟨(e215.gw H191.1 (by decide)), (e215.cou (u := 0) H191.1 t202 (by decide) (by rw [e215.cn (by decide)]; omega))⟩ (by omega) (by omega) (by omega) (by omega)
                have R256 : RdC p0 none (-22) (0) (0) σ0 σ224 := R255.tr ⟨(e227.gw H214.1 (by decide)), (e227.cou (u := 0) H214.1 t234 (by decide) (by rw [e227.cn (by decide)]; omega))⟩ (by omega) (by omega) (by omega) (by omega)
                have X257 : ExC [0, 1, 2, 185, 242, 243, 244, 330, 331, 332, 333, 334, 995, 999] σ0 σ188 := X186.tr (e192.mo (by decide))
                have X258 : ExC [0, 1, 2, 185, 242, 243, 244, 330, 331, 332, 333, 334, 995, 999] σ0 σ212 := X257.tr (e215.mo (by decide))
                have X259 : ExC [0, 1, 2, 185, 242, 243, 244, 330, 331, 332, 333, 334, 995, 999] σ0 σ224 := X258.tr (e227.mo (by decide))
                refine k_inv (P := P_X7_takes) (Q := Q_X7_takes) rfl rfl rfl rfl (Nat.le_of_ble_eq_true rfl) (t253.rc (by decide)) ⟨_, _, rfl, H226, t253, (by omega), (by omega), (rd_cd.st H0 h_0_0 X259 R256.1 (by decide)), (R256.2.2.2.1 rd_at), (rd_bg.st H0 h_0_0 X259 R256 (by decide) (by omega) (by omega) (by omega))⟩ (fun w260 σ261 q262 => ?_)
                obtain ⟨x263, rfl, H264, e265, h267, h268, R266, q269, q270⟩ := q262
                have t276 := t253.x e265
                obtain ⟨x271, e272, c273, h274, h275⟩ := cg242 H264.1 t276
                obtain ⟨x277, e278, c279, h280, h281⟩ := cg243 H264.1 t276
                have z282 := congrArg Int32.toInt c273
                have z283 := congrArg Int32.toInt c279
                refine k_st (st' := [.inl x263]) rfl ?_
                rcases (by omega : x263.toInt = 0 ∨ x263.toInt = 1) with g284 | g284
                · have R285 : RdC p0 none (-22) (0) (0) σ0 σ261 := R256.tr ⟨R266.1, R266.2⟩ (by omega) (by omega) (by omega) (by omega)
                  have z286 := R285.2.2.1
                  have z287 := R285.2.2.2.1 rd_at
                  refine k_istore_n (ls' := [(2, .inl x263), (6, .inl x190), (5, .inl x158), (4, .inl x129), (0, .inr (.inr (some p0))), (1, .inr (.inr (some p1))), (3, .inl v17_3)]) rfl ?_
                  obtain ⟨x288, e290, h289⟩ := iincC (n := 1) (m := 1) (v := v17_3) rfl (by omega) (by omega)
                  refine k_iinc (ls' := [(3, .inl x288), (2, .inl x263), (6, .inl x190), (5, .inl x158), (4, .inl x129), (0, .inr (.inr (some p0))), (1, .inr (.inr (some p1)))]) rfl e290 rfl ?_
                  refine k_goto ?_
                  have S310 : (∀ s, ReC σ0 p0 s → TpY p1 s → ∃ s', ReC σ261 p0 s' ∧ (NpY s s' ∧ LpY s s') ∧ xpY 1 (plY x263.toInt (7 - x288.toInt).toNat x288.toInt.toNat s') = parY s) := by
                    intro s hs ht
                    obtain ⟨s', hs', hnl, hp⟩ := h27 s hs ht
                    unfold plY at hp
                    first | rw [show (7 - v17_3.toInt).toNat = 0 from by omega] at hp | rw [show (7 - v17_3.toInt).toNat = (6 - v17_3.toInt).toNat + 1 from by omega] at hp | skip
                    try rw [palY] at hp
                    obtain ⟨y291, f292⟩ := q136 _ hs'
                    rw [h124] at y291
                    rw [h124] at f292
                    rw [tkY_n (f292.2 (by omega))] at y291
                    obtain ⟨y293, f294⟩ := q162 _ y291
                    have n295 := ReC.n_typ y293 hnl.1
                    have n296 := ReC.l_typ y293 hnl.2
                    have y297 := q196 _ y293
                    rw [f294] at y297
                    rw [show x129.toInt = 0 from by omega] at y297
                    rw [h184] at y297
                    have n299 := ReC.n_dcl y297 n295
                    have n300 := ReC.l_dcl y297 n296
                    have y301 := y297.x H191.1 t202 e215 (by decide)
                    have y302 := (k244 (by rw [c221]; omega)) ▸ y301
                    obtain ⟨y303, f304⟩ := q270 _ y302
                    rw [h252] at y303
                    rw [h252] at f304
                    rw [tkY_n (f304.2 (by omega))] at y303
                    have g305 := f292.2 (by omega)
                    have g306 := f304.2 (by omega)
                    have g307 := (show v17_2.toInt = 1 from by omega)
                    have g308 := (show ¬ v17_3.toInt.toNat < 6 from by omega)
                    have g309 := (show x263.toInt = 0 from by omega)
                    refine ⟨_, y303, ⟨n299, n300⟩, ?_⟩
                    rw [← hp]
                    all_goals try rw [show (7 - x288.toInt).toNat = (6 - v17_3.toInt).toNat from by omega]
                    all_goals try rw [show x288.toInt.toNat = v17_3.toInt.toNat + 1 from by omega]
                    all_goals try simp only [parY, pa3Y, plY, pa1Y, pa2Y, g305, g306, g307, g308, g309, or_false, false_or, or_true, true_or, and_false, false_and, and_true, true_and, not_true, not_false_iff, ↓reduceIte, Int.reduceEq, Int.reduceLE, Int.reduceLT, Int.reduceNeg]
                    all_goals first | rfl | (exfalso; omega)
                  have c311 := (t250.mi e265 (by decide)).trans c247
                  have X312 : ExC [0, 1, 2, 185, 242, 243, 244, 330, 331, 332, 333, 334, 995, 999] σ0 σ261 := X259.tr (e265.mo (by decide))
                  exact hW _ _ _ _ _ (List.forall_mem_cons.2 ⟨List.Mem.tail _ (List.Mem.tail _ (List.Mem.tail _ (List.Mem.tail _ (List.Mem.tail _ (List.Mem.head _))))), (List.forall_mem_cons.2 ⟨List.Mem.tail _ (List.Mem.tail _ (List.Mem.tail _ (List.Mem.tail _ (List.Mem.tail _ (List.Mem.tail _ (List.Mem.head _)))))), (List.forall_mem_cons.2 ⟨List.Mem.tail _ (List.Mem.head _), (List.forall_mem_cons.2 ⟨List.Mem.head _, fun _ h => absurd h List.not_mem_nil⟩)⟩)⟩)⟩) (ih17 ((2147483647 - x288.toInt).toNat) (by omega) σ261 x263 x288 rfl H264 X312 (R285.mo (by omega) (by omega) (by omega)) (by omega) (by omega) (by omega) (by omega) S310 ⟨by omega, by omega, fun _ => by rw [c311]; omega⟩)
                · have R313 := R256.nf (-1000) (-1000) (q269 (by omega)).1
                  have R314 : RdC p0 none (-30) (-22) (-1000) σ0 σ261 := R313.tr ⟨(q269 (by omega)).2.1, (q269 (by omega)).2.2⟩ (by omega) (by omega) (by omega) (by omega)
                  have z315 := R314.2.2.1
                  have z316 := R314.2.2.2.1 rd_at
                  refine k_istore_n (ls' := [(2, .inl x263), (6, .inl x190), (5, .inl x158), (4, .inl x129), (0, .inr (.inr (some p0))), (1, .inr (.inr (some p1))), (3, .inl v17_3)]) rfl ?_
                  obtain ⟨x317, e319, h318⟩ := iincC (n := 1) (m := 1) (v := v17_3) rfl (by omega) (by omega)
                  refine k_iinc (ls' := [(3, .inl x317), (2, .inl x263), (6, .inl x190), (5, .inl x158), (4, .inl x129), (0, .inr (.inr (some p0))), (1, .inr (.inr (some p1)))]) rfl e319 rfl ?_
                  refine k_goto ?_
                  have S341 : (∀ s, ReC σ0 p0 s → TpY p1 s → ∃ s', ReC σ261 p0 s' ∧ (NpY s s' ∧ LpY s s') ∧ xpY 1 (plY x263.toInt (7 - x317.toInt).toNat x317.toInt.toNat s') = parY s) := by
                    intro s hs ht
                    obtain ⟨s', hs', hnl, hp⟩ := h27 s hs ht
                    unfold plY at hp
                    first | rw [show (7 - v17_3.toInt).toNat = 0 from by omega] at hp | rw [show (7 - v17_3.toInt).toNat = (6 - v17_3.toInt).toNat + 1 from by omega] at hp | skip
                    try rw [palY] at hp
                    obtain ⟨y320, f321⟩ := q136 _ hs'
                    rw [h124] at y320
                    rw [h124] at f321
                    rw [tkY_n (f321.2 (by omega))] at y320
                    obtain ⟨y322, f323⟩ := q162 _ y320
                    have n324 := ReC.n_typ y322 hnl.1
                    have n325 := ReC.l_typ y322 hnl.2
                    have y326 := q196 _ y322
                    rw [f323] at y326
                    rw [show x129.toInt = 0 from by omega] at y326
                    rw [h184] at y326
                    have n328 := ReC.n_dcl y326 n324
                    have n329 := ReC.l_dcl y326 n325
                    have y330 := y326.x H191.1 t202 e215 (by decide)
                    have y331 := (k244 (by rw [c221]; omega)) ▸ y330
                    obtain ⟨y332, f333⟩ := q270 _ y331
                    rw [h252] at y332
                    rw [h252] at f333
                    rw [tkY_y (f333.1 (by omega))] at y332
                    have n334 := ReC.n_acc y332 n328
                    have n335 := ReC.l_acc y332 n329
                    have g336 := f321.2 (by omega)
                    have g337 := f333.1 (by omega)
                    have g338 := (show v17_2.toInt = 1 from by omega)
                    have g339 := (show ¬ v17_3.toInt.toNat < 6 from by omega)
                    have g340 := (show x263.toInt = 1 from by omega)
                    refine ⟨_, y332, ⟨n334, n335⟩, ?_⟩
                    rw [← hp]
                    all_goals try rw [show (7 - x317.toInt).toNat = (6 - v17_3.toInt).toNat from by omega]
                    all_goals try rw [show x317.toInt.toNat = v17_3.toInt.toNat + 1 from by omega]
                    all_goals try simp only [parY, pa3Y, plY, pa1Y, pa2Y, g336, g337, g338, g339, g340, or_false, false_or, or_true, true_or, and_false, false_and, and_true, true_and, not_true, not_false_iff, ↓reduceIte, Int.reduceEq, Int.reduceLE, Int.reduceLT, Int.reduceNeg]
                    all_goals first | rfl | (exfalso; omega)
                  have c342 := (t250.mi e265 (by decide)).trans c247
                  have X343 : ExC [0, 1, 2, 185, 242, 243, 244, 330, 331, 332, 333, 334, 995, 999] σ0 σ261 := X259.tr (e265.mo (by decide))
                  exact hW _ _ _ _ _ (List.forall_mem_cons.2 ⟨List.Mem.tail _ (List.Mem.tail _ (List.Mem.tail _ (List.Mem.tail _ (List.Mem.tail _ (List.Mem.head _))))), (List.forall_mem_cons.2 ⟨List.Mem.tail _ (List.Mem.tail _ (List.Mem.tail _ (List.Mem.tail _ (List.Mem.tail _ (List.Mem.tail _ (List.Mem.head _)))))), (List.forall_mem_cons.2 ⟨List.Mem.tail _ (List.Mem.head _), (List.forall_mem_cons.2 ⟨List.Mem.head _, fun _ h => absurd h List.not_mem_nil⟩)⟩)⟩)⟩) (ih17 ((2147483647 - x317.toInt).toNat) (by omega) σ261 x263 x317 rfl H264 X343 (R314.mo (by omega) (by omega) (by omega)) (by omega) (by omega) (by omega) (by omega) S341 ⟨by omega, by omega, fun _ => by rw [c342]; omega⟩)
              · refine k_nil ?_
                refine hB _ _ _ _ (kgoC (is := KX7_readParams_55) rfl ?_)
                refine k_iconst (m := 1) rfl (fun x344 h345 => ?_)
                refine k_goto ?_
                refine hB _ _ _ _ (kgoC (is := KX7_readParams_60) rfl ?_)
                have R346 : RdC p0 none (-16) (0) (0) σ0 σ156 := R151.tr ⟨R161.1, R161.2⟩ (by omega) (by omega) (by omega) (by omega)
                have X347 : ExC [0, 1, 2, 185, 242, 243, 244, 330, 331, 332, 333, 334, 995, 999] σ0 σ156 := X154.tr (e160.mo (by decide))
                refine k_inv (P := P_X7_declare) (Q := Q_X7_declare) rfl rfl rfl rfl (Nat.le_of_ble_eq_true rfl) (t168.rc (by decide)) ⟨_, _, _, _, rfl, H159, t168, (by omega), (by omega), (by omega), (by omega), (rd_cd.st H0 h_0_0 X347 R346.1 (by decide)), (R346.2.2.2.1 rd_at), (rd_bg.st H0 h_0_0 X347 R346 (by decide) (by omega) (by omega) (by omega))⟩ (fun w348 σ349 q350 => ?_)
                obtain ⟨x351, rfl, H352, e353, h355, h356, R354, q357⟩ := q350
                have t363 := t168.x e353
                obtain ⟨x358, e359, c360, h361, h362⟩ := cg242 H352.1 t363
                obtain ⟨x364, e365, c366, h367, h368⟩ := cg243 H352.1 t363
                have z369 := congrArg Int32.toInt c360
                have z370 := congrArg Int32.toInt c366
                refine k_st (st' := [.inl x351]) rfl ?_
                have c371 := (t177.mi e353 (by decide)).trans c179
                refine k_istore (ls' := [(6, .inl x351), (5, .inl x158), (4, .inl x129), (0, .inr (.inr (some p0))), (1, .inr (.inr (some p1))), (2, .inl v17_2), (3, .inl v17_3)]) rfl ?_
                refine k_aload_n rfl ?_
                refine k_iload rfl ?_
                refine k_inv (P := P_X7_know) (Q := Q_X7_know) rfl rfl rfl rfl (Nat.le_of_ble_eq_true rfl) (t363.rc (by decide)) ⟨_, _, rfl, H352, t363⟩ (fun w372 σ373 q374 => ?_)
                obtain ⟨rfl, H375, e376⟩ := q374
                have c377 := (t363.mi e376 (by decide)).trans c360
                have c378 := (t363.mi e376 (by decide)).trans c366
                have z379 := congrArg Int32.toInt c377
                have z380 := congrArg Int32.toInt c378
                refine k_st (st' := []) rfl ?_
                have t381 := t177.x e353
                have c382 := (t381.mi e376 (by decide)).trans c371
                refine k_aload_n rfl ?_
                refine k_iload rfl ?_
                have t383 := t381.x e376
                refine k_inv (P := P_X5_addParam) (Q := Q_X5_addParam) rfl rfl rfl rfl (Nat.le_of_ble_eq_true rfl) (t383.rc (by decide)) ⟨_, _, rfl, H375, t383⟩ (fun w384 σ385 q386 => ?_)
                obtain ⟨rfl, H387, e388, q389, q390, q391, q392, q393, q394⟩ := q386
                have t395 := t363.x e376
                have c396 := (t395.mi e388 (by decide)).trans c377
                have c397 := (t395.mi e388 (by decide)).trans c378
                have z398 := congrArg Int32.toInt c396
                have z399 := congrArg Int32.toInt c397
                refine k_st (st' := []) rfl ?_
                have k400 := q389
                have k401 := q390
                have k402 := q391
                have k403 := q392
                have k404 := q393
                have k405 := q394
                have t411 := t383.x e388
                obtain ⟨x406, e407, c408, h409, h410⟩ := cg185 H387.1 t411
                rw [c408, c382] at q389 q390
                refine k_aload_n rfl ?_
                refine k_iconst (m := 5) rfl (fun x412 h413 => ?_)
                have t414 := t395.x e388
                have R415 : RdC p0 none (-22) (0) (0) σ0 σ349 := R346.tr ⟨R354.1, R354.2⟩ (by omega) (by omega) (by omega) (by omega)
                have R416 : RdC p0 none (-22) (0) (0) σ0 σ373 := R415.tr ⟨(e376.gw H352.1 (by decide)), (e376.cou (u := 0) H352.1 t363 (by decide) (by rw [e376.cn (by decide)]; omega))⟩ (by omega) (by omega) (by omega) (by omega)
                have R417 : RdC p0 none (-22) (0) (0) σ0 σ385 := R416.tr ⟨(e388.gw H375.1 (by decide)), (e388.cou (u := 0) H375.1 t395 (by decide) (by rw [e388.cn (by decide)]; omega))⟩ (by omega) (by omega) (by omega) (by omega)
                have X418 : ExC [0, 1, 2, 185, 242, 243, 244, 330, 331, 332, 333, 334, 995, 999] σ0 σ349 := X347.tr (e353.mo (by decide))
                have X419 : ExC [0, 1, 2, 185, 242, 243, 244, 330, 331, 332, 333, 334, 995, 999] σ0 σ373 := X418.tr (e376.mo (by decide))
                have X420 : ExC [0, 1, 2, 185, 242, 243, 244, 330, 331, 332, 333, 334, 995, 999] σ0 σ385 := X419.tr (e388.mo (by decide))
                refine k_inv (P := P_X7_takes) (Q := Q_X7_takes) rfl rfl rfl rfl (Nat.le_of_ble_eq_true rfl) (t414.rc (by decide)) ⟨_, _, rfl, H387, t414, (by omega), (by omega), (rd_cd.st H0 h_0_0 X420 R417.1 (by decide)), (R417.2.2.2.1 rd_at), (rd_bg.st H0 h_0_0 X420 R417 (by decide) (by omega) (by omega) (by omega))⟩ (fun w421 σ422 q423 => ?_)
                obtain ⟨x424, rfl, H425, e426, h428, h429, R427, q430, q431⟩ := q423
                have t437 := t414.x e426
                obtain ⟨x432, e433, c434, h435, h436⟩ := cg242 H425.1 t437
                obtain ⟨x438, e439, c440, h441, h442⟩ := cg243 H425.1 t437
                have z443 := congrArg Int32.toInt c434
                have z444 := congrArg Int32.toInt c440
                refine k_st (st' := [.inl x424]) rfl ?_
                rcases (by omega : x424.toInt = 0 ∨ x424.toInt = 1) with g445 | g445
                · have R446 : RdC p0 none (-22) (0) (0) σ0 σ422 := R417.tr ⟨R427.1, R427.2⟩ (by omega) (by omega) (by omega) (by omega)
                  have z447 := R446.2.2.1
                  have z448 := R446.2.2.2.1 rd_at
                  refine k_istore_n (ls' := [(2, .inl x424), (6, .inl x351), (5, .inl x158), (4, .inl x129), (0, .inr (.inr (some p0))), (1, .inr (.inr (some p1))), (3, .inl v17_3)]) rfl ?_
                  obtain ⟨x449, e451, h450⟩ := iincC (n := 1) (m := 1) (v := v17_3) rfl (by omega) (by omega)
                  refine k_iinc (ls' := [(3, .inl x449), (2, .inl x424), (6, .inl x351), (5, .inl x158), (4, .inl x129), (0, .inr (.inr (some p0))), (1, .inr (.inr (some p1)))]) rfl e451 rfl ?_
                  refine k_goto ?_
                  have S473 : (∀ s, ReC σ0 p0 s → TpY p1 s → ∃ s', ReC σ422 p0 s' ∧ (NpY s s' ∧ LpY s s') ∧ xpY 1 (plY x424.toInt (7 - x449.toInt).toNat x449.toInt.toNat s') = parY s) := by
                    intro s hs ht
                    obtain ⟨s', hs', hnl, hp⟩ := h27 s hs ht
                    unfold plY at hp
                    first | rw [show (7 - v17_3.toInt).toNat = 0 from by omega] at hp | rw [show (7 - v17_3.toInt).toNat = (6 - v17_3.toInt).toNat + 1 from by omega] at hp | skip
                    try rw [palY] at hp
                    obtain ⟨y452, f453⟩ := q136 _ hs'
                    rw [h124] at y452
                    rw [h124] at f453
                    rw [tkY_n (f453.2 (by omega))] at y452
                    obtain ⟨y454, f455⟩ := q162 _ y452
                    have n456 := ReC.n_typ y454 hnl.1
                    have n457 := ReC.l_typ y454 hnl.2
                    have y458 := q357 _ y454
                    rw [f455] at y458
                    rw [show x129.toInt = 0 from by omega] at y458
                    rw [h345] at y458
                    have n460 := ReC.n_dcl y458 n456
                    have n461 := ReC.l_dcl y458 n457
                    have y462 := y458.x H352.1 t363 e376 (by decide)
                    have y463 := ReC.pad (v := x158) y462 H375.1 t395 e388 (TpY.g ht n460 n461) (k400 (by rw [c382]; omega)) k402 (k403 (by rw [c382]; omega)) k404
                    rw [f455] at y463
                    have n464 := ReC.n_pad y463 n460
                    have n465 := ReC.l_pad y463 n461
                    obtain ⟨y466, f467⟩ := q431 _ y463
                    rw [h413] at y466
                    rw [h413] at f467
                    rw [tkY_n (f467.2 (by omega))] at y466
                    have g468 := f453.2 (by omega)
                    have g469 := f467.2 (by omega)
                    have g470 := (show v17_2.toInt = 1 from by omega)
                    have g471 := (show v17_3.toInt.toNat < 6 from by omega)
                    have g472 := (show x424.toInt = 0 from by omega)
                    refine ⟨_, y466, ⟨n464, n465⟩, ?_⟩
                    rw [← hp]
                    all_goals try rw [show (7 - x449.toInt).toNat = (6 - v17_3.toInt).toNat from by omega]
                    all_goals try rw [show x449.toInt.toNat = v17_3.toInt.toNat + 1 from by omega]
                    all_goals try simp only [parY, pa3Y, plY, pa1Y, pa2Y, g468, g469, g470, g471, g472, or_false, false_or, or_true, true_or, and_false, false_and, and_true, true_and, not_true, not_false_iff, ↓reduceIte, Int.reduceEq, Int.reduceLE, Int.reduceLT, Int.reduceNeg]
                    all_goals first | rfl | (exfalso; omega)
                  have c474 := (t411.mi e426 (by decide)).trans c408
                  have X475 : ExC [0, 1, 2, 185, 242, 243, 244, 330, 331, 332, 333, 334, 995, 999] σ0 σ422 := X420.tr (e426.mo (by decide))
                  exact hW _ _ _ _ _ (List.forall_mem_cons.2 ⟨List.Mem.tail _ (List.Mem.tail _ (List.Mem.tail _ (List.Mem.tail _ (List.Mem.tail _ (List.Mem.head _))))), (List.forall_mem_cons.2 ⟨List.Mem.tail _ (List.Mem.tail _ (List.Mem.tail _ (List.Mem.tail _ (List.Mem.tail _ (List.Mem.tail _ (List.Mem.head _)))))), (List.forall_mem_cons.2 ⟨List.Mem.tail _ (List.Mem.head _), (List.forall_mem_cons.2 ⟨List.Mem.head _, fun _ h => absurd h List.not_mem_nil⟩)⟩)⟩)⟩) (ih17 ((2147483647 - x449.toInt).toNat) (by omega) σ422 x424 x449 rfl H425 X475 (R446.mo (by omega) (by omega) (by omega)) (by omega) (by omega) (by omega) (by omega) S473 ⟨by omega, by omega, fun _ => by rw [c474]; omega⟩)
                · have R476 := R417.nf (-1000) (-1000) (q430 (by omega)).1
                  have R477 : RdC p0 none (-30) (-22) (-1000) σ0 σ422 := R476.tr ⟨(q430 (by omega)).2.1, (q430 (by omega)).2.2⟩ (by omega) (by omega) (by omega) (by omega)
                  have z478 := R477.2.2.1
                  have z479 := R477.2.2.2.1 rd_at
                  refine k_istore_n (ls' := [(2, .inl x424), (6, .inl x351), (5, .inl x158), (4, .inl x129), (0, .inr (.inr (some p0))), (1, .inr (.inr (some p1))), (3, .inl v17_3)]) rfl ?_
                  obtain ⟨x480, e482, h481⟩ := iincC (n := 1) (m := 1) (v := v17_3) rfl (by omega) (by omega)
                  refine k_iinc (ls' := [(3, .inl x480), (2, .inl x424), (6, .inl x351), (5, .inl x158), (4, .inl x129), (0, .inr (.inr (some p0))), (1, .inr (.inr (some p1)))]) rfl e482 rfl ?_
                  refine k_goto ?_
                  have S506 : (∀ s, ReC σ0 p0 s → TpY p1 s → ∃ s', ReC σ422 p0 s' ∧ (NpY s s' ∧ LpY s s') ∧ xpY 1 (plY x424.toInt (7 - x480.toInt).toNat x480.toInt.toNat s') = parY s) := by
                    intro s hs ht
                    obtain ⟨s', hs', hnl, hp⟩ := h27 s hs ht
                    unfold plY at hp
                    first | rw [show (7 - v17_3.toInt).toNat = 0 from by omega] at hp | rw [show (7 - v17_3.toInt).toNat = (6 - v17_3.toInt).toNat + 1 from by omega] at hp | skip
                    try rw [palY] at hp
                    obtain ⟨y483, f484⟩ := q136 _ hs'
                    rw [h124] at y483
                    rw [h124] at f484
                    rw [tkY_n (f484.2 (by omega))] at y483
                    obtain ⟨y485, f486⟩ := q162 _ y483
                    have n487 := ReC.n_typ y485 hnl.1
                    have n488 := ReC.l_typ y485 hnl.2
                    have y489 := q357 _ y485
                    rw [f486] at y489
                    rw [show x129.toInt = 0 from by omega] at y489
                    rw [h345] at y489
                    have n491 := ReC.n_dcl y489 n487
                    have n492 := ReC.l_dcl y489 n488
                    have y493 := y489.x H352.1 t363 e376 (by decide)
                    have y494 := ReC.pad (v := x158) y493 H375.1 t395 e388 (TpY.g ht n491 n492) (k400 (by rw [c382]; omega)) k402 (k403 (by rw [c382]; omega)) k404
                    rw [f486] at y494
                    have n495 := ReC.n_pad y494 n491
                    have n496 := ReC.l_pad y494 n492
                    obtain ⟨y497, f498⟩ := q431 _ y494
                    rw [h413] at y497
                    rw [h413] at f498
                    rw [tkY_y (f498.1 (by omega))] at y497
                    have n499 := ReC.n_acc y497 n495
                    have n500 := ReC.l_acc y497 n496
                    have g501 := f484.2 (by omega)
                    have g502 := f498.1 (by omega)
                    have g503 := (show v17_2.toInt = 1 from by omega)
                    have g504 := (show v17_3.toInt.toNat < 6 from by omega)
                    have g505 := (show x424.toInt = 1 from by omega)
                    refine ⟨_, y497, ⟨n499, n500⟩, ?_⟩
                    rw [← hp]
                    all_goals try rw [show (7 - x480.toInt).toNat = (6 - v17_3.toInt).toNat from by omega]
                    all_goals try rw [show x480.toInt.toNat = v17_3.toInt.toNat + 1 from by omega]
                    all_goals try simp only [parY, pa3Y, plY, pa1Y, pa2Y, g501, g502, g503, g504, g505, or_false, false_or, or_true, true_or, and_false, false_and, and_true, true_and, not_true, not_false_iff, ↓reduceIte, Int.reduceEq, Int.reduceLE, Int.reduceLT, Int.reduceNeg]
                    all_goals first | rfl | (exfalso; omega)
                  have c507 := (t411.mi e426 (by decide)).trans c408
                  have X508 : ExC [0, 1, 2, 185, 242, 243, 244, 330, 331, 332, 333, 334, 995, 999] σ0 σ422 := X420.tr (e426.mo (by decide))
                  exact hW _ _ _ _ _ (List.forall_mem_cons.2 ⟨List.Mem.tail _ (List.Mem.tail _ (List.Mem.tail _ (List.Mem.tail _ (List.Mem.tail _ (List.Mem.head _))))), (List.forall_mem_cons.2 ⟨List.Mem.tail _ (List.Mem.tail _ (List.Mem.tail _ (List.Mem.tail _ (List.Mem.tail _ (List.Mem.tail _ (List.Mem.head _)))))), (List.forall_mem_cons.2 ⟨List.Mem.tail _ (List.Mem.head _), (List.forall_mem_cons.2 ⟨List.Mem.head _, fun _ h => absurd h List.not_mem_nil⟩)⟩)⟩)⟩) (ih17 ((2147483647 - x480.toInt).toNat) (by omega) σ422 x424 x480 rfl H425 X508 (R477.mo (by omega) (by omega) (by omega)) (by omega) (by omega) (by omega) (by omega) S506 ⟨by omega, by omega, fun _ => by rw [c507]; omega⟩)
            · have R509 := R22.nf (-1000) (-1000) (q135 (by omega)).1
              have R510 : RdC p0 none (-16) (-8) (-1000) σ0 σ127 := R509.tr ⟨(q135 (by omega)).2.1, (q135 (by omega)).2.2⟩ (by omega) (by omega) (by omega) (by omega)
              have z511 := R510.2.2.1
              have z512 := R510.2.2.2.1 rd_at
              refine k_istore (ls' := [(4, .inl x129), (0, .inr (.inr (some p0))), (1, .inr (.inr (some p1))), (2, .inl v17_2), (3, .inl v17_3)]) rfl ?_
              refine k_aload_n rfl ?_
              have X513 : ExC [0, 1, 2, 185, 242, 243, 244, 330, 331, 332, 333, 334, 995, 999] σ0 σ127 := X125.tr (e131.mo (by decide))
              refine k_inv (P := P_X7_readType) (Q := Q_X7_readType) rfl rfl rfl rfl (Nat.le_of_ble_eq_true rfl) (t142.rc (by decide)) ⟨_, rfl, H130, t142, (rd_cd.st H0 h_0_0 X513 R510.1 (by decide)), (R510.2.2.2.1 rd_at), (rd_bg.st H0 h_0_0 X513 R510 (by decide) (by omega) (by omega) (by omega))⟩ (fun w514 σ515 q516 => ?_)
              obtain ⟨x517, rfl, H518, e519, R520, q521⟩ := q516
              have t527 := t142.x e519
              obtain ⟨x522, e523, c524, h525, h526⟩ := cg242 H518.1 t527
              obtain ⟨x528, e529, c530, h531, h532⟩ := cg243 H518.1 t527
              have z533 := congrArg Int32.toInt c524
              have z534 := congrArg Int32.toInt c530
              refine k_st (st' := [.inl x517]) rfl ?_
              refine k_istore (ls' := [(5, .inl x517), (4, .inl x129), (0, .inr (.inr (some p0))), (1, .inr (.inr (some p1))), (2, .inl v17_2), (3, .inl v17_3)]) rfl ?_
              refine k_aload_n rfl ?_
              refine k_iload rfl ?_
              refine k_iload rfl ?_
              refine k_aload_n rfl ?_
              have t535 := t50.x e131
              have t536 := t535.x e519
              have c537 := (t50.mi e131 (by decide)).trans c47
              have c538 := (t535.mi e519 (by decide)).trans c537
              refine k_get kg185 t536 (congrArg (Sum.inl : Int32 → AvC) c538) ?_
              refine k_bipush (m := 6) rfl (fun x539 h540 => ?_)
              refine k_ic_ge (fun h541 => ?_) (fun h541 => ?_)
              · refine hB _ _ _ _ (kgoC (is := KX7_readParams_59) rfl ?_)
                refine k_iconst (m := 0) rfl (fun x542 h543 => ?_)
                refine k_nil ?_
                refine hB _ _ _ _ (kgoC (is := KX7_readParams_60) rfl ?_)
                have R544 : RdC p0 none (-24) (-8) (-1000) σ0 σ515 := R510.tr ⟨R520.1, R520.2⟩ (by omega) (by omega) (by omega) (by omega)
                have X545 : ExC [0, 1, 2, 185, 242, 243, 244, 330, 331, 332, 333, 334, 995, 999] σ0 σ515 := X513.tr (e519.mo (by decide))
                refine k_inv (P := P_X7_declare) (Q := Q_X7_declare) rfl rfl rfl rfl (Nat.le_of_ble_eq_true rfl) (t527.rc (by decide)) ⟨_, _, _, _, rfl, H518, t527, (by omega), (by omega), (by omega), (by omega), (rd_cd.st H0 h_0_0 X545 R544.1 (by decide)), (R544.2.2.2.1 rd_at), (rd_bg.st H0 h_0_0 X545 R544 (by decide) (by omega) (by omega) (by omega))⟩ (fun w546 σ547 q548 => ?_)
                obtain ⟨x549, rfl, H550, e551, h553, h554, R552, q555⟩ := q548
                have t561 := t527.x e551
                obtain ⟨x556, e557, c558, h559, h560⟩ := cg242 H550.1 t561
                obtain ⟨x562, e563, c564, h565, h566⟩ := cg243 H550.1 t561
                have z567 := congrArg Int32.toInt c558
                have z568 := congrArg Int32.toInt c564
                refine k_st (st' := [.inl x549]) rfl ?_
                have c569 := (t536.mi e551 (by decide)).trans c538
                refine k_istore (ls' := [(6, .inl x549), (5, .inl x517), (4, .inl x129), (0, .inr (.inr (some p0))), (1, .inr (.inr (some p1))), (2, .inl v17_2), (3, .inl v17_3)]) rfl ?_
                refine k_aload_n rfl ?_
                refine k_iload rfl ?_
                refine k_inv (P := P_X7_know) (Q := Q_X7_know) rfl rfl rfl rfl (Nat.le_of_ble_eq_true rfl) (t561.rc (by decide)) ⟨_, _, rfl, H550, t561⟩ (fun w570 σ571 q572 => ?_)
                obtain ⟨rfl, H573, e574⟩ := q572
                have c575 := (t561.mi e574 (by decide)).trans c558
                have c576 := (t561.mi e574 (by decide)).trans c564
                have z577 := congrArg Int32.toInt c575
                have z578 := congrArg Int32.toInt c576
                refine k_st (st' := []) rfl ?_
                have t579 := t536.x e551
                have c580 := (t579.mi e574 (by decide)).trans c569
                refine k_aload_n rfl ?_
                refine k_iload rfl ?_
                have t581 := t579.x e574
                refine k_inv (P := P_X5_addParam) (Q := Q_X5_addParam) rfl rfl rfl rfl (Nat.le_of_ble_eq_true rfl) (t581.rc (by decide)) ⟨_, _, rfl, H573, t581⟩ (fun w582 σ583 q584 => ?_)
                obtain ⟨rfl, H585, e586, q587, q588, q589, q590, q591, q592⟩ := q584
                have t593 := t561.x e574
                have c594 := (t593.mi e586 (by decide)).trans c575
                have c595 := (t593.mi e586 (by decide)).trans c576
                have z596 := congrArg Int32.toInt c594
                have z597 := congrArg Int32.toInt c595
                refine k_st (st' := []) rfl ?_
                have k598 := q587
                have k599 := q588
                have k600 := q589
                have k601 := q590
                have k602 := q591
                have k603 := q592
                have t609 := t581.x e586
                obtain ⟨x604, e605, c606, h607, h608⟩ := cg185 H585.1 t609
                rw [c606, c580] at q587 q588
                refine k_aload_n rfl ?_
                refine k_iconst (m := 5) rfl (fun x610 h611 => ?_)
                have t612 := t593.x e586
                have R613 : RdC p0 none (-30) (-8) (-1000) σ0 σ547 := R544.tr ⟨R552.1, R552.2⟩ (by omega) (by omega) (by omega) (by omega)
                have R614 : RdC p0 none (-30) (-8) (-1000) σ0 σ571 := R613.tr ⟨(e574.gw H550.1 (by decide)), (e574.cou (u := 0) H550.1 t561 (by decide) (by rw [e574.cn (by decide)]; omega))⟩ (by omega) (by omega) (by omega) (by omega)
                have R615 : RdC p0 none (-30) (-8) (-1000) σ0 σ583 := R614.tr ⟨(e586.gw H573.1 (by decide)), (e586.cou (u := 0) H573.1 t593 (by decide) (by rw [e586.cn (by decide)]; omega))⟩ (by omega) (by omega) (by omega) (by omega)
                have X616 : ExC [0, 1, 2, 185, 242, 243, 244, 330, 331, 332, 333, 334, 995, 999] σ0 σ547 := X545.tr (e551.mo (by decide))
                have X617 : ExC [0, 1, 2, 185, 242, 243, 244, 330, 331, 332, 333, 334, 995, 999] σ0 σ571 := X616.tr (e574.mo (by decide))
                have X618 : ExC [0, 1, 2, 185, 242, 243, 244, 330, 331, 332, 333, 334, 995, 999] σ0 σ583 := X617.tr (e586.mo (by decide))
                refine k_inv (P := P_X7_takes) (Q := Q_X7_takes) rfl rfl rfl rfl (Nat.le_of_ble_eq_true rfl) (t612.rc (by decide)) ⟨_, _, rfl, H585, t612, (by omega), (by omega), (rd_cd.st H0 h_0_0 X618 R615.1 (by decide)), (R615.2.2.2.1 rd_at), (rd_bg.st H0 h_0_0 X618 R615 (by decide) (by omega) (by omega) (by omega))⟩ (fun w619 σ620 q621 => ?_)
                obtain ⟨x622, rfl, H623, e624, h626, h627, R625, q628, q629⟩ := q621
                have t635 := t612.x e624
                obtain ⟨x630, e631, c632, h633, h634⟩ := cg242 H623.1 t635
                obtain ⟨x636, e637, c638, h639, h640⟩ := cg243 H623.1 t635
                have z641 := congrArg Int32.toInt c632
                have z642 := congrArg Int32.toInt c638
                refine k_st (st' := [.inl x622]) rfl ?_
                rcases (by omega : x622.toInt = 0 ∨ x622.toInt = 1) with g643 | g643
                · have R644 : RdC p0 none (-30) (-8) (-1000) σ0 σ620 := R615.tr ⟨R625.1, R625.2⟩ (by omega) (by omega) (by omega) (by omega)
                  have z645 := R644.2.2.1
                  have z646 := R644.2.2.2.1 rd_at
                  refine k_istore_n (ls' := [(2, .inl x622), (6, .inl x549), (5, .inl x517), (4, .inl x129), (0, .inr (.inr (some p0))), (1, .inr (.inr (some p1))), (3, .inl v17_3)]) rfl ?_
                  obtain ⟨x647, e649, h648⟩ := iincC (n := 1) (m := 1) (v := v17_3) rfl (by omega) (by omega)
                  refine k_iinc (ls' := [(3, .inl x647), (2, .inl x622), (6, .inl x549), (5, .inl x517), (4, .inl x129), (0, .inr (.inr (some p0))), (1, .inr (.inr (some p1)))]) rfl e649 rfl ?_
                  refine k_goto ?_
                  have S671 : (∀ s, ReC σ0 p0 s → TpY p1 s → ∃ s', ReC σ620 p0 s' ∧ (NpY s s' ∧ LpY s s') ∧ xpY 1 (plY x622.toInt (7 - x647.toInt).toNat x647.toInt.toNat s') = parY s) := by
                    intro s hs ht
                    obtain ⟨s', hs', hnl, hp⟩ := h27 s hs ht
                    unfold plY at hp
                    first | rw [show (7 - v17_3.toInt).toNat = 0 from by omega] at hp | rw [show (7 - v17_3.toInt).toNat = (6 - v17_3.toInt).toNat + 1 from by omega] at hp | skip
                    try rw [palY] at hp
                    obtain ⟨y650, f651⟩ := q136 _ hs'
                    rw [h124] at y650
                    rw [h124] at f651
                    rw [tkY_y (f651.1 (by omega))] at y650
                    have n652 := ReC.n_acc y650 hnl.1
                    have n653 := ReC.l_acc y650 hnl.2
                    obtain ⟨y654, f655⟩ := q521 _ y650
                    have n656 := ReC.n_typ y654 n652
                    have n657 := ReC.l_typ y654 n653
                    have y658 := q555 _ y654
                    rw [f655] at y658
                    rw [show x129.toInt = 1 from by omega] at y658
                    rw [h543] at y658
                    have n660 := ReC.n_dcl y658 n656
                    have n661 := ReC.l_dcl y658 n657
                    have y662 := y658.x H550.1 t561 e574 (by decide)
                    have y663 := (k603 (by rw [c580]; omega)) ▸ y662
                    obtain ⟨y664, f665⟩ := q629 _ y663
                    rw [h611] at y664
                    rw [h611] at f665
                    rw [tkY_n (f665.2 (by omega))] at y664
                    have g666 := f651.1 (by omega)
                    have g667 := f665.2 (by omega)
                    have g668 := (show v17_2.toInt = 1 from by omega)
                    have g669 := (show ¬ v17_3.toInt.toNat < 6 from by omega)
                    have g670 := (show x622.toInt = 0 from by omega)
                    refine ⟨_, y664, ⟨n660, n661⟩, ?_⟩
                    rw [← hp]
                    all_goals try rw [show (7 - x647.toInt).toNat = (6 - v17_3.toInt).toNat from by omega]
                    all_goals try rw [show x647.toInt.toNat = v17_3.toInt.toNat + 1 from by omega]
                    all_goals try simp only [parY, pa3Y, plY, pa1Y, pa2Y, g666, g667, g668, g669, g670, or_false, false_or, or_true, true_or, and_false, false_and, and_true, true_and, not_true, not_false_iff, ↓reduceIte, Int.reduceEq, Int.reduceLE, Int.reduceLT, Int.reduceNeg]
                    all_goals first | rfl | (exfalso; omega)
                  have c672 := (t609.mi e624 (by decide)).trans c606
                  have X673 : ExC [0, 1, 2, 185, 242, 243, 244, 330, 331, 332, 333, 334, 995, 999] σ0 σ620 := X618.tr (e624.mo (by decide))
                  exact hW _ _ _ _ _ (List.forall_mem_cons.2 ⟨List.Mem.tail _ (List.Mem.tail _ (List.Mem.tail _ (List.Mem.tail _ (List.Mem.tail _ (List.Mem.head _))))), (List.forall_mem_cons.2 ⟨List.Mem.tail _ (List.Mem.tail _ (List.Mem.tail _ (List.Mem.tail _ (List.Mem.tail _ (List.Mem.tail _ (List.Mem.head _)))))), (List.forall_mem_cons.2 ⟨List.Mem.tail _ (List.Mem.head _), (List.forall_mem_cons.2 ⟨List.Mem.head _, fun _ h => absurd h List.not_mem_nil⟩)⟩)⟩)⟩) (ih17 ((2147483647 - x647.toInt).toNat) (by omega) σ620 x622 x647 rfl H623 X673 (R644.mo (by omega) (by omega) (by omega)) (by omega) (by omega) (by omega) (by omega) S671 ⟨by omega, by omega, fun _ => by rw [c672]; omega⟩)
                · have R674 := R615.nf (-1000) (-1000) (q628 (by omega)).1
                  have R675 : RdC p0 none (-38) (-30) (-1000) σ0 σ620 := R674.tr ⟨(q628 (by omega)).2.1, (q628 (by omega)).2.2⟩ (by omega) (by omega) (by omega) (by omega)
                  have z676 := R675.2.2.1
                  have z677 := R675.2.2.2.1 rd_at
                  refine k_istore_n (ls' := [(2, .inl x622), (6, .inl x549), (5, .inl x517), (4, .inl x129), (0, .inr (.inr (some p0))), (1, .inr (.inr (some p1))), (3, .inl v17_3)]) rfl ?_
                  obtain ⟨x678, e680, h679⟩ := iincC (n := 1) (m := 1) (v := v17_3) rfl (by omega) (by omega)
                  refine k_iinc (ls' := [(3, .inl x678), (2, .inl x622), (6, .inl x549), (5, .inl x517), (4, .inl x129), (0, .inr (.inr (some p0))), (1, .inr (.inr (some p1)))]) rfl e680 rfl ?_
                  refine k_goto ?_
                  have S704 : (∀ s, ReC σ0 p0 s → TpY p1 s → ∃ s', ReC σ620 p0 s' ∧ (NpY s s' ∧ LpY s s') ∧ xpY 1 (plY x622.toInt (7 - x678.toInt).toNat x678.toInt.toNat s') = parY s) := by
                    intro s hs ht
                    obtain ⟨s', hs', hnl, hp⟩ := h27 s hs ht
                    unfold plY at hp
                    first | rw [show (7 - v17_3.toInt).toNat = 0 from by omega] at hp | rw [show (7 - v17_3.toInt).toNat = (6 - v17_3.toInt).toNat + 1 from by omega] at hp | skip
                    try rw [palY] at hp
                    obtain ⟨y681, f682⟩ := q136 _ hs'
                    rw [h124] at y681
                    rw [h124] at f682
                    rw [tkY_y (f682.1 (by omega))] at y681
                    have n683 := ReC.n_acc y681 hnl.1
                    have n684 := ReC.l_acc y681 hnl.2
                    obtain ⟨y685, f686⟩ := q521 _ y681
                    have n687 := ReC.n_typ y685 n683
                    have n688 := ReC.l_typ y685 n684
                    have y689 := q555 _ y685
                    rw [f686] at y689
                    rw [show x129.toInt = 1 from by omega] at y689
                    rw [h543] at y689
                    have n691 := ReC.n_dcl y689 n687
                    have n692 := ReC.l_dcl y689 n688
                    have y693 := y689.x H550.1 t561 e574 (by decide)
                    have y694 := (k603 (by rw [c580]; omega)) ▸ y693
                    obtain ⟨y695, f696⟩ := q629 _ y694
                    rw [h611] at y695
                    rw [h611] at f696
                    rw [tkY_y (f696.1 (by omega))] at y695
                    have n697 := ReC.n_acc y695 n691
                    have n698 := ReC.l_acc y695 n692
                    have g699 := f682.1 (by omega)
                    have g700 := f696.1 (by omega)
                    have g701 := (show v17_2.toInt = 1 from by omega)
                    have g702 := (show ¬ v17_3.toInt.toNat < 6 from by omega)
                    have g703 := (show x622.toInt = 1 from by omega)
                    refine ⟨_, y695, ⟨n697, n698⟩, ?_⟩
                    rw [← hp]
                    all_goals try rw [show (7 - x678.toInt).toNat = (6 - v17_3.toInt).toNat from by omega]
                    all_goals try rw [show x678.toInt.toNat = v17_3.toInt.toNat + 1 from by omega]
                    all_goals try simp only [parY, pa3Y, plY, pa1Y, pa2Y, g699, g700, g701, g702, g703, or_false, false_or, or_true, true_or, and_false, false_and, and_true, true_and, not_true, not_false_iff, ↓reduceIte, Int.reduceEq, Int.reduceLE, Int.reduceLT, Int.reduceNeg]
                    all_goals first | rfl | (exfalso; omega)
                  have c705 := (t609.mi e624 (by decide)).trans c606
                  have X706 : ExC [0, 1, 2, 185, 242, 243, 244, 330, 331, 332, 333, 334, 995, 999] σ0 σ620 := X618.tr (e624.mo (by decide))
                  exact hW _ _ _ _ _ (List.forall_mem_cons.2 ⟨List.Mem.tail _ (List.Mem.tail _ (List.Mem.tail _ (List.Mem.tail _ (List.Mem.tail _ (List.Mem.head _))))), (List.forall_mem_cons.2 ⟨List.Mem.tail _ (List.Mem.tail _ (List.Mem.tail _ (List.Mem.tail _ (List.Mem.tail _ (List.Mem.tail _ (List.Mem.head _)))))), (List.forall_mem_cons.2 ⟨List.Mem.tail _ (List.Mem.head _), (List.forall_mem_cons.2 ⟨List.Mem.head _, fun _ h => absurd h List.not_mem_nil⟩)⟩)⟩)⟩) (ih17 ((2147483647 - x678.toInt).toNat) (by omega) σ620 x622 x678 rfl H623 X706 (R675.mo (by omega) (by omega) (by omega)) (by omega) (by omega) (by omega) (by omega) S704 ⟨by omega, by omega, fun _ => by rw [c705]; omega⟩)
              · refine k_nil ?_
                refine hB _ _ _ _ (kgoC (is := KX7_readParams_55) rfl ?_)
                refine k_iconst (m := 1) rfl (fun x707 h708 => ?_)
                refine k_goto ?_
                refine hB _ _ _ _ (kgoC (is := KX7_readParams_60) rfl ?_)
                have R709 : RdC p0 none (-24) (-8) (-1000) σ0 σ515 := R510.tr ⟨R520.1, R520.2⟩ (by omega) (by omega) (by omega) (by omega)
                have X710 : ExC [0, 1, 2, 185, 242, 243, 244, 330, 331, 332, 333, 334, 995, 999] σ0 σ515 := X513.tr (e519.mo (by decide))
                refine k_inv (P := P_X7_declare) (Q := Q_X7_declare) rfl rfl rfl rfl (Nat.le_of_ble_eq_true rfl) (t527.rc (by decide)) ⟨_, _, _, _, rfl, H518, t527, (by omega), (by omega), (by omega), (by omega), (rd_cd.st H0 h_0_0 X710 R709.1 (by decide)), (R709.2.2.2.1 rd_at), (rd_bg.st H0 h_0_0 X710 R709 (by decide) (by omega) (by omega) (by omega))⟩ (fun w711 σ712 q713 => ?_)
                obtain ⟨x714, rfl, H715, e716, h718, h719, R717, q720⟩ := q713
                have t726 := t527.x e716
                obtain ⟨x721, e722, c723, h724, h725⟩ := cg242 H715.1 t726
                obtain ⟨x727, e728, c729, h730, h731⟩ := cg243 H715.1 t726
                have z732 := congrArg Int32.toInt c723
                have z733 := congrArg Int32.toInt c729
                refine k_st (st' := [.inl x714]) rfl ?_
                have c734 := (t536.mi e716 (by decide)).trans c538
                refine k_istore (ls' := [(6, .inl x714), (5, .inl x517), (4, .inl x129), (0, .inr (.inr (some p0))), (1, .inr (.inr (some p1))), (2, .inl v17_2), (3, .inl v17_3)]) rfl ?_
                refine k_aload_n rfl ?_
                refine k_iload rfl ?_
                refine k_inv (P := P_X7_know) (Q := Q_X7_know) rfl rfl rfl rfl (Nat.le_of_ble_eq_true rfl) (t726.rc (by decide)) ⟨_, _, rfl, H715, t726⟩ (fun w735 σ736 q737 => ?_)
                obtain ⟨rfl, H738, e739⟩ := q737
                have c740 := (t726.mi e739 (by decide)).trans c723
                have c741 := (t726.mi e739 (by decide)).trans c729
                have z742 := congrArg Int32.toInt c740
                have z743 := congrArg Int32.toInt c741
                refine k_st (st' := []) rfl ?_
                have t744 := t536.x e716
                have c745 := (t744.mi e739 (by decide)).trans c734
                refine k_aload_n rfl ?_
                refine k_iload rfl ?_
                have t746 := t744.x e739
                refine k_inv (P := P_X5_addParam) (Q := Q_X5_addParam) rfl rfl rfl rfl (Nat.le_of_ble_eq_true rfl) (t746.rc (by decide)) ⟨_, _, rfl, H738, t746⟩ (fun w747 σ748 q749 => ?_)
                obtain ⟨rfl, H750, e751, q752, q753, q754, q755, q756, q757⟩ := q749
                have t758 := t726.x e739
                have c759 := (t758.mi e751 (by decide)).trans c740
                have c760 := (t758.mi e751 (by decide)).trans c741
                have z761 := congrArg Int32.toInt c759
                have z762 := congrArg Int32.toInt c760
                refine k_st (st' := []) rfl ?_
                have k763 := q752
                have k764 := q753
                have k765 := q754
                have k766 := q755
                have k767 := q756
                have k768 := q757
                have t774 := t746.x e751
                obtain ⟨x769, e770, c771, h772, h773⟩ := cg185 H750.1 t774
                rw [c771, c745] at q752 q753
                refine k_aload_n rfl ?_
                refine k_iconst (m := 5) rfl (fun x775 h776 => ?_)
                have t777 := t758.x e751
                have R778 : RdC p0 none (-30) (-8) (-1000) σ0 σ712 := R709.tr ⟨R717.1, R717.2⟩ (by omega) (by omega) (by omega) (by omega)
                have R779 : RdC p0 none (-30) (-8) (-1000) σ0 σ736 := R778.tr ⟨(e739.gw H715.1 (by decide)), (e739.cou (u := 0) H715.1 t726 (by decide) (by rw [e739.cn (by decide)]; omega))⟩ (by omega) (by omega) (by omega) (by omega)
                have R780 : RdC p0 none (-30) (-8) (-1000) σ0 σ748 := R779.tr ⟨(e751.gw H738.1 (by decide)), (e751.cou (u := 0) H738.1 t758 (by decide) (by rw [e751.cn (by decide)]; omega))⟩ (by omega) (by omega) (by omega) (by omega)
                have X781 : ExC [0, 1, 2, 185, 242, 243, 244, 330, 331, 332, 333, 334, 995, 999] σ0 σ712 := X710.tr (e716.mo (by decide))
                have X782 : ExC [0, 1, 2, 185, 242, 243, 244, 330, 331, 332, 333, 334, 995, 999] σ0 σ736 := X781.tr (e739.mo (by decide))
                have X783 : ExC [0, 1, 2, 185, 242, 243, 244, 330, 331, 332, 333, 334, 995, 999] σ0 σ748 := X782.tr (e751.mo (by decide))
                refine k_inv (P := P_X7_takes) (Q := Q_X7_takes) rfl rfl rfl rfl (Nat.le_of_ble_eq_true rfl) (t777.rc (by decide)) ⟨_, _, rfl, H750, t777, (by omega), (by omega), (rd_cd.st H0 h_0_0 X783 R780.1 (by decide)), (R780.2.2.2.1 rd_at), (rd_bg.st H0 h_0_0 X783 R780 (by decide) (by omega) (by omega) (by omega))⟩ (fun w784 σ785 q786 => ?_)
                obtain ⟨x787, rfl, H788, e789, h791, h792, R790, q793, q794⟩ := q786
                have t800 := t777.x e789
                obtain ⟨x795, e796, c797, h798, h799⟩ := cg242 H788.1 t800
                obtain ⟨x801, e802, c803, h804, h805⟩ := cg243 H788.1 t800
                have z806 := congrArg Int32.toInt c797
                have z807 := congrArg Int32.toInt c803
                refine k_st (st' := [.inl x787]) rfl ?_
                rcases (by omega : x787.toInt = 0 ∨ x787.toInt = 1) with g808 | g808
                · have R809 : RdC p0 none (-30) (-8) (-1000) σ0 σ785 := R780.tr ⟨R790.1, R790.2⟩ (by omega) (by omega) (by omega) (by omega)
                  have z810 := R809.2.2.1
                  have z811 := R809.2.2.2.1 rd_at
                  refine k_istore_n (ls' := [(2, .inl x787), (6, .inl x714), (5, .inl x517), (4, .inl x129), (0, .inr (.inr (some p0))), (1, .inr (.inr (some p1))), (3, .inl v17_3)]) rfl ?_
                  obtain ⟨x812, e814, h813⟩ := iincC (n := 1) (m := 1) (v := v17_3) rfl (by omega) (by omega)
                  refine k_iinc (ls' := [(3, .inl x812), (2, .inl x787), (6, .inl x714), (5, .inl x517), (4, .inl x129), (0, .inr (.inr (some p0))), (1, .inr (.inr (some p1)))]) rfl e814 rfl ?_
                  refine k_goto ?_
                  have S838 : (∀ s, ReC σ0 p0 s → TpY p1 s → ∃ s', ReC σ785 p0 s' ∧ (NpY s s' ∧ LpY s s') ∧ xpY 1 (plY x787.toInt (7 - x812.toInt).toNat x812.toInt.toNat s') = parY s) := by
                    intro s hs ht
                    obtain ⟨s', hs', hnl, hp⟩ := h27 s hs ht
                    unfold plY at hp
                    first | rw [show (7 - v17_3.toInt).toNat = 0 from by omega] at hp | rw [show (7 - v17_3.toInt).toNat = (6 - v17_3.toInt).toNat + 1 from by omega] at hp | skip
                    try rw [palY] at hp
                    obtain ⟨y815, f816⟩ := q136 _ hs'
                    rw [h124] at y815
                    rw [h124] at f816
                    rw [tkY_y (f816.1 (by omega))] at y815
                    have n817 := ReC.n_acc y815 hnl.1
                    have n818 := ReC.l_acc y815 hnl.2
                    obtain ⟨y819, f820⟩ := q521 _ y815
                    have n821 := ReC.n_typ y819 n817
                    have n822 := ReC.l_typ y819 n818
                    have y823 := q720 _ y819
                    rw [f820] at y823
                    rw [show x129.toInt = 1 from by omega] at y823
                    rw [h708] at y823
                    have n825 := ReC.n_dcl y823 n821
                    have n826 := ReC.l_dcl y823 n822
                    have y827 := y823.x H715.1 t726 e739 (by decide)
                    have y828 := ReC.pad (v := x517) y827 H738.1 t758 e751 (TpY.g ht n825 n826) (k763 (by rw [c745]; omega)) k765 (k766 (by rw [c745]; omega)) k767
                    rw [f820] at y828
                    have n829 := ReC.n_pad y828 n825
                    have n830 := ReC.l_pad y828 n826
                    obtain ⟨y831, f832⟩ := q794 _ y828
                    rw [h776] at y831
                    rw [h776] at f832
                    rw [tkY_n (f832.2 (by omega))] at y831
                    have g833 := f816.1 (by omega)
                    have g834 := f832.2 (by omega)
                    have g835 := (show v17_2.toInt = 1 from by omega)
                    have g836 := (show v17_3.toInt.toNat < 6 from by omega)
                    have g837 := (show x787.toInt = 0 from by omega)
                    refine ⟨_, y831, ⟨n829, n830⟩, ?_⟩
                    rw [← hp]
                    all_goals try rw [show (7 - x812.toInt).toNat = (6 - v17_3.toInt).toNat from by omega]
                    all_goals try rw [show x812.toInt.toNat = v17_3.toInt.toNat + 1 from by omega]
                    all_goals try simp only [parY, pa3Y, plY, pa1Y, pa2Y, g833, g834, g835, g836, g837, or_false, false_or, or_true, true_or, and_false, false_and, and_true, true_and, not_true, not_false_iff, ↓reduceIte, Int.reduceEq, Int.reduceLE, Int.reduceLT, Int.reduceNeg]
                    all_goals first | rfl | (exfalso; omega)
                  have c839 := (t774.mi e789 (by decide)).trans c771
                  have X840 : ExC [0, 1, 2, 185, 242, 243, 244, 330, 331, 332, 333, 334, 995, 999] σ0 σ785 := X783.tr (e789.mo (by decide))
                  exact hW _ _ _ _ _ (List.forall_mem_cons.2 ⟨List.Mem.tail _ (List.Mem.tail _ (List.Mem.tail _ (List.Mem.tail _ (List.Mem.tail _ (List.Mem.head _))))), (List.forall_mem_cons.2 ⟨List.Mem.tail _ (List.Mem.tail _ (List.Mem.tail _ (List.Mem.tail _ (List.Mem.tail _ (List.Mem.tail _ (List.Mem.head _)))))), (List.forall_mem_cons.2 ⟨List.Mem.tail _ (List.Mem.head _), (List.forall_mem_cons.2 ⟨List.Mem.head _, fun _ h => absurd h List.not_mem_nil⟩)⟩)⟩)⟩) (ih17 ((2147483647 - x812.toInt).toNat) (by omega) σ785 x787 x812 rfl H788 X840 (R809.mo (by omega) (by omega) (by omega)) (by omega) (by omega) (by omega) (by omega) S838 ⟨by omega, by omega, fun _ => by rw [c839]; omega⟩)
                · have R841 := R780.nf (-1000) (-1000) (q793 (by omega)).1
                  have R842 : RdC p0 none (-38) (-30) (-1000) σ0 σ785 := R841.tr ⟨(q793 (by omega)).2.1, (q793 (by omega)).2.2⟩ (by omega) (by omega) (by omega) (by omega)
                  have z843 := R842.2.2.1
                  have z844 := R842.2.2.2.1 rd_at
                  refine k_istore_n (ls' := [(2, .inl x787), (6, .inl x714), (5, .inl x517), (4, .inl x129), (0, .inr (.inr (some p0))), (1, .inr (.inr (some p1))), (3, .inl v17_3)]) rfl ?_
                  obtain ⟨x845, e847, h846⟩ := iincC (n := 1) (m := 1) (v := v17_3) rfl (by omega) (by omega)
                  refine k_iinc (ls' := [(3, .inl x845), (2, .inl x787), (6, .inl x714), (5, .inl x517), (4, .inl x129), (0, .inr (.inr (some p0))), (1, .inr (.inr (some p1)))]) rfl e847 rfl ?_
                  refine k_goto ?_
                  have S873 : (∀ s, ReC σ0 p0 s → TpY p1 s → ∃ s', ReC σ785 p0 s' ∧ (NpY s s' ∧ LpY s s') ∧ xpY 1 (plY x787.toInt (7 - x845.toInt).toNat x845.toInt.toNat s') = parY s) := by
                    intro s hs ht
                    obtain ⟨s', hs', hnl, hp⟩ := h27 s hs ht
                    unfold plY at hp
                    first | rw [show (7 - v17_3.toInt).toNat = 0 from by omega] at hp | rw [show (7 - v17_3.toInt).toNat = (6 - v17_3.toInt).toNat + 1 from by omega] at hp | skip
                    try rw [palY] at hp
                    obtain ⟨y848, f849⟩ := q136 _ hs'
                    rw [h124] at y848
                    rw [h124] at f849
                    rw [tkY_y (f849.1 (by omega))] at y848
                    have n850 := ReC.n_acc y848 hnl.1
                    have n851 := ReC.l_acc y848 hnl.2
                    obtain ⟨y852, f853⟩ := q521 _ y848
                    have n854 := ReC.n_typ y852 n850
                    have n855 := ReC.l_typ y852 n851
                    have y856 := q720 _ y852
                    rw [f853] at y856
                    rw [show x129.toInt = 1 from by omega] at y856
                    rw [h708] at y856
                    have n858 := ReC.n_dcl y856 n854
                    have n859 := ReC.l_dcl y856 n855
                    have y860 := y856.x H715.1 t726 e739 (by decide)
                    have y861 := ReC.pad (v := x517) y860 H738.1 t758 e751 (TpY.g ht n858 n859) (k763 (by rw [c745]; omega)) k765 (k766 (by rw [c745]; omega)) k767
                    rw [f853] at y861
                    have n862 := ReC.n_pad y861 n858
                    have n863 := ReC.l_pad y861 n859
                    obtain ⟨y864, f865⟩ := q794 _ y861
                    rw [h776] at y864
                    rw [h776] at f865
                    rw [tkY_y (f865.1 (by omega))] at y864
                    have n866 := ReC.n_acc y864 n862
                    have n867 := ReC.l_acc y864 n863
                    have g868 := f849.1 (by omega)
                    have g869 := f865.1 (by omega)
                    have g870 := (show v17_2.toInt = 1 from by omega)
                    have g871 := (show v17_3.toInt.toNat < 6 from by omega)
                    have g872 := (show x787.toInt = 1 from by omega)
                    refine ⟨_, y864, ⟨n866, n867⟩, ?_⟩
                    rw [← hp]
                    all_goals try rw [show (7 - x845.toInt).toNat = (6 - v17_3.toInt).toNat from by omega]
                    all_goals try rw [show x845.toInt.toNat = v17_3.toInt.toNat + 1 from by omega]
                    all_goals try simp only [parY, pa3Y, plY, pa1Y, pa2Y, g868, g869, g870, g871, g872, or_false, false_or, or_true, true_or, and_false, false_and, and_true, true_and, not_true, not_false_iff, ↓reduceIte, Int.reduceEq, Int.reduceLE, Int.reduceLT, Int.reduceNeg]
                    all_goals first | rfl | (exfalso; omega)
                  have c874 := (t774.mi e789 (by decide)).trans c771
                  have X875 : ExC [0, 1, 2, 185, 242, 243, 244, 330, 331, 332, 333, 334, 995, 999] σ0 σ785 := X783.tr (e789.mo (by decide))
                  exact hW _ _ _ _ _ (List.forall_mem_cons.2 ⟨List.Mem.tail _ (List.Mem.tail _ (List.Mem.tail _ (List.Mem.tail _ (List.Mem.tail _ (List.Mem.head _))))), (List.forall_mem_cons.2 ⟨List.Mem.tail _ (List.Mem.tail _ (List.Mem.tail _ (List.Mem.tail _ (List.Mem.tail _ (List.Mem.tail _ (List.Mem.head _)))))), (List.forall_mem_cons.2 ⟨List.Mem.tail _ (List.Mem.head _), (List.forall_mem_cons.2 ⟨List.Mem.head _, fun _ h => absurd h List.not_mem_nil⟩)⟩)⟩)⟩) (ih17 ((2147483647 - x845.toInt).toNat) (by omega) σ785 x787 x845 rfl H788 X875 (R842.mo (by omega) (by omega) (by omega)) (by omega) (by omega) (by omega) (by omega) S873 ⟨by omega, by omega, fun _ => by rw [c874]; omega⟩)
    refine hB _ _ _ _ (kgoC (is := KX7_readParams_0) rfl ?_)
    refine k_aload_n rfl ?_
    refine k_iconst (m := 0) rfl (fun x876 h877 => ?_)
    refine k_inv (P := P_X7_expect) (Q := Q_X7_expect) rfl rfl rfl rfl (Nat.le_of_ble_eq_true rfl) (h_0_0.rc (by decide)) ⟨_, _, rfl, H0, h_0_0, (by omega), (by omega), (rd_cd.st H0 h_0_0 (ExC.rf : ExC [0, 1, 2, 185, 242, 243, 244, 330, 331, 332, 333, 334, 995, 999] σ0 σ0) (RdC.rf : RdC p0 none 0 0 0 σ0 σ0).1 (by decide)), ((RdC.rf : RdC p0 none 0 0 0 σ0 σ0).2.2.2.1 rd_at), (rd_bg.st H0 h_0_0 (ExC.rf : ExC [0, 1, 2, 185, 242, 243, 244, 330, 331, 332, 333, 334, 995, 999] σ0 σ0) (RdC.rf : RdC p0 none 0 0 0 σ0 σ0) (by decide) (by omega) (by omega) (by omega))⟩ (fun w878 σ879 q880 => ?_)
    obtain ⟨rfl, H881, e882, R883, q884, q885⟩ := q880
    have t891 := h_0_0.x e882
    obtain ⟨x886, e887, c888, h889, h890⟩ := cg242 H881.1 t891
    obtain ⟨x892, e893, c894, h895, h896⟩ := cg243 H881.1 t891
    have z897 := congrArg Int32.toInt c888
    have z898 := congrArg Int32.toInt c894
    refine k_st (st' := []) rfl ?_
    have R899 : RdC p0 none (-8) (0) (0) σ0 σ879 := (RdC.rf : RdC p0 none 0 0 0 σ0 σ0).tr ⟨R883.1, R883.2⟩ (by omega) (by omega) (by omega) (by omega)
    have z900 := R899.2.2.1
    have z901 := R899.2.2.2.1 rd_at
    refine k_aload_n rfl ?_
    have X902 : ExC [0, 1, 2, 185, 242, 243, 244, 330, 331, 332, 333, 334, 995, 999] σ0 σ879 := ExC.rf.tr (e882.mo (by decide))
    refine k_inv (P := P_X7_code) (Q := Q_X7_code) rfl rfl rfl rfl (Nat.le_of_ble_eq_true rfl) (t891.rc (by decide)) ⟨_, rfl, H881, t891, (rd_cd.st H0 h_0_0 X902 R899.1 (by decide))⟩ (fun w903 σ904 q905 => ?_)
    obtain ⟨x906, rfl, rfl, q907, q908, q909, q910⟩ := q905
    refine k_st (st' := [.inl x906]) rfl ?_
    refine k_iconst (m := 1) rfl (fun x911 h912 => ?_)
    refine k_ic_eq (fun h913 => ?_) (fun h913 => ?_)
    · have h914 : x892.toInt = 0 := by omega
      refine hB _ _ _ _ (kgoC (is := KX7_readParams_89) rfl ?_)
      refine k_aload_n rfl ?_
      refine k_iconst (m := 1) rfl (fun x915 h916 => ?_)
      have R917 := R899.nf (-1000) (-1000) (by rw [c894]; omega)
      refine k_inv (P := P_X7_expect) (Q := Q_X7_expect) rfl rfl rfl rfl (Nat.le_of_ble_eq_true rfl) (t891.rc (by decide)) ⟨_, _, rfl, H881, t891, (by omega), (by omega), (rd_cd.st H0 h_0_0 X902 R917.1 (by decide)), (R917.2.2.2.1 rd_at), (rd_bg.stn H0 h_0_0 X902 R917 (by decide) (by rw [c894]; omega) (by omega))⟩ (fun w918 σ919 q920 => ?_)
      obtain ⟨rfl, H921, e922, R923, q924, q925⟩ := q920
      have t931 := t891.x e922
      obtain ⟨x926, e927, c928, h929, h930⟩ := cg242 H921.1 t931
      obtain ⟨x932, e933, c934, h935, h936⟩ := cg243 H921.1 t931
      have z937 := congrArg Int32.toInt c928
      have z938 := congrArg Int32.toInt c934
      refine k_st (st' := []) rfl ?_
      have R939 : RdC p0 none (-16) (-8) (-1000) σ0 σ919 := R917.tr ⟨R923.1, R923.2⟩ (by omega) (by omega) (by omega) (by omega)
      have z940 := R939.2.2.1
      have z941 := R939.2.2.2.1 rd_at
      refine k_return ?_
      have X942 : ExC [0, 1, 2, 185, 242, 243, 244, 330, 331, 332, 333, 334, 995, 999] σ0 σ919 := X902.tr (e922.mo (by decide))
      have S953 : ∀ s, ReC σ0 p0 s → TpY p1 s → ReC σ919 p0 (parY s) := by
        intro s hs ht
        have y943 := q885 _ hs
        rw [h877] at y943
        have n945 := ReC.n_xp y943 NpY.rf
        have n946 := ReC.l_xp y943 LpY.rf
        have f947 := q910 _ y943
        have y948 := q925 _ y943
        rw [h916] at y948
        have n950 := ReC.n_xp y948 n945
        have n951 := ReC.l_xp y948 n946
        have g952 := f947.symm.trans (h913.trans h912)
        refine y948.eq ?_
        all_goals try simp only [parY, pa3Y, plY, pa1Y, pa2Y, g952, or_false, false_or, or_true, true_or, and_false, false_and, and_true, true_and, not_true, not_false_iff, ↓reduceIte, Int.reduceEq, Int.reduceLE, Int.reduceLT, Int.reduceNeg]
        all_goals first | rfl | (exfalso; omega)
      exact ⟨rfl, H921, X942, (R939.mo (by omega) (by omega) (by omega)), S953⟩
    · refine k_nil ?_
      refine hB _ _ _ _ (kgoC (is := KX7_readParams_13) rfl ?_)
      refine k_iconst (m := 1) rfl (fun x954 h955 => ?_)
      refine k_istore_n (ls' := [(2, .inl x954), (0, .inr (.inr (some p0))), (1, .inr (.inr (some p1)))]) rfl ?_
      refine k_iconst (m := 0) rfl (fun x956 h957 => ?_)
      refine k_istore_n (ls' := [(3, .inl x956), (2, .inl x954), (0, .inr (.inr (some p0))), (1, .inr (.inr (some p1)))]) rfl ?_
      refine k_nil ?_
      have S965 : (∀ s, ReC σ0 p0 s → TpY p1 s → ∃ s', ReC σ879 p0 s' ∧ (NpY s s' ∧ LpY s s') ∧ xpY 1 (plY x954.toInt (7 - x956.toInt).toNat x956.toInt.toNat s') = parY s) := by
        intro s hs ht
        have y958 := q885 _ hs
        rw [h877] at y958
        have n960 := ReC.n_xp y958 NpY.rf
        have n961 := ReC.l_xp y958 LpY.rf
        have f962 := q910 _ y958
        have g963 := neY f962 h913 h912
        have g964 := (show x954.toInt = 1 from by omega)
        refine ⟨_, y958, ⟨n960, n961⟩, ?_⟩
        all_goals try rw [show (7 - x956.toInt).toNat = 7 from by omega]
        all_goals try rw [show x956.toInt.toNat = 0 from by omega]
        all_goals try simp only [parY, pa3Y, plY, pa1Y, pa2Y, g963, g964, or_false, false_or, or_true, true_or, and_false, false_and, and_true, true_and, not_true, not_false_iff, ↓reduceIte, Int.reduceEq, Int.reduceLE, Int.reduceLT, Int.reduceNeg]
        all_goals first | rfl | (exfalso; omega)
      have c966 := (h_1_0.mi e882 (by decide)).trans c15
      exact hW _ _ _ _ _ (List.forall_mem_cons.2 ⟨List.Mem.tail _ (List.Mem.tail _ (List.Mem.head _)), (List.forall_mem_cons.2 ⟨List.Mem.tail _ (List.Mem.tail _ (List.Mem.tail _ (List.Mem.head _))), (List.forall_mem_cons.2 ⟨List.Mem.tail _ (List.Mem.head _), (List.forall_mem_cons.2 ⟨List.Mem.head _, fun _ h => absurd h List.not_mem_nil⟩)⟩)⟩)⟩) (L17 _ σ879 x954 x956 rfl H881 X902 (R899.mo (by omega) (by omega) (by omega)) (by omega) (by omega) (by omega) (by omega) S965 ⟨by omega, by omega, fun _ => by rw [c966]; omega⟩)
theorem lg_X7_readParams : ∀ (As : List AvC) (σ : CsC), P_X7_readParams As σ → lgC As ≤ rX7_readParams.2.2.1 := by
  rintro As σ ⟨p0, p1, rfl, -⟩
  exact Nat.le_of_ble_eq_true rfl
theorem m_X7_readParams (l : Launch) : CMetC l 13 135 P_X7_readParams Q_X7_readParams :=
  CMetC.of KX7_readParams [(129, P_X7_expect, Q_X7_expect), (125, P_X7_code, Q_X7_code), (130, P_X7_takes, Q_X7_takes), (136, P_X7_readType, Q_X7_readType), (137, P_X7_declare, Q_X7_declare), (138, P_X7_know, Q_X7_know), (112, P_X5_addParam, Q_X5_addParam)] hX7_readParams (by decide) (by decide) okX7_readParams (cc1C (m_X7_expect l) (by decide) (cc1C (m_X7_code l) (by decide) (cc1C (m_X7_takes l) (by decide) (cc1C (m_X7_readType l) (by decide) (cc1C (m_X7_declare l) (by decide) (cc1C (m_X7_know l) (by decide) (cc1C (m_X5_addParam l) (by decide) cc0C))))))) (lg_X7_readParams) (b_X7_readParams)
