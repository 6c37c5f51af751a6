set_option maxRecDepth 100000 in
set_option maxHeartbeats 4000000 in
theorem b_X7_readCall (d : Nat) : TbC KX7_readCall [(162, P_X7_opened, Q_X7_opened), (128, P_X7_accept, Q_X7_accept), (131, P_X7_isTooDeep, Q_X7_isTooDeep), (125, P_X7_code, Q_X7_code), (129, P_X7_expect, Q_X7_expect), (161, P_X7_put, Q_X7_put), (164, (P_X7_readExp d), (Q_X7_readExp d)), (130, P_X7_takes, Q_X7_takes)] (P_X7_readCall (d + 1)) (Q_X7_readCall (d + 1)) := by
  · rintro As σ0 ⟨p0, p1, rfl, H0, h_0_0, h_1_0, h_1_1, rd_cd, rd_at, rd_bl, rd_lv, rd_tk, rd_dp⟩ hgr G hB hW
    change G 0 [(0, .inr (.inr (some p0))), (1, .inl p1)] [] σ0
    obtain ⟨x1, e2, c3, h4, h5⟩ := cg242 H0.1 h_0_0
    obtain ⟨x6, e7, c8, h9, h10⟩ := cg243 H0.1 h_0_0
    have z11 := congrArg Int32.toInt c3
    have z12 := congrArg Int32.toInt c8
    have h13 : x6.toInt = 0 := by rw [← c8]; exact rd_lv
    have rd_bg : BgC σ0 p0 (14 + 8 * (((d + 1) : Nat) : Int)) 1000000 := ⟨fun _ => rd_bl, fun z => absurd rd_lv z⟩
    have L53 : ∀ (n53 : Nat), ∀ (σ14 : CsC) (v53_2 : Nat) (v53_3 : Nat) (v53_4 : Int32), (2147483647 - v53_4.toInt).toNat = n53 → HIC σ14 → ExC [0, 1, 2, 60, 61, 62, 63, 64, 65, 66, 67, 68, 69, 70, 72, 73, 74, 75, 76, 242, 243, 244, 999] σ0 σ14 → RdC p0 none (-15) (5 + 8 * (d : Int)) (-999) σ0 σ14 → TyC σ14 v53_2 2 → TyC σ14 v53_3 2 → 0 ≤ v53_4.toInt → v53_4.toInt ≤ 502 → (∀ s, ReC σ0 p0 s → ∃ s', ReC σ14 p0 s' ∧ xpY 1 (clpY (eY ((d + 1) - 1)) (501 - v53_4.toInt).toNat s') = calY ((d + 1) - 1) (eY ((d + 1) - 1)) s) → cnC σ0 ≤ v53_2 → G 53 [(0, .inr (.inr (some p0))), (1, .inl p1), (2, .inr (.inr (some v53_2))), (3, .inr (.inr (some v53_3))), (4, .inl v53_4)] [] σ14 := by
      intro n53
      induction n53 using Nat.strongRecOn with
      | _ n53 ih53 =>
        intro σ14 v53_2 v53_3 v53_4 n53_ H15 e16 R17 h18 h19 h20 h21 h22 h23
        have t29 := h_0_0.x e16
        obtain ⟨x24, e25, c26, h27, h28⟩ := cg242 H15.1 t29
        obtain ⟨x30, e31, c32, h33, h34⟩ := cg243 H15.1 t29
        have z35 := congrArg Int32.toInt c26
        have z36 := congrArg Int32.toInt c32
        refine hB _ _ _ _ (kgoC (is := KX7_readCall_53) rfl ?_)
        refine k_iload rfl ?_
        refine k_sipush (m := 500) rfl (fun x37 h38 => ?_)
        refine k_ic_gt (fun h39 => ?_) (fun h39 => ?_)
        · refine hB _ _ _ _ (kgoC (is := KX7_readCall_91) rfl ?_)
          refine k_aload_n rfl ?_
          refine k_iconst (m := 1) rfl (fun x40 h41 => ?_)
          have X42 : ExC [0, 1, 2, 60, 61, 62, 63, 64, 65, 66, 67, 68, 69, 70, 72, 73, 74, 75, 76, 242, 243, 244, 999] σ0 σ14 := ExC.rf.tr (e16.mo (by decide))
          refine k_inv (P := P_X7_expect) (Q := Q_X7_expect) rfl rfl rfl rfl (Nat.le_of_ble_eq_true rfl) (t29.rc (by decide)) ⟨_, _, rfl, H15, t29, (by omega), (by omega), (rd_cd.st H0 h_0_0 X42 R17.1 (by decide)), (R17.2.2.2.1 rd_at), (rd_bg.st H0 h_0_0 X42 R17 (by decide) (by omega) (by omega) (by omega))⟩ (fun w43 σ44 q45 => ?_)
          obtain ⟨rfl, H46, e47, R48, q49, q50⟩ := q45
          have t56 := t29.x e47
          obtain ⟨x51, e52, c53, h54, h55⟩ := cg242 H46.1 t56
          obtain ⟨x57, e58, c59, h60, h61⟩ := cg243 H46.1 t56
          have z62 := congrArg Int32.toInt c53
          have z63 := congrArg Int32.toInt c59
          refine k_st (st' := []) rfl ?_
          have R64 : RdC p0 none (-23) (5 + 8 * (d : Int)) (-999) σ0 σ44 := R17.tr ⟨R48.1, R48.2⟩ (by omega) (by omega) (by omega) (by omega)
          have z65 := R64.2.2.1
          have z66 := R64.2.2.2.1 rd_at
          refine k_aload_n rfl ?_
          refine k_aload_n rfl ?_
          have t67 := h18.x e47
          have X68 : ExC [0, 1, 2, 60, 61, 62, 63, 64, 65, 66, 67, 68, 69, 70, 72, 73, 74, 75, 76, 242, 243, 244, 999] σ0 σ44 := X42.tr (e47.mo (by decide))
          refine k_inv (P := P_X7_put) (Q := Q_X7_put) rfl rfl rfl rfl (Nat.le_of_ble_eq_true rfl) (t56.rc (by decide)) ⟨_, _, rfl, H46, t56, t67, (rd_cd.st H0 h_0_0 X68 R64.1 (by decide)), (R64.2.2.2.1 rd_at), (rd_bg.st H0 h_0_0 X68 R64 (by decide) (by omega) (by omega) (by omega))⟩ (fun w69 σ70 q71 => ?_)
          obtain ⟨a72, rfl, H73, e74, h76, R75, q77, q78⟩ := q71
          have c79 := (t56.mi e74 (by decide)).trans c53
          have c80 := (t56.mi e74 (by decide)).trans c59
          have z81 := congrArg Int32.toInt c79
          have z82 := congrArg Int32.toInt c80
          refine k_st (st' := [.inr (.inr (some a72))]) rfl ?_
          refine k_areturn ?_
          have X83 : ExC [0, 1, 2, 60, 61, 62, 63, 64, 65, 66, 67, 68, 69, 70, 72, 73, 74, 75, 76, 242, 243, 244, 999] σ0 σ70 := X68.tr (e74.mo (by decide))
          have R84 : RdC p0 none (-22) (6 + 8 * (d : Int)) (-998) σ0 σ70 := R64.tr ⟨R75.1, R75.2⟩ (by omega) (by omega) (by omega) (by omega)
          have S89 : ∀ s, ReC σ0 p0 s → ReC σ70 p0 (calY ((d + 1) - 1) (eY ((d + 1) - 1)) s) := by
            intro s hs
            obtain ⟨s', hs', hp⟩ := h22 s hs
            first | rw [show (501 - v53_4.toInt).toNat = 0 from by omega] at hp | rw [show (501 - v53_4.toInt).toNat = (500 - v53_4.toInt).toNat + 1 from by omega] at hp
            rw [clpY] at hp
            have y85 := q50 _ hs'
            rw [h41] at y85
            have y87 := q78 _ y85
            refine y87.eq ?_
            rw [← hp]
            try unfold calY
            repeat (split <;> try (exfalso; omega))
            try unfold ca2Y
            repeat (split <;> try (exfalso; omega))
            try unfold tkY
            repeat (split <;> try (exfalso; omega))
            try unfold dpY
            repeat (split <;> try (exfalso; omega))
            all_goals rfl
          exact ⟨_, rfl, H73, X83, h76, (R84.mo (by omega) (by omega) (by omega)), (by omega), S89⟩
        · refine k_nil ?_
          refine hB _ _ _ _ (kgoC (is := KX7_readCall_61) rfl ?_)
          refine k_aload_n rfl ?_
          refine k_iconst (m := 5) rfl (fun x90 h91 => ?_)
          have X92 : ExC [0, 1, 2, 60, 61, 62, 63, 64, 65, 66, 67, 68, 69, 70, 72, 73, 74, 75, 76, 242, 243, 244, 999] σ0 σ14 := ExC.rf.tr (e16.mo (by decide))
          refine k_inv (P := P_X7_takes) (Q := Q_X7_takes) rfl rfl rfl rfl (Nat.le_of_ble_eq_true rfl) (t29.rc (by decide)) ⟨_, _, rfl, H15, t29, (by omega), (by omega), (rd_cd.st H0 h_0_0 X92 R17.1 (by decide)), (R17.2.2.2.1 rd_at), (rd_bg.st H0 h_0_0 X92 R17 (by decide) (by omega) (by omega) (by omega))⟩ (fun w93 σ94 q95 => ?_)
          obtain ⟨x96, rfl, H97, e98, h100, h101, R99, q102, q103⟩ := q95
          have t109 := t29.x e98
          obtain ⟨x104, e105, c106, h107, h108⟩ := cg242 H97.1 t109
          obtain ⟨x110, e111, c112, h113, h114⟩ := cg243 H97.1 t109
          have z115 := congrArg Int32.toInt c106
          have z116 := congrArg Int32.toInt c112
          refine k_st (st' := [.inl x96]) rfl ?_
          rcases (by omega : x96.toInt = 0 ∨ x96.toInt = 1) with g117 | g117
          · have R118 : RdC p0 none (-15) (5 + 8 * (d : Int)) (-999) σ0 σ94 := R17.tr ⟨R99.1, R99.2⟩ (by omega) (by omega) (by omega) (by omega)
            have z119 := R118.2.2.1
            have z120 := R118.2.2.2.1 rd_at
            refine k_if_eq (fun h121 => ?_) (fun h121 => by exfalso; omega)
            refine hB _ _ _ _ (kgoC (is := KX7_readCall_91) rfl ?_)
            refine k_aload_n rfl ?_
            refine k_iconst (m := 1) rfl (fun x122 h123 => ?_)
            have X124 : ExC [0, 1, 2, 60, 61, 62, 63, 64, 65, 66, 67, 68, 69, 70, 72, 73, 74, 75, 76, 242, 243, 244, 999] σ0 σ94 := X92.tr (e98.mo (by decide))
            refine k_inv (P := P_X7_expect) (Q := Q_X7_expect) rfl rfl rfl rfl (Nat.le_of_ble_eq_true rfl) (t109.rc (by decide)) ⟨_, _, rfl, H97, t109, (by omega), (by omega), (rd_cd.st H0 h_0_0 X124 R118.1 (by decide)), (R118.2.2.2.1 rd_at), (rd_bg.st H0 h_0_0 X124 R118 (by decide) (by omega) (by omega) (by omega))⟩ (fun w125 σ126 q127 => ?_)
            obtain ⟨rfl, H128, e129, R130, q131, q132⟩ := q127
            have t138 := t109.x e129
            obtain ⟨x133, e134, c135, h136, h137⟩ := cg242 H128.1 t138
            obtain ⟨x139, e140, c141, h142, h143⟩ := cg243 H128.1 t138
            have z144 := congrArg Int32.toInt c135
            have z145 := congrArg Int32.toInt c141
            refine k_st (st' := []) rfl ?_
            have R146 : RdC p0 none (-23) (5 + 8 * (d : Int)) (-999) σ0 σ126 := R118.tr ⟨R130.1, R130.2⟩ (by omega) (by omega) (by omega) (by omega)
            have z147 := R146.2.2.1
            have z148 := R146.2.2.2.1 rd_at
            refine k_aload_n rfl ?_
            refine k_aload_n rfl ?_
            have t149 := h18.x e98
            have t150 := t149.x e129
            have X151 : ExC [0, 1, 2, 60, 61, 62, 63, 64, 65, 66, 67, 68, 69, 70, 72, 73, 74, 75, 76, 242, 243, 244, 999] σ0 σ126 := X124.tr (e129.mo (by decide))
            refine k_inv (P := P_X7_put) (Q := Q_X7_put) rfl rfl rfl rfl (Nat.le_of_ble_eq_true rfl) (t138.rc (by decide)) ⟨_, _, rfl, H128, t138, t150, (rd_cd.st H0 h_0_0 X151 R146.1 (by decide)), (R146.2.2.2.1 rd_at), (rd_bg.st H0 h_0_0 X151 R146 (by decide) (by omega) (by omega) (by omega))⟩ (fun w152 σ153 q154 => ?_)
            obtain ⟨a155, rfl, H156, e157, h159, R158, q160, q161⟩ := q154
            have c162 := (t138.mi e157 (by decide)).trans c135
            have c163 := (t138.mi e157 (by decide)).trans c141
            have z164 := congrArg Int32.toInt c162
            have z165 := congrArg Int32.toInt c163
            refine k_st (st' := [.inr (.inr (some a155))]) rfl ?_
            refine k_areturn ?_
            have X166 : ExC [0, 1, 2, 60, 61, 62, 63, 64, 65, 66, 67, 68, 69, 70, 72, 73, 74, 75, 76, 242, 243, 244, 999] σ0 σ153 := X151.tr (e157.mo (by decide))
            have R167 : RdC p0 none (-22) (6 + 8 * (d : Int)) (-998) σ0 σ153 := R146.tr ⟨R158.1, R158.2⟩ (by omega) (by omega) (by omega) (by omega)
            have S174 : ∀ s, ReC σ0 p0 s → ReC σ153 p0 (calY ((d + 1) - 1) (eY ((d + 1) - 1)) s) := by
              intro s hs
              obtain ⟨s', hs', hp⟩ := h22 s hs
              first | rw [show (501 - v53_4.toInt).toNat = 0 from by omega] at hp | rw [show (501 - v53_4.toInt).toNat = (500 - v53_4.toInt).toNat + 1 from by omega] at hp
              rw [clpY] at hp
              obtain ⟨y168, f169⟩ := q103 _ hs'
              rw [h91] at y168
              rw [h91] at f169
              rw [tkY_n (f169.2 (by omega))] at y168
              have y170 := q132 _ y168
              rw [h123] at y170
              have y172 := q161 _ y170
              refine y172.eq ?_
              rw [← hp]
              try unfold calY
              repeat (split <;> try (exfalso; omega))
              try unfold ca2Y
              repeat (split <;> try (exfalso; omega))
              try unfold tkY
              repeat (split <;> try (exfalso; omega))
              try unfold dpY
              repeat (split <;> try (exfalso; omega))
              all_goals rfl
            exact ⟨_, rfl, H156, X166, h159, (R167.mo (by omega) (by omega) (by omega)), (by omega), S174⟩
          · have R175 := R17.nf (-1000) (-1000) (q102 (by omega)).1
            have R176 : RdC p0 none (-23) (-15) (-1000) σ0 σ94 := R175.tr ⟨(q102 (by omega)).2.1, (q102 (by omega)).2.2⟩ (by omega) (by omega) (by omega) (by omega)
            have z177 := R176.2.2.1
            have z178 := R176.2.2.2.1 rd_at
            refine k_if_eq (fun h179 => by exfalso; omega) (fun h179 => ?_)
            refine k_nil ?_
            refine hB _ _ _ _ (kgoC (is := KX7_readCall_69) rfl ?_)
            refine k_aload_n rfl ?_
            refine k_aload_n rfl ?_
            refine k_iload_n rfl ?_
            refine k_iconst (m := 1) rfl (fun x180 h181 => ?_)
            refine k_iadd (by omega) (by omega) (fun x182 h183 => ?_)
            have X184 : ExC [0, 1, 2, 60, 61, 62, 63, 64, 65, 66, 67, 68, 69, 70, 72, 73, 74, 75, 76, 242, 243, 244, 999] σ0 σ94 := X92.tr (e98.mo (by decide))
            refine k_inv (P := (P_X7_readExp d)) (Q := (Q_X7_readExp d)) rfl rfl rfl rfl (Nat.le_of_ble_eq_true rfl) (t109.rc (by decide)) ⟨_, _, rfl, H97, t109, (by omega), (by omega), (rd_cd.st H0 h_0_0 X184 R176.1 (by decide)), (R176.2.2.2.1 rd_at), (rd_bg.st H0 h_0_0 X184 R176 (by decide) (by omega) (by omega) (by omega)), (by omega)⟩ (fun w185 σ186 q187 => ?_)
            obtain ⟨a188, rfl, H189, e190, h192, R191, q193, q194⟩ := q187
            have t200 := t109.x e190
            obtain ⟨x195, e196, c197, h198, h199⟩ := cg242 H189.1 t200
            obtain ⟨x201, e202, c203, h204, h205⟩ := cg243 H189.1 t200
            have z206 := congrArg Int32.toInt c197
            have z207 := congrArg Int32.toInt c203
            refine k_st (st' := [.inr (.inr (some a188)), .inr (.inr (some v53_3))]) rfl ?_
            have z208 := R176.1.1
            have R209 : RdC p0 none (-23) (-3 + 8 * (d : Int)) (-999) σ0 σ186 := R176.tr ⟨R191.1, R191.2⟩ (by omega) (by omega) (by omega) (by omega)
            have z210 := R209.2.2.1
            have z211 := R209.2.2.2.1 rd_at
            have t212 := h19.x e98
            have z213 := t212.1
            have t219 := t212.x e190
            refine k_p75 H189 t219 h192 (by omega) (fun σ214 H215 e216 g217 c218 => ?_)
            refine k_aload_n rfl ?_
            have t220 := t219.x e216
            refine k_get kg75 t220 (congrArg (fun z : Option Nat => (Sum.inr (Sum.inr z) : AvC)) c218) ?_
            refine k_astore_n (ls' := [(3, .inr (.inr (some a188))), (0, .inr (.inr (some p0))), (1, .inl p1), (2, .inr (.inr (some v53_2))), (4, .inl v53_4)]) rfl ?_
            obtain ⟨x221, e223, h222⟩ := iincC (n := 1) (m := 1) (v := v53_4) rfl (by omega) (by omega)
            refine k_iinc (ls' := [(4, .inl x221), (3, .inr (.inr (some a188))), (0, .inr (.inr (some p0))), (1, .inl p1), (2, .inr (.inr (some v53_2)))]) rfl e223 rfl ?_
            refine k_goto ?_
            have R224 : RdC p0 none (-23) (-3 + 8 * (d : Int)) (-999) σ0 σ214 := R209.tr ⟨g217, (e216.cou (u := 0) H189.1 t200 (by decide) (by rw [e216.cn (by decide)]; omega))⟩ (by omega) (by omega) (by omega) (by omega)
            have c225 := (t200.mi e216 (by decide)).trans c203
            have t226 := h18.x e98
            have t227 := t226.x e190
            have t228 := t227.x e216
            have t229 := h192.x e216
            have S235 : (∀ s, ReC σ0 p0 s → ∃ s', ReC σ214 p0 s' ∧ xpY 1 (clpY (eY ((d + 1) - 1)) (501 - x221.toInt).toNat s') = calY ((d + 1) - 1) (eY ((d + 1) - 1)) s) := by
              intro s hs
              obtain ⟨s', hs', hp⟩ := h22 s hs
              first | rw [show (501 - v53_4.toInt).toNat = 0 from by omega] at hp | rw [show (501 - v53_4.toInt).toNat = (500 - v53_4.toInt).toNat + 1 from by omega] at hp
              rw [clpY] at hp
              obtain ⟨y230, f231⟩ := q103 _ hs'
              rw [h91] at y230
              rw [h91] at f231
              rw [tkY_y (f231.1 (by omega))] at y230
              have y232 := q194 _ y230
              have y234 := y232.x H189.1 t200 e216 (by decide)
              refine ⟨_, y234, ?_⟩
              rw [← hp]
              all_goals try rw [show (501 - x221.toInt).toNat = (500 - v53_4.toInt).toNat from by omega]
              try unfold calY
              repeat (split <;> try (exfalso; omega))
              try unfold ca2Y
              repeat (split <;> try (exfalso; omega))
              try unfold tkY
              repeat (split <;> try (exfalso; omega))
              try unfold dpY
              repeat (split <;> try (exfalso; omega))
              all_goals rfl
            have X236 : ExC [0, 1, 2, 60, 61, 62, 63, 64, 65, 66, 67, 68, 69, 70, 72, 73, 74, 75, 76, 242, 243, 244, 999] σ0 σ186 := X184.tr (e190.mo (by decide))
            have X237 : ExC [0, 1, 2, 60, 61, 62, 63, 64, 65, 66, 67, 68, 69, 70, 72, 73, 74, 75, 76, 242, 243, 244, 999] σ0 σ214 := X236.tr (e216.mo (by decide))
            exact hW _ _ _ _ _ (List.forall_mem_cons.2 ⟨List.Mem.tail _ (List.Mem.tail _ (List.Mem.head _)), (List.forall_mem_cons.2 ⟨List.Mem.tail _ (List.Mem.tail _ (List.Mem.tail _ (List.Mem.head _))), (List.forall_mem_cons.2 ⟨List.Mem.tail _ (List.Mem.tail _ (List.Mem.tail _ (List.Mem.tail _ (List.Mem.head _)))), (List.forall_mem_cons.2 ⟨List.Mem.tail _ (List.Mem.head _), (List.forall_mem_cons.2 ⟨List.Mem.head _, fun _ h => absurd h List.not_mem_nil⟩)⟩)⟩)⟩)⟩) (ih53 ((2147483647 - x221.toInt).toNat) (by omega) σ214 v53_2 a188 x221 rfl H215 X237 (R224.mo (by omega) (by omega) (by omega)) t228 t229 (by omega) (by omega) S235 (by omega))
    refine hB _ _ _ _ (kgoC (is := KX7_readCall_0) rfl ?_)
    refine k_aload_n rfl ?_
    refine k_bipush (m := 10) rfl (fun x238 h239 => ?_)
    refine k_iconst (m := 0) rfl (fun x240 h241 => ?_)
    have R242 := (RdC.rf : RdC p0 none 0 0 0 σ0 σ0).nf (-1000) (-1000) (by rw [c8]; omega)
    refine k_inv (P := P_X7_opened) (Q := Q_X7_opened) rfl rfl rfl rfl (Nat.le_of_ble_eq_true rfl) (h_0_0.rc (by decide)) ⟨_, _, _, rfl, H0, h_0_0, (rd_cd.st H0 h_0_0 (ExC.rf : ExC [0, 1, 2, 60, 61, 62, 63, 64, 65, 66, 67, 68, 69, 70, 72, 73, 74, 75, 76, 242, 243, 244, 999] σ0 σ0) R242.1 (by decide)), (R242.2.2.2.1 rd_at), (rd_bg.stn H0 h_0_0 (ExC.rf : ExC [0, 1, 2, 60, 61, 62, 63, 64, 65, 66, 67, 68, 69, 70, 72, 73, 74, 75, 76, 242, 243, 244, 999] σ0 σ0) R242 (by decide) (by rw [c8]; omega) (by omega)), (by omega)⟩ (fun w243 σ244 q245 => ?_)
    obtain ⟨a246, rfl, H247, e248, h250, R249, q251, q252⟩ := q245
    have c253 := (h_0_0.mi e248 (by decide)).trans c3
    have c254 := (h_0_0.mi e248 (by decide)).trans c8
    have z255 := congrArg Int32.toInt c253
    have z256 := congrArg Int32.toInt c254
    refine k_st (st' := [.inr (.inr (some a246))]) rfl ?_
    have z257 := R242.1.1
    have R258 : RdC p0 none (1) (1) (-999) σ0 σ244 := R242.tr ⟨R249.1, R249.2⟩ (by omega) (by omega) (by omega) (by omega)
    have R259 := R258.nf (-1000) (-1000) (by rw [c254]; omega)
    have z260 := R259.2.2.1
    have z261 := R259.2.2.2.1 rd_at
    refine k_astore_n (ls' := [(2, .inr (.inr (some a246))), (0, .inr (.inr (some p0))), (1, .inl p1)]) rfl ?_
    refine k_aload_n rfl ?_
    have t262 := h_0_0.x e248
    have X263 : ExC [0, 1, 2, 60, 61, 62, 63, 64, 65, 66, 67, 68, 69, 70, 72, 73, 74, 75, 76, 242, 243, 244, 999] σ0 σ244 := ExC.rf.tr (e248.mo (by decide))
    refine k_inv (P := P_X7_accept) (Q := Q_X7_accept) rfl rfl rfl rfl (Nat.le_of_ble_eq_true rfl) (t262.rc (by decide)) ⟨_, rfl, H247, t262, (rd_cd.st H0 h_0_0 X263 R259.1 (by decide)), (R259.2.2.2.1 rd_at), (rd_bg.stn H0 h_0_0 X263 R259 (by decide) (by rw [c254]; omega) (by omega)), (by have ct := R259.2.2.1; rw [c254, c253, ct]; omega)⟩ (fun w264 σ265 q266 => ?_)
    obtain ⟨rfl, H267, e268, R269, q270, q271⟩ := q266
    have t277 := t262.x e268
    obtain ⟨x272, e273, c274, h275, h276⟩ := cg242 H267.1 t277
    obtain ⟨x278, e279, c280, h281, h282⟩ := cg243 H267.1 t277
    have z283 := congrArg Int32.toInt c274
    have z284 := congrArg Int32.toInt c280
    refine k_st (st' := []) rfl ?_
    have R285 : RdC p0 none (-7) (1) (-1000) σ0 σ265 := R259.tr ⟨R269.1, R269.2⟩ (by omega) (by omega) (by omega) (by omega)
    have z286 := R285.2.2.1
    have z287 := R285.2.2.2.1 rd_at
    refine k_aload_n rfl ?_
    have X288 : ExC [0, 1, 2, 60, 61, 62, 63, 64, 65, 66, 67, 68, 69, 70, 72, 73, 74, 75, 76, 242, 243, 244, 999] σ0 σ265 := X263.tr (e268.mo (by decide))
    refine k_inv (P := P_X7_accept) (Q := Q_X7_accept) rfl rfl rfl rfl (Nat.le_of_ble_eq_true rfl) (t277.rc (by decide)) ⟨_, rfl, H267, t277, (rd_cd.st H0 h_0_0 X288 R285.1 (by decide)), (R285.2.2.2.1 rd_at), (rd_bg.st H0 h_0_0 X288 R285 (by decide) (by omega) (by omega) (by omega)), (by have ct := R285.2.2.1; rw [c280, c274, ct]; omega)⟩ (fun w289 σ290 q291 => ?_)
    obtain ⟨rfl, H292, e293, R294, q295, q296⟩ := q291
    have t302 := t277.x e293
    obtain ⟨x297, e298, c299, h300, h301⟩ := cg242 H292.1 t302
    obtain ⟨x303, e304, c305, h306, h307⟩ := cg243 H292.1 t302
    have z308 := congrArg Int32.toInt c299
    have z309 := congrArg Int32.toInt c305
    refine k_st (st' := []) rfl ?_
    have R310 : RdC p0 none (-15) (1) (-1000) σ0 σ290 := R285.tr ⟨R294.1, R294.2⟩ (by omega) (by omega) (by omega) (by omega)
    have z311 := R310.2.2.1
    have z312 := R310.2.2.2.1 rd_at
    refine k_aload_n rfl ?_
    refine k_iload_n rfl ?_
    refine k_iconst (m := 1) rfl (fun x313 h314 => ?_)
    refine k_iadd (by omega) (by omega) (fun x315 h316 => ?_)
    have X317 : ExC [0, 1, 2, 60, 61, 62, 63, 64, 65, 66, 67, 68, 69, 70, 72, 73, 74, 75, 76, 242, 243, 244, 999] σ0 σ290 := X288.tr (e293.mo (by decide))
    refine k_inv (P := P_X7_isTooDeep) (Q := Q_X7_isTooDeep) rfl rfl rfl rfl (Nat.le_of_ble_eq_true rfl) (t302.rc (by decide)) ⟨_, _, rfl, H292, t302, (rd_cd.st H0 h_0_0 X317 R310.1 (by decide)), (R310.2.2.2.1 rd_at), (rd_bg.st H0 h_0_0 X317 R310 (by decide) (by omega) (by omega) (by omega))⟩ (fun w318 σ319 q320 => ?_)
    obtain ⟨x321, rfl, H322, e323, h325, h326, R324, q327, q328, q329⟩ := q320
    have c330 := (t302.mi e323 (by decide)).trans c299
    have t336 := t302.x e323
    obtain ⟨x331, e332, c333, h334, h335⟩ := cg243 H322.1 t336
    have z337 := congrArg Int32.toInt c330
    have z338 := congrArg Int32.toInt c333
    refine k_st (st' := [.inl x321]) rfl ?_
    rcases (by omega : x321.toInt = 0 ∨ x321.toInt = 1) with g339 | g339
    · have h340 := q328 (by omega)
      refine k_if_ne (fun h341 => by exfalso; omega) (fun h341 => ?_)
      refine k_nil ?_
      refine hB _ _ _ _ (kgoC (is := KX7_readCall_26) rfl ?_)
      refine k_aload_n rfl ?_
      have R342 : RdC p0 none (-15) (1) (-1000) σ0 σ319 := R310.tr ⟨R324.1, R324.2⟩ (by omega) (by omega) (by omega) (by omega)
      have X343 : ExC [0, 1, 2, 60, 61, 62, 63, 64, 65, 66, 67, 68, 69, 70, 72, 73, 74, 75, 76, 242, 243, 244, 999] σ0 σ319 := X317.tr (e323.mo (by decide))
      refine k_inv (P := P_X7_code) (Q := Q_X7_code) rfl rfl rfl rfl (Nat.le_of_ble_eq_true rfl) (t336.rc (by decide)) ⟨_, rfl, H322, t336, (rd_cd.st H0 h_0_0 X343 R342.1 (by decide))⟩ (fun w344 σ345 q346 => ?_)
      obtain ⟨x347, rfl, rfl, q348, q349, q350, q351⟩ := q346
      refine k_st (st' := [.inl x347]) rfl ?_
      have z352 := R342.2.2.1
      have z353 := R342.2.2.2.1 rd_at
      refine k_iconst (m := 1) rfl (fun x354 h355 => ?_)
      refine k_ic_eq (fun h356 => ?_) (fun h356 => ?_)
      · have h357 : x331.toInt = 0 := by omega
        refine hB _ _ _ _ (kgoC (is := KX7_readCall_91) rfl ?_)
        refine k_aload_n rfl ?_
        refine k_iconst (m := 1) rfl (fun x358 h359 => ?_)
        have R360 := R342.nf (-1000) (-1000) (by rw [c333]; omega)
        refine k_inv (P := P_X7_expect) (Q := Q_X7_expect) rfl rfl rfl rfl (Nat.le_of_ble_eq_true rfl) (t336.rc (by decide)) ⟨_, _, rfl, H322, t336, (by omega), (by omega), (rd_cd.st H0 h_0_0 X343 R360.1 (by decide)), (R360.2.2.2.1 rd_at), (rd_bg.stn H0 h_0_0 X343 R360 (by decide) (by rw [c333]; omega) (by omega))⟩ (fun w361 σ362 q363 => ?_)
        obtain ⟨rfl, H364, e365, R366, q367, q368⟩ := q363
        have t374 := t336.x e365
        obtain ⟨x369, e370, c371, h372, h373⟩ := cg242 H364.1 t374
        obtain ⟨x375, e376, c377, h378, h379⟩ := cg243 H364.1 t374
        have z380 := congrArg Int32.toInt c371
        have z381 := congrArg Int32.toInt c377
        refine k_st (st' := []) rfl ?_
        have R382 : RdC p0 none (-23) (-15) (-1000) σ0 σ362 := R360.tr ⟨R366.1, R366.2⟩ (by omega) (by omega) (by omega) (by omega)
        have z383 := R382.2.2.1
        have z384 := R382.2.2.2.1 rd_at
        refine k_aload_n rfl ?_
        refine k_aload_n rfl ?_
        have t385 := h250.x e268
        have t386 := t385.x e293
        have t387 := t386.x e323
        have t388 := t387.x e365
        have X389 : ExC [0, 1, 2, 60, 61, 62, 63, 64, 65, 66, 67, 68, 69, 70, 72, 73, 74, 75, 76, 242, 243, 244, 999] σ0 σ362 := X343.tr (e365.mo (by decide))
        refine k_inv (P := P_X7_put) (Q := Q_X7_put) rfl rfl rfl rfl (Nat.le_of_ble_eq_true rfl) (t374.rc (by decide)) ⟨_, _, rfl, H364, t374, t388, (rd_cd.st H0 h_0_0 X389 R382.1 (by decide)), (R382.2.2.2.1 rd_at), (rd_bg.st H0 h_0_0 X389 R382 (by decide) (by omega) (by omega) (by omega))⟩ (fun w390 σ391 q392 => ?_)
        obtain ⟨a393, rfl, H394, e395, h397, R396, q398, q399⟩ := q392
        have c400 := (t374.mi e395 (by decide)).trans c371
        have c401 := (t374.mi e395 (by decide)).trans c377
        have z402 := congrArg Int32.toInt c400
        have z403 := congrArg Int32.toInt c401
        refine k_st (st' := [.inr (.inr (some a393))]) rfl ?_
        refine k_areturn ?_
        have X404 : ExC [0, 1, 2, 60, 61, 62, 63, 64, 65, 66, 67, 68, 69, 70, 72, 73, 74, 75, 76, 242, 243, 244, 999] σ0 σ391 := X389.tr (e395.mo (by decide))
        have R405 : RdC p0 none (-22) (-14) (-999) σ0 σ391 := R382.tr ⟨R396.1, R396.2⟩ (by omega) (by omega) (by omega) (by omega)
        have S419 : ∀ s, ReC σ0 p0 s → ReC σ391 p0 (calY ((d + 1) - 1) (eY ((d + 1) - 1)) s) := by
          intro s hs
          have y406 := q252 _ hs
          have y408 := q271 _ y406
          have y410 := q296 _ y408
          have y412 := q329 _ y410
          rw [dpY_n (by omega)] at y412
          have f414 := q351 _ y412
          have y415 := q368 _ y412
          rw [h359] at y415
          have y417 := q399 _ y415
          refine y417.eq ?_
          try unfold calY
          repeat (split <;> try (exfalso; omega))
          try unfold ca2Y
          repeat (split <;> try (exfalso; omega))
          try unfold tkY
          repeat (split <;> try (exfalso; omega))
          try unfold dpY
          repeat (split <;> try (exfalso; omega))
          all_goals rfl
        exact ⟨_, rfl, H394, X404, h397, (R405.mo (by omega) (by omega) (by omega)), (by omega), S419⟩
      · refine k_nil ?_
        refine hB _ _ _ _ (kgoC (is := KX7_readCall_34) rfl ?_)
        refine k_aload_n rfl ?_
        refine k_aload_n rfl ?_
        refine k_iload_n rfl ?_
        refine k_iconst (m := 1) rfl (fun x420 h421 => ?_)
        refine k_iadd (by omega) (by omega) (fun x422 h423 => ?_)
        refine k_inv (P := (P_X7_readExp d)) (Q := (Q_X7_readExp d)) rfl rfl rfl rfl (Nat.le_of_ble_eq_true rfl) (t336.rc (by decide)) ⟨_, _, rfl, H322, t336, (by omega), (by omega), (rd_cd.st H0 h_0_0 X343 R342.1 (by decide)), (R342.2.2.2.1 rd_at), (rd_bg.st H0 h_0_0 X343 R342 (by decide) (by omega) (by omega) (by omega)), (by omega)⟩ (fun w424 σ425 q426 => ?_)
        obtain ⟨a427, rfl, H428, e429, h431, R430, q432, q433⟩ := q426
        have t439 := t336.x e429
        obtain ⟨x434, e435, c436, h437, h438⟩ := cg242 H428.1 t439
        obtain ⟨x440, e441, c442, h443, h444⟩ := cg243 H428.1 t439
        have z445 := congrArg Int32.toInt c436
        have z446 := congrArg Int32.toInt c442
        refine k_st (st' := [.inr (.inr (some a427)), .inr (.inr (some a246))]) rfl ?_
        have z447 := R342.1.1
        have R448 : RdC p0 none (-15) (5 + 8 * (d : Int)) (-999) σ0 σ425 := R342.tr ⟨R430.1, R430.2⟩ (by omega) (by omega) (by omega) (by omega)
        have z449 := R448.2.2.1
        have z450 := R448.2.2.2.1 rd_at
        have t451 := h250.x e268
        have t452 := t451.x e293
        have t453 := t452.x e323
        have t454 := t453.x e429
        refine k_putR kp72 H428 t454 fk72 (rf72 h431) (fun σ455 H456 e457 c458 => ?_)
        refine k_aload_n rfl ?_
        have t459 := t454.x e457
        refine k_get kg72 t459 (congrArg (fun z : Option Nat => (Sum.inr (Sum.inr z) : AvC)) c458) ?_
        refine k_astore_n (ls' := [(3, .inr (.inr (some a427))), (2, .inr (.inr (some a246))), (0, .inr (.inr (some p0))), (1, .inl p1)]) rfl ?_
        refine k_iconst (m := 0) rfl (fun x460 h461 => ?_)
        refine k_istore (ls' := [(4, .inl x460), (3, .inr (.inr (some a427))), (2, .inr (.inr (some a246))), (0, .inr (.inr (some p0))), (1, .inl p1)]) rfl ?_
        refine k_nil ?_
        have R462 : RdC p0 none (-15) (5 + 8 * (d : Int)) (-999) σ0 σ455 := R448.tr ⟨(e457.gw H428.1 (by decide)), (e457.cou (u := 0) H428.1 t439 (by decide) (by rw [e457.cn (by decide)]; omega))⟩ (by omega) (by omega) (by omega) (by omega)
        have c463 := (t439.mi e457 (by decide)).trans c442
        have t464 := h431.x e457
        have S477 : (∀ s, ReC σ0 p0 s → ∃ s', ReC σ455 p0 s' ∧ xpY 1 (clpY (eY ((d + 1) - 1)) (501 - x460.toInt).toNat s') = calY ((d + 1) - 1) (eY ((d + 1) - 1)) s) := by
          intro s hs
          have y465 := q252 _ hs
          have y467 := q271 _ y465
          have y469 := q296 _ y467
          have y471 := q329 _ y469
          rw [dpY_n (by omega)] at y471
          have f473 := q351 _ y471
          have y474 := q433 _ y471
          have y476 := y474.x H428.1 t439 e457 (by decide)
          refine ⟨_, y476, ?_⟩
          all_goals try rw [show (501 - x460.toInt).toNat = 501 from by omega]
          try unfold calY
          repeat (split <;> try (exfalso; omega))
          try unfold ca2Y
          repeat (split <;> try (exfalso; omega))
          try unfold tkY
          repeat (split <;> try (exfalso; omega))
          try unfold dpY
          repeat (split <;> try (exfalso; omega))
          all_goals rfl
        have X478 : ExC [0, 1, 2, 60, 61, 62, 63, 64, 65, 66, 67, 68, 69, 70, 72, 73, 74, 75, 76, 242, 243, 244, 999] σ0 σ425 := X343.tr (e429.mo (by decide))
        have X479 : ExC [0, 1, 2, 60, 61, 62, 63, 64, 65, 66, 67, 68, 69, 70, 72, 73, 74, 75, 76, 242, 243, 244, 999] σ0 σ455 := X478.tr (e457.mo (by decide))
        exact hW _ _ _ _ _ (List.forall_mem_cons.2 ⟨List.Mem.tail _ (List.Mem.tail _ (List.Mem.tail _ (List.Mem.head _))), (List.forall_mem_cons.2 ⟨List.Mem.tail _ (List.Mem.tail _ (List.Mem.tail _ (List.Mem.tail _ (List.Mem.head _)))), (List.forall_mem_cons.2 ⟨List.Mem.tail _ (List.Mem.tail _ (List.Mem.head _)), (List.forall_mem_cons.2 ⟨List.Mem.tail _ (List.Mem.head _), (List.forall_mem_cons.2 ⟨List.Mem.head _, fun _ h => absurd h List.not_mem_nil⟩)⟩)⟩)⟩)⟩) (L53 _ σ455 a246 a427 x460 rfl H456 X479 (R462.mo (by omega) (by omega) (by omega)) t459 t464 (by omega) (by omega) S477 (by omega))
    · have h480 : 1 ≤ x331.toInt := by have hq := (q327 (by omega)).2; rw [c333] at hq; omega
      have h481 := (q327 (by omega)).1
      refine k_if_ne (fun h482 => ?_) (fun h482 => by exfalso; omega)
      refine hB _ _ _ _ (kgoC (is := KX7_readCall_91) rfl ?_)
      refine k_aload_n rfl ?_
      refine k_iconst (m := 1) rfl (fun x483 h484 => ?_)
      have R485 : RdC p0 none (-15) (1) (-1000) σ0 σ319 := R310.tr ⟨R324.1, R324.2⟩ (by omega) (by omega) (by omega) (by omega)
      have X486 : ExC [0, 1, 2, 60, 61, 62, 63, 64, 65, 66, 67, 68, 69, 70, 72, 73, 74, 75, 76, 242, 243, 244, 999] σ0 σ319 := X317.tr (e323.mo (by decide))
      refine k_inv (P := P_X7_expect) (Q := Q_X7_expect) rfl rfl rfl rfl (Nat.le_of_ble_eq_true rfl) (t336.rc (by decide)) ⟨_, _, rfl, H322, t336, (by omega), (by omega), (rd_cd.st H0 h_0_0 X486 R485.1 (by decide)), (R485.2.2.2.1 rd_at), (rd_bg.st H0 h_0_0 X486 R485 (by decide) (by omega) (by omega) (by omega))⟩ (fun w487 σ488 q489 => ?_)
      obtain ⟨rfl, H490, e491, R492, q493, q494⟩ := q489
      have t500 := t336.x e491
      obtain ⟨x495, e496, c497, h498, h499⟩ := cg242 H490.1 t500
      obtain ⟨x501, e502, c503, h504, h505⟩ := cg243 H490.1 t500
      have z506 := congrArg Int32.toInt c497
      have z507 := congrArg Int32.toInt c503
      refine k_st (st' := []) rfl ?_
      have R508 : RdC p0 none (-23) (1) (-1000) σ0 σ488 := R485.tr ⟨R492.1, R492.2⟩ (by omega) (by omega) (by omega) (by omega)
      have z509 := R508.2.2.1
      have z510 := R508.2.2.2.1 rd_at
      refine k_aload_n rfl ?_
      refine k_aload_n rfl ?_
      have t511 := h250.x e268
      have t512 := t511.x e293
      have t513 := t512.x e323
      have t514 := t513.x e491
      have X515 : ExC [0, 1, 2, 60, 61, 62, 63, 64, 65, 66, 67, 68, 69, 70, 72, 73, 74, 75, 76, 242, 243, 244, 999] σ0 σ488 := X486.tr (e491.mo (by decide))
      refine k_inv (P := P_X7_put) (Q := Q_X7_put) rfl rfl rfl rfl (Nat.le_of_ble_eq_true rfl) (t500.rc (by decide)) ⟨_, _, rfl, H490, t500, t514, (rd_cd.st H0 h_0_0 X515 R508.1 (by decide)), (R508.2.2.2.1 rd_at), (rd_bg.st H0 h_0_0 X515 R508 (by decide) (by omega) (by omega) (by omega))⟩ (fun w516 σ517 q518 => ?_)
      obtain ⟨a519, rfl, H520, e521, h523, R522, q524, q525⟩ := q518
      have c526 := (t500.mi e521 (by decide)).trans c497
      have c527 := (t500.mi e521 (by decide)).trans c503
      have z528 := congrArg Int32.toInt c526
      have z529 := congrArg Int32.toInt c527
      refine k_st (st' := [.inr (.inr (some a519))]) rfl ?_
      refine k_areturn ?_
      have X530 : ExC [0, 1, 2, 60, 61, 62, 63, 64, 65, 66, 67, 68, 69, 70, 72, 73, 74, 75, 76, 242, 243, 244, 999] σ0 σ517 := X515.tr (e521.mo (by decide))
      have R531 : RdC p0 none (-22) (2) (-999) σ0 σ517 := R508.tr ⟨R522.1, R522.2⟩ (by omega) (by omega) (by omega) (by omega)
      have S544 : ∀ s, ReC σ0 p0 s → ReC σ517 p0 (calY ((d + 1) - 1) (eY ((d + 1) - 1)) s) := by
        intro s hs
        have y532 := q252 _ hs
        have y534 := q271 _ y532
        have y536 := q296 _ y534
        have y538 := q329 _ y536
        rw [show x315.toInt = 21 from by omega] at y538
        rw [dpY_z (by omega)] at y538
        have y540 := q494 _ y538
        rw [h484] at y540
        have y542 := q525 _ y540
        refine y542.eq ?_
        try unfold calY
        repeat (split <;> try (exfalso; omega))
        try unfold ca2Y
        repeat (split <;> try (exfalso; omega))
        try unfold tkY
        repeat (split <;> try (exfalso; omega))
        try unfold dpY
        repeat (split <;> try (exfalso; omega))
        all_goals rfl
      exact ⟨_, rfl, H520, X530, h523, (R531.mo (by omega) (by omega) (by omega)), (by omega), S544⟩
theorem lg_X7_readCall (d : Nat) : ∀ (As : List AvC) (σ : CsC), (P_X7_readCall (d + 1)) As σ → lgC As ≤ rX7_readCall.2.2.1 := by
  rintro As σ ⟨p0, p1, rfl, -⟩
  exact Nat.le_of_ble_eq_true rfl
theorem s_X7_readCall (l : Launch) (d : Nat) (h_X7_readExp : CMetC l (13 * d + 36) 164 (P_X7_readExp d) (Q_X7_readExp d)) : CMetC l (13 * (d + 1) + 31) 176 (P_X7_readCall (d + 1)) (Q_X7_readCall (d + 1)) :=
  CMetC.of KX7_readCall [(162, P_X7_opened, Q_X7_opened), (128, P_X7_accept, Q_X7_accept), (131, P_X7_isTooDeep, Q_X7_isTooDeep), (125, P_X7_code, Q_X7_code), (129, P_X7_expect, Q_X7_expect), (161, P_X7_put, Q_X7_put), (164, (P_X7_readExp d), (Q_X7_readExp d)), (130, P_X7_takes, Q_X7_takes)] hX7_readCall (by decide) (by omega) okX7_readCall (cc1C (m_X7_opened l) (by omega) (cc1C (m_X7_accept l) (by omega) (cc1C (m_X7_isTooDeep l) (by omega) (cc1C (m_X7_code l) (by omega) (cc1C (m_X7_expect l) (by omega) (cc1C (m_X7_put l) (by omega) (cc1C h_X7_readExp (by omega) (cc1C (m_X7_takes l) (by omega) cc0C)))))))) (lg_X7_readCall d) (b_X7_readCall d)

set_option maxRecDepth 100000 in
set_option maxHeartbeats 4000000 in
theorem b_X7_readAlone (d : Nat) : TbC KX7_readAlone [(125, P_X7_code, Q_X7_code), (162, P_X7_opened, Q_X7_opened), (128, P_X7_accept, Q_X7_accept), (171, (P_X7_readInnerOperand d), (Q_X7_readInnerOperand d)), (161, P_X7_put, Q_X7_put)] (P_X7_readAlone (d + 1)) (Q_X7_readAlone (d + 1)) := by
  · rintro As σ0 ⟨p0, p1, rfl, H0, h_0_0, h_1_0, h_1_1, rd_cd, rd_at, rd_bl, rd_lv, rd_tk, rd_dp⟩ hgr G hB hW
    change G 0 [(0, .inr (.inr (some p0))), (1, .inl p1)] [] σ0
    obtain ⟨x1, e2, c3, h4, h5⟩ := cg242 H0.1 h_0_0
    obtain ⟨x6, e7, c8, h9, h10⟩ := cg243 H0.1 h_0_0
    have z11 := congrArg Int32.toInt c3
    have z12 := congrArg Int32.toInt c8
    have h13 : x6.toInt = 0 := by rw [← c8]; exact rd_lv
    have rd_bg : BgC σ0 p0 (14 + 8 * (((d + 1) : Nat) : Int)) 1000000 := ⟨fun _ => rd_bl, fun z => absurd rd_lv z⟩
    refine hB _ _ _ _ (kgoC (is := KX7_readAlone_0) rfl ?_)
    refine k_aload_n rfl ?_
    refine k_iconst (m := 4) rfl (fun x14 h15 => ?_)
    refine k_aload_n rfl ?_
    have R16 := (RdC.rf : RdC p0 none 0 0 0 σ0 σ0).nf (-1000) (-1000) (by rw [c8]; omega)
    refine k_inv (P := P_X7_code) (Q := Q_X7_code) rfl rfl rfl rfl (Nat.le_of_ble_eq_true rfl) (h_0_0.rc (by decide)) ⟨_, rfl, H0, h_0_0, (rd_cd.st H0 h_0_0 (ExC.rf : ExC [0, 1, 2, 60, 61, 62, 63, 64, 65, 66, 67, 68, 69, 70, 72, 73, 74, 75, 76, 242, 243, 244, 999] σ0 σ0) R16.1 (by decide))⟩ (fun w17 σ18 q19 => ?_)
    obtain ⟨x20, rfl, rfl, q21, q22, q23, q24⟩ := q19
    refine k_st (st' := [.inl x20, .inl x14, .inr (.inr (some p0))]) rfl ?_
    have z25 := R16.2.2.1
    have z26 := R16.2.2.2.1 rd_at
    refine k_inv (P := P_X7_opened) (Q := Q_X7_opened) rfl rfl rfl rfl (Nat.le_of_ble_eq_true rfl) (h_0_0.rc (by decide)) ⟨_, _, _, rfl, H0, h_0_0, (rd_cd.st H0 h_0_0 (ExC.rf : ExC [0, 1, 2, 60, 61, 62, 63, 64, 65, 66, 67, 68, 69, 70, 72, 73, 74, 75, 76, 242, 243, 244, 999] σ0 σ0) R16.1 (by decide)), (R16.2.2.2.1 rd_at), (rd_bg.stn H0 h_0_0 (ExC.rf : ExC [0, 1, 2, 60, 61, 62, 63, 64, 65, 66, 67, 68, 69, 70, 72, 73, 74, 75, 76, 242, 243, 244, 999] σ0 σ0) R16 (by decide) (by rw [c8]; omega) (by omega)), (by omega)⟩ (fun w27 σ28 q29 => ?_)
    obtain ⟨a30, rfl, H31, e32, h34, R33, q35, q36⟩ := q29
    have c37 := (h_0_0.mi e32 (by decide)).trans c3
    have c38 := (h_0_0.mi e32 (by decide)).trans c8
    have z39 := congrArg Int32.toInt c37
    have z40 := congrArg Int32.toInt c38
    refine k_st (st' := [.inr (.inr (some a30))]) rfl ?_
    have z41 := R16.1.1
    have R42 : RdC p0 none (1) (1) (-999) σ0 σ28 := R16.tr ⟨R33.1, R33.2⟩ (by omega) (by omega) (by omega) (by omega)
    have R43 := R42.nf (-1000) (-1000) (by rw [c38]; omega)
    have z44 := R43.2.2.1
    have z45 := R43.2.2.2.1 rd_at
    refine k_astore_n (ls' := [(2, .inr (.inr (some a30))), (0, .inr (.inr (some p0))), (1, .inl p1)]) rfl ?_
    refine k_aload_n rfl ?_
    have t46 := h_0_0.x e32
    have X47 : ExC [0, 1, 2, 60, 61, 62, 63, 64, 65, 66, 67, 68, 69, 70, 72, 73, 74, 75, 76, 242, 243, 244, 999] σ0 σ28 := ExC.rf.tr (e32.mo (by decide))
    refine k_inv (P := P_X7_accept) (Q := Q_X7_accept) rfl rfl rfl rfl (Nat.le_of_ble_eq_true rfl) (t46.rc (by decide)) ⟨_, rfl, H31, t46, (rd_cd.st H0 h_0_0 X47 R43.1 (by decide)), (R43.2.2.2.1 rd_at), (rd_bg.stn H0 h_0_0 X47 R43 (by decide) (by rw [c38]; omega) (by omega)), (by have ct := R43.2.2.1; rw [c38, c37, ct]; omega)⟩ (fun w48 σ49 q50 => ?_)
    obtain ⟨rfl, H51, e52, R53, q54, q55⟩ := q50
    have t61 := t46.x e52
    obtain ⟨x56, e57, c58, h59, h60⟩ := cg242 H51.1 t61
    obtain ⟨x62, e63, c64, h65, h66⟩ := cg243 H51.1 t61
    have z67 := congrArg Int32.toInt c58
    have z68 := congrArg Int32.toInt c64
    refine k_st (st' := []) rfl ?_
    have R69 : RdC p0 none (-7) (1) (-1000) σ0 σ49 := R43.tr ⟨R53.1, R53.2⟩ (by omega) (by omega) (by omega) (by omega)
    have z70 := R69.2.2.1
    have z71 := R69.2.2.2.1 rd_at
    refine k_aload_n rfl ?_
    refine k_aload_n rfl ?_
    refine k_iload_n rfl ?_
    refine k_iconst (m := 1) rfl (fun x72 h73 => ?_)
    refine k_iadd (by omega) (by omega) (fun x74 h75 => ?_)
    have X76 : ExC [0, 1, 2, 60, 61, 62, 63, 64, 65, 66, 67, 68, 69, 70, 72, 73, 74, 75, 76, 242, 243, 244, 999] σ0 σ49 := X47.tr (e52.mo (by decide))
    refine k_inv (P := (P_X7_readInnerOperand d)) (Q := (Q_X7_readInnerOperand d)) rfl rfl rfl rfl (Nat.le_of_ble_eq_true rfl) (t61.rc (by decide)) ⟨_, _, rfl, H51, t61, (by omega), (by omega), (rd_cd.st H0 h_0_0 X76 R69.1 (by decide)), (R69.2.2.2.1 rd_at), (rd_bg.st H0 h_0_0 X76 R69 (by decide) (by omega) (by omega) (by omega)), (by omega)⟩ (fun w77 σ78 q79 => ?_)
    obtain ⟨a80, rfl, H81, e82, h84, R83, q85, q86⟩ := q79
    have t92 := t61.x e82
    obtain ⟨x87, e88, c89, h90, h91⟩ := cg242 H81.1 t92
    obtain ⟨x93, e94, c95, h96, h97⟩ := cg243 H81.1 t92
    have z98 := congrArg Int32.toInt c89
    have z99 := congrArg Int32.toInt c95
    refine k_st (st' := [.inr (.inr (some a80)), .inr (.inr (some a30))]) rfl ?_
    have z100 := R69.1.1
    have R101 : RdC p0 none (-7) (7 + 8 * (d : Int)) (-999) σ0 σ78 := R69.tr ⟨R83.1, R83.2⟩ (by omega) (by omega) (by omega) (by omega)
    have z102 := R101.2.2.1
    have z103 := R101.2.2.2.1 rd_at
    have t104 := h34.x e52
    have t105 := t104.x e82
    refine k_putR kp72 H81 t105 fk72 (rf72 h84) (fun σ106 H107 e108 c109 => ?_)
    refine k_aload_n rfl ?_
    have t110 := t105.x e108
    obtain ⟨x113, e111, c112, h114, h115⟩ := cg61 H107.1 t110
    refine k_get kg61 t110 e111 ?_
    refine k_bipush (m := 35) rfl (fun x116 h117 => ?_)
    refine k_ic_ne (fun h118 => ?_) (fun h118 => ?_)
    · refine hB _ _ _ _ (kgoC (is := KX7_readAlone_52) rfl ?_)
      refine k_aload_n rfl ?_
      refine k_aload_n rfl ?_
      have t119 := t92.x e108
      have R120 : RdC p0 none (-7) (7 + 8 * (d : Int)) (-999) σ0 σ106 := R101.tr ⟨(e108.gw H81.1 (by decide)), (e108.cou (u := 0) H81.1 t92 (by decide) (by rw [e108.cn (by decide)]; omega))⟩ (by omega) (by omega) (by omega) (by omega)
      have c121 := (t92.mi e108 (by decide)).trans c95
      have X122 : ExC [0, 1, 2, 60, 61, 62, 63, 64, 65, 66, 67, 68, 69, 70, 72, 73, 74, 75, 76, 242, 243, 244, 999] σ0 σ78 := X76.tr (e82.mo (by decide))
      have X123 : ExC [0, 1, 2, 60, 61, 62, 63, 64, 65, 66, 67, 68, 69, 70, 72, 73, 74, 75, 76, 242, 243, 244, 999] σ0 σ106 := X122.tr (e108.mo (by decide))
      have c124 := (t92.mi e108 (by decide)).trans c89
      have z125 := congrArg Int32.toInt c124
      have z126 := congrArg Int32.toInt c121
      refine k_inv (P := P_X7_put) (Q := Q_X7_put) rfl rfl rfl rfl (Nat.le_of_ble_eq_true rfl) (t119.rc (by decide)) ⟨_, _, rfl, H107, t119, t110, (rd_cd.st H0 h_0_0 X123 R120.1 (by decide)), (R120.2.2.2.1 rd_at), (rd_bg.st H0 h_0_0 X123 R120 (by decide) (by omega) (by omega) (by omega))⟩ (fun w127 σ128 q129 => ?_)
      obtain ⟨a130, rfl, H131, e132, h134, R133, q135, q136⟩ := q129
      have c137 := (t119.mi e132 (by decide)).trans c124
      have c138 := (t119.mi e132 (by decide)).trans c121
      have z139 := congrArg Int32.toInt c137
      have z140 := congrArg Int32.toInt c138
      refine k_st (st' := [.inr (.inr (some a130))]) rfl ?_
      refine k_areturn ?_
      have X141 : ExC [0, 1, 2, 60, 61, 62, 63, 64, 65, 66, 67, 68, 69, 70, 72, 73, 74, 75, 76, 242, 243, 244, 999] σ0 σ128 := X123.tr (e132.mo (by decide))
      have R142 : RdC p0 none (-6) (8 + 8 * (d : Int)) (-998) σ0 σ128 := R120.tr ⟨R133.1, R133.2⟩ (by omega) (by omega) (by omega) (by omega)
      have S153 : ∀ s, ReC σ0 p0 s → ReC σ128 p0 (alnY (oY ((d + 1) - 1)) s) := by
        intro s hs
        have f143 := q24 _ hs
        have y144 := q36 _ hs
        have y146 := q55 _ y144
        have y148 := q86 _ y146
        have y150 := y148.x H81.1 t92 e108 (by decide)
        have y151 := q136 _ y150
        refine y151.eq ?_
        try unfold alnY
        repeat (split <;> try (exfalso; omega))
        try unfold tkY
        repeat (split <;> try (exfalso; omega))
        try unfold dpY
        repeat (split <;> try (exfalso; omega))
        all_goals rfl
      exact ⟨_, rfl, H131, X141, h134, (R142.mo (by omega) (by omega) (by omega)), (by omega), S153⟩
    · refine k_nil ?_
      refine hB _ _ _ _ (kgoC (is := KX7_readAlone_34) rfl ?_)
      refine k_aload_n rfl ?_
      refine k_get kg72 t110 (congrArg (fun z : Option Nat => (Sum.inr (Sum.inr z) : AvC)) c109) ?_
      have t154 := h84.x e108
      obtain ⟨x157, e155, c156, h158, h159⟩ := cg60 H107.1 t154
      refine k_get kg60 t154 e155 ?_
      refine k_if_ne (fun h160 => ?_) (fun h160 => ?_)
      · refine hB _ _ _ _ (kgoC (is := KX7_readAlone_52) rfl ?_)
        refine k_aload_n rfl ?_
        refine k_aload_n rfl ?_
        have t161 := t92.x e108
        have R162 : RdC p0 none (-7) (7 + 8 * (d : Int)) (-999) σ0 σ106 := R101.tr ⟨(e108.gw H81.1 (by decide)), (e108.cou (u := 0) H81.1 t92 (by decide) (by rw [e108.cn (by decide)]; omega))⟩ (by omega) (by omega) (by omega) (by omega)
        have c163 := (t92.mi e108 (by decide)).trans c95
        have X164 : ExC [0, 1, 2, 60, 61, 62, 63, 64, 65, 66, 67, 68, 69, 70, 72, 73, 74, 75, 76, 242, 243, 244, 999] σ0 σ78 := X76.tr (e82.mo (by decide))
        have X165 : ExC [0, 1, 2, 60, 61, 62, 63, 64, 65, 66, 67, 68, 69, 70, 72, 73, 74, 75, 76, 242, 243, 244, 999] σ0 σ106 := X164.tr (e108.mo (by decide))
        have c166 := (t92.mi e108 (by decide)).trans c89
        have z167 := congrArg Int32.toInt c166
        have z168 := congrArg Int32.toInt c163
        refine k_inv (P := P_X7_put) (Q := Q_X7_put) rfl rfl rfl rfl (Nat.le_of_ble_eq_true rfl) (t161.rc (by decide)) ⟨_, _, rfl, H107, t161, t110, (rd_cd.st H0 h_0_0 X165 R162.1 (by decide)), (R162.2.2.2.1 rd_at), (rd_bg.st H0 h_0_0 X165 R162 (by decide) (by omega) (by omega) (by omega))⟩ (fun w169 σ170 q171 => ?_)
        obtain ⟨a172, rfl, H173, e174, h176, R175, q177, q178⟩ := q171
        have c179 := (t161.mi e174 (by decide)).trans c166
        have c180 := (t161.mi e174 (by decide)).trans c163
        have z181 := congrArg Int32.toInt c179
        have z182 := congrArg Int32.toInt c180
        refine k_st (st' := [.inr (.inr (some a172))]) rfl ?_
        refine k_areturn ?_
        have X183 : ExC [0, 1, 2, 60, 61, 62, 63, 64, 65, 66, 67, 68, 69, 70, 72, 73, 74, 75, 76, 242, 243, 244, 999] σ0 σ170 := X165.tr (e174.mo (by decide))
        have R184 : RdC p0 none (-6) (8 + 8 * (d : Int)) (-998) σ0 σ170 := R162.tr ⟨R175.1, R175.2⟩ (by omega) (by omega) (by omega) (by omega)
        have S195 : ∀ s, ReC σ0 p0 s → ReC σ170 p0 (alnY (oY ((d + 1) - 1)) s) := by
          intro s hs
          have f185 := q24 _ hs
          have y186 := q36 _ hs
          have y188 := q55 _ y186
          have y190 := q86 _ y188
          have y192 := y190.x H81.1 t92 e108 (by decide)
          have y193 := q178 _ y192
          refine y193.eq ?_
          try unfold alnY
          repeat (split <;> try (exfalso; omega))
          try unfold tkY
          repeat (split <;> try (exfalso; omega))
          try unfold dpY
          repeat (split <;> try (exfalso; omega))
          all_goals rfl
        exact ⟨_, rfl, H173, X183, h176, (R184.mo (by omega) (by omega) (by omega)), (by omega), S195⟩
      · refine k_nil ?_
        refine hB _ _ _ _ (kgoC (is := KX7_readAlone_44) rfl ?_)
        refine k_aload_n rfl ?_
        refine k_get kg72 t110 (congrArg (fun z : Option Nat => (Sum.inr (Sum.inr z) : AvC)) c109) ?_
        refine k_iconst (m := 1) rfl (fun x196 h197 => ?_)
        refine k_putI kp67 H107 t154 (Or.inl fk67) (tiC x196).1 (tiC x196).2 (fun σ198 H199 e200 c201 => ?_)
        refine k_nil ?_
        refine hB _ _ _ _ (kgoC (is := KX7_readAlone_52) rfl ?_)
        refine k_aload_n rfl ?_
        refine k_aload_n rfl ?_
        have t202 := t92.x e108
        have t203 := t202.x e200
        have t204 := t110.x e200
        have R205 : RdC p0 none (-7) (7 + 8 * (d : Int)) (-999) σ0 σ106 := R101.tr ⟨(e108.gw H81.1 (by decide)), (e108.cou (u := 0) H81.1 t92 (by decide) (by rw [e108.cn (by decide)]; omega))⟩ (by omega) (by omega) (by omega) (by omega)
        have R206 : RdC p0 none (-7) (7 + 8 * (d : Int)) (-999) σ0 σ198 := R205.tr ⟨(e200.gw H107.1 (by decide)), (e200.cou (u := 0) H107.1 t202 (by decide) (by rw [e200.cn (by decide)]; omega))⟩ (by omega) (by omega) (by omega) (by omega)
        have c207 := (t92.mi e108 (by decide)).trans c95
        have c208 := (t202.mi e200 (by decide)).trans c207
        have X209 : ExC [0, 1, 2, 60, 61, 62, 63, 64, 65, 66, 67, 68, 69, 70, 72, 73, 74, 75, 76, 242, 243, 244, 999] σ0 σ78 := X76.tr (e82.mo (by decide))
        have X210 : ExC [0, 1, 2, 60, 61, 62, 63, 64, 65, 66, 67, 68, 69, 70, 72, 73, 74, 75, 76, 242, 243, 244, 999] σ0 σ106 := X209.tr (e108.mo (by decide))
        have X211 : ExC [0, 1, 2, 60, 61, 62, 63, 64, 65, 66, 67, 68, 69, 70, 72, 73, 74, 75, 76, 242, 243, 244, 999] σ0 σ198 := X210.tr (e200.mo (by decide))
        have c212 := (t92.mi e108 (by decide)).trans c89
        have c213 := (t202.mi e200 (by decide)).trans c212
        have z214 := congrArg Int32.toInt c213
        have z215 := congrArg Int32.toInt c208
        refine k_inv (P := P_X7_put) (Q := Q_X7_put) rfl rfl rfl rfl (Nat.le_of_ble_eq_true rfl) (t203.rc (by decide)) ⟨_, _, rfl, H199, t203, t204, (rd_cd.st H0 h_0_0 X211 R206.1 (by decide)), (R206.2.2.2.1 rd_at), (rd_bg.st H0 h_0_0 X211 R206 (by decide) (by omega) (by omega) (by omega))⟩ (fun w216 σ217 q218 => ?_)
        obtain ⟨a219, rfl, H220, e221, h223, R222, q224, q225⟩ := q218
        have c226 := (t203.mi e221 (by decide)).trans c213
        have c227 := (t203.mi e221 (by decide)).trans c208
        have z228 := congrArg Int32.toInt c226
        have z229 := congrArg Int32.toInt c227
        refine k_st (st' := [.inr (.inr (some a219))]) rfl ?_
        refine k_areturn ?_
        have X230 : ExC [0, 1, 2, 60, 61, 62, 63, 64, 65, 66, 67, 68, 69, 70, 72, 73, 74, 75, 76, 242, 243, 244, 999] σ0 σ217 := X211.tr (e221.mo (by decide))
        have R231 : RdC p0 none (-6) (8 + 8 * (d : Int)) (-998) σ0 σ217 := R206.tr ⟨R222.1, R222.2⟩ (by omega) (by omega) (by omega) (by omega)
        have S243 : ∀ s, ReC σ0 p0 s → ReC σ217 p0 (alnY (oY ((d + 1) - 1)) s) := by
          intro s hs
          have f232 := q24 _ hs
          have y233 := q36 _ hs
          have y235 := q55 _ y233
          have y237 := q86 _ y235
          have y239 := y237.x H81.1 t92 e108 (by decide)
          have y240 := y239.x H107.1 t202 e200 (by decide)
          have y241 := q225 _ y240
          refine y241.eq ?_
          try unfold alnY
          repeat (split <;> try (exfalso; omega))
          try unfold tkY
          repeat (split <;> try (exfalso; omega))
          try unfold dpY
          repeat (split <;> try (exfalso; omega))
          all_goals rfl
        exact ⟨_, rfl, H220, X230, h223, (R231.mo (by omega) (by omega) (by omega)), (by omega), S243⟩
theorem lg_X7_readAlone (d : Nat) : ∀ (As : List AvC) (σ : CsC), (P_X7_readAlone (d + 1)) As σ → lgC As ≤ rX7_readAlone.2.2.1 := by
  rintro As σ ⟨p0, p1, rfl, -⟩
  exact Nat.le_of_ble_eq_true rfl
theorem s_X7_readAlone (l : Launch) (d : Nat) (h_X7_readInnerOperand : CMetC l (13 * d + 34) 171 (P_X7_readInnerOperand d) (Q_X7_readInnerOperand d)) : CMetC l (13 * (d + 1) + 31) 172 (P_X7_readAlone (d + 1)) (Q_X7_readAlone (d + 1)) :=
  CMetC.of KX7_readAlone [(125, P_X7_code, Q_X7_code), (162, P_X7_opened, Q_X7_opened), (128, P_X7_accept, Q_X7_accept), (171, (P_X7_readInnerOperand d), (Q_X7_readInnerOperand d)), (161, P_X7_put, Q_X7_put)] hX7_readAlone (by decide) (by omega) okX7_readAlone (cc1C (m_X7_code l) (by omega) (cc1C (m_X7_opened l) (by omega) (cc1C (m_X7_accept l) (by omega) (cc1C h_X7_readInnerOperand (by omega) (cc1C (m_X7_put l) (by omega) cc0C))))) (lg_X7_readAlone d) (b_X7_readAlone d)

set_option maxRecDepth 100000 in
set_option maxHeartbeats 4000000 in
theorem b_X7_readBehindOpen (d : Nat) : TbC KX7_readBehindOpen [(234, P_Jx4a65c_size_8abf5, Q_Jx4a65c_size_8abf5), (128, P_X7_accept, Q_X7_accept), (125, P_X7_code, Q_X7_code), (132, P_X7_isType, Q_X7_isType), (17, P_X1_init, Q_X1_init), (164, (P_X7_readExp d), (Q_X7_readExp d)), (129, P_X7_expect, Q_X7_expect), (161, P_X7_put, Q_X7_put), (136, P_X7_readType, Q_X7_readType), (171, (P_X7_readInnerOperand d), (Q_X7_readInnerOperand d))] (P_X7_readBehindOpen (d + 1)) (Q_X7_readBehindOpen (d + 1)) := by
  · rintro As σ0 ⟨p0, p1, rfl, H0, h_0_0, h_1_0, h_1_1, rd_cd, rd_at, rd_bl, rd_lv, rd_tk, rd_dp⟩ hgr G hB hW
    change G 0 [(0, .inr (.inr (some p0))), (1, .inl p1)] [] σ0
    obtain ⟨x1, e2, c3, h4, h5⟩ := cg242 H0.1 h_0_0
    obtain ⟨x6, e7, c8, h9, h10⟩ := cg243 H0.1 h_0_0
    have z11 := congrArg Int32.toInt c3
    have z12 := congrArg Int32.toInt c8
    have h13 : x6.toInt = 0 := by rw [← c8]; exact rd_lv
    have rd_bg : BgC σ0 p0 (14 + 8 * (((d + 1) : Nat) : Int)) 1000000 := ⟨fun _ => rd_bl, fun z => absurd rd_lv z⟩
    refine hB _ _ _ _ (kgoC (is := KX7_readBehindOpen_0) rfl ?_)
    refine k_aload_n rfl ?_
    refine k_get kg242 h_0_0 (congrArg (Sum.inl : Int32 → AvC) c3) ?_
    refine k_istore_n (ls' := [(2, .inl x1), (0, .inr (.inr (some p0))), (1, .inl p1)]) rfl ?_
    refine k_aload_n rfl ?_
    obtain ⟨a16, e14, c15, t17⟩ := cg240 H0.1 h_0_0
    refine k_get kg240 h_0_0 e14 ?_
    obtain ⟨a20, e18, c19, t21, l22⟩ := cg213 H0.1 t17
    refine k_get kg213 t17 e18 ?_
    refine k_inv (P := P_Jx4a65c_size_8abf5) (Q := Q_Jx4a65c_size_8abf5) rfl rfl rfl rfl (Nat.le_of_ble_eq_true rfl) (t21.rc (by decide)) ⟨_, rfl, H0, t21⟩ (fun w23 σ24 q25 => ?_)
    obtain ⟨x26, rfl, rfl, h27, h28, q29, q30⟩ := q25
    refine k_st (st' := [.inl x26]) rfl ?_
    refine k_istore_n (ls' := [(3, .inl x26), (2, .inl x1), (0, .inr (.inr (some p0))), (1, .inl p1)]) rfl ?_
    refine k_aload_n rfl ?_
    have R31 := (RdC.rf : RdC p0 none 0 0 0 σ0 σ0).nf (-1000) (-1000) (by rw [c8]; omega)
    refine k_inv (P := P_X7_accept) (Q := Q_X7_accept) rfl rfl rfl rfl (Nat.le_of_ble_eq_true rfl) (h_0_0.rc (by decide)) ⟨_, rfl, H0, h_0_0, (rd_cd.st H0 h_0_0 (ExC.rf : ExC [0, 1, 2, 60, 61, 62, 63, 64, 65, 66, 67, 68, 69, 70, 72, 73, 74, 75, 76, 242, 243, 244, 999] σ0 σ0) R31.1 (by decide)), (R31.2.2.2.1 rd_at), (rd_bg.stn H0 h_0_0 (ExC.rf : ExC [0, 1, 2, 60, 61, 62, 63, 64, 65, 66, 67, 68, 69, 70, 72, 73, 74, 75, 76, 242, 243, 244, 999] σ0 σ0) R31 (by decide) (by rw [c8]; omega) (by omega)), (by have ct := R31.2.2.1; rw [c8, c3, ct]; omega)⟩ (fun w32 σ33 q34 => ?_)
    obtain ⟨rfl, H35, e36, R37, q38, q39⟩ := q34
    have t45 := h_0_0.x e36
    obtain ⟨x40, e41, c42, h43, h44⟩ := cg242 H35.1 t45
    obtain ⟨x46, e47, c48, h49, h50⟩ := cg243 H35.1 t45
    have z51 := congrArg Int32.toInt c42
    have z52 := congrArg Int32.toInt c48
    refine k_st (st' := []) rfl ?_
    have R53 : RdC p0 none (-8) (0) (-1000) σ0 σ33 := R31.tr ⟨R37.1, R37.2⟩ (by omega) (by omega) (by omega) (by omega)
    have z54 := R53.2.2.1
    have z55 := R53.2.2.2.1 rd_at
    refine k_aload_n rfl ?_
    have X56 : ExC [0, 1, 2, 60, 61, 62, 63, 64, 65, 66, 67, 68, 69, 70, 72, 73, 74, 75, 76, 242, 243, 244, 999] σ0 σ33 := ExC.rf.tr (e36.mo (by decide))
    refine k_inv (P := P_X7_code) (Q := Q_X7_code) rfl rfl rfl rfl (Nat.le_of_ble_eq_true rfl) (t45.rc (by decide)) ⟨_, rfl, H35, t45, (rd_cd.st H0 h_0_0 X56 R53.1 (by decide))⟩ (fun w57 σ58 q59 => ?_)
    obtain ⟨x60, rfl, rfl, q61, q62, q63, q64⟩ := q59
    refine k_st (st' := [.inl x60]) rfl ?_
    refine k_stat (P := P_X7_isType) (Q := Q_X7_isType) rfl rfl (Nat.le_of_ble_eq_true rfl) rfl rfl (Nat.le_of_ble_eq_true rfl) ⟨_, rfl, H35⟩ (fun w65 σ66 q67 => ?_)
    obtain ⟨x68, rfl, rfl, h69, h70, q71, q72⟩ := q67
    refine k_st (st' := [.inl x68]) rfl ?_
    rcases (by omega : x68.toInt = 0 ∨ x68.toInt = 1) with g73 | g73
    · refine k_if_eq (fun h74 => ?_) (fun h74 => by exfalso; omega)
      refine hB _ _ _ _ (kgoC (is := KX7_readBehindOpen_76) rfl ?_)
      have B75 : BgC σ33 p0 1 1 := rd_bg.st H0 h_0_0 X56 R53 (by decide) (by omega) (by omega) (by omega)
      obtain ⟨h76, h77⟩ := B75.new H35.1 t45 (u := 1) (by omega) (by omega)
      have z78 := R53.1.1
      refine k_new (c := 2) (g := 0) H35 (by decide) rfl (by omega) (by have hn : nfC 2 = 18 := rfl; omega) (fun a79 σ80 q81 H82 e83 r84 z85 l86 u87 u88 => ?_)
      rw [show nfC 2 = 18 from rfl] at u88
      have u89 : cpC σ80 = cpC σ33 := congrArg Prod.fst e83.2.1.1
      have u90 : spC σ80 = spC σ33 := congrArg Prod.snd e83.2.1.1
      refine k_dupR ?_
      refine k_iconst (m := 3) rfl (fun x91 h92 => ?_)
      refine k_iconst (m := 0) rfl (fun x93 h94 => ?_)
      refine k_iload_n rfl ?_
      refine k_iload_n rfl ?_
      refine k_spec (P := P_X1_init) (Q := Q_X1_init) rfl rfl rfl rfl (Nat.le_of_ble_eq_true rfl) ⟨_, _, _, _, _, rfl, H82, r84, z85, (by omega), (by omega), (by omega), (by omega), (by omega)⟩ (fun w95 σ96 q97 => ?_)
      have t105 := t45.x e83
      obtain ⟨rfl, H98, e99, t100, t100', l101, u102, u103, g104, q107, q108, q109, q110⟩ := q97
      have l106 := l101.trans l86
      have c111 := (t45.mi e83 (by decide)).trans c42
      have c112 := (t105.mit r84 (by decide) e99 (by decide)).trans c111
      have c113 := (t45.mi e83 (by decide)).trans c48
      have c114 := (t105.mit r84 (by decide) e99 (by decide)).trans c113
      have z115 := congrArg Int32.toInt c112
      have z116 := congrArg Int32.toInt c114
      refine k_st (st' := [.inr (.inr (some a79))]) rfl ?_
      have t117 : TyC σ96 a79 2 := ⟨t100, t100', fun _ hz => by have z1 := congrArg Int32.toInt (q107.symm.trans hz.1); have z2 : (7 : Int32).toInt = 7 := rfl; omega⟩
      refine k_astore (ls' := [(4, .inr (.inr (some a79))), (3, .inl x26), (2, .inl x1), (0, .inr (.inr (some p0))), (1, .inl p1)]) rfl ?_
      refine k_aload rfl ?_
      refine k_aload_n rfl ?_
      refine k_iload_n rfl ?_
      refine k_iconst (m := 1) rfl (fun x118 h119 => ?_)
      refine k_iadd (by omega) (by omega) (fun x120 h121 => ?_)
      have t122 := t105.xt r84 (by decide) e99
      have R123 : RdC p0 none (-7) (1) (-999) σ0 σ80 := R53.tr ⟨(e83.gwn H35.1 u87 u88 (by decide) (by rw [← q81]; exact r84.n0)), (e83.cou (u := 1) H35.1 t45 (by decide) (by omega))⟩ (by omega) (by omega) (by omega) (by omega)
      have R124 : RdC p0 none (-7) (1) (-999) σ0 σ96 := R123.tr ⟨g104, (e99.co (u := 0) H82.1 t105 r84 (by decide) (by omega))⟩ (by omega) (by omega) (by omega) (by omega)
      have X125 : ExC [0, 1, 2, 60, 61, 62, 63, 64, 65, 66, 67, 68, 69, 70, 72, 73, 74, 75, 76, 242, 243, 244, 999] σ33 σ80 := ExC.rf.tr (e83.mo (by decide))
      have X126 : ExC [0, 1, 2, 60, 61, 62, 63, 64, 65, 66, 67, 68, 69, 70, 72, 73, 74, 75, 76, 242, 243, 244, 999] σ33 σ96 := (X125 : ExC [0, 1, 2, 60, 61, 62, 63, 64, 65, 66, 67, 68, 69, 70, 72, 73, 74, 75, 76, 242, 243, 244, 999] σ33 σ80).nt (Nat.le_of_eq q81.symm) (e99.mo (by decide))
      have X127 : ExC [0, 1, 2, 60, 61, 62, 63, 64, 65, 66, 67, 68, 69, 70, 72, 73, 74, 75, 76, 242, 243, 244, 999] σ0 σ96 := X56.tr X126
      refine k_inv (P := (P_X7_readExp d)) (Q := (Q_X7_readExp d)) rfl rfl rfl rfl (Nat.le_of_ble_eq_true rfl) (t122.rc (by decide)) ⟨_, _, rfl, H98, t122, (by omega), (by omega), (rd_cd.st H0 h_0_0 X127 R124.1 (by decide)), (R124.2.2.2.1 rd_at), (rd_bg.st H0 h_0_0 X127 R124 (by decide) (by omega) (by omega) (by omega)), (by omega)⟩ (fun w128 σ129 q130 => ?_)
      obtain ⟨a131, rfl, H132, e133, h135, R134, q136, q137⟩ := q130
      have t143 := t122.x e133
      obtain ⟨x138, e139, c140, h141, h142⟩ := cg242 H132.1 t143
      obtain ⟨x144, e145, c146, h147, h148⟩ := cg243 H132.1 t143
      have z149 := congrArg Int32.toInt c140
      have z150 := congrArg Int32.toInt c146
      refine k_st (st' := [.inr (.inr (some a131)), .inr (.inr (some a79))]) rfl ?_
      have z151 := R124.1.1
      have R152 : RdC p0 none (-7) (13 + 8 * (d : Int)) (-998) σ0 σ129 := R124.tr ⟨R134.1, R134.2⟩ (by omega) (by omega) (by omega) (by omega)
      have z153 := R152.2.2.1
      have z154 := R152.2.2.2.1 rd_at
      have t155 := t117.x e133
      refine k_putR kp72 H132 t155 fk72 (rf72 h135) (fun σ156 H157 e158 c159 => ?_)
      refine k_aload_n rfl ?_
      refine k_iconst (m := 1) rfl (fun x160 h161 => ?_)
      have t162 := t143.x e158
      have R163 : RdC p0 none (-7) (13 + 8 * (d : Int)) (-998) σ0 σ156 := R152.tr ⟨(e158.gw H132.1 (by decide)), (e158.cou (u := 0) H132.1 t143 (by decide) (by rw [e158.cn (by decide)]; omega))⟩ (by omega) (by omega) (by omega) (by omega)
      have c164 := (t143.mi e158 (by decide)).trans c146
      have X165 : ExC [0, 1, 2, 60, 61, 62, 63, 64, 65, 66, 67, 68, 69, 70, 72, 73, 74, 75, 76, 242, 243, 244, 999] σ0 σ129 := X127.tr (e133.mo (by decide))
      have X166 : ExC [0, 1, 2, 60, 61, 62, 63, 64, 65, 66, 67, 68, 69, 70, 72, 73, 74, 75, 76, 242, 243, 244, 999] σ0 σ156 := X165.tr (e158.mo (by decide))
      have c167 := (t143.mi e158 (by decide)).trans c140
      have z168 := congrArg Int32.toInt c167
      have z169 := congrArg Int32.toInt c164
      refine k_inv (P := P_X7_expect) (Q := Q_X7_expect) rfl rfl rfl rfl (Nat.le_of_ble_eq_true rfl) (t162.rc (by decide)) ⟨_, _, rfl, H157, t162, (by omega), (by omega), (rd_cd.st H0 h_0_0 X166 R163.1 (by decide)), (R163.2.2.2.1 rd_at), (rd_bg.st H0 h_0_0 X166 R163 (by decide) (by omega) (by omega) (by omega))⟩ (fun w170 σ171 q172 => ?_)
      obtain ⟨rfl, H173, e174, R175, q176, q177⟩ := q172
      have t183 := t162.x e174
      obtain ⟨x178, e179, c180, h181, h182⟩ := cg242 H173.1 t183
      obtain ⟨x184, e185, c186, h187, h188⟩ := cg243 H173.1 t183
      have z189 := congrArg Int32.toInt c180
      have z190 := congrArg Int32.toInt c186
      refine k_st (st' := []) rfl ?_
      have R191 : RdC p0 none (-15) (13 + 8 * (d : Int)) (-998) σ0 σ171 := R163.tr ⟨R175.1, R175.2⟩ (by omega) (by omega) (by omega) (by omega)
      have z192 := R191.2.2.1
      have z193 := R191.2.2.2.1 rd_at
      refine k_aload_n rfl ?_
      refine k_aload rfl ?_
      have t194 := t155.x e158
      have t195 := t194.x e174
      have X196 : ExC [0, 1, 2, 60, 61, 62, 63, 64, 65, 66, 67, 68, 69, 70, 72, 73, 74, 75, 76, 242, 243, 244, 999] σ0 σ171 := X166.tr (e174.mo (by decide))
      refine k_inv (P := P_X7_put) (Q := Q_X7_put) rfl rfl rfl rfl (Nat.le_of_ble_eq_true rfl) (t183.rc (by decide)) ⟨_, _, rfl, H173, t183, t195, (rd_cd.st H0 h_0_0 X196 R191.1 (by decide)), (R191.2.2.2.1 rd_at), (rd_bg.st H0 h_0_0 X196 R191 (by decide) (by omega) (by omega) (by omega))⟩ (fun w197 σ198 q199 => ?_)
      obtain ⟨a200, rfl, H201, e202, h204, R203, q205, q206⟩ := q199
      have c207 := (t183.mi e202 (by decide)).trans c180
      have c208 := (t183.mi e202 (by decide)).trans c186
      have z209 := congrArg Int32.toInt c207
      have z210 := congrArg Int32.toInt c208
      refine k_st (st' := [.inr (.inr (some a200))]) rfl ?_
      refine k_areturn ?_
      have X211 : ExC [0, 1, 2, 60, 61, 62, 63, 64, 65, 66, 67, 68, 69, 70, 72, 73, 74, 75, 76, 242, 243, 244, 999] σ0 σ198 := X196.tr (e202.mo (by decide))
      have R212 : RdC p0 none (-14) (14 + 8 * (d : Int)) (-997) σ0 σ198 := R191.tr ⟨R203.1, R203.2⟩ (by omega) (by omega) (by omega) (by omega)
      have S226 : ∀ s, ReC σ0 p0 s → ReC σ198 p0 (opnY (oY ((d + 1) - 1)) (eY ((d + 1) - 1)) s) := by
        intro s hs
        have f213 := hs.at_ c3
        have y214 := q39 _ hs
        have f216 := q64 _ y214
        have y217 := y214.x H35.1 t45 e83 (by decide)
        have y218 := y217.xt H82.1 t105 r84 e99 (by decide)
        have y219 := q137 _ y218
        have y221 := y219.x H132.1 t143 e158 (by decide)
        have y222 := q177 _ y221
        rw [h161] at y222
        have y224 := q206 _ y222
        refine y224.eq ?_
        try unfold opnY
        repeat (split <;> try (exfalso; omega))
        try unfold op2Y
        repeat (split <;> try (exfalso; omega))
        try unfold tkY
        repeat (split <;> try (exfalso; omega))
        try unfold dpY
        repeat (split <;> try (exfalso; omega))
        all_goals rfl
      exact ⟨_, rfl, H201, X211, h204, (R212.mo (by omega) (by omega) (by omega)), (by omega), S226⟩
    · have h227 := q71 (by omega)
      have h228 : x46.toInt = 0 := by omega
      refine k_if_eq (fun h229 => by exfalso; omega) (fun h229 => ?_)
      refine k_nil ?_
      refine hB _ _ _ _ (kgoC (is := KX7_readBehindOpen_30) rfl ?_)
      have R230 := R53.nf (-1000) (-1000) (by rw [c48]; omega)
      have B231 : BgC σ33 p0 1 1 := rd_bg.stn H0 h_0_0 X56 R230 (by decide) (by rw [c48]; omega) (by omega)
      obtain ⟨h232, h233⟩ := B231.new H35.1 t45 (u := 1) (by omega) (by omega)
      have z234 := R230.1.1
      refine k_new (c := 2) (g := 0) H35 (by decide) rfl (by omega) (by have hn : nfC 2 = 18 := rfl; omega) (fun a235 σ236 q237 H238 e239 r240 z241 l242 u243 u244 => ?_)
      rw [show nfC 2 = 18 from rfl] at u244
      have u245 : cpC σ236 = cpC σ33 := congrArg Prod.fst e239.2.1.1
      have u246 : spC σ236 = spC σ33 := congrArg Prod.snd e239.2.1.1
      refine k_dupR ?_
      refine k_iconst (m := 5) rfl (fun x247 h248 => ?_)
      refine k_iconst (m := 0) rfl (fun x249 h250 => ?_)
      refine k_iload_n rfl ?_
      refine k_iload_n rfl ?_
      refine k_spec (P := P_X1_init) (Q := Q_X1_init) rfl rfl rfl rfl (Nat.le_of_ble_eq_true rfl) ⟨_, _, _, _, _, rfl, H238, r240, z241, (by omega), (by omega), (by omega), (by omega), (by omega)⟩ (fun w251 σ252 q253 => ?_)
      have t261 := t45.x e239
      obtain ⟨rfl, H254, e255, t256, t256', l257, u258, u259, g260, q263, q264, q265, q266⟩ := q253
      have l262 := l257.trans l242
      have c267 := (t45.mi e239 (by decide)).trans c42
      have c268 := (t261.mit r240 (by decide) e255 (by decide)).trans c267
      have c269 := (t45.mi e239 (by decide)).trans c48
      have c270 := (t261.mit r240 (by decide) e255 (by decide)).trans c269
      have z271 := congrArg Int32.toInt c268
      have z272 := congrArg Int32.toInt c270
      refine k_st (st' := [.inr (.inr (some a235))]) rfl ?_
      have t273 : TyC σ252 a235 2 := ⟨t256, t256', fun _ hz => by have z1 := congrArg Int32.toInt (q263.symm.trans hz.1); have z2 : (7 : Int32).toInt = 7 := rfl; omega⟩
      refine k_astore (ls' := [(4, .inr (.inr (some a235))), (3, .inl x26), (2, .inl x1), (0, .inr (.inr (some p0))), (1, .inl p1)]) rfl ?_
      refine k_aload rfl ?_
      refine k_aload_n rfl ?_
      have t274 := t261.xt r240 (by decide) e255
      have R275 : RdC p0 none (-7) (-7) (-999) σ0 σ236 := R230.tr ⟨(e239.gwn H35.1 u243 u244 (by decide) (by rw [← q237]; exact r240.n0)), (e239.cou (u := 1) H35.1 t45 (by decide) (by omega))⟩ (by omega) (by omega) (by omega) (by omega)
      have R276 : RdC p0 none (-7) (-7) (-999) σ0 σ252 := R275.tr ⟨g260, (e255.co (u := 0) H238.1 t261 r240 (by decide) (by omega))⟩ (by omega) (by omega) (by omega) (by omega)
      have R277 := R276.nf (-1000) (-1000) (by rw [c270]; omega)
      have X278 : ExC [0, 1, 2, 60, 61, 62, 63, 64, 65, 66, 67, 68, 69, 70, 72, 73, 74, 75, 76, 242, 243, 244, 999] σ33 σ236 := ExC.rf.tr (e239.mo (by decide))
      have X279 : ExC [0, 1, 2, 60, 61, 62, 63, 64, 65, 66, 67, 68, 69, 70, 72, 73, 74, 75, 76, 242, 243, 244, 999] σ33 σ252 := (X278 : ExC [0, 1, 2, 60, 61, 62, 63, 64, 65, 66, 67, 68, 69, 70, 72, 73, 74, 75, 76, 242, 243, 244, 999] σ33 σ236).nt (Nat.le_of_eq q237.symm) (e255.mo (by decide))
      have X280 : ExC [0, 1, 2, 60, 61, 62, 63, 64, 65, 66, 67, 68, 69, 70, 72, 73, 74, 75, 76, 242, 243, 244, 999] σ0 σ252 := X56.tr X279
      refine k_inv (P := P_X7_readType) (Q := Q_X7_readType) rfl rfl rfl rfl (Nat.le_of_ble_eq_true rfl) (t274.rc (by decide)) ⟨_, rfl, H254, t274, (rd_cd.st H0 h_0_0 X280 R277.1 (by decide)), (R277.2.2.2.1 rd_at), (rd_bg.stn H0 h_0_0 X280 R277 (by decide) (by rw [c270]; omega) (by omega))⟩ (fun w281 σ282 q283 => ?_)
      obtain ⟨x284, rfl, H285, e286, R287, q288⟩ := q283
      have t294 := t274.x e286
      obtain ⟨x289, e290, c291, h292, h293⟩ := cg242 H285.1 t294
      obtain ⟨x295, e296, c297, h298, h299⟩ := cg243 H285.1 t294
      have z300 := congrArg Int32.toInt c291
      have z301 := congrArg Int32.toInt c297
      refine k_st (st' := [.inl x284, .inr (.inr (some a235))]) rfl ?_
      have t302 := t273.x e286
      refine k_putI kp69 H285 t302 (Or.inl fk69) (tiC x284).1 (tiC x284).2 (fun σ303 H304 e305 c306 => ?_)
      refine k_aload_n rfl ?_
      refine k_iconst (m := 1) rfl (fun x307 h308 => ?_)
      have t309 := t294.x e305
      have R310 : RdC p0 none (-15) (-7) (-1000) σ0 σ282 := R277.tr ⟨R287.1, R287.2⟩ (by omega) (by omega) (by omega) (by omega)
      have R311 : RdC p0 none (-15) (-7) (-1000) σ0 σ303 := R310.tr ⟨(e305.gw H285.1 (by decide)), (e305.cou (u := 0) H285.1 t294 (by decide) (by rw [e305.cn (by decide)]; omega))⟩ (by omega) (by omega) (by omega) (by omega)
      have c312 := (t294.mi e305 (by decide)).trans c297
      have X313 : ExC [0, 1, 2, 60, 61, 62, 63, 64, 65, 66, 67, 68, 69, 70, 72, 73, 74, 75, 76, 242, 243, 244, 999] σ0 σ282 := X280.tr (e286.mo (by decide))
      have X314 : ExC [0, 1, 2, 60, 61, 62, 63, 64, 65, 66, 67, 68, 69, 70, 72, 73, 74, 75, 76, 242, 243, 244, 999] σ0 σ303 := X313.tr (e305.mo (by decide))
      have c315 := (t294.mi e305 (by decide)).trans c291
      have z316 := congrArg Int32.toInt c315
      have z317 := congrArg Int32.toInt c312
      refine k_inv (P := P_X7_expect) (Q := Q_X7_expect) rfl rfl rfl rfl (Nat.le_of_ble_eq_true rfl) (t309.rc (by decide)) ⟨_, _, rfl, H304, t309, (by omega), (by omega), (rd_cd.st H0 h_0_0 X314 R311.1 (by decide)), (R311.2.2.2.1 rd_at), (rd_bg.st H0 h_0_0 X314 R311 (by decide) (by omega) (by omega) (by omega))⟩ (fun w318 σ319 q320 => ?_)
      obtain ⟨rfl, H321, e322, R323, q324, q325⟩ := q320
      have t331 := t309.x e322
      obtain ⟨x326, e327, c328, h329, h330⟩ := cg242 H321.1 t331
      obtain ⟨x332, e333, c334, h335, h336⟩ := cg243 H321.1 t331
      have z337 := congrArg Int32.toInt c328
      have z338 := congrArg Int32.toInt c334
      refine k_st (st' := []) rfl ?_
      have R339 : RdC p0 none (-23) (-7) (-1000) σ0 σ319 := R311.tr ⟨R323.1, R323.2⟩ (by omega) (by omega) (by omega) (by omega)
      have z340 := R339.2.2.1
      have z341 := R339.2.2.2.1 rd_at
      refine k_aload rfl ?_
      refine k_aload_n rfl ?_
      refine k_iload_n rfl ?_
      refine k_iconst (m := 1) rfl (fun x342 h343 => ?_)
      refine k_iadd (by omega) (by omega) (fun x344 h345 => ?_)
      have X346 : ExC [0, 1, 2, 60, 61, 62, 63, 64, 65, 66, 67, 68, 69, 70, 72, 73, 74, 75, 76, 242, 243, 244, 999] σ0 σ319 := X314.tr (e322.mo (by decide))
      refine k_inv (P := (P_X7_readInnerOperand d)) (Q := (Q_X7_readInnerOperand d)) rfl rfl rfl rfl (Nat.le_of_ble_eq_true rfl) (t331.rc (by decide)) ⟨_, _, rfl, H321, t331, (by omega), (by omega), (rd_cd.st H0 h_0_0 X346 R339.1 (by decide)), (R339.2.2.2.1 rd_at), (rd_bg.st H0 h_0_0 X346 R339 (by decide) (by omega) (by omega) (by omega)), (by omega)⟩ (fun w347 σ348 q349 => ?_)
      obtain ⟨a350, rfl, H351, e352, h354, R353, q355, q356⟩ := q349
      have t362 := t331.x e352
      obtain ⟨x357, e358, c359, h360, h361⟩ := cg242 H351.1 t362
      obtain ⟨x363, e364, c365, h366, h367⟩ := cg243 H351.1 t362
      have z368 := congrArg Int32.toInt c359
      have z369 := congrArg Int32.toInt c365
      refine k_st (st' := [.inr (.inr (some a350)), .inr (.inr (some a235))]) rfl ?_
      have z370 := R339.1.1
      have R371 : RdC p0 none (-23) (-6 + 8 * (d : Int)) (-999) σ0 σ348 := R339.tr ⟨R353.1, R353.2⟩ (by omega) (by omega) (by omega) (by omega)
      have z372 := R371.2.2.1
      have z373 := R371.2.2.2.1 rd_at
      have t374 := t302.x e305
      have t375 := t374.x e322
      have t376 := t375.x e352
      refine k_putR kp72 H351 t376 fk72 (rf72 h354) (fun σ377 H378 e379 c380 => ?_)
      refine k_aload_n rfl ?_
      refine k_aload rfl ?_
      have t381 := t362.x e379
      have t382 := t376.x e379
      have R383 : RdC p0 none (-23) (-6 + 8 * (d : Int)) (-999) σ0 σ377 := R371.tr ⟨(e379.gw H351.1 (by decide)), (e379.cou (u := 0) H351.1 t362 (by decide) (by rw [e379.cn (by decide)]; omega))⟩ (by omega) (by omega) (by omega) (by omega)
      have c384 := (t362.mi e379 (by decide)).trans c365
      have X385 : ExC [0, 1, 2, 60, 61, 62, 63, 64, 65, 66, 67, 68, 69, 70, 72, 73, 74, 75, 76, 242, 243, 244, 999] σ0 σ348 := X346.tr (e352.mo (by decide))
      have X386 : ExC [0, 1, 2, 60, 61, 62, 63, 64, 65, 66, 67, 68, 69, 70, 72, 73, 74, 75, 76, 242, 243, 244, 999] σ0 σ377 := X385.tr (e379.mo (by decide))
      have c387 := (t362.mi e379 (by decide)).trans c359
      have z388 := congrArg Int32.toInt c387
      have z389 := congrArg Int32.toInt c384
      refine k_inv (P := P_X7_put) (Q := Q_X7_put) rfl rfl rfl rfl (Nat.le_of_ble_eq_true rfl) (t381.rc (by decide)) ⟨_, _, rfl, H378, t381, t382, (rd_cd.st H0 h_0_0 X386 R383.1 (by decide)), (R383.2.2.2.1 rd_at), (rd_bg.st H0 h_0_0 X386 R383 (by decide) (by omega) (by omega) (by omega))⟩ (fun w390 σ391 q392 => ?_)
      obtain ⟨a393, rfl, H394, e395, h397, R396, q398, q399⟩ := q392
      have c400 := (t381.mi e395 (by decide)).trans c387
      have c401 := (t381.mi e395 (by decide)).trans c384
      have z402 := congrArg Int32.toInt c400
      have z403 := congrArg Int32.toInt c401
      refine k_st (st' := [.inr (.inr (some a393))]) rfl ?_
      refine k_areturn ?_
      have X404 : ExC [0, 1, 2, 60, 61, 62, 63, 64, 65, 66, 67, 68, 69, 70, 72, 73, 74, 75, 76, 242, 243, 244, 999] σ0 σ391 := X386.tr (e395.mo (by decide))
      have R405 : RdC p0 none (-22) (-5 + 8 * (d : Int)) (-998) σ0 σ391 := R383.tr ⟨R396.1, R396.2⟩ (by omega) (by omega) (by omega) (by omega)
      have S422 : ∀ s, ReC σ0 p0 s → ReC σ391 p0 (opnY (oY ((d + 1) - 1)) (eY ((d + 1) - 1)) s) := by
        intro s hs
        have f406 := hs.at_ c3
        have y407 := q39 _ hs
        have f409 := q64 _ y407
        have y410 := y407.x H35.1 t45 e239 (by decide)
        have y411 := y410.xt H238.1 t261 r240 e255 (by decide)
        obtain ⟨y412, f413⟩ := q288 _ y411
        have y414 := y412.x H285.1 t294 e305 (by decide)
        have y415 := q325 _ y414
        rw [h308] at y415
        have y417 := q356 _ y415
        have y419 := y417.x H351.1 t362 e379 (by decide)
        have y420 := q399 _ y419
        refine y420.eq ?_
        try unfold opnY
        repeat (split <;> try (exfalso; omega))
        try unfold op2Y
        repeat (split <;> try (exfalso; omega))
        try unfold tkY
        repeat (split <;> try (exfalso; omega))
        try unfold dpY
        repeat (split <;> try (exfalso; omega))
        all_goals rfl
      exact ⟨_, rfl, H394, X404, h397, (R405.mo (by omega) (by omega) (by omega)), (by omega), S422⟩
theorem lg_X7_readBehindOpen (d : Nat) : ∀ (As : List AvC) (σ : CsC), (P_X7_readBehindOpen (d + 1)) As σ → lgC As ≤ rX7_readBehindOpen.2.2.1 := by
  rintro As σ ⟨p0, p1, rfl, -⟩
  exact Nat.le_of_ble_eq_true rfl
theorem s_X7_readBehindOpen (l : Launch) (d : Nat) (h_X7_readExp : CMetC l (13 * d + 36) 164 (P_X7_readExp d) (Q_X7_readExp d)) (h_X7_readInnerOperand : CMetC l (13 * d + 34) 171 (P_X7_readInnerOperand d) (Q_X7_readInnerOperand d)) : CMetC l (13 * (d + 1) + 31) 174 (P_X7_readBehindOpen (d + 1)) (Q_X7_readBehindOpen (d + 1)) :=
  CMetC.of KX7_readBehindOpen [(234, P_Jx4a65c_size_8abf5, Q_Jx4a65c_size_8abf5), (128, P_X7_accept, Q_X7_accept), (125, P_X7_code, Q_X7_code), (132, P_X7_isType, Q_X7_isType), (17, P_X1_init, Q_X1_init), (164, (P_X7_readExp d), (Q_X7_readExp d)), (129, P_X7_expect, Q_X7_expect), (161, P_X7_put, Q_X7_put), (136, P_X7_readType, Q_X7_readType), (171, (P_X7_readInnerOperand d), (Q_X7_readInnerOperand d))] hX7_readBehindOpen (by decide) (by omega) okX7_readBehindOpen (cc1C (m_Jx4a65c_size_8abf5 l) (by omega) (cc1C (m_X7_accept l) (by omega) (cc1C (m_X7_code l) (by omega) (cc1C (m_X7_isType l) (by omega) (cc1C (m_X1_init l) (by omega) (cc1C h_X7_readExp (by omega) (cc1C (m_X7_expect l) (by omega) (cc1C (m_X7_put l) (by omega) (cc1C (m_X7_readType l) (by omega) (cc1C h_X7_readInnerOperand (by omega) cc0C)))))))))) (lg_X7_readBehindOpen d) (b_X7_readBehindOpen d)

set_option maxRecDepth 100000 in
set_option maxHeartbeats 4000000 in
theorem b_X7_readName (d : Nat) : TbC KX7_readName [(126, P_X7_codeBehind, Q_X7_codeBehind), (162, P_X7_opened, Q_X7_opened), (140, P_X7_meant, Q_X7_meant), (128, P_X7_accept, Q_X7_accept), (161, P_X7_put, Q_X7_put), (176, (P_X7_readCall d), (Q_X7_readCall d))] (P_X7_readName d) (Q_X7_readName d) := by
  · rintro As σ0 ⟨p0, p1, rfl, H0, h_0_0, h_1_0, h_1_1, rd_cd, rd_at, rd_bl, rd_lv, rd_tk, rd_dp⟩ hgr G hB hW
    change G 0 [(0, .inr (.inr (some p0))), (1, .inl p1)] [] σ0
    obtain ⟨x1, e2, c3, h4, h5⟩ := cg242 H0.1 h_0_0
    obtain ⟨x6, e7, c8, h9, h10⟩ := cg243 H0.1 h_0_0
    have z11 := congrArg Int32.toInt c3
    have z12 := congrArg Int32.toInt c8
    have h13 : x6.toInt = 0 := by rw [← c8]; exact rd_lv
    have rd_bg : BgC σ0 p0 (14 + 8 * (d : Int)) 1000000 := ⟨fun _ => rd_bl, fun z => absurd rd_lv z⟩
    refine hB _ _ _ _ (kgoC (is := KX7_readName_0) rfl ?_)
    refine k_aload_n rfl ?_
    have R14 := (RdC.rf : RdC p0 none 0 0 0 σ0 σ0).nf (-1000) (-1000) (by rw [c8]; omega)
    refine k_inv (P := P_X7_codeBehind) (Q := Q_X7_codeBehind) rfl rfl rfl rfl (Nat.le_of_ble_eq_true rfl) (h_0_0.rc (by decide)) ⟨_, rfl, H0, h_0_0, (rd_cd.st H0 h_0_0 (ExC.rf : ExC [0, 1, 2, 60, 61, 62, 63, 64, 65, 66, 67, 68, 69, 70, 72, 73, 74, 75, 76, 242, 243, 244, 999] σ0 σ0) R14.1 (by decide))⟩ (fun w15 σ16 q17 => ?_)
    obtain ⟨x18, rfl, rfl, q19, q20, q21⟩ := q17
    refine k_st (st' := [.inl x18]) rfl ?_
    have z22 := R14.2.2.1
    have z23 := R14.2.2.2.1 rd_at
    refine k_istore_n (ls' := [(2, .inl x18), (0, .inr (.inr (some p0))), (1, .inl p1)]) rfl ?_
    refine k_iload_n rfl ?_
    refine k_if_ne (fun h24 => ?_) (fun h24 => ?_)
    · refine hB _ _ _ _ (kgoC (is := KX7_readName_15) rfl ?_)
      refine k_iload_n rfl ?_
      refine k_bipush (m := 41) rfl (fun x25 h26 => ?_)
      refine k_ic_eq (fun h27 => ?_) (fun h27 => ?_)
      · refine hB _ _ _ _ (kgoC (is := KX7_readName_27) rfl ?_)
        refine k_iconst (m := 1) rfl (fun x28 h29 => ?_)
        refine k_goto ?_
        refine hB _ _ _ _ (kgoC (is := KX7_readName_32) rfl ?_)
        refine k_istore_n (ls' := [(3, .inl x28), (2, .inl x18), (0, .inr (.inr (some p0))), (1, .inl p1)]) rfl ?_
        refine k_aload_n rfl ?_
        refine k_iload_n rfl ?_
        refine k_if_eq (fun h30 => by exfalso; omega) (fun h30 => ?_)
        refine k_nil ?_
        refine hB _ _ _ _ (kgoC (is := KX7_readName_38) rfl ?_)
        refine k_bipush (m := 6) rfl (fun x31 h32 => ?_)
        refine k_goto ?_
        refine hB _ _ _ _ (kgoC (is := KX7_readName_44) rfl ?_)
        refine k_iload_n rfl ?_
        refine k_if_eq (fun h33 => by exfalso; omega) (fun h33 => ?_)
        refine k_nil ?_
        refine hB _ _ _ _ (kgoC (is := KX7_readName_48) rfl ?_)
        refine k_iload_n rfl ?_
        refine k_goto ?_
        refine hB _ _ _ _ (kgoC (is := KX7_readName_53) rfl ?_)
        refine k_inv (P := P_X7_opened) (Q := Q_X7_opened) rfl rfl rfl rfl (Nat.le_of_ble_eq_true rfl) (h_0_0.rc (by decide)) ⟨_, _, _, rfl, H0, h_0_0, (rd_cd.st H0 h_0_0 (ExC.rf : ExC [0, 1, 2, 60, 61, 62, 63, 64, 65, 66, 67, 68, 69, 70, 72, 73, 74, 75, 76, 242, 243, 244, 999] σ0 σ0) R14.1 (by decide)), (R14.2.2.2.1 rd_at), (rd_bg.stn H0 h_0_0 (ExC.rf : ExC [0, 1, 2, 60, 61, 62, 63, 64, 65, 66, 67, 68, 69, 70, 72, 73, 74, 75, 76, 242, 243, 244, 999] σ0 σ0) R14 (by decide) (by rw [c8]; omega) (by omega)), (by omega)⟩ (fun w34 σ35 q36 => ?_)
        obtain ⟨a37, rfl, H38, e39, h41, R40, q42, q43⟩ := q36
        have c44 := (h_0_0.mi e39 (by decide)).trans c3
        have c45 := (h_0_0.mi e39 (by decide)).trans c8
        have z46 := congrArg Int32.toInt c44
        have z47 := congrArg Int32.toInt c45
        refine k_st (st' := [.inr (.inr (some a37))]) rfl ?_
        have z48 := R14.1.1
        have R49 : RdC p0 none (1) (1) (-999) σ0 σ35 := R14.tr ⟨R40.1, R40.2⟩ (by omega) (by omega) (by omega) (by omega)
        have R50 := R49.nf (-1000) (-1000) (by rw [c45]; omega)
        have z51 := R50.2.2.1
        have z52 := R50.2.2.2.1 rd_at
        refine k_astore (ls' := [(4, .inr (.inr (some a37))), (3, .inl x28), (2, .inl x18), (0, .inr (.inr (some p0))), (1, .inl p1)]) rfl ?_
        refine k_aload rfl ?_
        refine k_aload_n rfl ?_
        refine k_aload_n rfl ?_
        have t53 := h_0_0.x e39
        refine k_get kg242 t53 (congrArg (Sum.inl : Int32 → AvC) c44) ?_
        refine k_inv (P := P_X7_meant) (Q := Q_X7_meant) rfl rfl rfl rfl (Nat.le_of_ble_eq_true rfl) (t53.rc (by decide)) ⟨_, _, rfl, H38, t53, (by omega), (by omega)⟩ (fun w54 σ55 q56 => ?_)
        obtain ⟨x57, rfl, H58, e59, h60⟩ := q56
        have c61 := (t53.mi e59 (by decide)).trans c44
        have c62 := (t53.mi e59 (by decide)).trans c45
        have z63 := congrArg Int32.toInt c61
        have z64 := congrArg Int32.toInt c62
        refine k_st (st' := [.inl x57, .inr (.inr (some a37))]) rfl ?_
        have t65 := h41.x e59
        refine k_putI kp67 H58 t65 (Or.inl fk67) (tiC x57).1 (tiC x57).2 (fun σ66 H67 e68 c69 => ?_)
        refine k_aload_n rfl ?_
        have t70 := t53.x e59
        have t71 := t70.x e68
        have R72 : RdC p0 none (1) (1) (-1000) σ0 σ55 := R50.tr ⟨(e59.gw H38.1 (by decide)), (e59.cou (u := 0) H38.1 t53 (by decide) (by rw [e59.cn (by decide)]; omega))⟩ (by omega) (by omega) (by omega) (by omega)
        have R73 : RdC p0 none (1) (1) (-1000) σ0 σ66 := R72.tr ⟨(e68.gw H58.1 (by decide)), (e68.cou (u := 0) H58.1 t70 (by decide) (by rw [e68.cn (by decide)]; omega))⟩ (by omega) (by omega) (by omega) (by omega)
        have c74 := (t70.mi e68 (by decide)).trans c62
        have R75 := R73.nf (-1000) (-1000) (by rw [c74]; omega)
        have X76 : ExC [0, 1, 2, 60, 61, 62, 63, 64, 65, 66, 67, 68, 69, 70, 72, 73, 74, 75, 76, 242, 243, 244, 999] σ0 σ35 := ExC.rf.tr (e39.mo (by decide))
        have X77 : ExC [0, 1, 2, 60, 61, 62, 63, 64, 65, 66, 67, 68, 69, 70, 72, 73, 74, 75, 76, 242, 243, 244, 999] σ0 σ55 := X76.tr (e59.mo (by decide))
        have X78 : ExC [0, 1, 2, 60, 61, 62, 63, 64, 65, 66, 67, 68, 69, 70, 72, 73, 74, 75, 76, 242, 243, 244, 999] σ0 σ66 := X77.tr (e68.mo (by decide))
        have c79 := (t70.mi e68 (by decide)).trans c61
        have z80 := congrArg Int32.toInt c79
        have z81 := congrArg Int32.toInt c74
        refine k_inv (P := P_X7_accept) (Q := Q_X7_accept) rfl rfl rfl rfl (Nat.le_of_ble_eq_true rfl) (t71.rc (by decide)) ⟨_, rfl, H67, t71, (rd_cd.st H0 h_0_0 X78 R75.1 (by decide)), (R75.2.2.2.1 rd_at), (rd_bg.stn H0 h_0_0 X78 R75 (by decide) (by rw [c74]; omega) (by omega)), (by have ct := R75.2.2.1; rw [c74, c79, ct]; omega)⟩ (fun w82 σ83 q84 => ?_)
        obtain ⟨rfl, H85, e86, R87, q88, q89⟩ := q84
        have t95 := t71.x e86
        obtain ⟨x90, e91, c92, h93, h94⟩ := cg242 H85.1 t95
        obtain ⟨x96, e97, c98, h99, h100⟩ := cg243 H85.1 t95
        have z101 := congrArg Int32.toInt c92
        have z102 := congrArg Int32.toInt c98
        refine k_st (st' := []) rfl ?_
        have R103 : RdC p0 none (-7) (1) (-1000) σ0 σ83 := R75.tr ⟨R87.1, R87.2⟩ (by omega) (by omega) (by omega) (by omega)
        have z104 := R103.2.2.1
        have z105 := R103.2.2.2.1 rd_at
        refine k_iload_n rfl ?_
        refine k_if_eq (fun h106 => by exfalso; omega) (fun h106 => ?_)
        refine k_nil ?_
        refine hB _ _ _ _ (kgoC (is := KX7_readName_79) rfl ?_)
        refine k_aload_n rfl ?_
        have X107 : ExC [0, 1, 2, 60, 61, 62, 63, 64, 65, 66, 67, 68, 69, 70, 72, 73, 74, 75, 76, 242, 243, 244, 999] σ0 σ83 := X78.tr (e86.mo (by decide))
        refine k_inv (P := P_X7_accept) (Q := Q_X7_accept) rfl rfl rfl rfl (Nat.le_of_ble_eq_true rfl) (t95.rc (by decide)) ⟨_, rfl, H85, t95, (rd_cd.st H0 h_0_0 X107 R103.1 (by decide)), (R103.2.2.2.1 rd_at), (rd_bg.st H0 h_0_0 X107 R103 (by decide) (by omega) (by omega) (by omega)), (by have ct := R103.2.2.1; rw [c98, c92, ct]; omega)⟩ (fun w108 σ109 q110 => ?_)
        obtain ⟨rfl, H111, e112, R113, q114, q115⟩ := q110
        have t121 := t95.x e112
        obtain ⟨x116, e117, c118, h119, h120⟩ := cg242 H111.1 t121
        obtain ⟨x122, e123, c124, h125, h126⟩ := cg243 H111.1 t121
        have z127 := congrArg Int32.toInt c118
        have z128 := congrArg Int32.toInt c124
        refine k_st (st' := []) rfl ?_
        have R129 : RdC p0 none (-15) (1) (-1000) σ0 σ109 := R103.tr ⟨R113.1, R113.2⟩ (by omega) (by omega) (by omega) (by omega)
        have z130 := R129.2.2.1
        have z131 := R129.2.2.2.1 rd_at
        refine k_nil ?_
        refine hB _ _ _ _ (kgoC (is := KX7_readName_83) rfl ?_)
        refine k_aload_n rfl ?_
        refine k_aload rfl ?_
        have t132 := t65.x e68
        have t133 := t132.x e86
        have t134 := t133.x e112
        have X135 : ExC [0, 1, 2, 60, 61, 62, 63, 64, 65, 66, 67, 68, 69, 70, 72, 73, 74, 75, 76, 242, 243, 244, 999] σ0 σ109 := X107.tr (e112.mo (by decide))
        refine k_inv (P := P_X7_put) (Q := Q_X7_put) rfl rfl rfl rfl (Nat.le_of_ble_eq_true rfl) (t121.rc (by decide)) ⟨_, _, rfl, H111, t121, t134, (rd_cd.st H0 h_0_0 X135 R129.1 (by decide)), (R129.2.2.2.1 rd_at), (rd_bg.st H0 h_0_0 X135 R129 (by decide) (by omega) (by omega) (by omega))⟩ (fun w136 σ137 q138 => ?_)
        obtain ⟨a139, rfl, H140, e141, h143, R142, q144, q145⟩ := q138
        have c146 := (t121.mi e141 (by decide)).trans c118
        have c147 := (t121.mi e141 (by decide)).trans c124
        have z148 := congrArg Int32.toInt c146
        have z149 := congrArg Int32.toInt c147
        refine k_st (st' := [.inr (.inr (some a139))]) rfl ?_
        refine k_areturn ?_
        have X150 : ExC [0, 1, 2, 60, 61, 62, 63, 64, 65, 66, 67, 68, 69, 70, 72, 73, 74, 75, 76, 242, 243, 244, 999] σ0 σ137 := X135.tr (e141.mo (by decide))
        have R151 : RdC p0 none (-14) (2) (-999) σ0 σ137 := R129.tr ⟨R142.1, R142.2⟩ (by omega) (by omega) (by omega) (by omega)
        have S164 : ∀ s, ReC σ0 p0 s → ReC σ137 p0 (nmeY (d - 1) (eY (d - 1)) s) := by
          intro s hs
          have f152 := q21 _ hs
          have y153 := q43 _ hs
          have f155 := y153.at_ c44
          have y156 := y153.x H38.1 t53 e59 (by decide)
          have y157 := y156.x H58.1 t70 e68 (by decide)
          have y158 := q89 _ y157
          have y160 := q115 _ y158
          have y162 := q145 _ y160
          refine y162.eq ?_
          try unfold nmeY
          repeat (split <;> try (exfalso; omega))
          try unfold tkY
          repeat (split <;> try (exfalso; omega))
          try unfold dpY
          repeat (split <;> try (exfalso; omega))
          all_goals rfl
        exact ⟨_, rfl, H140, X150, h143, (R151.mo (by omega) (by omega) (by omega)), (by omega), S164⟩
      · refine k_nil ?_
        refine hB _ _ _ _ (kgoC (is := KX7_readName_21) rfl ?_)
        refine k_iload_n rfl ?_
        refine k_bipush (m := 42) rfl (fun x165 h166 => ?_)
        refine k_ic_ne (fun h167 => ?_) (fun h167 => ?_)
        · refine hB _ _ _ _ (kgoC (is := KX7_readName_31) rfl ?_)
          refine k_iconst (m := 0) rfl (fun x168 h169 => ?_)
          refine k_nil ?_
          refine hB _ _ _ _ (kgoC (is := KX7_readName_32) rfl ?_)
          refine k_istore_n (ls' := [(3, .inl x168), (2, .inl x18), (0, .inr (.inr (some p0))), (1, .inl p1)]) rfl ?_
          refine k_aload_n rfl ?_
          refine k_iload_n rfl ?_
          refine k_if_eq (fun h170 => ?_) (fun h170 => by exfalso; omega)
          refine hB _ _ _ _ (kgoC (is := KX7_readName_43) rfl ?_)
          refine k_iconst (m := 2) rfl (fun x171 h172 => ?_)
          refine k_nil ?_
          refine hB _ _ _ _ (kgoC (is := KX7_readName_44) rfl ?_)
          refine k_iload_n rfl ?_
          refine k_if_eq (fun h173 => ?_) (fun h173 => by exfalso; omega)
          refine hB _ _ _ _ (kgoC (is := KX7_readName_52) rfl ?_)
          refine k_iconst (m := (-1)) rfl (fun x174 h175 => ?_)
          refine k_nil ?_
          refine hB _ _ _ _ (kgoC (is := KX7_readName_53) rfl ?_)
          refine k_inv (P := P_X7_opened) (Q := Q_X7_opened) rfl rfl rfl rfl (Nat.le_of_ble_eq_true rfl) (h_0_0.rc (by decide)) ⟨_, _, _, rfl, H0, h_0_0, (rd_cd.st H0 h_0_0 (ExC.rf : ExC [0, 1, 2, 60, 61, 62, 63, 64, 65, 66, 67, 68, 69, 70, 72, 73, 74, 75, 76, 242, 243, 244, 999] σ0 σ0) R14.1 (by decide)), (R14.2.2.2.1 rd_at), (rd_bg.stn H0 h_0_0 (ExC.rf : ExC [0, 1, 2, 60, 61, 62, 63, 64, 65, 66, 67, 68, 69, 70, 72, 73, 74, 75, 76, 242, 243, 244, 999] σ0 σ0) R14 (by decide) (by rw [c8]; omega) (by omega)), (by omega)⟩ (fun w176 σ177 q178 => ?_)
          obtain ⟨a179, rfl, H180, e181, h183, R182, q184, q185⟩ := q178
          have c186 := (h_0_0.mi e181 (by decide)).trans c3
          have c187 := (h_0_0.mi e181 (by decide)).trans c8
          have z188 := congrArg Int32.toInt c186
          have z189 := congrArg Int32.toInt c187
          refine k_st (st' := [.inr (.inr (some a179))]) rfl ?_
          have z190 := R14.1.1
          have R191 : RdC p0 none (1) (1) (-999) σ0 σ177 := R14.tr ⟨R182.1, R182.2⟩ (by omega) (by omega) (by omega) (by omega)
          have R192 := R191.nf (-1000) (-1000) (by rw [c187]; omega)
          have z193 := R192.2.2.1
          have z194 := R192.2.2.2.1 rd_at
          refine k_astore (ls' := [(4, .inr (.inr (some a179))), (3, .inl x168), (2, .inl x18), (0, .inr (.inr (some p0))), (1, .inl p1)]) rfl ?_
          refine k_aload rfl ?_
          refine k_aload_n rfl ?_
          refine k_aload_n rfl ?_
          have t195 := h_0_0.x e181
          refine k_get kg242 t195 (congrArg (Sum.inl : Int32 → AvC) c186) ?_
          refine k_inv (P := P_X7_meant) (Q := Q_X7_meant) rfl rfl rfl rfl (Nat.le_of_ble_eq_true rfl) (t195.rc (by decide)) ⟨_, _, rfl, H180, t195, (by omega), (by omega)⟩ (fun w196 σ197 q198 => ?_)
          obtain ⟨x199, rfl, H200, e201, h202⟩ := q198
          have c203 := (t195.mi e201 (by decide)).trans c186
          have c204 := (t195.mi e201 (by decide)).trans c187
          have z205 := congrArg Int32.toInt c203
          have z206 := congrArg Int32.toInt c204
          refine k_st (st' := [.inl x199, .inr (.inr (some a179))]) rfl ?_
          have t207 := h183.x e201
          refine k_putI kp67 H200 t207 (Or.inl fk67) (tiC x199).1 (tiC x199).2 (fun σ208 H209 e210 c211 => ?_)
          refine k_aload_n rfl ?_
          have t212 := t195.x e201
          have t213 := t212.x e210
          have R214 : RdC p0 none (1) (1) (-1000) σ0 σ197 := R192.tr ⟨(e201.gw H180.1 (by decide)), (e201.cou (u := 0) H180.1 t195 (by decide) (by rw [e201.cn (by decide)]; omega))⟩ (by omega) (by omega) (by omega) (by omega)
          have R215 : RdC p0 none (1) (1) (-1000) σ0 σ208 := R214.tr ⟨(e210.gw H200.1 (by decide)), (e210.cou (u := 0) H200.1 t212 (by decide) (by rw [e210.cn (by decide)]; omega))⟩ (by omega) (by omega) (by omega) (by omega)
          have c216 := (t212.mi e210 (by decide)).trans c204
          have R217 := R215.nf (-1000) (-1000) (by rw [c216]; omega)
          have X218 : ExC [0, 1, 2, 60, 61, 62, 63, 64, 65, 66, 67, 68, 69, 70, 72, 73, 74, 75, 76, 242, 243, 244, 999] σ0 σ177 := ExC.rf.tr (e181.mo (by decide))
          have X219 : ExC [0, 1, 2, 60, 61, 62, 63, 64, 65, 66, 67, 68, 69, 70, 72, 73, 74, 75, 76, 242, 243, 244, 999] σ0 σ197 := X218.tr (e201.mo (by decide))
          have X220 : ExC [0, 1, 2, 60, 61, 62, 63, 64, 65, 66, 67, 68, 69, 70, 72, 73, 74, 75, 76, 242, 243, 244, 999] σ0 σ208 := X219.tr (e210.mo (by decide))
          have c221 := (t212.mi e210 (by decide)).trans c203
          have z222 := congrArg Int32.toInt c221
          have z223 := congrArg Int32.toInt c216
          refine k_inv (P := P_X7_accept) (Q := Q_X7_accept) rfl rfl rfl rfl (Nat.le_of_ble_eq_true rfl) (t213.rc (by decide)) ⟨_, rfl, H209, t213, (rd_cd.st H0 h_0_0 X220 R217.1 (by decide)), (R217.2.2.2.1 rd_at), (rd_bg.stn H0 h_0_0 X220 R217 (by decide) (by rw [c216]; omega) (by omega)), (by have ct := R217.2.2.1; rw [c216, c221, ct]; omega)⟩ (fun w224 σ225 q226 => ?_)
          obtain ⟨rfl, H227, e228, R229, q230, q231⟩ := q226
          have t237 := t213.x e228
          obtain ⟨x232, e233, c234, h235, h236⟩ := cg242 H227.1 t237
          obtain ⟨x238, e239, c240, h241, h242⟩ := cg243 H227.1 t237
          have z243 := congrArg Int32.toInt c234
          have z244 := congrArg Int32.toInt c240
          refine k_st (st' := []) rfl ?_
          have R245 : RdC p0 none (-7) (1) (-1000) σ0 σ225 := R217.tr ⟨R229.1, R229.2⟩ (by omega) (by omega) (by omega) (by omega)
          have z246 := R245.2.2.1
          have z247 := R245.2.2.2.1 rd_at
          refine k_iload_n rfl ?_
          refine k_if_eq (fun h248 => ?_) (fun h248 => by exfalso; omega)
          refine hB _ _ _ _ (kgoC (is := KX7_readName_83) rfl ?_)
          refine k_aload_n rfl ?_
          refine k_aload rfl ?_
          have t249 := t207.x e210
          have t250 := t249.x e228
          have X251 : ExC [0, 1, 2, 60, 61, 62, 63, 64, 65, 66, 67, 68, 69, 70, 72, 73, 74, 75, 76, 242, 243, 244, 999] σ0 σ225 := X220.tr (e228.mo (by decide))
          refine k_inv (P := P_X7_put) (Q := Q_X7_put) rfl rfl rfl rfl (Nat.le_of_ble_eq_true rfl) (t237.rc (by decide)) ⟨_, _, rfl, H227, t237, t250, (rd_cd.st H0 h_0_0 X251 R245.1 (by decide)), (R245.2.2.2.1 rd_at), (rd_bg.st H0 h_0_0 X251 R245 (by decide) (by omega) (by omega) (by omega))⟩ (fun w252 σ253 q254 => ?_)
          obtain ⟨a255, rfl, H256, e257, h259, R258, q260, q261⟩ := q254
          have c262 := (t237.mi e257 (by decide)).trans c234
          have c263 := (t237.mi e257 (by decide)).trans c240
          have z264 := congrArg Int32.toInt c262
          have z265 := congrArg Int32.toInt c263
          refine k_st (st' := [.inr (.inr (some a255))]) rfl ?_
          refine k_areturn ?_
          have X266 : ExC [0, 1, 2, 60, 61, 62, 63, 64, 65, 66, 67, 68, 69, 70, 72, 73, 74, 75, 76, 242, 243, 244, 999] σ0 σ253 := X251.tr (e257.mo (by decide))
          have R267 : RdC p0 none (-6) (2) (-999) σ0 σ253 := R245.tr ⟨R258.1, R258.2⟩ (by omega) (by omega) (by omega) (by omega)
          have S278 : ∀ s, ReC σ0 p0 s → ReC σ253 p0 (nmeY (d - 1) (eY (d - 1)) s) := by
            intro s hs
            have f268 := q21 _ hs
            have y269 := q185 _ hs
            have f271 := y269.at_ c186
            have y272 := y269.x H180.1 t195 e201 (by decide)
            have y273 := y272.x H200.1 t212 e210 (by decide)
            have y274 := q231 _ y273
            have y276 := q261 _ y274
            refine y276.eq ?_
            try unfold nmeY
            repeat (split <;> try (exfalso; omega))
            try unfold tkY
            repeat (split <;> try (exfalso; omega))
            try unfold dpY
            repeat (split <;> try (exfalso; omega))
            all_goals rfl
          exact ⟨_, rfl, H256, X266, h259, (R267.mo (by omega) (by omega) (by omega)), (by omega), S278⟩
        · refine k_nil ?_
          refine hB _ _ _ _ (kgoC (is := KX7_readName_27) rfl ?_)
          refine k_iconst (m := 1) rfl (fun x279 h280 => ?_)
          refine k_goto ?_
          refine hB _ _ _ _ (kgoC (is := KX7_readName_32) rfl ?_)
          refine k_istore_n (ls' := [(3, .inl x279), (2, .inl x18), (0, .inr (.inr (some p0))), (1, .inl p1)]) rfl ?_
          refine k_aload_n rfl ?_
          refine k_iload_n rfl ?_
          refine k_if_eq (fun h281 => by exfalso; omega) (fun h281 => ?_)
          refine k_nil ?_
          refine hB _ _ _ _ (kgoC (is := KX7_readName_38) rfl ?_)
          refine k_bipush (m := 6) rfl (fun x282 h283 => ?_)
          refine k_goto ?_
          refine hB _ _ _ _ (kgoC (is := KX7_readName_44) rfl ?_)
          refine k_iload_n rfl ?_
          refine k_if_eq (fun h284 => by exfalso; omega) (fun h284 => ?_)
          refine k_nil ?_
          refine hB _ _ _ _ (kgoC (is := KX7_readName_48) rfl ?_)
          refine k_iload_n rfl ?_
          refine k_goto ?_
          refine hB _ _ _ _ (kgoC (is := KX7_readName_53) rfl ?_)
          refine k_inv (P := P_X7_opened) (Q := Q_X7_opened) rfl rfl rfl rfl (Nat.le_of_ble_eq_true rfl) (h_0_0.rc (by decide)) ⟨_, _, _, rfl, H0, h_0_0, (rd_cd.st H0 h_0_0 (ExC.rf : ExC [0, 1, 2, 60, 61, 62, 63, 64, 65, 66, 67, 68, 69, 70, 72, 73, 74, 75, 76, 242, 243, 244, 999] σ0 σ0) R14.1 (by decide)), (R14.2.2.2.1 rd_at), (rd_bg.stn H0 h_0_0 (ExC.rf : ExC [0, 1, 2, 60, 61, 62, 63, 64, 65, 66, 67, 68, 69, 70, 72, 73, 74, 75, 76, 242, 243, 244, 999] σ0 σ0) R14 (by decide) (by rw [c8]; omega) (by omega)), (by omega)⟩ (fun w285 σ286 q287 => ?_)
          obtain ⟨a288, rfl, H289, e290, h292, R291, q293, q294⟩ := q287
          have c295 := (h_0_0.mi e290 (by decide)).trans c3
          have c296 := (h_0_0.mi e290 (by decide)).trans c8
          have z297 := congrArg Int32.toInt c295
          have z298 := congrArg Int32.toInt c296
          refine k_st (st' := [.inr (.inr (some a288))]) rfl ?_
          have z299 := R14.1.1
          have R300 : RdC p0 none (1) (1) (-999) σ0 σ286 := R14.tr ⟨R291.1, R291.2⟩ (by omega) (by omega) (by omega) (by omega)
          have R301 := R300.nf (-1000) (-1000) (by rw [c296]; omega)
          have z302 := R301.2.2.1
          have z303 := R301.2.2.2.1 rd_at
          refine k_astore (ls' := [(4, .inr (.inr (some a288))), (3, .inl x279), (2, .inl x18), (0, .inr (.inr (some p0))), (1, .inl p1)]) rfl ?_
          refine k_aload rfl ?_
          refine k_aload_n rfl ?_
          refine k_aload_n rfl ?_
          have t304 := h_0_0.x e290
          refine k_get kg242 t304 (congrArg (Sum.inl : Int32 → AvC) c295) ?_
          refine k_inv (P := P_X7_meant) (Q := Q_X7_meant) rfl rfl rfl rfl (Nat.le_of_ble_eq_true rfl) (t304.rc (by decide)) ⟨_, _, rfl, H289, t304, (by omega), (by omega)⟩ (fun w305 σ306 q307 => ?_)
          obtain ⟨x308, rfl, H309, e310, h311⟩ := q307
          have c312 := (t304.mi e310 (by decide)).trans c295
          have c313 := (t304.mi e310 (by decide)).trans c296
          have z314 := congrArg Int32.toInt c312
          have z315 := congrArg Int32.toInt c313
          refine k_st (st' := [.inl x308, .inr (.inr (some a288))]) rfl ?_
          have t316 := h292.x e310
          refine k_putI kp67 H309 t316 (Or.inl fk67) (tiC x308).1 (tiC x308).2 (fun σ317 H318 e319 c320 => ?_)
          refine k_aload_n rfl ?_
          have t321 := t304.x e310
          have t322 := t321.x e319
          have R323 : RdC p0 none (1) (1) (-1000) σ0 σ306 := R301.tr ⟨(e310.gw H289.1 (by decide)), (e310.cou (u := 0) H289.1 t304 (by decide) (by rw [e310.cn (by decide)]; omega))⟩ (by omega) (by omega) (by omega) (by omega)
          have R324 : RdC p0 none (1) (1) (-1000) σ0 σ317 := R323.tr ⟨(e319.gw H309.1 (by decide)), (e319.cou (u := 0) H309.1 t321 (by decide) (by rw [e319.cn (by decide)]; omega))⟩ (by omega) (by omega) (by omega) (by omega)
          have c325 := (t321.mi e319 (by decide)).trans c313
          have R326 := R324.nf (-1000) (-1000) (by rw [c325]; omega)
          have X327 : ExC [0, 1, 2, 60, 61, 62, 63, 64, 65, 66, 67, 68, 69, 70, 72, 73, 74, 75, 76, 242, 243, 244, 999] σ0 σ286 := ExC.rf.tr (e290.mo (by decide))
          have X328 : ExC [0, 1, 2, 60, 61, 62, 63, 64, 65, 66, 67, 68, 69, 70, 72, 73, 74, 75, 76, 242, 243, 244, 999] σ0 σ306 := X327.tr (e310.mo (by decide))
          have X329 : ExC [0, 1, 2, 60, 61, 62, 63, 64, 65, 66, 67, 68, 69, 70, 72, 73, 74, 75, 76, 242, 243, 244, 999] σ0 σ317 := X328.tr (e319.mo (by decide))
          have c330 := (t321.mi e319 (by decide)).trans c312
          have z331 := congrArg Int32.toInt c330
          have z332 := congrArg Int32.toInt c325
          refine k_inv (P := P_X7_accept) (Q := Q_X7_accept) rfl rfl rfl rfl (Nat.le_of_ble_eq_true rfl) (t322.rc (by decide)) ⟨_, rfl, H318, t322, (rd_cd.st H0 h_0_0 X329 R326.1 (by decide)), (R326.2.2.2.1 rd_at), (rd_bg.stn H0 h_0_0 X329 R326 (by decide) (by rw [c325]; omega) (by omega)), (by have ct := R326.2.2.1; rw [c325, c330, ct]; omega)⟩ (fun w333 σ334 q335 => ?_)
          obtain ⟨rfl, H336, e337, R338, q339, q340⟩ := q335
          have t346 := t322.x e337
          obtain ⟨x341, e342, c343, h344, h345⟩ := cg242 H336.1 t346
          obtain ⟨x347, e348, c349, h350, h351⟩ := cg243 H336.1 t346
          have z352 := congrArg Int32.toInt c343
          have z353 := congrArg Int32.toInt c349
          refine k_st (st' := []) rfl ?_
          have R354 : RdC p0 none (-7) (1) (-1000) σ0 σ334 := R326.tr ⟨R338.1, R338.2⟩ (by omega) (by omega) (by omega) (by omega)
          have z355 := R354.2.2.1
          have z356 := R354.2.2.2.1 rd_at
          refine k_iload_n rfl ?_
          refine k_if_eq (fun h357 => by exfalso; omega) (fun h357 => ?_)
          refine k_nil ?_
          refine hB _ _ _ _ (kgoC (is := KX7_readName_79) rfl ?_)
          refine k_aload_n rfl ?_
          have X358 : ExC [0, 1, 2, 60, 61, 62, 63, 64, 65, 66, 67, 68, 69, 70, 72, 73, 74, 75, 76, 242, 243, 244, 999] σ0 σ334 := X329.tr (e337.mo (by decide))
          refine k_inv (P := P_X7_accept) (Q := Q_X7_accept) rfl rfl rfl rfl (Nat.le_of_ble_eq_true rfl) (t346.rc (by decide)) ⟨_, rfl, H336, t346, (rd_cd.st H0 h_0_0 X358 R354.1 (by decide)), (R354.2.2.2.1 rd_at), (rd_bg.st H0 h_0_0 X358 R354 (by decide) (by omega) (by omega) (by omega)), (by have ct := R354.2.2.1; rw [c349, c343, ct]; omega)⟩ (fun w359 σ360 q361 => ?_)
          obtain ⟨rfl, H362, e363, R364, q365, q366⟩ := q361
          have t372 := t346.x e363
          obtain ⟨x367, e368, c369, h370, h371⟩ := cg242 H362.1 t372
          obtain ⟨x373, e374, c375, h376, h377⟩ := cg243 H362.1 t372
          have z378 := congrArg Int32.toInt c369
          have z379 := congrArg Int32.toInt c375
          refine k_st (st' := []) rfl ?_
          have R380 : RdC p0 none (-15) (1) (-1000) σ0 σ360 := R354.tr ⟨R364.1, R364.2⟩ (by omega) (by omega) (by omega) (by omega)
          have z381 := R380.2.2.1
          have z382 := R380.2.2.2.1 rd_at
          refine k_nil ?_
          refine hB _ _ _ _ (kgoC (is := KX7_readName_83) rfl ?_)
          refine k_aload_n rfl ?_
          refine k_aload rfl ?_
          have t383 := t316.x e319
          have t384 := t383.x e337
          have t385 := t384.x e363
          have X386 : ExC [0, 1, 2, 60, 61, 62, 63, 64, 65, 66, 67, 68, 69, 70, 72, 73, 74, 75, 76, 242, 243, 244, 999] σ0 σ360 := X358.tr (e363.mo (by decide))
          refine k_inv (P := P_X7_put) (Q := Q_X7_put) rfl rfl rfl rfl (Nat.le_of_ble_eq_true rfl) (t372.rc (by decide)) ⟨_, _, rfl, H362, t372, t385, (rd_cd.st H0 h_0_0 X386 R380.1 (by decide)), (R380.2.2.2.1 rd_at), (rd_bg.st H0 h_0_0 X386 R380 (by decide) (by omega) (by omega) (by omega))⟩ (fun w387 σ388 q389 => ?_)
          obtain ⟨a390, rfl, H391, e392, h394, R393, q395, q396⟩ := q389
          have c397 := (t372.mi e392 (by decide)).trans c369
          have c398 := (t372.mi e392 (by decide)).trans c375
          have z399 := congrArg Int32.toInt c397
          have z400 := congrArg Int32.toInt c398
          refine k_st (st' := [.inr (.inr (some a390))]) rfl ?_
          refine k_areturn ?_
          have X401 : ExC [0, 1, 2, 60, 61, 62, 63, 64, 65, 66, 67, 68, 69, 70, 72, 73, 74, 75, 76, 242, 243, 244, 999] σ0 σ388 := X386.tr (e392.mo (by decide))
          have R402 : RdC p0 none (-14) (2) (-999) σ0 σ388 := R380.tr ⟨R393.1, R393.2⟩ (by omega) (by omega) (by omega) (by omega)
          have S415 : ∀ s, ReC σ0 p0 s → ReC σ388 p0 (nmeY (d - 1) (eY (d - 1)) s) := by
            intro s hs
            have f403 := q21 _ hs
            have y404 := q294 _ hs
            have f406 := y404.at_ c295
            have y407 := y404.x H289.1 t304 e310 (by decide)
            have y408 := y407.x H309.1 t321 e319 (by decide)
            have y409 := q340 _ y408
            have y411 := q366 _ y409
            have y413 := q396 _ y411
            refine y413.eq ?_
            try unfold nmeY
            repeat (split <;> try (exfalso; omega))
            try unfold tkY
            repeat (split <;> try (exfalso; omega))
            try unfold dpY
            repeat (split <;> try (exfalso; omega))
            all_goals rfl
          exact ⟨_, rfl, H391, X401, h394, (R402.mo (by omega) (by omega) (by omega)), (by omega), S415⟩
    · refine k_nil ?_
      refine hB _ _ _ _ (kgoC (is := KX7_readName_9) rfl ?_)
      refine k_aload_n rfl ?_
      refine k_iload_n rfl ?_
      refine k_inv (P := (P_X7_readCall d)) (Q := (Q_X7_readCall d)) rfl rfl rfl rfl (Nat.le_of_ble_eq_true rfl) (h_0_0.rc (by decide)) ⟨_, _, rfl, H0, h_0_0, (by omega), (by omega), (rd_cd.st H0 h_0_0 (ExC.rf : ExC [0, 1, 2, 60, 61, 62, 63, 64, 65, 66, 67, 68, 69, 70, 72, 73, 74, 75, 76, 242, 243, 244, 999] σ0 σ0) R14.1 (by decide)), (R14.2.2.2.1 rd_at), ((show BgC σ0 p0 (14 + 8 * (d : Int)) 0 from (rd_bg.stn H0 h_0_0 (ExC.rf : ExC [0, 1, 2, 60, 61, 62, 63, 64, 65, 66, 67, 68, 69, 70, 72, 73, 74, 75, 76, 242, 243, 244, 999] σ0 σ0) R14 (by decide) (by rw [c8]; omega) (by omega))).1 (by rw [c8]; omega)), (by rw [c8]; omega), (by have ct := R14.2.2.1; rw [c8, c3, ct]; omega), (by omega)⟩ (fun w416 σ417 q418 => ?_)
      obtain ⟨a419, rfl, H420, e421, h423, R422, q424, q425⟩ := q418
      have t431 := h_0_0.x e421
      obtain ⟨x426, e427, c428, h429, h430⟩ := cg242 H420.1 t431
      obtain ⟨x432, e433, c434, h435, h436⟩ := cg243 H420.1 t431
      have z437 := congrArg Int32.toInt c428
      have z438 := congrArg Int32.toInt c434
      refine k_st (st' := [.inr (.inr (some a419))]) rfl ?_
      have z439 := R14.1.1
      have R440 : RdC p0 none (0) (14 + 8 * (d : Int)) (-1000) σ0 σ417 := R14.tr ⟨R422.1, R422.2⟩ (by omega) (by omega) (by omega) (by omega)
      have z441 := R440.2.2.1
      have z442 := R440.2.2.2.1 rd_at
      refine k_areturn ?_
      have X443 : ExC [0, 1, 2, 60, 61, 62, 63, 64, 65, 66, 67, 68, 69, 70, 72, 73, 74, 75, 76, 242, 243, 244, 999] σ0 σ417 := ExC.rf.tr (e421.mo (by decide))
      have S447 : ∀ s, ReC σ0 p0 s → ReC σ417 p0 (nmeY (d - 1) (eY (d - 1)) s) := by
        intro s hs
        have f444 := q21 _ hs
        have y445 := q425 _ hs
        refine y445.eq ?_
        try unfold nmeY
        repeat (split <;> try (exfalso; omega))
        try unfold tkY
        repeat (split <;> try (exfalso; omega))
        try unfold dpY
        repeat (split <;> try (exfalso; omega))
        all_goals rfl
      exact ⟨_, rfl, H420, X443, h423, (R440.mo (by omega) (by omega) (by omega)), (by omega), S447⟩
theorem lg_X7_readName (d : Nat) : ∀ (As : List AvC) (σ : CsC), (P_X7_readName d) As σ → lgC As ≤ rX7_readName.2.2.1 := by
  rintro As σ ⟨p0, p1, rfl, -⟩
  exact Nat.le_of_ble_eq_true rfl
theorem s_X7_readName (l : Launch) (d : Nat) (h_X7_readCall : CMetC l (13 * d + 31) 176 (P_X7_readCall d) (Q_X7_readCall d)) : CMetC l (13 * d + 32) 175 (P_X7_readName d) (Q_X7_readName d) :=
  CMetC.of KX7_readName [(126, P_X7_codeBehind, Q_X7_codeBehind), (162, P_X7_opened, Q_X7_opened), (140, P_X7_meant, Q_X7_meant), (128, P_X7_accept, Q_X7_accept), (161, P_X7_put, Q_X7_put), (176, (P_X7_readCall d), (Q_X7_readCall d))] hX7_readName (by decide) (by omega) okX7_readName (cc1C (m_X7_codeBehind l) (by omega) (cc1C (m_X7_opened l) (by omega) (cc1C (m_X7_meant l) (by omega) (cc1C (m_X7_accept l) (by omega) (cc1C (m_X7_put l) (by omega) (cc1C h_X7_readCall (by omega) cc0C)))))) (lg_X7_readName d) (b_X7_readName d)

set_option maxRecDepth 100000 in
set_option maxHeartbeats 4000000 in
theorem b_X7_readInnerOperand (d : Nat) : TbC KX7_readInnerOperand [(131, P_X7_isTooDeep, Q_X7_isTooDeep), (170, (P_X7_readOperand d), (Q_X7_readOperand d)), (162, P_X7_opened, Q_X7_opened)] (P_X7_readInnerOperand d) (Q_X7_readInnerOperand d) := by
  · rintro As σ0 ⟨p0, p1, rfl, H0, h_0_0, h_1_0, h_1_1, rd_cd, rd_at, rd_bg, rd_dp⟩ hgr G hB hW
    change G 0 [(0, .inr (.inr (some p0))), (1, .inl p1)] [] σ0
    obtain ⟨x1, e2, c3, h4, h5⟩ := cg242 H0.1 h_0_0
    obtain ⟨x6, e7, c8, h9, h10⟩ := cg243 H0.1 h_0_0
    have z11 := congrArg Int32.toInt c3
    have z12 := congrArg Int32.toInt c8
    refine hB _ _ _ _ (kgoC (is := KX7_readInnerOperand_0) rfl ?_)
    refine k_aload_n rfl ?_
    refine k_iload_n rfl ?_
    refine k_inv (P := P_X7_isTooDeep) (Q := Q_X7_isTooDeep) rfl rfl rfl rfl (Nat.le_of_ble_eq_true rfl) (h_0_0.rc (by decide)) ⟨_, _, rfl, H0, h_0_0, (rd_cd.st H0 h_0_0 (ExC.rf : ExC [0, 1, 2, 60, 61, 62, 63, 64, 65, 66, 67, 68, 69, 70, 72, 73, 74, 75, 76, 242, 243, 244, 999] σ0 σ0) (RdC.rf : RdC p0 none 0 0 0 σ0 σ0).1 (by decide)), ((RdC.rf : RdC p0 none 0 0 0 σ0 σ0).2.2.2.1 rd_at), (rd_bg.st H0 h_0_0 (ExC.rf : ExC [0, 1, 2, 60, 61, 62, 63, 64, 65, 66, 67, 68, 69, 70, 72, 73, 74, 75, 76, 242, 243, 244, 999] σ0 σ0) (RdC.rf : RdC p0 none 0 0 0 σ0 σ0) (by decide) (by omega) (by omega) (by omega))⟩ (fun w13 σ14 q15 => ?_)
    obtain ⟨x16, rfl, H17, e18, h20, h21, R19, q22, q23, q24⟩ := q15
    have c25 := (h_0_0.mi e18 (by decide)).trans c3
    have t31 := h_0_0.x e18
    obtain ⟨x26, e27, c28, h29, h30⟩ := cg243 H17.1 t31
    have z32 := congrArg Int32.toInt c25
    have z33 := congrArg Int32.toInt c28
    refine k_st (st' := [.inl x16]) rfl ?_
    rcases (by omega : x16.toInt = 0 ∨ x16.toInt = 1) with g34 | g34
    · have h35 := q23 (by omega)
      refine k_if_eq (fun h36 => ?_) (fun h36 => by exfalso; omega)
      refine hB _ _ _ _ (kgoC (is := KX7_readInnerOperand_17) rfl ?_)
      refine k_aload_n rfl ?_
      refine k_iload_n rfl ?_
      have R37 : RdC p0 none (0) (0) (0) σ0 σ14 := (RdC.rf : RdC p0 none 0 0 0 σ0 σ0).tr ⟨R19.1, R19.2⟩ (by omega) (by omega) (by omega) (by omega)
      have X38 : ExC [0, 1, 2, 60, 61, 62, 63, 64, 65, 66, 67, 68, 69, 70, 72, 73, 74, 75, 76, 242, 243, 244, 999] σ0 σ14 := ExC.rf.tr (e18.mo (by decide))
      refine k_inv (P := (P_X7_readOperand d)) (Q := (Q_X7_readOperand d)) rfl rfl rfl rfl (Nat.le_of_ble_eq_true rfl) (t31.rc (by decide)) ⟨_, _, rfl, H17, t31, (by omega), (by omega), (rd_cd.st H0 h_0_0 X38 R37.1 (by decide)), (R37.2.2.2.1 rd_at), (rd_bg.st H0 h_0_0 X38 R37 (by decide) (by omega) (by omega) (by omega)), (by omega)⟩ (fun w39 σ40 q41 => ?_)
      obtain ⟨a42, rfl, H43, e44, h46, R45, q47, q48⟩ := q41
      have t54 := t31.x e44
      obtain ⟨x49, e50, c51, h52, h53⟩ := cg242 H43.1 t54
      obtain ⟨x55, e56, c57, h58, h59⟩ := cg243 H43.1 t54
      have z60 := congrArg Int32.toInt c51
      have z61 := congrArg Int32.toInt c57
      refine k_st (st' := [.inr (.inr (some a42))]) rfl ?_
      have z62 := R37.1.1
      have R63 : RdC p0 none (0) (14 + 8 * (d : Int)) (1) σ0 σ40 := R37.tr ⟨R45.1, R45.2⟩ (by omega) (by omega) (by omega) (by omega)
      have z64 := R63.2.2.1
      have z65 := R63.2.2.2.1 rd_at
      refine k_nil ?_
      refine hB _ _ _ _ (kgoC (is := KX7_readInnerOperand_22) rfl ?_)
      refine k_areturn ?_
      have X66 : ExC [0, 1, 2, 60, 61, 62, 63, 64, 65, 66, 67, 68, 69, 70, 72, 73, 74, 75, 76, 242, 243, 244, 999] σ0 σ40 := X38.tr (e44.mo (by decide))
      have S71 : ∀ s, ReC σ0 p0 s → ReC σ40 p0 (oY d s) := by
        intro s hs
        have y67 := q24 _ hs
        rw [dpY_n (by omega)] at y67
        have y69 := q48 _ y67
        refine y69.eq ?_
        all_goals try first | rw [oY_z (show d = 0 from by omega)] | rw [oY_s (show 1 ≤ d from by omega)]
        try unfold tkY
        repeat (split <;> try (exfalso; omega))
        try unfold dpY
        repeat (split <;> try (exfalso; omega))
        all_goals rfl
      exact ⟨_, rfl, H43, X66, h46, (R63.mo (by omega) (by omega) (by omega)), (by omega), S71⟩
    · have h72 : 1 ≤ x26.toInt := by have hq := (q22 (by omega)).2; rw [c28] at hq; omega
      have h73 := (q22 (by omega)).1
      refine k_if_eq (fun h74 => by exfalso; omega) (fun h74 => ?_)
      refine k_nil ?_
      refine hB _ _ _ _ (kgoC (is := KX7_readInnerOperand_8) rfl ?_)
      refine k_aload_n rfl ?_
      refine k_iconst (m := 1) rfl (fun x75 h76 => ?_)
      refine k_iconst (m := (-1)) rfl (fun x77 h78 => ?_)
      have R79 : RdC p0 none (0) (0) (0) σ0 σ14 := (RdC.rf : RdC p0 none 0 0 0 σ0 σ0).tr ⟨R19.1, R19.2⟩ (by omega) (by omega) (by omega) (by omega)
      have X80 : ExC [0, 1, 2, 60, 61, 62, 63, 64, 65, 66, 67, 68, 69, 70, 72, 73, 74, 75, 76, 242, 243, 244, 999] σ0 σ14 := ExC.rf.tr (e18.mo (by decide))
      refine k_inv (P := P_X7_opened) (Q := Q_X7_opened) rfl rfl rfl rfl (Nat.le_of_ble_eq_true rfl) (t31.rc (by decide)) ⟨_, _, _, rfl, H17, t31, (rd_cd.st H0 h_0_0 X80 R79.1 (by decide)), (R79.2.2.2.1 rd_at), (rd_bg.st H0 h_0_0 X80 R79 (by decide) (by omega) (by omega) (by omega)), (by omega)⟩ (fun w81 σ82 q83 => ?_)
      obtain ⟨a84, rfl, H85, e86, h88, R87, q89, q90⟩ := q83
      have c91 := (t31.mi e86 (by decide)).trans c25
      have c92 := (t31.mi e86 (by decide)).trans c28
      have z93 := congrArg Int32.toInt c91
      have z94 := congrArg Int32.toInt c92
      refine k_st (st' := [.inr (.inr (some a84))]) rfl ?_
      have z95 := R79.1.1
      have R96 : RdC p0 none (1) (1) (1) σ0 σ82 := R79.tr ⟨R87.1, R87.2⟩ (by omega) (by omega) (by omega) (by omega)
      have z97 := R96.2.2.1
      have z98 := R96.2.2.2.1 rd_at
      refine k_goto ?_
      refine hB _ _ _ _ (kgoC (is := KX7_readInnerOperand_22) rfl ?_)
      refine k_areturn ?_
      have X99 : ExC [0, 1, 2, 60, 61, 62, 63, 64, 65, 66, 67, 68, 69, 70, 72, 73, 74, 75, 76, 242, 243, 244, 999] σ0 σ82 := X80.tr (e86.mo (by decide))
      have S104 : ∀ s, ReC σ0 p0 s → ReC σ82 p0 (oY d s) := by
        intro s hs
        have y100 := q24 _ hs
        rw [show p1.toInt = 21 from by omega] at y100
        rw [dpY_z (by omega)] at y100
        have y102 := q90 _ y100
        refine y102.eq ?_
        all_goals try first | rw [oY_z (show d = 0 from by omega)] | rw [oY_s (show 1 ≤ d from by omega)]
        try unfold tkY
        repeat (split <;> try (exfalso; omega))
        try unfold dpY
        repeat (split <;> try (exfalso; omega))
        all_goals rfl
      exact ⟨_, rfl, H85, X99, h88, ((R96.ft (0) (by rw [c92]; omega)).mo (by omega) (by omega) (by omega)), (by omega), S104⟩
theorem lg_X7_readInnerOperand (d : Nat) : ∀ (As : List AvC) (σ : CsC), (P_X7_readInnerOperand d) As σ → lgC As ≤ rX7_readInnerOperand.2.2.1 := by
  rintro As σ ⟨p0, p1, rfl, -⟩
  exact Nat.le_of_ble_eq_true rfl
theorem s_X7_readInnerOperand (l : Launch) (d : Nat) (h_X7_readOperand : CMetC l (13 * d + 33) 170 (P_X7_readOperand d) (Q_X7_readOperand d)) : CMetC l (13 * d + 34) 171 (P_X7_readInnerOperand d) (Q_X7_readInnerOperand d) :=
  CMetC.of KX7_readInnerOperand [(131, P_X7_isTooDeep, Q_X7_isTooDeep), (170, (P_X7_readOperand d), (Q_X7_readOperand d)), (162, P_X7_opened, Q_X7_opened)] hX7_readInnerOperand (by decide) (by omega) okX7_readInnerOperand (cc1C (m_X7_isTooDeep l) (by omega) (cc1C h_X7_readOperand (by omega) (cc1C (m_X7_opened l) (by omega) cc0C))) (lg_X7_readInnerOperand d) (b_X7_readInnerOperand d)
