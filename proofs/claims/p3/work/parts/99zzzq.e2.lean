set_option maxRecDepth 100000 in
set_option maxHeartbeats 4000000 in
theorem s_X7_readCall (l : Launch) (d : Nat) (h_X7_readExp : CMetC l (13 * d + 36) 164 (P_X7_readExp d) (Q_X7_readExp d)) : CMetC l (13 * (d + 1) + 31) 176 (P_X7_readCall (d + 1)) (Q_X7_readCall (d + 1)) := by
  refine CMetC.of KX7_readCall [(162, P_X7_opened, Q_X7_opened), (128, P_X7_accept, Q_X7_accept), (131, P_X7_isTooDeep, Q_X7_isTooDeep), (125, P_X7_code, Q_X7_code), (129, P_X7_expect, Q_X7_expect), (161, P_X7_put, Q_X7_put), (164, (P_X7_readExp d), (Q_X7_readExp d)), (130, P_X7_takes, Q_X7_takes)] hX7_readCall (by decide) (by omega) okX7_readCall (cc1C (m_X7_opened l) (by omega) (cc1C (m_X7_accept l) (by omega) (cc1C (m_X7_isTooDeep l) (by omega) (cc1C (m_X7_code l) (by omega) (cc1C (m_X7_expect l) (by omega) (cc1C (m_X7_put l) (by omega) (cc1C h_X7_readExp (by omega) (cc1C (m_X7_takes l) (by omega) cc0C)))))))) ?_ ?_
  · rintro As σ ⟨p0, p1, rfl, -⟩
    exact Nat.le_of_ble_eq_true rfl
  · rintro As σ0 ⟨p0, p1, rfl, H0, h_0_0, h_1_0, h_1_1, rd_cd, rd_at, rd_bl, rd_lv, rd_tk, rd_dp⟩ hgr G hB hW
    change G 0 [(0, .inr (.inr (some p0))), (1, .inl p1)] [] σ0
    obtain ⟨x1, e2, c3, h4, h5⟩ := cg242 H0.1 h_0_0
    obtain ⟨x6, e7, c8, h9, h10⟩ := cg243 H0.1 h_0_0
    have z11 := congrArg Int32.toInt c3
    have z12 := congrArg Int32.toInt c8
    have h13 : x6.toInt = 0 := by rw [← c8]; exact rd_lv
    have rd_bg : BgC σ0 p0 (14 + 8 * (((d + 1) : Nat) : Int)) 1000000 := ⟨fun _ => rd_bl, fun z => absurd rd_lv z⟩
    have L53 : ∀ (n53 : Nat), ∀ (σ14 : CsC) (v53_2 : Nat) (v53_3 : Nat) (v53_4 : Int32), (2147483647 - v53_4.toInt).toNat = n53 → HIC σ14 → ExC [0, 1, 2, 60, 61, 62, 63, 64, 65, 66, 67, 68, 69, 70, 72, 73, 74, 75, 76, 242, 243, 244, 999] σ0 σ14 → RdC p0 none (-15) (5 + 8 * (d : Int)) (-999) σ0 σ14 → TyC σ14 v53_2 2 → TyC σ14 v53_3 2 → 0 ≤ v53_4.toInt → v53_4.toInt ≤ 502 → cnC σ0 ≤ v53_2 → G 53 [(0, .inr (.inr (some p0))), (1, .inl p1), (2, .inr (.inr (some v53_2))), (3, .inr (.inr (some v53_3))), (4, .inl v53_4)] [] σ14 := by
      intro n53
      induction n53 using Nat.strongRecOn with
      | _ n53 ih53 =>
        intro σ14 v53_2 v53_3 v53_4 n53_ H15 e16 R17 h18 h19 h20 h21 h22
        have t28 := h_0_0.x e16
        obtain ⟨x23, e24, c25, h26, h27⟩ := cg242 H15.1 t28
        obtain ⟨x29, e30, c31, h32, h33⟩ := cg243 H15.1 t28
        have z34 := congrArg Int32.toInt c25
        have z35 := congrArg Int32.toInt c31
        refine hB _ _ _ _ (kgoC (is := KX7_readCall_53) rfl ?_)
        refine k_iload rfl ?_
        refine k_sipush (m := 500) rfl (fun x36 h37 => ?_)
        refine k_ic_gt (fun h38 => ?_) (fun h38 => ?_)
        · refine hB _ _ _ _ (kgoC (is := KX7_readCall_91) rfl ?_)
          refine k_aload_n rfl ?_
          refine k_iconst (m := 1) rfl (fun x39 h40 => ?_)
          have X41 : ExC [0, 1, 2, 60, 61, 62, 63, 64, 65, 66, 67, 68, 69, 70, 72, 73, 74, 75, 76, 242, 243, 244, 999] σ0 σ14 := ExC.rf.tr (e16.mo (by decide))
          refine k_inv (P := P_X7_expect) (Q := Q_X7_expect) rfl rfl rfl rfl (Nat.le_of_ble_eq_true rfl) (t28.rc (by decide)) ⟨_, _, rfl, H15, t28, (by omega), (by omega), (rd_cd.st H0 h_0_0 X41 R17.1 (by decide)), (R17.2.2.2.1 rd_at), (rd_bg.st H0 h_0_0 X41 R17 (by decide) (by omega) (by omega) (by omega))⟩ (fun w42 σ43 q44 => ?_)
          obtain ⟨rfl, H45, e46, R47, q48⟩ := q44
          have t54 := t28.x e46
          obtain ⟨x49, e50, c51, h52, h53⟩ := cg242 H45.1 t54
          obtain ⟨x55, e56, c57, h58, h59⟩ := cg243 H45.1 t54
          have z60 := congrArg Int32.toInt c51
          have z61 := congrArg Int32.toInt c57
          refine k_st (st' := []) rfl ?_
          have R62 : RdC p0 none (-23) (5 + 8 * (d : Int)) (-999) σ0 σ43 := R17.tr ⟨R47.1, R47.2⟩ (by omega) (by omega) (by omega) (by omega)
          have z63 := R62.2.2.1
          have z64 := R62.2.2.2.1 rd_at
          refine k_aload_n rfl ?_
          refine k_aload_n rfl ?_
          have t65 := h18.x e46
          have X66 : ExC [0, 1, 2, 60, 61, 62, 63, 64, 65, 66, 67, 68, 69, 70, 72, 73, 74, 75, 76, 242, 243, 244, 999] σ0 σ43 := X41.tr (e46.mo (by decide))
          refine k_inv (P := P_X7_put) (Q := Q_X7_put) rfl rfl rfl rfl (Nat.le_of_ble_eq_true rfl) (t54.rc (by decide)) ⟨_, _, rfl, H45, t54, t65, (rd_cd.st H0 h_0_0 X66 R62.1 (by decide)), (R62.2.2.2.1 rd_at), (rd_bg.st H0 h_0_0 X66 R62 (by decide) (by omega) (by omega) (by omega))⟩ (fun w67 σ68 q69 => ?_)
          obtain ⟨a70, rfl, H71, e72, h74, R73, q75⟩ := q69
          have c76 := (t54.mi e72 (by decide)).trans c51
          have c77 := (t54.mi e72 (by decide)).trans c57
          have z78 := congrArg Int32.toInt c76
          have z79 := congrArg Int32.toInt c77
          refine k_st (st' := [.inr (.inr (some a70))]) rfl ?_
          refine k_areturn ?_
          have X80 : ExC [0, 1, 2, 60, 61, 62, 63, 64, 65, 66, 67, 68, 69, 70, 72, 73, 74, 75, 76, 242, 243, 244, 999] σ0 σ68 := X66.tr (e72.mo (by decide))
          have R81 : RdC p0 none (-22) (6 + 8 * (d : Int)) (-998) σ0 σ68 := R62.tr ⟨R73.1, R73.2⟩ (by omega) (by omega) (by omega) (by omega)
          exact ⟨_, rfl, H71, X80, h74, (R81.mo (by omega) (by omega) (by omega)), (by omega)⟩
        · refine k_nil ?_
          refine hB _ _ _ _ (kgoC (is := KX7_readCall_61) rfl ?_)
          refine k_aload_n rfl ?_
          refine k_iconst (m := 5) rfl (fun x82 h83 => ?_)
          have X84 : ExC [0, 1, 2, 60, 61, 62, 63, 64, 65, 66, 67, 68, 69, 70, 72, 73, 74, 75, 76, 242, 243, 244, 999] σ0 σ14 := ExC.rf.tr (e16.mo (by decide))
          refine k_inv (P := P_X7_takes) (Q := Q_X7_takes) rfl rfl rfl rfl (Nat.le_of_ble_eq_true rfl) (t28.rc (by decide)) ⟨_, _, rfl, H15, t28, (by omega), (by omega), (rd_cd.st H0 h_0_0 X84 R17.1 (by decide)), (R17.2.2.2.1 rd_at), (rd_bg.st H0 h_0_0 X84 R17 (by decide) (by omega) (by omega) (by omega))⟩ (fun w85 σ86 q87 => ?_)
          obtain ⟨x88, rfl, H89, e90, h92, h93, R91, q94⟩ := q87
          have t100 := t28.x e90
          obtain ⟨x95, e96, c97, h98, h99⟩ := cg242 H89.1 t100
          obtain ⟨x101, e102, c103, h104, h105⟩ := cg243 H89.1 t100
          have z106 := congrArg Int32.toInt c97
          have z107 := congrArg Int32.toInt c103
          refine k_st (st' := [.inl x88]) rfl ?_
          rcases (by omega : x88.toInt = 0 ∨ x88.toInt = 1) with g108 | g108
          · have R109 : RdC p0 none (-15) (5 + 8 * (d : Int)) (-999) σ0 σ86 := R17.tr ⟨R91.1, R91.2⟩ (by omega) (by omega) (by omega) (by omega)
            have z110 := R109.2.2.1
            have z111 := R109.2.2.2.1 rd_at
            refine k_if_eq (fun h112 => ?_) (fun h112 => by exfalso; omega)
            refine hB _ _ _ _ (kgoC (is := KX7_readCall_91) rfl ?_)
            refine k_aload_n rfl ?_
            refine k_iconst (m := 1) rfl (fun x113 h114 => ?_)
            have X115 : ExC [0, 1, 2, 60, 61, 62, 63, 64, 65, 66, 67, 68, 69, 70, 72, 73, 74, 75, 76, 242, 243, 244, 999] σ0 σ86 := X84.tr (e90.mo (by decide))
            refine k_inv (P := P_X7_expect) (Q := Q_X7_expect) rfl rfl rfl rfl (Nat.le_of_ble_eq_true rfl) (t100.rc (by decide)) ⟨_, _, rfl, H89, t100, (by omega), (by omega), (rd_cd.st H0 h_0_0 X115 R109.1 (by decide)), (R109.2.2.2.1 rd_at), (rd_bg.st H0 h_0_0 X115 R109 (by decide) (by omega) (by omega) (by omega))⟩ (fun w116 σ117 q118 => ?_)
            obtain ⟨rfl, H119, e120, R121, q122⟩ := q118
            have t128 := t100.x e120
            obtain ⟨x123, e124, c125, h126, h127⟩ := cg242 H119.1 t128
            obtain ⟨x129, e130, c131, h132, h133⟩ := cg243 H119.1 t128
            have z134 := congrArg Int32.toInt c125
            have z135 := congrArg Int32.toInt c131
            refine k_st (st' := []) rfl ?_
            have R136 : RdC p0 none (-23) (5 + 8 * (d : Int)) (-999) σ0 σ117 := R109.tr ⟨R121.1, R121.2⟩ (by omega) (by omega) (by omega) (by omega)
            have z137 := R136.2.2.1
            have z138 := R136.2.2.2.1 rd_at
            refine k_aload_n rfl ?_
            refine k_aload_n rfl ?_
            have t139 := h18.x e90
            have t140 := t139.x e120
            have X141 : ExC [0, 1, 2, 60, 61, 62, 63, 64, 65, 66, 67, 68, 69, 70, 72, 73, 74, 75, 76, 242, 243, 244, 999] σ0 σ117 := X115.tr (e120.mo (by decide))
            refine k_inv (P := P_X7_put) (Q := Q_X7_put) rfl rfl rfl rfl (Nat.le_of_ble_eq_true rfl) (t128.rc (by decide)) ⟨_, _, rfl, H119, t128, t140, (rd_cd.st H0 h_0_0 X141 R136.1 (by decide)), (R136.2.2.2.1 rd_at), (rd_bg.st H0 h_0_0 X141 R136 (by decide) (by omega) (by omega) (by omega))⟩ (fun w142 σ143 q144 => ?_)
            obtain ⟨a145, rfl, H146, e147, h149, R148, q150⟩ := q144
            have c151 := (t128.mi e147 (by decide)).trans c125
            have c152 := (t128.mi e147 (by decide)).trans c131
            have z153 := congrArg Int32.toInt c151
            have z154 := congrArg Int32.toInt c152
            refine k_st (st' := [.inr (.inr (some a145))]) rfl ?_
            refine k_areturn ?_
            have X155 : ExC [0, 1, 2, 60, 61, 62, 63, 64, 65, 66, 67, 68, 69, 70, 72, 73, 74, 75, 76, 242, 243, 244, 999] σ0 σ143 := X141.tr (e147.mo (by decide))
            have R156 : RdC p0 none (-22) (6 + 8 * (d : Int)) (-998) σ0 σ143 := R136.tr ⟨R148.1, R148.2⟩ (by omega) (by omega) (by omega) (by omega)
            exact ⟨_, rfl, H146, X155, h149, (R156.mo (by omega) (by omega) (by omega)), (by omega)⟩
          · have R157 := R17.nf (-1000) (-1000) (q94 (by omega)).1
            have R158 : RdC p0 none (-23) (-15) (-1000) σ0 σ86 := R157.tr ⟨(q94 (by omega)).2.1, (q94 (by omega)).2.2⟩ (by omega) (by omega) (by omega) (by omega)
            have z159 := R158.2.2.1
            have z160 := R158.2.2.2.1 rd_at
            refine k_if_eq (fun h161 => by exfalso; omega) (fun h161 => ?_)
            refine k_nil ?_
            refine hB _ _ _ _ (kgoC (is := KX7_readCall_69) rfl ?_)
            refine k_aload_n rfl ?_
            refine k_aload_n rfl ?_
            refine k_iload_n rfl ?_
            refine k_iconst (m := 1) rfl (fun x162 h163 => ?_)
            refine k_iadd (by omega) (by omega) (fun x164 h165 => ?_)
            have X166 : ExC [0, 1, 2, 60, 61, 62, 63, 64, 65, 66, 67, 68, 69, 70, 72, 73, 74, 75, 76, 242, 243, 244, 999] σ0 σ86 := X84.tr (e90.mo (by decide))
            refine k_inv (P := (P_X7_readExp d)) (Q := (Q_X7_readExp d)) rfl rfl rfl rfl (Nat.le_of_ble_eq_true rfl) (t100.rc (by decide)) ⟨_, _, rfl, H89, t100, (by omega), (by omega), (rd_cd.st H0 h_0_0 X166 R158.1 (by decide)), (R158.2.2.2.1 rd_at), (rd_bg.st H0 h_0_0 X166 R158 (by decide) (by omega) (by omega) (by omega)), (by omega)⟩ (fun w167 σ168 q169 => ?_)
            obtain ⟨a170, rfl, H171, e172, h174, R173, q175⟩ := q169
            have t181 := t100.x e172
            obtain ⟨x176, e177, c178, h179, h180⟩ := cg242 H171.1 t181
            obtain ⟨x182, e183, c184, h185, h186⟩ := cg243 H171.1 t181
            have z187 := congrArg Int32.toInt c178
            have z188 := congrArg Int32.toInt c184
            refine k_st (st' := [.inr (.inr (some a170)), .inr (.inr (some v53_3))]) rfl ?_
            have z189 := R158.1.1
            have R190 : RdC p0 none (-23) (-3 + 8 * (d : Int)) (-999) σ0 σ168 := R158.tr ⟨R173.1, R173.2⟩ (by omega) (by omega) (by omega) (by omega)
            have z191 := R190.2.2.1
            have z192 := R190.2.2.2.1 rd_at
            have t193 := h19.x e90
            have z194 := t193.1
            have t200 := t193.x e172
            refine k_p75 H171 t200 h174 (by omega) (fun σ195 H196 e197 g198 c199 => ?_)
            refine k_aload_n rfl ?_
            have t201 := t200.x e197
            refine k_get kg75 t201 (congrArg (fun z : Option Nat => (Sum.inr (Sum.inr z) : AvC)) c199) ?_
            refine k_astore_n (ls' := [(3, .inr (.inr (some a170))), (0, .inr (.inr (some p0))), (1, .inl p1), (2, .inr (.inr (some v53_2))), (4, .inl v53_4)]) rfl ?_
            obtain ⟨x202, e204, h203⟩ := iincC (n := 1) (m := 1) (v := v53_4) rfl (by omega) (by omega)
            refine k_iinc (ls' := [(4, .inl x202), (3, .inr (.inr (some a170))), (0, .inr (.inr (some p0))), (1, .inl p1), (2, .inr (.inr (some v53_2)))]) rfl e204 rfl ?_
            refine k_goto ?_
            have R205 : RdC p0 none (-23) (-3 + 8 * (d : Int)) (-999) σ0 σ195 := R190.tr ⟨g198, (e197.cou (u := 0) H171.1 t181 (by decide) (by rw [e197.cn (by decide)]; omega))⟩ (by omega) (by omega) (by omega) (by omega)
            have c206 := (t181.mi e197 (by decide)).trans c184
            have t207 := h18.x e90
            have t208 := t207.x e172
            have t209 := t208.x e197
            have t210 := h174.x e197
            have X211 : ExC [0, 1, 2, 60, 61, 62, 63, 64, 65, 66, 67, 68, 69, 70, 72, 73, 74, 75, 76, 242, 243, 244, 999] σ0 σ168 := X166.tr (e172.mo (by decide))
            have X212 : ExC [0, 1, 2, 60, 61, 62, 63, 64, 65, 66, 67, 68, 69, 70, 72, 73, 74, 75, 76, 242, 243, 244, 999] σ0 σ195 := X211.tr (e197.mo (by decide))
            exact hW _ _ _ _ _ (List.forall_mem_cons.2 ⟨List.Mem.tail _ (List.Mem.tail _ (List.Mem.head _)), (List.forall_mem_cons.2 ⟨List.Mem.tail _ (List.Mem.tail _ (List.Mem.tail _ (List.Mem.head _))), (List.forall_mem_cons.2 ⟨List.Mem.tail _ (List.Mem.tail _ (List.Mem.tail _ (List.Mem.tail _ (List.Mem.head _)))), (List.forall_mem_cons.2 ⟨List.Mem.tail _ (List.Mem.head _), (List.forall_mem_cons.2 ⟨List.Mem.head _, fun _ h => absurd h List.not_mem_nil⟩)⟩)⟩)⟩)⟩) (ih53 ((2147483647 - x202.toInt).toNat) (by omega) σ195 v53_2 a170 x202 rfl H196 X212 (R205.mo (by omega) (by omega) (by omega)) t209 t210 (by omega) (by omega) (by omega))
    refine hB _ _ _ _ (kgoC (is := KX7_readCall_0) rfl ?_)
    refine k_aload_n rfl ?_
    refine k_bipush (m := 10) rfl (fun x213 h214 => ?_)
    refine k_iconst (m := 0) rfl (fun x215 h216 => ?_)
    have R217 := (RdC.rf : RdC p0 none 0 0 0 σ0 σ0).nf (-1000) (-1000) (by rw [c8]; omega)
    refine k_inv (P := P_X7_opened) (Q := Q_X7_opened) rfl rfl rfl rfl (Nat.le_of_ble_eq_true rfl) (h_0_0.rc (by decide)) ⟨_, _, _, rfl, H0, h_0_0, (rd_cd.st H0 h_0_0 (ExC.rf : ExC [0, 1, 2, 60, 61, 62, 63, 64, 65, 66, 67, 68, 69, 70, 72, 73, 74, 75, 76, 242, 243, 244, 999] σ0 σ0) R217.1 (by decide)), (R217.2.2.2.1 rd_at), (rd_bg.stn H0 h_0_0 (ExC.rf : ExC [0, 1, 2, 60, 61, 62, 63, 64, 65, 66, 67, 68, 69, 70, 72, 73, 74, 75, 76, 242, 243, 244, 999] σ0 σ0) R217 (by decide) (by rw [c8]; omega) (by omega)), (by omega)⟩ (fun w218 σ219 q220 => ?_)
    obtain ⟨a221, rfl, H222, e223, h225, R224, q226⟩ := q220
    have c227 := (h_0_0.mi e223 (by decide)).trans c3
    have c228 := (h_0_0.mi e223 (by decide)).trans c8
    have z229 := congrArg Int32.toInt c227
    have z230 := congrArg Int32.toInt c228
    refine k_st (st' := [.inr (.inr (some a221))]) rfl ?_
    have z231 := R217.1.1
    have R232 : RdC p0 none (1) (1) (-999) σ0 σ219 := R217.tr ⟨R224.1, R224.2⟩ (by omega) (by omega) (by omega) (by omega)
    have R233 := R232.nf (-1000) (-1000) (by rw [c228]; omega)
    have z234 := R233.2.2.1
    have z235 := R233.2.2.2.1 rd_at
    refine k_astore_n (ls' := [(2, .inr (.inr (some a221))), (0, .inr (.inr (some p0))), (1, .inl p1)]) rfl ?_
    refine k_aload_n rfl ?_
    have t236 := h_0_0.x e223
    have X237 : ExC [0, 1, 2, 60, 61, 62, 63, 64, 65, 66, 67, 68, 69, 70, 72, 73, 74, 75, 76, 242, 243, 244, 999] σ0 σ219 := ExC.rf.tr (e223.mo (by decide))
    refine k_inv (P := P_X7_accept) (Q := Q_X7_accept) rfl rfl rfl rfl (Nat.le_of_ble_eq_true rfl) (t236.rc (by decide)) ⟨_, rfl, H222, t236, (rd_cd.st H0 h_0_0 X237 R233.1 (by decide)), (R233.2.2.2.1 rd_at), (rd_bg.stn H0 h_0_0 X237 R233 (by decide) (by rw [c228]; omega) (by omega)), (by have ct := R233.2.2.1; rw [c228, c227, ct]; omega)⟩ (fun w238 σ239 q240 => ?_)
    obtain ⟨rfl, H241, e242, R243, q244⟩ := q240
    have t250 := t236.x e242
    obtain ⟨x245, e246, c247, h248, h249⟩ := cg242 H241.1 t250
    obtain ⟨x251, e252, c253, h254, h255⟩ := cg243 H241.1 t250
    have z256 := congrArg Int32.toInt c247
    have z257 := congrArg Int32.toInt c253
    refine k_st (st' := []) rfl ?_
    have R258 : RdC p0 none (-7) (1) (-1000) σ0 σ239 := R233.tr ⟨R243.1, R243.2⟩ (by omega) (by omega) (by omega) (by omega)
    have z259 := R258.2.2.1
    have z260 := R258.2.2.2.1 rd_at
    refine k_aload_n rfl ?_
    have X261 : ExC [0, 1, 2, 60, 61, 62, 63, 64, 65, 66, 67, 68, 69, 70, 72, 73, 74, 75, 76, 242, 243, 244, 999] σ0 σ239 := X237.tr (e242.mo (by decide))
    refine k_inv (P := P_X7_accept) (Q := Q_X7_accept) rfl rfl rfl rfl (Nat.le_of_ble_eq_true rfl) (t250.rc (by decide)) ⟨_, rfl, H241, t250, (rd_cd.st H0 h_0_0 X261 R258.1 (by decide)), (R258.2.2.2.1 rd_at), (rd_bg.st H0 h_0_0 X261 R258 (by decide) (by omega) (by omega) (by omega)), (by have ct := R258.2.2.1; rw [c253, c247, ct]; omega)⟩ (fun w262 σ263 q264 => ?_)
    obtain ⟨rfl, H265, e266, R267, q268⟩ := q264
    have t274 := t250.x e266
    obtain ⟨x269, e270, c271, h272, h273⟩ := cg242 H265.1 t274
    obtain ⟨x275, e276, c277, h278, h279⟩ := cg243 H265.1 t274
    have z280 := congrArg Int32.toInt c271
    have z281 := congrArg Int32.toInt c277
    refine k_st (st' := []) rfl ?_
    have R282 : RdC p0 none (-15) (1) (-1000) σ0 σ263 := R258.tr ⟨R267.1, R267.2⟩ (by omega) (by omega) (by omega) (by omega)
    have z283 := R282.2.2.1
    have z284 := R282.2.2.2.1 rd_at
    refine k_aload_n rfl ?_
    refine k_iload_n rfl ?_
    refine k_iconst (m := 1) rfl (fun x285 h286 => ?_)
    refine k_iadd (by omega) (by omega) (fun x287 h288 => ?_)
    have X289 : ExC [0, 1, 2, 60, 61, 62, 63, 64, 65, 66, 67, 68, 69, 70, 72, 73, 74, 75, 76, 242, 243, 244, 999] σ0 σ263 := X261.tr (e266.mo (by decide))
    refine k_inv (P := P_X7_isTooDeep) (Q := Q_X7_isTooDeep) rfl rfl rfl rfl (Nat.le_of_ble_eq_true rfl) (t274.rc (by decide)) ⟨_, _, rfl, H265, t274, (rd_cd.st H0 h_0_0 X289 R282.1 (by decide)), (R282.2.2.2.1 rd_at), (rd_bg.st H0 h_0_0 X289 R282 (by decide) (by omega) (by omega) (by omega))⟩ (fun w290 σ291 q292 => ?_)
    obtain ⟨x293, rfl, H294, e295, h297, h298, R296, q299, q300⟩ := q292
    have c301 := (t274.mi e295 (by decide)).trans c271
    have t307 := t274.x e295
    obtain ⟨x302, e303, c304, h305, h306⟩ := cg243 H294.1 t307
    have z308 := congrArg Int32.toInt c301
    have z309 := congrArg Int32.toInt c304
    refine k_st (st' := [.inl x293]) rfl ?_
    rcases (by omega : x293.toInt = 0 ∨ x293.toInt = 1) with g310 | g310
    · have h311 := q300 (by omega)
      refine k_if_ne (fun h312 => by exfalso; omega) (fun h312 => ?_)
      refine k_nil ?_
      refine hB _ _ _ _ (kgoC (is := KX7_readCall_26) rfl ?_)
      refine k_aload_n rfl ?_
      have R313 : RdC p0 none (-15) (1) (-1000) σ0 σ291 := R282.tr ⟨R296.1, R296.2⟩ (by omega) (by omega) (by omega) (by omega)
      have X314 : ExC [0, 1, 2, 60, 61, 62, 63, 64, 65, 66, 67, 68, 69, 70, 72, 73, 74, 75, 76, 242, 243, 244, 999] σ0 σ291 := X289.tr (e295.mo (by decide))
      refine k_inv (P := P_X7_code) (Q := Q_X7_code) rfl rfl rfl rfl (Nat.le_of_ble_eq_true rfl) (t307.rc (by decide)) ⟨_, rfl, H294, t307, (rd_cd.st H0 h_0_0 X314 R313.1 (by decide))⟩ (fun w315 σ316 q317 => ?_)
      obtain ⟨x318, rfl, rfl, q319, q320, q321⟩ := q317
      refine k_st (st' := [.inl x318]) rfl ?_
      have z322 := R313.2.2.1
      have z323 := R313.2.2.2.1 rd_at
      refine k_iconst (m := 1) rfl (fun x324 h325 => ?_)
      refine k_ic_eq (fun h326 => ?_) (fun h326 => ?_)
      · have h327 : x302.toInt = 0 := by omega
        refine hB _ _ _ _ (kgoC (is := KX7_readCall_91) rfl ?_)
        refine k_aload_n rfl ?_
        refine k_iconst (m := 1) rfl (fun x328 h329 => ?_)
        have R330 := R313.nf (-1000) (-1000) (by rw [c304]; omega)
        refine k_inv (P := P_X7_expect) (Q := Q_X7_expect) rfl rfl rfl rfl (Nat.le_of_ble_eq_true rfl) (t307.rc (by decide)) ⟨_, _, rfl, H294, t307, (by omega), (by omega), (rd_cd.st H0 h_0_0 X314 R330.1 (by decide)), (R330.2.2.2.1 rd_at), (rd_bg.stn H0 h_0_0 X314 R330 (by decide) (by rw [c304]; omega) (by omega))⟩ (fun w331 σ332 q333 => ?_)
        obtain ⟨rfl, H334, e335, R336, q337⟩ := q333
        have t343 := t307.x e335
        obtain ⟨x338, e339, c340, h341, h342⟩ := cg242 H334.1 t343
        obtain ⟨x344, e345, c346, h347, h348⟩ := cg243 H334.1 t343
        have z349 := congrArg Int32.toInt c340
        have z350 := congrArg Int32.toInt c346
        refine k_st (st' := []) rfl ?_
        have R351 : RdC p0 none (-23) (-15) (-1000) σ0 σ332 := R330.tr ⟨R336.1, R336.2⟩ (by omega) (by omega) (by omega) (by omega)
        have z352 := R351.2.2.1
        have z353 := R351.2.2.2.1 rd_at
        refine k_aload_n rfl ?_
        refine k_aload_n rfl ?_
        have t354 := h225.x e242
        have t355 := t354.x e266
        have t356 := t355.x e295
        have t357 := t356.x e335
        have X358 : ExC [0, 1, 2, 60, 61, 62, 63, 64, 65, 66, 67, 68, 69, 70, 72, 73, 74, 75, 76, 242, 243, 244, 999] σ0 σ332 := X314.tr (e335.mo (by decide))
        refine k_inv (P := P_X7_put) (Q := Q_X7_put) rfl rfl rfl rfl (Nat.le_of_ble_eq_true rfl) (t343.rc (by decide)) ⟨_, _, rfl, H334, t343, t357, (rd_cd.st H0 h_0_0 X358 R351.1 (by decide)), (R351.2.2.2.1 rd_at), (rd_bg.st H0 h_0_0 X358 R351 (by decide) (by omega) (by omega) (by omega))⟩ (fun w359 σ360 q361 => ?_)
        obtain ⟨a362, rfl, H363, e364, h366, R365, q367⟩ := q361
        have c368 := (t343.mi e364 (by decide)).trans c340
        have c369 := (t343.mi e364 (by decide)).trans c346
        have z370 := congrArg Int32.toInt c368
        have z371 := congrArg Int32.toInt c369
        refine k_st (st' := [.inr (.inr (some a362))]) rfl ?_
        refine k_areturn ?_
        have X372 : ExC [0, 1, 2, 60, 61, 62, 63, 64, 65, 66, 67, 68, 69, 70, 72, 73, 74, 75, 76, 242, 243, 244, 999] σ0 σ360 := X358.tr (e364.mo (by decide))
        have R373 : RdC p0 none (-22) (-14) (-999) σ0 σ360 := R351.tr ⟨R365.1, R365.2⟩ (by omega) (by omega) (by omega) (by omega)
        exact ⟨_, rfl, H363, X372, h366, (R373.mo (by omega) (by omega) (by omega)), (by omega)⟩
      · refine k_nil ?_
        refine hB _ _ _ _ (kgoC (is := KX7_readCall_34) rfl ?_)
        refine k_aload_n rfl ?_
        refine k_aload_n rfl ?_
        refine k_iload_n rfl ?_
        refine k_iconst (m := 1) rfl (fun x374 h375 => ?_)
        refine k_iadd (by omega) (by omega) (fun x376 h377 => ?_)
        refine k_inv (P := (P_X7_readExp d)) (Q := (Q_X7_readExp d)) rfl rfl rfl rfl (Nat.le_of_ble_eq_true rfl) (t307.rc (by decide)) ⟨_, _, rfl, H294, t307, (by omega), (by omega), (rd_cd.st H0 h_0_0 X314 R313.1 (by decide)), (R313.2.2.2.1 rd_at), (rd_bg.st H0 h_0_0 X314 R313 (by decide) (by omega) (by omega) (by omega)), (by omega)⟩ (fun w378 σ379 q380 => ?_)
        obtain ⟨a381, rfl, H382, e383, h385, R384, q386⟩ := q380
        have t392 := t307.x e383
        obtain ⟨x387, e388, c389, h390, h391⟩ := cg242 H382.1 t392
        obtain ⟨x393, e394, c395, h396, h397⟩ := cg243 H382.1 t392
        have z398 := congrArg Int32.toInt c389
        have z399 := congrArg Int32.toInt c395
        refine k_st (st' := [.inr (.inr (some a381)), .inr (.inr (some a221))]) rfl ?_
        have z400 := R313.1.1
        have R401 : RdC p0 none (-15) (5 + 8 * (d : Int)) (-999) σ0 σ379 := R313.tr ⟨R384.1, R384.2⟩ (by omega) (by omega) (by omega) (by omega)
        have z402 := R401.2.2.1
        have z403 := R401.2.2.2.1 rd_at
        have t404 := h225.x e242
        have t405 := t404.x e266
        have t406 := t405.x e295
        have t407 := t406.x e383
        refine k_putR kp72 H382 t407 fk72 (rf72 h385) (fun σ408 H409 e410 c411 => ?_)
        refine k_aload_n rfl ?_
        have t412 := t407.x e410
        refine k_get kg72 t412 (congrArg (fun z : Option Nat => (Sum.inr (Sum.inr z) : AvC)) c411) ?_
        refine k_astore_n (ls' := [(3, .inr (.inr (some a381))), (2, .inr (.inr (some a221))), (0, .inr (.inr (some p0))), (1, .inl p1)]) rfl ?_
        refine k_iconst (m := 0) rfl (fun x413 h414 => ?_)
        refine k_istore (ls' := [(4, .inl x413), (3, .inr (.inr (some a381))), (2, .inr (.inr (some a221))), (0, .inr (.inr (some p0))), (1, .inl p1)]) rfl ?_
        refine k_nil ?_
        have R415 : RdC p0 none (-15) (5 + 8 * (d : Int)) (-999) σ0 σ408 := R401.tr ⟨(e410.gw H382.1 (by decide)), (e410.cou (u := 0) H382.1 t392 (by decide) (by rw [e410.cn (by decide)]; omega))⟩ (by omega) (by omega) (by omega) (by omega)
        have c416 := (t392.mi e410 (by decide)).trans c395
        have t417 := h385.x e410
        have X418 : ExC [0, 1, 2, 60, 61, 62, 63, 64, 65, 66, 67, 68, 69, 70, 72, 73, 74, 75, 76, 242, 243, 244, 999] σ0 σ379 := X314.tr (e383.mo (by decide))
        have X419 : ExC [0, 1, 2, 60, 61, 62, 63, 64, 65, 66, 67, 68, 69, 70, 72, 73, 74, 75, 76, 242, 243, 244, 999] σ0 σ408 := X418.tr (e410.mo (by decide))
        exact hW _ _ _ _ _ (List.forall_mem_cons.2 ⟨List.Mem.tail _ (List.Mem.tail _ (List.Mem.tail _ (List.Mem.head _))), (List.forall_mem_cons.2 ⟨List.Mem.tail _ (List.Mem.tail _ (List.Mem.tail _ (List.Mem.tail _ (List.Mem.head _)))), (List.forall_mem_cons.2 ⟨List.Mem.tail _ (List.Mem.tail _ (List.Mem.head _)), (List.forall_mem_cons.2 ⟨List.Mem.tail _ (List.Mem.head _), (List.forall_mem_cons.2 ⟨List.Mem.head _, fun _ h => absurd h List.not_mem_nil⟩)⟩)⟩)⟩)⟩) (L53 _ σ408 a221 a381 x413 rfl H409 X419 (R415.mo (by omega) (by omega) (by omega)) t412 t417 (by omega) (by omega) (by omega))
    · have h420 : 1 ≤ x302.toInt := by have hq := (q299 (by omega)).2; rw [c304] at hq; omega
      have h421 := (q299 (by omega)).1
      refine k_if_ne (fun h422 => ?_) (fun h422 => by exfalso; omega)
      refine hB _ _ _ _ (kgoC (is := KX7_readCall_91) rfl ?_)
      refine k_aload_n rfl ?_
      refine k_iconst (m := 1) rfl (fun x423 h424 => ?_)
      have R425 : RdC p0 none (-15) (1) (-1000) σ0 σ291 := R282.tr ⟨R296.1, R296.2⟩ (by omega) (by omega) (by omega) (by omega)
      have X426 : ExC [0, 1, 2, 60, 61, 62, 63, 64, 65, 66, 67, 68, 69, 70, 72, 73, 74, 75, 76, 242, 243, 244, 999] σ0 σ291 := X289.tr (e295.mo (by decide))
      refine k_inv (P := P_X7_expect) (Q := Q_X7_expect) rfl rfl rfl rfl (Nat.le_of_ble_eq_true rfl) (t307.rc (by decide)) ⟨_, _, rfl, H294, t307, (by omega), (by omega), (rd_cd.st H0 h_0_0 X426 R425.1 (by decide)), (R425.2.2.2.1 rd_at), (rd_bg.st H0 h_0_0 X426 R425 (by decide) (by omega) (by omega) (by omega))⟩ (fun w427 σ428 q429 => ?_)
      obtain ⟨rfl, H430, e431, R432, q433⟩ := q429
      have t439 := t307.x e431
      obtain ⟨x434, e435, c436, h437, h438⟩ := cg242 H430.1 t439
      obtain ⟨x440, e441, c442, h443, h444⟩ := cg243 H430.1 t439
      have z445 := congrArg Int32.toInt c436
      have z446 := congrArg Int32.toInt c442
      refine k_st (st' := []) rfl ?_
      have R447 : RdC p0 none (-23) (1) (-1000) σ0 σ428 := R425.tr ⟨R432.1, R432.2⟩ (by omega) (by omega) (by omega) (by omega)
      have z448 := R447.2.2.1
      have z449 := R447.2.2.2.1 rd_at
      refine k_aload_n rfl ?_
      refine k_aload_n rfl ?_
      have t450 := h225.x e242
      have t451 := t450.x e266
      have t452 := t451.x e295
      have t453 := t452.x e431
      have X454 : ExC [0, 1, 2, 60, 61, 62, 63, 64, 65, 66, 67, 68, 69, 70, 72, 73, 74, 75, 76, 242, 243, 244, 999] σ0 σ428 := X426.tr (e431.mo (by decide))
      refine k_inv (P := P_X7_put) (Q := Q_X7_put) rfl rfl rfl rfl (Nat.le_of_ble_eq_true rfl) (t439.rc (by decide)) ⟨_, _, rfl, H430, t439, t453, (rd_cd.st H0 h_0_0 X454 R447.1 (by decide)), (R447.2.2.2.1 rd_at), (rd_bg.st H0 h_0_0 X454 R447 (by decide) (by omega) (by omega) (by omega))⟩ (fun w455 σ456 q457 => ?_)
      obtain ⟨a458, rfl, H459, e460, h462, R461, q463⟩ := q457
      have c464 := (t439.mi e460 (by decide)).trans c436
      have c465 := (t439.mi e460 (by decide)).trans c442
      have z466 := congrArg Int32.toInt c464
      have z467 := congrArg Int32.toInt c465
      refine k_st (st' := [.inr (.inr (some a458))]) rfl ?_
      refine k_areturn ?_
      have X468 : ExC [0, 1, 2, 60, 61, 62, 63, 64, 65, 66, 67, 68, 69, 70, 72, 73, 74, 75, 76, 242, 243, 244, 999] σ0 σ456 := X454.tr (e460.mo (by decide))
      have R469 : RdC p0 none (-22) (2) (-999) σ0 σ456 := R447.tr ⟨R461.1, R461.2⟩ (by omega) (by omega) (by omega) (by omega)
      exact ⟨_, rfl, H459, X468, h462, (R469.mo (by omega) (by omega) (by omega)), (by omega)⟩

set_option maxRecDepth 100000 in
set_option maxHeartbeats 4000000 in
theorem s_X7_readAlone (l : Launch) (d : Nat) (h_X7_readInnerOperand : CMetC l (13 * d + 34) 171 (P_X7_readInnerOperand d) (Q_X7_readInnerOperand d)) : CMetC l (13 * (d + 1) + 31) 172 (P_X7_readAlone (d + 1)) (Q_X7_readAlone (d + 1)) := by
  refine CMetC.of KX7_readAlone [(125, P_X7_code, Q_X7_code), (162, P_X7_opened, Q_X7_opened), (128, P_X7_accept, Q_X7_accept), (171, (P_X7_readInnerOperand d), (Q_X7_readInnerOperand d)), (161, P_X7_put, Q_X7_put)] hX7_readAlone (by decide) (by omega) okX7_readAlone (cc1C (m_X7_code l) (by omega) (cc1C (m_X7_opened l) (by omega) (cc1C (m_X7_accept l) (by omega) (cc1C h_X7_readInnerOperand (by omega) (cc1C (m_X7_put l) (by omega) cc0C))))) ?_ ?_
  · rintro As σ ⟨p0, p1, rfl, -⟩
    exact Nat.le_of_ble_eq_true rfl
  · rintro As σ0 ⟨p0, p1, rfl, H0, h_0_0, h_1_0, h_1_1, rd_cd, rd_at, rd_bl, rd_lv, rd_tk, rd_dp⟩ hgr G hB hW
    change G 0 [(0, .inr (.inr (some p0))), (1, .inl p1)] [] σ0
    obtain ⟨x1, e2, c3, h4, h5⟩ := cg242 H0.1 h_0_0
    obtain ⟨x6, e7, c8, h9, h10⟩ := cg243 H0.1 h_0_0
    have z11 := congrArg Int32.toInt c3
    have z12 := congrArg Int32.toInt c8
    have h13 : x6.toInt = 0 := by rw [← c8]; exact rd_lv
    have rd_bg : BgC σ0 p0 (14 + 8 * (((d + 1) : Nat) : Int)) 1000000 := ⟨fun _ => rd_bl, fun z => absurd rd_lv z⟩
    refine hB _ _ _ _ (kgoC (is := KX7_readAlone_0) rfl ?_)
    refine k_aload_n rfl ?_
    refine k_iconst (m := 4) rfl (fun x14 h15 => ?_)
    refine k_aload_n rfl ?_
    have R16 := (RdC.rf : RdC p0 none 0 0 0 σ0 σ0).nf (-1000) (-1000) (by rw [c8]; omega)
    refine k_inv (P := P_X7_code) (Q := Q_X7_code) rfl rfl rfl rfl (Nat.le_of_ble_eq_true rfl) (h_0_0.rc (by decide)) ⟨_, rfl, H0, h_0_0, (rd_cd.st H0 h_0_0 (ExC.rf : ExC [0, 1, 2, 60, 61, 62, 63, 64, 65, 66, 67, 68, 69, 70, 72, 73, 74, 75, 76, 242, 243, 244, 999] σ0 σ0) R16.1 (by decide))⟩ (fun w17 σ18 q19 => ?_)
    obtain ⟨x20, rfl, rfl, q21, q22, q23⟩ := q19
    refine k_st (st' := [.inl x20, .inl x14, .inr (.inr (some p0))]) rfl ?_
    have z24 := R16.2.2.1
    have z25 := R16.2.2.2.1 rd_at
    refine k_inv (P := P_X7_opened) (Q := Q_X7_opened) rfl rfl rfl rfl (Nat.le_of_ble_eq_true rfl) (h_0_0.rc (by decide)) ⟨_, _, _, rfl, H0, h_0_0, (rd_cd.st H0 h_0_0 (ExC.rf : ExC [0, 1, 2, 60, 61, 62, 63, 64, 65, 66, 67, 68, 69, 70, 72, 73, 74, 75, 76, 242, 243, 244, 999] σ0 σ0) R16.1 (by decide)), (R16.2.2.2.1 rd_at), (rd_bg.stn H0 h_0_0 (ExC.rf : ExC [0, 1, 2, 60, 61, 62, 63, 64, 65, 66, 67, 68, 69, 70, 72, 73, 74, 75, 76, 242, 243, 244, 999] σ0 σ0) R16 (by decide) (by rw [c8]; omega) (by omega)), (by omega)⟩ (fun w26 σ27 q28 => ?_)
    obtain ⟨a29, rfl, H30, e31, h33, R32, q34⟩ := q28
    have c35 := (h_0_0.mi e31 (by decide)).trans c3
    have c36 := (h_0_0.mi e31 (by decide)).trans c8
    have z37 := congrArg Int32.toInt c35
    have z38 := congrArg Int32.toInt c36
    refine k_st (st' := [.inr (.inr (some a29))]) rfl ?_
    have z39 := R16.1.1
    have R40 : RdC p0 none (1) (1) (-999) σ0 σ27 := R16.tr ⟨R32.1, R32.2⟩ (by omega) (by omega) (by omega) (by omega)
    have R41 := R40.nf (-1000) (-1000) (by rw [c36]; omega)
    have z42 := R41.2.2.1
    have z43 := R41.2.2.2.1 rd_at
    refine k_astore_n (ls' := [(2, .inr (.inr (some a29))), (0, .inr (.inr (some p0))), (1, .inl p1)]) rfl ?_
    refine k_aload_n rfl ?_
    have t44 := h_0_0.x e31
    have X45 : ExC [0, 1, 2, 60, 61, 62, 63, 64, 65, 66, 67, 68, 69, 70, 72, 73, 74, 75, 76, 242, 243, 244, 999] σ0 σ27 := ExC.rf.tr (e31.mo (by decide))
    refine k_inv (P := P_X7_accept) (Q := Q_X7_accept) rfl rfl rfl rfl (Nat.le_of_ble_eq_true rfl) (t44.rc (by decide)) ⟨_, rfl, H30, t44, (rd_cd.st H0 h_0_0 X45 R41.1 (by decide)), (R41.2.2.2.1 rd_at), (rd_bg.stn H0 h_0_0 X45 R41 (by decide) (by rw [c36]; omega) (by omega)), (by have ct := R41.2.2.1; rw [c36, c35, ct]; omega)⟩ (fun w46 σ47 q48 => ?_)
    obtain ⟨rfl, H49, e50, R51, q52⟩ := q48
    have t58 := t44.x e50
    obtain ⟨x53, e54, c55, h56, h57⟩ := cg242 H49.1 t58
    obtain ⟨x59, e60, c61, h62, h63⟩ := cg243 H49.1 t58
    have z64 := congrArg Int32.toInt c55
    have z65 := congrArg Int32.toInt c61
    refine k_st (st' := []) rfl ?_
    have R66 : RdC p0 none (-7) (1) (-1000) σ0 σ47 := R41.tr ⟨R51.1, R51.2⟩ (by omega) (by omega) (by omega) (by omega)
    have z67 := R66.2.2.1
    have z68 := R66.2.2.2.1 rd_at
    refine k_aload_n rfl ?_
    refine k_aload_n rfl ?_
    refine k_iload_n rfl ?_
    refine k_iconst (m := 1) rfl (fun x69 h70 => ?_)
    refine k_iadd (by omega) (by omega) (fun x71 h72 => ?_)
    have X73 : ExC [0, 1, 2, 60, 61, 62, 63, 64, 65, 66, 67, 68, 69, 70, 72, 73, 74, 75, 76, 242, 243, 244, 999] σ0 σ47 := X45.tr (e50.mo (by decide))
    refine k_inv (P := (P_X7_readInnerOperand d)) (Q := (Q_X7_readInnerOperand d)) rfl rfl rfl rfl (Nat.le_of_ble_eq_true rfl) (t58.rc (by decide)) ⟨_, _, rfl, H49, t58, (by omega), (by omega), (rd_cd.st H0 h_0_0 X73 R66.1 (by decide)), (R66.2.2.2.1 rd_at), (rd_bg.st H0 h_0_0 X73 R66 (by decide) (by omega) (by omega) (by omega)), (by omega)⟩ (fun w74 σ75 q76 => ?_)
    obtain ⟨a77, rfl, H78, e79, h81, R80, q82⟩ := q76
    have t88 := t58.x e79
    obtain ⟨x83, e84, c85, h86, h87⟩ := cg242 H78.1 t88
    obtain ⟨x89, e90, c91, h92, h93⟩ := cg243 H78.1 t88
    have z94 := congrArg Int32.toInt c85
    have z95 := congrArg Int32.toInt c91
    refine k_st (st' := [.inr (.inr (some a77)), .inr (.inr (some a29))]) rfl ?_
    have z96 := R66.1.1
    have R97 : RdC p0 none (-7) (7 + 8 * (d : Int)) (-999) σ0 σ75 := R66.tr ⟨R80.1, R80.2⟩ (by omega) (by omega) (by omega) (by omega)
    have z98 := R97.2.2.1
    have z99 := R97.2.2.2.1 rd_at
    have t100 := h33.x e50
    have t101 := t100.x e79
    refine k_putR kp72 H78 t101 fk72 (rf72 h81) (fun σ102 H103 e104 c105 => ?_)
    refine k_aload_n rfl ?_
    have t106 := t101.x e104
    obtain ⟨x109, e107, c108, h110, h111⟩ := cg61 H103.1 t106
    refine k_get kg61 t106 e107 ?_
    refine k_bipush (m := 35) rfl (fun x112 h113 => ?_)
    refine k_ic_ne (fun h114 => ?_) (fun h114 => ?_)
    · refine hB _ _ _ _ (kgoC (is := KX7_readAlone_52) rfl ?_)
      refine k_aload_n rfl ?_
      refine k_aload_n rfl ?_
      have t115 := t88.x e104
      have R116 : RdC p0 none (-7) (7 + 8 * (d : Int)) (-999) σ0 σ102 := R97.tr ⟨(e104.gw H78.1 (by decide)), (e104.cou (u := 0) H78.1 t88 (by decide) (by rw [e104.cn (by decide)]; omega))⟩ (by omega) (by omega) (by omega) (by omega)
      have c117 := (t88.mi e104 (by decide)).trans c91
      have X118 : ExC [0, 1, 2, 60, 61, 62, 63, 64, 65, 66, 67, 68, 69, 70, 72, 73, 74, 75, 76, 242, 243, 244, 999] σ0 σ75 := X73.tr (e79.mo (by decide))
      have X119 : ExC [0, 1, 2, 60, 61, 62, 63, 64, 65, 66, 67, 68, 69, 70, 72, 73, 74, 75, 76, 242, 243, 244, 999] σ0 σ102 := X118.tr (e104.mo (by decide))
      have c120 := (t88.mi e104 (by decide)).trans c85
      have z121 := congrArg Int32.toInt c120
      have z122 := congrArg Int32.toInt c117
      refine k_inv (P := P_X7_put) (Q := Q_X7_put) rfl rfl rfl rfl (Nat.le_of_ble_eq_true rfl) (t115.rc (by decide)) ⟨_, _, rfl, H103, t115, t106, (rd_cd.st H0 h_0_0 X119 R116.1 (by decide)), (R116.2.2.2.1 rd_at), (rd_bg.st H0 h_0_0 X119 R116 (by decide) (by omega) (by omega) (by omega))⟩ (fun w123 σ124 q125 => ?_)
      obtain ⟨a126, rfl, H127, e128, h130, R129, q131⟩ := q125
      have c132 := (t115.mi e128 (by decide)).trans c120
      have c133 := (t115.mi e128 (by decide)).trans c117
      have z134 := congrArg Int32.toInt c132
      have z135 := congrArg Int32.toInt c133
      refine k_st (st' := [.inr (.inr (some a126))]) rfl ?_
      refine k_areturn ?_
      have X136 : ExC [0, 1, 2, 60, 61, 62, 63, 64, 65, 66, 67, 68, 69, 70, 72, 73, 74, 75, 76, 242, 243, 244, 999] σ0 σ124 := X119.tr (e128.mo (by decide))
      have R137 : RdC p0 none (-6) (8 + 8 * (d : Int)) (-998) σ0 σ124 := R116.tr ⟨R129.1, R129.2⟩ (by omega) (by omega) (by omega) (by omega)
      exact ⟨_, rfl, H127, X136, h130, (R137.mo (by omega) (by omega) (by omega)), (by omega)⟩
    · refine k_nil ?_
      refine hB _ _ _ _ (kgoC (is := KX7_readAlone_34) rfl ?_)
      refine k_aload_n rfl ?_
      refine k_get kg72 t106 (congrArg (fun z : Option Nat => (Sum.inr (Sum.inr z) : AvC)) c105) ?_
      have t138 := h81.x e104
      obtain ⟨x141, e139, c140, h142, h143⟩ := cg60 H103.1 t138
      refine k_get kg60 t138 e139 ?_
      refine k_if_ne (fun h144 => ?_) (fun h144 => ?_)
      · refine hB _ _ _ _ (kgoC (is := KX7_readAlone_52) rfl ?_)
        refine k_aload_n rfl ?_
        refine k_aload_n rfl ?_
        have t145 := t88.x e104
        have R146 : RdC p0 none (-7) (7 + 8 * (d : Int)) (-999) σ0 σ102 := R97.tr ⟨(e104.gw H78.1 (by decide)), (e104.cou (u := 0) H78.1 t88 (by decide) (by rw [e104.cn (by decide)]; omega))⟩ (by omega) (by omega) (by omega) (by omega)
        have c147 := (t88.mi e104 (by decide)).trans c91
        have X148 : ExC [0, 1, 2, 60, 61, 62, 63, 64, 65, 66, 67, 68, 69, 70, 72, 73, 74, 75, 76, 242, 243, 244, 999] σ0 σ75 := X73.tr (e79.mo (by decide))
        have X149 : ExC [0, 1, 2, 60, 61, 62, 63, 64, 65, 66, 67, 68, 69, 70, 72, 73, 74, 75, 76, 242, 243, 244, 999] σ0 σ102 := X148.tr (e104.mo (by decide))
        have c150 := (t88.mi e104 (by decide)).trans c85
        have z151 := congrArg Int32.toInt c150
        have z152 := congrArg Int32.toInt c147
        refine k_inv (P := P_X7_put) (Q := Q_X7_put) rfl rfl rfl rfl (Nat.le_of_ble_eq_true rfl) (t145.rc (by decide)) ⟨_, _, rfl, H103, t145, t106, (rd_cd.st H0 h_0_0 X149 R146.1 (by decide)), (R146.2.2.2.1 rd_at), (rd_bg.st H0 h_0_0 X149 R146 (by decide) (by omega) (by omega) (by omega))⟩ (fun w153 σ154 q155 => ?_)
        obtain ⟨a156, rfl, H157, e158, h160, R159, q161⟩ := q155
        have c162 := (t145.mi e158 (by decide)).trans c150
        have c163 := (t145.mi e158 (by decide)).trans c147
        have z164 := congrArg Int32.toInt c162
        have z165 := congrArg Int32.toInt c163
        refine k_st (st' := [.inr (.inr (some a156))]) rfl ?_
        refine k_areturn ?_
        have X166 : ExC [0, 1, 2, 60, 61, 62, 63, 64, 65, 66, 67, 68, 69, 70, 72, 73, 74, 75, 76, 242, 243, 244, 999] σ0 σ154 := X149.tr (e158.mo (by decide))
        have R167 : RdC p0 none (-6) (8 + 8 * (d : Int)) (-998) σ0 σ154 := R146.tr ⟨R159.1, R159.2⟩ (by omega) (by omega) (by omega) (by omega)
        exact ⟨_, rfl, H157, X166, h160, (R167.mo (by omega) (by omega) (by omega)), (by omega)⟩
      · refine k_nil ?_
        refine hB _ _ _ _ (kgoC (is := KX7_readAlone_44) rfl ?_)
        refine k_aload_n rfl ?_
        refine k_get kg72 t106 (congrArg (fun z : Option Nat => (Sum.inr (Sum.inr z) : AvC)) c105) ?_
        refine k_iconst (m := 1) rfl (fun x168 h169 => ?_)
        refine k_putI kp67 H103 t138 (Or.inl fk67) (tiC x168).1 (tiC x168).2 (fun σ170 H171 e172 c173 => ?_)
        refine k_nil ?_
        refine hB _ _ _ _ (kgoC (is := KX7_readAlone_52) rfl ?_)
        refine k_aload_n rfl ?_
        refine k_aload_n rfl ?_
        have t174 := t88.x e104
        have t175 := t174.x e172
        have t176 := t106.x e172
        have R177 : RdC p0 none (-7) (7 + 8 * (d : Int)) (-999) σ0 σ102 := R97.tr ⟨(e104.gw H78.1 (by decide)), (e104.cou (u := 0) H78.1 t88 (by decide) (by rw [e104.cn (by decide)]; omega))⟩ (by omega) (by omega) (by omega) (by omega)
        have R178 : RdC p0 none (-7) (7 + 8 * (d : Int)) (-999) σ0 σ170 := R177.tr ⟨(e172.gw H103.1 (by decide)), (e172.cou (u := 0) H103.1 t174 (by decide) (by rw [e172.cn (by decide)]; omega))⟩ (by omega) (by omega) (by omega) (by omega)
        have c179 := (t88.mi e104 (by decide)).trans c91
        have c180 := (t174.mi e172 (by decide)).trans c179
        have X181 : ExC [0, 1, 2, 60, 61, 62, 63, 64, 65, 66, 67, 68, 69, 70, 72, 73, 74, 75, 76, 242, 243, 244, 999] σ0 σ75 := X73.tr (e79.mo (by decide))
        have X182 : ExC [0, 1, 2, 60, 61, 62, 63, 64, 65, 66, 67, 68, 69, 70, 72, 73, 74, 75, 76, 242, 243, 244, 999] σ0 σ102 := X181.tr (e104.mo (by decide))
        have X183 : ExC [0, 1, 2, 60, 61, 62, 63, 64, 65, 66, 67, 68, 69, 70, 72, 73, 74, 75, 76, 242, 243, 244, 999] σ0 σ170 := X182.tr (e172.mo (by decide))
        have c184 := (t88.mi e104 (by decide)).trans c85
        have c185 := (t174.mi e172 (by decide)).trans c184
        have z186 := congrArg Int32.toInt c185
        have z187 := congrArg Int32.toInt c180
        refine k_inv (P := P_X7_put) (Q := Q_X7_put) rfl rfl rfl rfl (Nat.le_of_ble_eq_true rfl) (t175.rc (by decide)) ⟨_, _, rfl, H171, t175, t176, (rd_cd.st H0 h_0_0 X183 R178.1 (by decide)), (R178.2.2.2.1 rd_at), (rd_bg.st H0 h_0_0 X183 R178 (by decide) (by omega) (by omega) (by omega))⟩ (fun w188 σ189 q190 => ?_)
        obtain ⟨a191, rfl, H192, e193, h195, R194, q196⟩ := q190
        have c197 := (t175.mi e193 (by decide)).trans c185
        have c198 := (t175.mi e193 (by decide)).trans c180
        have z199 := congrArg Int32.toInt c197
        have z200 := congrArg Int32.toInt c198
        refine k_st (st' := [.inr (.inr (some a191))]) rfl ?_
        refine k_areturn ?_
        have X201 : ExC [0, 1, 2, 60, 61, 62, 63, 64, 65, 66, 67, 68, 69, 70, 72, 73, 74, 75, 76, 242, 243, 244, 999] σ0 σ189 := X183.tr (e193.mo (by decide))
        have R202 : RdC p0 none (-6) (8 + 8 * (d : Int)) (-998) σ0 σ189 := R178.tr ⟨R194.1, R194.2⟩ (by omega) (by omega) (by omega) (by omega)
        exact ⟨_, rfl, H192, X201, h195, (R202.mo (by omega) (by omega) (by omega)), (by omega)⟩

set_option maxRecDepth 100000 in
set_option maxHeartbeats 4000000 in
theorem s_X7_readBehindOpen (l : Launch) (d : Nat) (h_X7_readExp : CMetC l (13 * d + 36) 164 (P_X7_readExp d) (Q_X7_readExp d)) (h_X7_readInnerOperand : CMetC l (13 * d + 34) 171 (P_X7_readInnerOperand d) (Q_X7_readInnerOperand d)) : CMetC l (13 * (d + 1) + 31) 174 (P_X7_readBehindOpen (d + 1)) (Q_X7_readBehindOpen (d + 1)) := by
  refine CMetC.of KX7_readBehindOpen [(234, P_Jx4a65c_size_8abf5, Q_Jx4a65c_size_8abf5), (128, P_X7_accept, Q_X7_accept), (125, P_X7_code, Q_X7_code), (132, P_X7_isType, Q_X7_isType), (17, P_X1_init, Q_X1_init), (164, (P_X7_readExp d), (Q_X7_readExp d)), (129, P_X7_expect, Q_X7_expect), (161, P_X7_put, Q_X7_put), (136, P_X7_readType, Q_X7_readType), (171, (P_X7_readInnerOperand d), (Q_X7_readInnerOperand d))] hX7_readBehindOpen (by decide) (by omega) okX7_readBehindOpen (cc1C (m_Jx4a65c_size_8abf5 l) (by omega) (cc1C (m_X7_accept l) (by omega) (cc1C (m_X7_code l) (by omega) (cc1C (m_X7_isType l) (by omega) (cc1C (m_X1_init l) (by omega) (cc1C h_X7_readExp (by omega) (cc1C (m_X7_expect l) (by omega) (cc1C (m_X7_put l) (by omega) (cc1C (m_X7_readType l) (by omega) (cc1C h_X7_readInnerOperand (by omega) cc0C)))))))))) ?_ ?_
  · rintro As σ ⟨p0, p1, rfl, -⟩
    exact Nat.le_of_ble_eq_true rfl
  · rintro As σ0 ⟨p0, p1, rfl, H0, h_0_0, h_1_0, h_1_1, rd_cd, rd_at, rd_bl, rd_lv, rd_tk, rd_dp⟩ hgr G hB hW
    change G 0 [(0, .inr (.inr (some p0))), (1, .inl p1)] [] σ0
    obtain ⟨x1, e2, c3, h4, h5⟩ := cg242 H0.1 h_0_0
    obtain ⟨x6, e7, c8, h9, h10⟩ := cg243 H0.1 h_0_0
    have z11 := congrArg Int32.toInt c3
    have z12 := congrArg Int32.toInt c8
    have h13 : x6.toInt = 0 := by rw [← c8]; exact rd_lv
    have rd_bg : BgC σ0 p0 (14 + 8 * (((d + 1) : Nat) : Int)) 1000000 := ⟨fun _ => rd_bl, fun z => absurd rd_lv z⟩
    refine hB _ _ _ _ (kgoC (is := KX7_readBehindOpen_0) rfl ?_)
    refine k_aload_n rfl ?_
    refine k_get kg242 h_0_0 (congrArg (Sum.inl : Int32 → AvC) c3) ?_
    refine k_istore_n (ls' := [(2, .inl x1), (0, .inr (.inr (some p0))), (1, .inl p1)]) rfl ?_
    refine k_aload_n rfl ?_
    obtain ⟨a16, e14, c15, t17⟩ := cg240 H0.1 h_0_0
    refine k_get kg240 h_0_0 e14 ?_
    obtain ⟨a20, e18, c19, t21, l22⟩ := cg213 H0.1 t17
    refine k_get kg213 t17 e18 ?_
    refine k_inv (P := P_Jx4a65c_size_8abf5) (Q := Q_Jx4a65c_size_8abf5) rfl rfl rfl rfl (Nat.le_of_ble_eq_true rfl) (t21.rc (by decide)) ⟨_, rfl, H0, t21⟩ (fun w23 σ24 q25 => ?_)
    obtain ⟨x26, rfl, rfl, h27, h28, q29, q30⟩ := q25
    refine k_st (st' := [.inl x26]) rfl ?_
    refine k_istore_n (ls' := [(3, .inl x26), (2, .inl x1), (0, .inr (.inr (some p0))), (1, .inl p1)]) rfl ?_
    refine k_aload_n rfl ?_
    have R31 := (RdC.rf : RdC p0 none 0 0 0 σ0 σ0).nf (-1000) (-1000) (by rw [c8]; omega)
    refine k_inv (P := P_X7_accept) (Q := Q_X7_accept) rfl rfl rfl rfl (Nat.le_of_ble_eq_true rfl) (h_0_0.rc (by decide)) ⟨_, rfl, H0, h_0_0, (rd_cd.st H0 h_0_0 (ExC.rf : ExC [0, 1, 2, 60, 61, 62, 63, 64, 65, 66, 67, 68, 69, 70, 72, 73, 74, 75, 76, 242, 243, 244, 999] σ0 σ0) R31.1 (by decide)), (R31.2.2.2.1 rd_at), (rd_bg.stn H0 h_0_0 (ExC.rf : ExC [0, 1, 2, 60, 61, 62, 63, 64, 65, 66, 67, 68, 69, 70, 72, 73, 74, 75, 76, 242, 243, 244, 999] σ0 σ0) R31 (by decide) (by rw [c8]; omega) (by omega)), (by have ct := R31.2.2.1; rw [c8, c3, ct]; omega)⟩ (fun w32 σ33 q34 => ?_)
    obtain ⟨rfl, H35, e36, R37, q38⟩ := q34
    have t44 := h_0_0.x e36
    obtain ⟨x39, e40, c41, h42, h43⟩ := cg242 H35.1 t44
    obtain ⟨x45, e46, c47, h48, h49⟩ := cg243 H35.1 t44
    have z50 := congrArg Int32.toInt c41
    have z51 := congrArg Int32.toInt c47
    refine k_st (st' := []) rfl ?_
    have R52 : RdC p0 none (-8) (0) (-1000) σ0 σ33 := R31.tr ⟨R37.1, R37.2⟩ (by omega) (by omega) (by omega) (by omega)
    have z53 := R52.2.2.1
    have z54 := R52.2.2.2.1 rd_at
    refine k_aload_n rfl ?_
    have X55 : ExC [0, 1, 2, 60, 61, 62, 63, 64, 65, 66, 67, 68, 69, 70, 72, 73, 74, 75, 76, 242, 243, 244, 999] σ0 σ33 := ExC.rf.tr (e36.mo (by decide))
    refine k_inv (P := P_X7_code) (Q := Q_X7_code) rfl rfl rfl rfl (Nat.le_of_ble_eq_true rfl) (t44.rc (by decide)) ⟨_, rfl, H35, t44, (rd_cd.st H0 h_0_0 X55 R52.1 (by decide))⟩ (fun w56 σ57 q58 => ?_)
    obtain ⟨x59, rfl, rfl, q60, q61, q62⟩ := q58
    refine k_st (st' := [.inl x59]) rfl ?_
    refine k_stat (P := P_X7_isType) (Q := Q_X7_isType) rfl rfl (Nat.le_of_ble_eq_true rfl) rfl rfl (Nat.le_of_ble_eq_true rfl) ⟨_, rfl, H35⟩ (fun w63 σ64 q65 => ?_)
    obtain ⟨x66, rfl, rfl, h67, h68, q69⟩ := q65
    refine k_st (st' := [.inl x66]) rfl ?_
    rcases (by omega : x66.toInt = 0 ∨ x66.toInt = 1) with g70 | g70
    · refine k_if_eq (fun h71 => ?_) (fun h71 => by exfalso; omega)
      refine hB _ _ _ _ (kgoC (is := KX7_readBehindOpen_76) rfl ?_)
      have B72 : BgC σ33 p0 1 1 := rd_bg.st H0 h_0_0 X55 R52 (by decide) (by omega) (by omega) (by omega)
      obtain ⟨h73, h74⟩ := B72.new H35.1 t44 (u := 1) (by omega) (by omega)
      have z75 := R52.1.1
      refine k_new (c := 2) (g := 0) H35 (by decide) rfl (by omega) (by have hn : nfC 2 = 18 := rfl; omega) (fun a76 σ77 q78 H79 e80 r81 z82 l83 u84 u85 => ?_)
      rw [show nfC 2 = 18 from rfl] at u85
      have u86 : cpC σ77 = cpC σ33 := congrArg Prod.fst e80.2.1.1
      have u87 : spC σ77 = spC σ33 := congrArg Prod.snd e80.2.1.1
      refine k_dupR ?_
      refine k_iconst (m := 3) rfl (fun x88 h89 => ?_)
      refine k_iconst (m := 0) rfl (fun x90 h91 => ?_)
      refine k_iload_n rfl ?_
      refine k_iload_n rfl ?_
      refine k_spec (P := P_X1_init) (Q := Q_X1_init) rfl rfl rfl rfl (Nat.le_of_ble_eq_true rfl) ⟨_, _, _, _, _, rfl, H79, r81, z82, (by omega), (by omega), (by omega), (by omega), (by omega)⟩ (fun w92 σ93 q94 => ?_)
      have t102 := t44.x e80
      obtain ⟨rfl, H95, e96, t97, t97', l98, u99, u100, g101, q104, q105, q106, q107⟩ := q94
      have l103 := l98.trans l83
      have c108 := (t44.mi e80 (by decide)).trans c41
      have c109 := (t102.mit r81 (by decide) e96 (by decide)).trans c108
      have c110 := (t44.mi e80 (by decide)).trans c47
      have c111 := (t102.mit r81 (by decide) e96 (by decide)).trans c110
      have z112 := congrArg Int32.toInt c109
      have z113 := congrArg Int32.toInt c111
      refine k_st (st' := [.inr (.inr (some a76))]) rfl ?_
      have t114 : TyC σ93 a76 2 := ⟨t97, t97', fun _ hz => by have z1 := congrArg Int32.toInt (q104.symm.trans hz.1); have z2 : (7 : Int32).toInt = 7 := rfl; omega⟩
      refine k_astore (ls' := [(4, .inr (.inr (some a76))), (3, .inl x26), (2, .inl x1), (0, .inr (.inr (some p0))), (1, .inl p1)]) rfl ?_
      refine k_aload rfl ?_
      refine k_aload_n rfl ?_
      refine k_iload_n rfl ?_
      refine k_iconst (m := 1) rfl (fun x115 h116 => ?_)
      refine k_iadd (by omega) (by omega) (fun x117 h118 => ?_)
      have t119 := t102.xt r81 (by decide) e96
      have R120 : RdC p0 none (-7) (1) (-999) σ0 σ77 := R52.tr ⟨(e80.gwn H35.1 u84 u85 (by decide) (by rw [← q78]; exact r81.n0)), (e80.cou (u := 1) H35.1 t44 (by decide) (by omega))⟩ (by omega) (by omega) (by omega) (by omega)
      have R121 : RdC p0 none (-7) (1) (-999) σ0 σ93 := R120.tr ⟨g101, (e96.co (u := 0) H79.1 t102 r81 (by decide) (by omega))⟩ (by omega) (by omega) (by omega) (by omega)
      have X122 : ExC [0, 1, 2, 60, 61, 62, 63, 64, 65, 66, 67, 68, 69, 70, 72, 73, 74, 75, 76, 242, 243, 244, 999] σ33 σ77 := ExC.rf.tr (e80.mo (by decide))
      have X123 : ExC [0, 1, 2, 60, 61, 62, 63, 64, 65, 66, 67, 68, 69, 70, 72, 73, 74, 75, 76, 242, 243, 244, 999] σ33 σ93 := (X122 : ExC [0, 1, 2, 60, 61, 62, 63, 64, 65, 66, 67, 68, 69, 70, 72, 73, 74, 75, 76, 242, 243, 244, 999] σ33 σ77).nt (Nat.le_of_eq q78.symm) (e96.mo (by decide))
      have X124 : ExC [0, 1, 2, 60, 61, 62, 63, 64, 65, 66, 67, 68, 69, 70, 72, 73, 74, 75, 76, 242, 243, 244, 999] σ0 σ93 := X55.tr X123
      refine k_inv (P := (P_X7_readExp d)) (Q := (Q_X7_readExp d)) rfl rfl rfl rfl (Nat.le_of_ble_eq_true rfl) (t119.rc (by decide)) ⟨_, _, rfl, H95, t119, (by omega), (by omega), (rd_cd.st H0 h_0_0 X124 R121.1 (by decide)), (R121.2.2.2.1 rd_at), (rd_bg.st H0 h_0_0 X124 R121 (by decide) (by omega) (by omega) (by omega)), (by omega)⟩ (fun w125 σ126 q127 => ?_)
      obtain ⟨a128, rfl, H129, e130, h132, R131, q133⟩ := q127
      have t139 := t119.x e130
      obtain ⟨x134, e135, c136, h137, h138⟩ := cg242 H129.1 t139
      obtain ⟨x140, e141, c142, h143, h144⟩ := cg243 H129.1 t139
      have z145 := congrArg Int32.toInt c136
      have z146 := congrArg Int32.toInt c142
      refine k_st (st' := [.inr (.inr (some a128)), .inr (.inr (some a76))]) rfl ?_
      have z147 := R121.1.1
      have R148 : RdC p0 none (-7) (13 + 8 * (d : Int)) (-998) σ0 σ126 := R121.tr ⟨R131.1, R131.2⟩ (by omega) (by omega) (by omega) (by omega)
      have z149 := R148.2.2.1
      have z150 := R148.2.2.2.1 rd_at
      have t151 := t114.x e130
      refine k_putR kp72 H129 t151 fk72 (rf72 h132) (fun σ152 H153 e154 c155 => ?_)
      refine k_aload_n rfl ?_
      refine k_iconst (m := 1) rfl (fun x156 h157 => ?_)
      have t158 := t139.x e154
      have R159 : RdC p0 none (-7) (13 + 8 * (d : Int)) (-998) σ0 σ152 := R148.tr ⟨(e154.gw H129.1 (by decide)), (e154.cou (u := 0) H129.1 t139 (by decide) (by rw [e154.cn (by decide)]; omega))⟩ (by omega) (by omega) (by omega) (by omega)
      have c160 := (t139.mi e154 (by decide)).trans c142
      have X161 : ExC [0, 1, 2, 60, 61, 62, 63, 64, 65, 66, 67, 68, 69, 70, 72, 73, 74, 75, 76, 242, 243, 244, 999] σ0 σ126 := X124.tr (e130.mo (by decide))
      have X162 : ExC [0, 1, 2, 60, 61, 62, 63, 64, 65, 66, 67, 68, 69, 70, 72, 73, 74, 75, 76, 242, 243, 244, 999] σ0 σ152 := X161.tr (e154.mo (by decide))
      have c163 := (t139.mi e154 (by decide)).trans c136
      have z164 := congrArg Int32.toInt c163
      have z165 := congrArg Int32.toInt c160
      refine k_inv (P := P_X7_expect) (Q := Q_X7_expect) rfl rfl rfl rfl (Nat.le_of_ble_eq_true rfl) (t158.rc (by decide)) ⟨_, _, rfl, H153, t158, (by omega), (by omega), (rd_cd.st H0 h_0_0 X162 R159.1 (by decide)), (R159.2.2.2.1 rd_at), (rd_bg.st H0 h_0_0 X162 R159 (by decide) (by omega) (by omega) (by omega))⟩ (fun w166 σ167 q168 => ?_)
      obtain ⟨rfl, H169, e170, R171, q172⟩ := q168
      have t178 := t158.x e170
      obtain ⟨x173, e174, c175, h176, h177⟩ := cg242 H169.1 t178
      obtain ⟨x179, e180, c181, h182, h183⟩ := cg243 H169.1 t178
      have z184 := congrArg Int32.toInt c175
      have z185 := congrArg Int32.toInt c181
      refine k_st (st' := []) rfl ?_
      have R186 : RdC p0 none (-15) (13 + 8 * (d : Int)) (-998) σ0 σ167 := R159.tr ⟨R171.1, R171.2⟩ (by omega) (by omega) (by omega) (by omega)
      have z187 := R186.2.2.1
      have z188 := R186.2.2.2.1 rd_at
      refine k_aload_n rfl ?_
      refine k_aload rfl ?_
      have t189 := t151.x e154
      have t190 := t189.x e170
      have X191 : ExC [0, 1, 2, 60, 61, 62, 63, 64, 65, 66, 67, 68, 69, 70, 72, 73, 74, 75, 76, 242, 243, 244, 999] σ0 σ167 := X162.tr (e170.mo (by decide))
      refine k_inv (P := P_X7_put) (Q := Q_X7_put) rfl rfl rfl rfl (Nat.le_of_ble_eq_true rfl) (t178.rc (by decide)) ⟨_, _, rfl, H169, t178, t190, (rd_cd.st H0 h_0_0 X191 R186.1 (by decide)), (R186.2.2.2.1 rd_at), (rd_bg.st H0 h_0_0 X191 R186 (by decide) (by omega) (by omega) (by omega))⟩ (fun w192 σ193 q194 => ?_)
      obtain ⟨a195, rfl, H196, e197, h199, R198, q200⟩ := q194
      have c201 := (t178.mi e197 (by decide)).trans c175
      have c202 := (t178.mi e197 (by decide)).trans c181
      have z203 := congrArg Int32.toInt c201
      have z204 := congrArg Int32.toInt c202
      refine k_st (st' := [.inr (.inr (some a195))]) rfl ?_
      refine k_areturn ?_
      have X205 : ExC [0, 1, 2, 60, 61, 62, 63, 64, 65, 66, 67, 68, 69, 70, 72, 73, 74, 75, 76, 242, 243, 244, 999] σ0 σ193 := X191.tr (e197.mo (by decide))
      have R206 : RdC p0 none (-14) (14 + 8 * (d : Int)) (-997) σ0 σ193 := R186.tr ⟨R198.1, R198.2⟩ (by omega) (by omega) (by omega) (by omega)
      exact ⟨_, rfl, H196, X205, h199, (R206.mo (by omega) (by omega) (by omega)), (by omega)⟩
    · have h207 := q69 (by omega)
      have h208 : x45.toInt = 0 := by omega
      refine k_if_eq (fun h209 => by exfalso; omega) (fun h209 => ?_)
      refine k_nil ?_
      refine hB _ _ _ _ (kgoC (is := KX7_readBehindOpen_30) rfl ?_)
      have R210 := R52.nf (-1000) (-1000) (by rw [c47]; omega)
      have B211 : BgC σ33 p0 1 1 := rd_bg.stn H0 h_0_0 X55 R210 (by decide) (by rw [c47]; omega) (by omega)
      obtain ⟨h212, h213⟩ := B211.new H35.1 t44 (u := 1) (by omega) (by omega)
      have z214 := R210.1.1
      refine k_new (c := 2) (g := 0) H35 (by decide) rfl (by omega) (by have hn : nfC 2 = 18 := rfl; omega) (fun a215 σ216 q217 H218 e219 r220 z221 l222 u223 u224 => ?_)
      rw [show nfC 2 = 18 from rfl] at u224
      have u225 : cpC σ216 = cpC σ33 := congrArg Prod.fst e219.2.1.1
      have u226 : spC σ216 = spC σ33 := congrArg Prod.snd e219.2.1.1
      refine k_dupR ?_
      refine k_iconst (m := 5) rfl (fun x227 h228 => ?_)
      refine k_iconst (m := 0) rfl (fun x229 h230 => ?_)
      refine k_iload_n rfl ?_
      refine k_iload_n rfl ?_
      refine k_spec (P := P_X1_init) (Q := Q_X1_init) rfl rfl rfl rfl (Nat.le_of_ble_eq_true rfl) ⟨_, _, _, _, _, rfl, H218, r220, z221, (by omega), (by omega), (by omega), (by omega), (by omega)⟩ (fun w231 σ232 q233 => ?_)
      have t241 := t44.x e219
      obtain ⟨rfl, H234, e235, t236, t236', l237, u238, u239, g240, q243, q244, q245, q246⟩ := q233
      have l242 := l237.trans l222
      have c247 := (t44.mi e219 (by decide)).trans c41
      have c248 := (t241.mit r220 (by decide) e235 (by decide)).trans c247
      have c249 := (t44.mi e219 (by decide)).trans c47
      have c250 := (t241.mit r220 (by decide) e235 (by decide)).trans c249
      have z251 := congrArg Int32.toInt c248
      have z252 := congrArg Int32.toInt c250
      refine k_st (st' := [.inr (.inr (some a215))]) rfl ?_
      have t253 : TyC σ232 a215 2 := ⟨t236, t236', fun _ hz => by have z1 := congrArg Int32.toInt (q243.symm.trans hz.1); have z2 : (7 : Int32).toInt = 7 := rfl; omega⟩
      refine k_astore (ls' := [(4, .inr (.inr (some a215))), (3, .inl x26), (2, .inl x1), (0, .inr (.inr (some p0))), (1, .inl p1)]) rfl ?_
      refine k_aload rfl ?_
      refine k_aload_n rfl ?_
      have t254 := t241.xt r220 (by decide) e235
      have R255 : RdC p0 none (-7) (-7) (-999) σ0 σ216 := R210.tr ⟨(e219.gwn H35.1 u223 u224 (by decide) (by rw [← q217]; exact r220.n0)), (e219.cou (u := 1) H35.1 t44 (by decide) (by omega))⟩ (by omega) (by omega) (by omega) (by omega)
      have R256 : RdC p0 none (-7) (-7) (-999) σ0 σ232 := R255.tr ⟨g240, (e235.co (u := 0) H218.1 t241 r220 (by decide) (by omega))⟩ (by omega) (by omega) (by omega) (by omega)
      have R257 := R256.nf (-1000) (-1000) (by rw [c250]; omega)
      have X258 : ExC [0, 1, 2, 60, 61, 62, 63, 64, 65, 66, 67, 68, 69, 70, 72, 73, 74, 75, 76, 242, 243, 244, 999] σ33 σ216 := ExC.rf.tr (e219.mo (by decide))
      have X259 : ExC [0, 1, 2, 60, 61, 62, 63, 64, 65, 66, 67, 68, 69, 70, 72, 73, 74, 75, 76, 242, 243, 244, 999] σ33 σ232 := (X258 : ExC [0, 1, 2, 60, 61, 62, 63, 64, 65, 66, 67, 68, 69, 70, 72, 73, 74, 75, 76, 242, 243, 244, 999] σ33 σ216).nt (Nat.le_of_eq q217.symm) (e235.mo (by decide))
      have X260 : ExC [0, 1, 2, 60, 61, 62, 63, 64, 65, 66, 67, 68, 69, 70, 72, 73, 74, 75, 76, 242, 243, 244, 999] σ0 σ232 := X55.tr X259
      refine k_inv (P := P_X7_readType) (Q := Q_X7_readType) rfl rfl rfl rfl (Nat.le_of_ble_eq_true rfl) (t254.rc (by decide)) ⟨_, rfl, H234, t254, (rd_cd.st H0 h_0_0 X260 R257.1 (by decide)), (R257.2.2.2.1 rd_at), (rd_bg.stn H0 h_0_0 X260 R257 (by decide) (by rw [c250]; omega) (by omega))⟩ (fun w261 σ262 q263 => ?_)
      obtain ⟨x264, rfl, H265, e266, R267⟩ := q263
      have t273 := t254.x e266
      obtain ⟨x268, e269, c270, h271, h272⟩ := cg242 H265.1 t273
      obtain ⟨x274, e275, c276, h277, h278⟩ := cg243 H265.1 t273
      have z279 := congrArg Int32.toInt c270
      have z280 := congrArg Int32.toInt c276
      refine k_st (st' := [.inl x264, .inr (.inr (some a215))]) rfl ?_
      have t281 := t253.x e266
      refine k_putI kp69 H265 t281 (Or.inl fk69) (tiC x264).1 (tiC x264).2 (fun σ282 H283 e284 c285 => ?_)
      refine k_aload_n rfl ?_
      refine k_iconst (m := 1) rfl (fun x286 h287 => ?_)
      have t288 := t273.x e284
      have R289 : RdC p0 none (-15) (-7) (-1000) σ0 σ262 := R257.tr ⟨R267.1, R267.2⟩ (by omega) (by omega) (by omega) (by omega)
      have R290 : RdC p0 none (-15) (-7) (-1000) σ0 σ282 := R289.tr ⟨(e284.gw H265.1 (by decide)), (e284.cou (u := 0) H265.1 t273 (by decide) (by rw [e284.cn (by decide)]; omega))⟩ (by omega) (by omega) (by omega) (by omega)
      have c291 := (t273.mi e284 (by decide)).trans c276
      have X292 : ExC [0, 1, 2, 60, 61, 62, 63, 64, 65, 66, 67, 68, 69, 70, 72, 73, 74, 75, 76, 242, 243, 244, 999] σ0 σ262 := X260.tr (e266.mo (by decide))
      have X293 : ExC [0, 1, 2, 60, 61, 62, 63, 64, 65, 66, 67, 68, 69, 70, 72, 73, 74, 75, 76, 242, 243, 244, 999] σ0 σ282 := X292.tr (e284.mo (by decide))
      have c294 := (t273.mi e284 (by decide)).trans c270
      have z295 := congrArg Int32.toInt c294
      have z296 := congrArg Int32.toInt c291
      refine k_inv (P := P_X7_expect) (Q := Q_X7_expect) rfl rfl rfl rfl (Nat.le_of_ble_eq_true rfl) (t288.rc (by decide)) ⟨_, _, rfl, H283, t288, (by omega), (by omega), (rd_cd.st H0 h_0_0 X293 R290.1 (by decide)), (R290.2.2.2.1 rd_at), (rd_bg.st H0 h_0_0 X293 R290 (by decide) (by omega) (by omega) (by omega))⟩ (fun w297 σ298 q299 => ?_)
      obtain ⟨rfl, H300, e301, R302, q303⟩ := q299
      have t309 := t288.x e301
      obtain ⟨x304, e305, c306, h307, h308⟩ := cg242 H300.1 t309
      obtain ⟨x310, e311, c312, h313, h314⟩ := cg243 H300.1 t309
      have z315 := congrArg Int32.toInt c306
      have z316 := congrArg Int32.toInt c312
      refine k_st (st' := []) rfl ?_
      have R317 : RdC p0 none (-23) (-7) (-1000) σ0 σ298 := R290.tr ⟨R302.1, R302.2⟩ (by omega) (by omega) (by omega) (by omega)
      have z318 := R317.2.2.1
      have z319 := R317.2.2.2.1 rd_at
      refine k_aload rfl ?_
      refine k_aload_n rfl ?_
      refine k_iload_n rfl ?_
      refine k_iconst (m := 1) rfl (fun x320 h321 => ?_)
      refine k_iadd (by omega) (by omega) (fun x322 h323 => ?_)
      have X324 : ExC [0, 1, 2, 60, 61, 62, 63, 64, 65, 66, 67, 68, 69, 70, 72, 73, 74, 75, 76, 242, 243, 244, 999] σ0 σ298 := X293.tr (e301.mo (by decide))
      refine k_inv (P := (P_X7_readInnerOperand d)) (Q := (Q_X7_readInnerOperand d)) rfl rfl rfl rfl (Nat.le_of_ble_eq_true rfl) (t309.rc (by decide)) ⟨_, _, rfl, H300, t309, (by omega), (by omega), (rd_cd.st H0 h_0_0 X324 R317.1 (by decide)), (R317.2.2.2.1 rd_at), (rd_bg.st H0 h_0_0 X324 R317 (by decide) (by omega) (by omega) (by omega)), (by omega)⟩ (fun w325 σ326 q327 => ?_)
      obtain ⟨a328, rfl, H329, e330, h332, R331, q333⟩ := q327
      have t339 := t309.x e330
      obtain ⟨x334, e335, c336, h337, h338⟩ := cg242 H329.1 t339
      obtain ⟨x340, e341, c342, h343, h344⟩ := cg243 H329.1 t339
      have z345 := congrArg Int32.toInt c336
      have z346 := congrArg Int32.toInt c342
      refine k_st (st' := [.inr (.inr (some a328)), .inr (.inr (some a215))]) rfl ?_
      have z347 := R317.1.1
      have R348 : RdC p0 none (-23) (-6 + 8 * (d : Int)) (-999) σ0 σ326 := R317.tr ⟨R331.1, R331.2⟩ (by omega) (by omega) (by omega) (by omega)
      have z349 := R348.2.2.1
      have z350 := R348.2.2.2.1 rd_at
      have t351 := t281.x e284
      have t352 := t351.x e301
      have t353 := t352.x e330
      refine k_putR kp72 H329 t353 fk72 (rf72 h332) (fun σ354 H355 e356 c357 => ?_)
      refine k_aload_n rfl ?_
      refine k_aload rfl ?_
      have t358 := t339.x e356
      have t359 := t353.x e356
      have R360 : RdC p0 none (-23) (-6 + 8 * (d : Int)) (-999) σ0 σ354 := R348.tr ⟨(e356.gw H329.1 (by decide)), (e356.cou (u := 0) H329.1 t339 (by decide) (by rw [e356.cn (by decide)]; omega))⟩ (by omega) (by omega) (by omega) (by omega)
      have c361 := (t339.mi e356 (by decide)).trans c342
      have X362 : ExC [0, 1, 2, 60, 61, 62, 63, 64, 65, 66, 67, 68, 69, 70, 72, 73, 74, 75, 76, 242, 243, 244, 999] σ0 σ326 := X324.tr (e330.mo (by decide))
      have X363 : ExC [0, 1, 2, 60, 61, 62, 63, 64, 65, 66, 67, 68, 69, 70, 72, 73, 74, 75, 76, 242, 243, 244, 999] σ0 σ354 := X362.tr (e356.mo (by decide))
      have c364 := (t339.mi e356 (by decide)).trans c336
      have z365 := congrArg Int32.toInt c364
      have z366 := congrArg Int32.toInt c361
      refine k_inv (P := P_X7_put) (Q := Q_X7_put) rfl rfl rfl rfl (Nat.le_of_ble_eq_true rfl) (t358.rc (by decide)) ⟨_, _, rfl, H355, t358, t359, (rd_cd.st H0 h_0_0 X363 R360.1 (by decide)), (R360.2.2.2.1 rd_at), (rd_bg.st H0 h_0_0 X363 R360 (by decide) (by omega) (by omega) (by omega))⟩ (fun w367 σ368 q369 => ?_)
      obtain ⟨a370, rfl, H371, e372, h374, R373, q375⟩ := q369
      have c376 := (t358.mi e372 (by decide)).trans c364
      have c377 := (t358.mi e372 (by decide)).trans c361
      have z378 := congrArg Int32.toInt c376
      have z379 := congrArg Int32.toInt c377
      refine k_st (st' := [.inr (.inr (some a370))]) rfl ?_
      refine k_areturn ?_
      have X380 : ExC [0, 1, 2, 60, 61, 62, 63, 64, 65, 66, 67, 68, 69, 70, 72, 73, 74, 75, 76, 242, 243, 244, 999] σ0 σ368 := X363.tr (e372.mo (by decide))
      have R381 : RdC p0 none (-22) (-5 + 8 * (d : Int)) (-998) σ0 σ368 := R360.tr ⟨R373.1, R373.2⟩ (by omega) (by omega) (by omega) (by omega)
      exact ⟨_, rfl, H371, X380, h374, (R381.mo (by omega) (by omega) (by omega)), (by omega)⟩

set_option maxRecDepth 100000 in
set_option maxHeartbeats 4000000 in
theorem s_X7_readName (l : Launch) (d : Nat) (h_X7_readCall : CMetC l (13 * d + 31) 176 (P_X7_readCall d) (Q_X7_readCall d)) : CMetC l (13 * d + 32) 175 (P_X7_readName d) (Q_X7_readName d) := by
  refine CMetC.of KX7_readName [(126, P_X7_codeBehind, Q_X7_codeBehind), (162, P_X7_opened, Q_X7_opened), (140, P_X7_meant, Q_X7_meant), (128, P_X7_accept, Q_X7_accept), (161, P_X7_put, Q_X7_put), (176, (P_X7_readCall d), (Q_X7_readCall d))] hX7_readName (by decide) (by omega) okX7_readName (cc1C (m_X7_codeBehind l) (by omega) (cc1C (m_X7_opened l) (by omega) (cc1C (m_X7_meant l) (by omega) (cc1C (m_X7_accept l) (by omega) (cc1C (m_X7_put l) (by omega) (cc1C h_X7_readCall (by omega) cc0C)))))) ?_ ?_
  · rintro As σ ⟨p0, p1, rfl, -⟩
    exact Nat.le_of_ble_eq_true rfl
  · rintro As σ0 ⟨p0, p1, rfl, H0, h_0_0, h_1_0, h_1_1, rd_cd, rd_at, rd_bl, rd_lv, rd_tk, rd_dp⟩ hgr G hB hW
    change G 0 [(0, .inr (.inr (some p0))), (1, .inl p1)] [] σ0
    obtain ⟨x1, e2, c3, h4, h5⟩ := cg242 H0.1 h_0_0
    obtain ⟨x6, e7, c8, h9, h10⟩ := cg243 H0.1 h_0_0
    have z11 := congrArg Int32.toInt c3
    have z12 := congrArg Int32.toInt c8
    have h13 : x6.toInt = 0 := by rw [← c8]; exact rd_lv
    have rd_bg : BgC σ0 p0 (14 + 8 * (d : Int)) 1000000 := ⟨fun _ => rd_bl, fun z => absurd rd_lv z⟩
    refine hB _ _ _ _ (kgoC (is := KX7_readName_0) rfl ?_)
    refine k_aload_n rfl ?_
    have R14 := (RdC.rf : RdC p0 none 0 0 0 σ0 σ0).nf (-1000) (-1000) (by rw [c8]; omega)
    refine k_inv (P := P_X7_codeBehind) (Q := Q_X7_codeBehind) rfl rfl rfl rfl (Nat.le_of_ble_eq_true rfl) (h_0_0.rc (by decide)) ⟨_, rfl, H0, h_0_0, (rd_cd.st H0 h_0_0 (ExC.rf : ExC [0, 1, 2, 60, 61, 62, 63, 64, 65, 66, 67, 68, 69, 70, 72, 73, 74, 75, 76, 242, 243, 244, 999] σ0 σ0) R14.1 (by decide))⟩ (fun w15 σ16 q17 => ?_)
    obtain ⟨x18, rfl, rfl, q19, q20⟩ := q17
    refine k_st (st' := [.inl x18]) rfl ?_
    have z21 := R14.2.2.1
    have z22 := R14.2.2.2.1 rd_at
    refine k_istore_n (ls' := [(2, .inl x18), (0, .inr (.inr (some p0))), (1, .inl p1)]) rfl ?_
    refine k_iload_n rfl ?_
    refine k_if_ne (fun h23 => ?_) (fun h23 => ?_)
    · refine hB _ _ _ _ (kgoC (is := KX7_readName_15) rfl ?_)
      refine k_iload_n rfl ?_
      refine k_bipush (m := 41) rfl (fun x24 h25 => ?_)
      refine k_ic_eq (fun h26 => ?_) (fun h26 => ?_)
      · refine hB _ _ _ _ (kgoC (is := KX7_readName_27) rfl ?_)
        refine k_iconst (m := 1) rfl (fun x27 h28 => ?_)
        refine k_goto ?_
        refine hB _ _ _ _ (kgoC (is := KX7_readName_32) rfl ?_)
        refine k_istore_n (ls' := [(3, .inl x27), (2, .inl x18), (0, .inr (.inr (some p0))), (1, .inl p1)]) rfl ?_
        refine k_aload_n rfl ?_
        refine k_iload_n rfl ?_
        refine k_if_eq (fun h29 => by exfalso; omega) (fun h29 => ?_)
        refine k_nil ?_
        refine hB _ _ _ _ (kgoC (is := KX7_readName_38) rfl ?_)
        refine k_bipush (m := 6) rfl (fun x30 h31 => ?_)
        refine k_goto ?_
        refine hB _ _ _ _ (kgoC (is := KX7_readName_44) rfl ?_)
        refine k_iload_n rfl ?_
        refine k_if_eq (fun h32 => by exfalso; omega) (fun h32 => ?_)
        refine k_nil ?_
        refine hB _ _ _ _ (kgoC (is := KX7_readName_48) rfl ?_)
        refine k_iload_n rfl ?_
        refine k_goto ?_
        refine hB _ _ _ _ (kgoC (is := KX7_readName_53) rfl ?_)
        refine k_inv (P := P_X7_opened) (Q := Q_X7_opened) rfl rfl rfl rfl (Nat.le_of_ble_eq_true rfl) (h_0_0.rc (by decide)) ⟨_, _, _, rfl, H0, h_0_0, (rd_cd.st H0 h_0_0 (ExC.rf : ExC [0, 1, 2, 60, 61, 62, 63, 64, 65, 66, 67, 68, 69, 70, 72, 73, 74, 75, 76, 242, 243, 244, 999] σ0 σ0) R14.1 (by decide)), (R14.2.2.2.1 rd_at), (rd_bg.stn H0 h_0_0 (ExC.rf : ExC [0, 1, 2, 60, 61, 62, 63, 64, 65, 66, 67, 68, 69, 70, 72, 73, 74, 75, 76, 242, 243, 244, 999] σ0 σ0) R14 (by decide) (by rw [c8]; omega) (by omega)), (by omega)⟩ (fun w33 σ34 q35 => ?_)
        obtain ⟨a36, rfl, H37, e38, h40, R39, q41⟩ := q35
        have c42 := (h_0_0.mi e38 (by decide)).trans c3
        have c43 := (h_0_0.mi e38 (by decide)).trans c8
        have z44 := congrArg Int32.toInt c42
        have z45 := congrArg Int32.toInt c43
        refine k_st (st' := [.inr (.inr (some a36))]) rfl ?_
        have z46 := R14.1.1
        have R47 : RdC p0 none (1) (1) (-999) σ0 σ34 := R14.tr ⟨R39.1, R39.2⟩ (by omega) (by omega) (by omega) (by omega)
        have R48 := R47.nf (-1000) (-1000) (by rw [c43]; omega)
        have z49 := R48.2.2.1
        have z50 := R48.2.2.2.1 rd_at
        refine k_astore (ls' := [(4, .inr (.inr (some a36))), (3, .inl x27), (2, .inl x18), (0, .inr (.inr (some p0))), (1, .inl p1)]) rfl ?_
        refine k_aload rfl ?_
        refine k_aload_n rfl ?_
        refine k_aload_n rfl ?_
        have t51 := h_0_0.x e38
        refine k_get kg242 t51 (congrArg (Sum.inl : Int32 → AvC) c42) ?_
        refine k_inv (P := P_X7_meant) (Q := Q_X7_meant) rfl rfl rfl rfl (Nat.le_of_ble_eq_true rfl) (t51.rc (by decide)) ⟨_, _, rfl, H37, t51, (by omega), (by omega)⟩ (fun w52 σ53 q54 => ?_)
        obtain ⟨x55, rfl, H56, e57, h58⟩ := q54
        have c59 := (t51.mi e57 (by decide)).trans c42
        have c60 := (t51.mi e57 (by decide)).trans c43
        have z61 := congrArg Int32.toInt c59
        have z62 := congrArg Int32.toInt c60
        refine k_st (st' := [.inl x55, .inr (.inr (some a36))]) rfl ?_
        have t63 := h40.x e57
        refine k_putI kp67 H56 t63 (Or.inl fk67) (tiC x55).1 (tiC x55).2 (fun σ64 H65 e66 c67 => ?_)
        refine k_aload_n rfl ?_
        have t68 := t51.x e57
        have t69 := t68.x e66
        have R70 : RdC p0 none (1) (1) (-1000) σ0 σ53 := R48.tr ⟨(e57.gw H37.1 (by decide)), (e57.cou (u := 0) H37.1 t51 (by decide) (by rw [e57.cn (by decide)]; omega))⟩ (by omega) (by omega) (by omega) (by omega)
        have R71 : RdC p0 none (1) (1) (-1000) σ0 σ64 := R70.tr ⟨(e66.gw H56.1 (by decide)), (e66.cou (u := 0) H56.1 t68 (by decide) (by rw [e66.cn (by decide)]; omega))⟩ (by omega) (by omega) (by omega) (by omega)
        have c72 := (t68.mi e66 (by decide)).trans c60
        have R73 := R71.nf (-1000) (-1000) (by rw [c72]; omega)
        have X74 : ExC [0, 1, 2, 60, 61, 62, 63, 64, 65, 66, 67, 68, 69, 70, 72, 73, 74, 75, 76, 242, 243, 244, 999] σ0 σ34 := ExC.rf.tr (e38.mo (by decide))
        have X75 : ExC [0, 1, 2, 60, 61, 62, 63, 64, 65, 66, 67, 68, 69, 70, 72, 73, 74, 75, 76, 242, 243, 244, 999] σ0 σ53 := X74.tr (e57.mo (by decide))
        have X76 : ExC [0, 1, 2, 60, 61, 62, 63, 64, 65, 66, 67, 68, 69, 70, 72, 73, 74, 75, 76, 242, 243, 244, 999] σ0 σ64 := X75.tr (e66.mo (by decide))
        have c77 := (t68.mi e66 (by decide)).trans c59
        have z78 := congrArg Int32.toInt c77
        have z79 := congrArg Int32.toInt c72
        refine k_inv (P := P_X7_accept) (Q := Q_X7_accept) rfl rfl rfl rfl (Nat.le_of_ble_eq_true rfl) (t69.rc (by decide)) ⟨_, rfl, H65, t69, (rd_cd.st H0 h_0_0 X76 R73.1 (by decide)), (R73.2.2.2.1 rd_at), (rd_bg.stn H0 h_0_0 X76 R73 (by decide) (by rw [c72]; omega) (by omega)), (by have ct := R73.2.2.1; rw [c72, c77, ct]; omega)⟩ (fun w80 σ81 q82 => ?_)
        obtain ⟨rfl, H83, e84, R85, q86⟩ := q82
        have t92 := t69.x e84
        obtain ⟨x87, e88, c89, h90, h91⟩ := cg242 H83.1 t92
        obtain ⟨x93, e94, c95, h96, h97⟩ := cg243 H83.1 t92
        have z98 := congrArg Int32.toInt c89
        have z99 := congrArg Int32.toInt c95
        refine k_st (st' := []) rfl ?_
        have R100 : RdC p0 none (-7) (1) (-1000) σ0 σ81 := R73.tr ⟨R85.1, R85.2⟩ (by omega) (by omega) (by omega) (by omega)
        have z101 := R100.2.2.1
        have z102 := R100.2.2.2.1 rd_at
        refine k_iload_n rfl ?_
        refine k_if_eq (fun h103 => by exfalso; omega) (fun h103 => ?_)
        refine k_nil ?_
        refine hB _ _ _ _ (kgoC (is := KX7_readName_79) rfl ?_)
        refine k_aload_n rfl ?_
        have X104 : ExC [0, 1, 2, 60, 61, 62, 63, 64, 65, 66, 67, 68, 69, 70, 72, 73, 74, 75, 76, 242, 243, 244, 999] σ0 σ81 := X76.tr (e84.mo (by decide))
        refine k_inv (P := P_X7_accept) (Q := Q_X7_accept) rfl rfl rfl rfl (Nat.le_of_ble_eq_true rfl) (t92.rc (by decide)) ⟨_, rfl, H83, t92, (rd_cd.st H0 h_0_0 X104 R100.1 (by decide)), (R100.2.2.2.1 rd_at), (rd_bg.st H0 h_0_0 X104 R100 (by decide) (by omega) (by omega) (by omega)), (by have ct := R100.2.2.1; rw [c95, c89, ct]; omega)⟩ (fun w105 σ106 q107 => ?_)
        obtain ⟨rfl, H108, e109, R110, q111⟩ := q107
        have t117 := t92.x e109
        obtain ⟨x112, e113, c114, h115, h116⟩ := cg242 H108.1 t117
        obtain ⟨x118, e119, c120, h121, h122⟩ := cg243 H108.1 t117
        have z123 := congrArg Int32.toInt c114
        have z124 := congrArg Int32.toInt c120
        refine k_st (st' := []) rfl ?_
        have R125 : RdC p0 none (-15) (1) (-1000) σ0 σ106 := R100.tr ⟨R110.1, R110.2⟩ (by omega) (by omega) (by omega) (by omega)
        have z126 := R125.2.2.1
        have z127 := R125.2.2.2.1 rd_at
        refine k_nil ?_
        refine hB _ _ _ _ (kgoC (is := KX7_readName_83) rfl ?_)
        refine k_aload_n rfl ?_
        refine k_aload rfl ?_
        have t128 := t63.x e66
        have t129 := t128.x e84
        have t130 := t129.x e109
        have X131 : ExC [0, 1, 2, 60, 61, 62, 63, 64, 65, 66, 67, 68, 69, 70, 72, 73, 74, 75, 76, 242, 243, 244, 999] σ0 σ106 := X104.tr (e109.mo (by decide))
        refine k_inv (P := P_X7_put) (Q := Q_X7_put) rfl rfl rfl rfl (Nat.le_of_ble_eq_true rfl) (t117.rc (by decide)) ⟨_, _, rfl, H108, t117, t130, (rd_cd.st H0 h_0_0 X131 R125.1 (by decide)), (R125.2.2.2.1 rd_at), (rd_bg.st H0 h_0_0 X131 R125 (by decide) (by omega) (by omega) (by omega))⟩ (fun w132 σ133 q134 => ?_)
        obtain ⟨a135, rfl, H136, e137, h139, R138, q140⟩ := q134
        have c141 := (t117.mi e137 (by decide)).trans c114
        have c142 := (t117.mi e137 (by decide)).trans c120
        have z143 := congrArg Int32.toInt c141
        have z144 := congrArg Int32.toInt c142
        refine k_st (st' := [.inr (.inr (some a135))]) rfl ?_
        refine k_areturn ?_
        have X145 : ExC [0, 1, 2, 60, 61, 62, 63, 64, 65, 66, 67, 68, 69, 70, 72, 73, 74, 75, 76, 242, 243, 244, 999] σ0 σ133 := X131.tr (e137.mo (by decide))
        have R146 : RdC p0 none (-14) (2) (-999) σ0 σ133 := R125.tr ⟨R138.1, R138.2⟩ (by omega) (by omega) (by omega) (by omega)
        exact ⟨_, rfl, H136, X145, h139, (R146.mo (by omega) (by omega) (by omega)), (by omega)⟩
      · refine k_nil ?_
        refine hB _ _ _ _ (kgoC (is := KX7_readName_21) rfl ?_)
        refine k_iload_n rfl ?_
        refine k_bipush (m := 42) rfl (fun x147 h148 => ?_)
        refine k_ic_ne (fun h149 => ?_) (fun h149 => ?_)
        · refine hB _ _ _ _ (kgoC (is := KX7_readName_31) rfl ?_)
          refine k_iconst (m := 0) rfl (fun x150 h151 => ?_)
          refine k_nil ?_
          refine hB _ _ _ _ (kgoC (is := KX7_readName_32) rfl ?_)
          refine k_istore_n (ls' := [(3, .inl x150), (2, .inl x18), (0, .inr (.inr (some p0))), (1, .inl p1)]) rfl ?_
          refine k_aload_n rfl ?_
          refine k_iload_n rfl ?_
          refine k_if_eq (fun h152 => ?_) (fun h152 => by exfalso; omega)
          refine hB _ _ _ _ (kgoC (is := KX7_readName_43) rfl ?_)
          refine k_iconst (m := 2) rfl (fun x153 h154 => ?_)
          refine k_nil ?_
          refine hB _ _ _ _ (kgoC (is := KX7_readName_44) rfl ?_)
          refine k_iload_n rfl ?_
          refine k_if_eq (fun h155 => ?_) (fun h155 => by exfalso; omega)
          refine hB _ _ _ _ (kgoC (is := KX7_readName_52) rfl ?_)
          refine k_iconst (m := (-1)) rfl (fun x156 h157 => ?_)
          refine k_nil ?_
          refine hB _ _ _ _ (kgoC (is := KX7_readName_53) rfl ?_)
          refine k_inv (P := P_X7_opened) (Q := Q_X7_opened) rfl rfl rfl rfl (Nat.le_of_ble_eq_true rfl) (h_0_0.rc (by decide)) ⟨_, _, _, rfl, H0, h_0_0, (rd_cd.st H0 h_0_0 (ExC.rf : ExC [0, 1, 2, 60, 61, 62, 63, 64, 65, 66, 67, 68, 69, 70, 72, 73, 74, 75, 76, 242, 243, 244, 999] σ0 σ0) R14.1 (by decide)), (R14.2.2.2.1 rd_at), (rd_bg.stn H0 h_0_0 (ExC.rf : ExC [0, 1, 2, 60, 61, 62, 63, 64, 65, 66, 67, 68, 69, 70, 72, 73, 74, 75, 76, 242, 243, 244, 999] σ0 σ0) R14 (by decide) (by rw [c8]; omega) (by omega)), (by omega)⟩ (fun w158 σ159 q160 => ?_)
          obtain ⟨a161, rfl, H162, e163, h165, R164, q166⟩ := q160
          have c167 := (h_0_0.mi e163 (by decide)).trans c3
          have c168 := (h_0_0.mi e163 (by decide)).trans c8
          have z169 := congrArg Int32.toInt c167
          have z170 := congrArg Int32.toInt c168
          refine k_st (st' := [.inr (.inr (some a161))]) rfl ?_
          have z171 := R14.1.1
          have R172 : RdC p0 none (1) (1) (-999) σ0 σ159 := R14.tr ⟨R164.1, R164.2⟩ (by omega) (by omega) (by omega) (by omega)
          have R173 := R172.nf (-1000) (-1000) (by rw [c168]; omega)
          have z174 := R173.2.2.1
          have z175 := R173.2.2.2.1 rd_at
          refine k_astore (ls' := [(4, .inr (.inr (some a161))), (3, .inl x150), (2, .inl x18), (0, .inr (.inr (some p0))), (1, .inl p1)]) rfl ?_
          refine k_aload rfl ?_
          refine k_aload_n rfl ?_
          refine k_aload_n rfl ?_
          have t176 := h_0_0.x e163
          refine k_get kg242 t176 (congrArg (Sum.inl : Int32 → AvC) c167) ?_
          refine k_inv (P := P_X7_meant) (Q := Q_X7_meant) rfl rfl rfl rfl (Nat.le_of_ble_eq_true rfl) (t176.rc (by decide)) ⟨_, _, rfl, H162, t176, (by omega), (by omega)⟩ (fun w177 σ178 q179 => ?_)
          obtain ⟨x180, rfl, H181, e182, h183⟩ := q179
          have c184 := (t176.mi e182 (by decide)).trans c167
          have c185 := (t176.mi e182 (by decide)).trans c168
          have z186 := congrArg Int32.toInt c184
          have z187 := congrArg Int32.toInt c185
          refine k_st (st' := [.inl x180, .inr (.inr (some a161))]) rfl ?_
          have t188 := h165.x e182
          refine k_putI kp67 H181 t188 (Or.inl fk67) (tiC x180).1 (tiC x180).2 (fun σ189 H190 e191 c192 => ?_)
          refine k_aload_n rfl ?_
          have t193 := t176.x e182
          have t194 := t193.x e191
          have R195 : RdC p0 none (1) (1) (-1000) σ0 σ178 := R173.tr ⟨(e182.gw H162.1 (by decide)), (e182.cou (u := 0) H162.1 t176 (by decide) (by rw [e182.cn (by decide)]; omega))⟩ (by omega) (by omega) (by omega) (by omega)
          have R196 : RdC p0 none (1) (1) (-1000) σ0 σ189 := R195.tr ⟨(e191.gw H181.1 (by decide)), (e191.cou (u := 0) H181.1 t193 (by decide) (by rw [e191.cn (by decide)]; omega))⟩ (by omega) (by omega) (by omega) (by omega)
          have c197 := (t193.mi e191 (by decide)).trans c185
          have R198 := R196.nf (-1000) (-1000) (by rw [c197]; omega)
          have X199 : ExC [0, 1, 2, 60, 61, 62, 63, 64, 65, 66, 67, 68, 69, 70, 72, 73, 74, 75, 76, 242, 243, 244, 999] σ0 σ159 := ExC.rf.tr (e163.mo (by decide))
          have X200 : ExC [0, 1, 2, 60, 61, 62, 63, 64, 65, 66, 67, 68, 69, 70, 72, 73, 74, 75, 76, 242, 243, 244, 999] σ0 σ178 := X199.tr (e182.mo (by decide))
          have X201 : ExC [0, 1, 2, 60, 61, 62, 63, 64, 65, 66, 67, 68, 69, 70, 72, 73, 74, 75, 76, 242, 243, 244, 999] σ0 σ189 := X200.tr (e191.mo (by decide))
          have c202 := (t193.mi e191 (by decide)).trans c184
          have z203 := congrArg Int32.toInt c202
          have z204 := congrArg Int32.toInt c197
          refine k_inv (P := P_X7_accept) (Q := Q_X7_accept) rfl rfl rfl rfl (Nat.le_of_ble_eq_true rfl) (t194.rc (by decide)) ⟨_, rfl, H190, t194, (rd_cd.st H0 h_0_0 X201 R198.1 (by decide)), (R198.2.2.2.1 rd_at), (rd_bg.stn H0 h_0_0 X201 R198 (by decide) (by rw [c197]; omega) (by omega)), (by have ct := R198.2.2.1; rw [c197, c202, ct]; omega)⟩ (fun w205 σ206 q207 => ?_)
          obtain ⟨rfl, H208, e209, R210, q211⟩ := q207
          have t217 := t194.x e209
          obtain ⟨x212, e213, c214, h215, h216⟩ := cg242 H208.1 t217
          obtain ⟨x218, e219, c220, h221, h222⟩ := cg243 H208.1 t217
          have z223 := congrArg Int32.toInt c214
          have z224 := congrArg Int32.toInt c220
          refine k_st (st' := []) rfl ?_
          have R225 : RdC p0 none (-7) (1) (-1000) σ0 σ206 := R198.tr ⟨R210.1, R210.2⟩ (by omega) (by omega) (by omega) (by omega)
          have z226 := R225.2.2.1
          have z227 := R225.2.2.2.1 rd_at
          refine k_iload_n rfl ?_
          refine k_if_eq (fun h228 => ?_) (fun h228 => by exfalso; omega)
          refine hB _ _ _ _ (kgoC (is := KX7_readName_83) rfl ?_)
          refine k_aload_n rfl ?_
          refine k_aload rfl ?_
          have t229 := t188.x e191
          have t230 := t229.x e209
          have X231 : ExC [0, 1, 2, 60, 61, 62, 63, 64, 65, 66, 67, 68, 69, 70, 72, 73, 74, 75, 76, 242, 243, 244, 999] σ0 σ206 := X201.tr (e209.mo (by decide))
          refine k_inv (P := P_X7_put) (Q := Q_X7_put) rfl rfl rfl rfl (Nat.le_of_ble_eq_true rfl) (t217.rc (by decide)) ⟨_, _, rfl, H208, t217, t230, (rd_cd.st H0 h_0_0 X231 R225.1 (by decide)), (R225.2.2.2.1 rd_at), (rd_bg.st H0 h_0_0 X231 R225 (by decide) (by omega) (by omega) (by omega))⟩ (fun w232 σ233 q234 => ?_)
          obtain ⟨a235, rfl, H236, e237, h239, R238, q240⟩ := q234
          have c241 := (t217.mi e237 (by decide)).trans c214
          have c242 := (t217.mi e237 (by decide)).trans c220
          have z243 := congrArg Int32.toInt c241
          have z244 := congrArg Int32.toInt c242
          refine k_st (st' := [.inr (.inr (some a235))]) rfl ?_
          refine k_areturn ?_
          have X245 : ExC [0, 1, 2, 60, 61, 62, 63, 64, 65, 66, 67, 68, 69, 70, 72, 73, 74, 75, 76, 242, 243, 244, 999] σ0 σ233 := X231.tr (e237.mo (by decide))
          have R246 : RdC p0 none (-6) (2) (-999) σ0 σ233 := R225.tr ⟨R238.1, R238.2⟩ (by omega) (by omega) (by omega) (by omega)
          exact ⟨_, rfl, H236, X245, h239, (R246.mo (by omega) (by omega) (by omega)), (by omega)⟩
        · refine k_nil ?_
          refine hB _ _ _ _ (kgoC (is := KX7_readName_27) rfl ?_)
          refine k_iconst (m := 1) rfl (fun x247 h248 => ?_)
          refine k_goto ?_
          refine hB _ _ _ _ (kgoC (is := KX7_readName_32) rfl ?_)
          refine k_istore_n (ls' := [(3, .inl x247), (2, .inl x18), (0, .inr (.inr (some p0))), (1, .inl p1)]) rfl ?_
          refine k_aload_n rfl ?_
          refine k_iload_n rfl ?_
          refine k_if_eq (fun h249 => by exfalso; omega) (fun h249 => ?_)
          refine k_nil ?_
          refine hB _ _ _ _ (kgoC (is := KX7_readName_38) rfl ?_)
          refine k_bipush (m := 6) rfl (fun x250 h251 => ?_)
          refine k_goto ?_
          refine hB _ _ _ _ (kgoC (is := KX7_readName_44) rfl ?_)
          refine k_iload_n rfl ?_
          refine k_if_eq (fun h252 => by exfalso; omega) (fun h252 => ?_)
          refine k_nil ?_
          refine hB _ _ _ _ (kgoC (is := KX7_readName_48) rfl ?_)
          refine k_iload_n rfl ?_
          refine k_goto ?_
          refine hB _ _ _ _ (kgoC (is := KX7_readName_53) rfl ?_)
          refine k_inv (P := P_X7_opened) (Q := Q_X7_opened) rfl rfl rfl rfl (Nat.le_of_ble_eq_true rfl) (h_0_0.rc (by decide)) ⟨_, _, _, rfl, H0, h_0_0, (rd_cd.st H0 h_0_0 (ExC.rf : ExC [0, 1, 2, 60, 61, 62, 63, 64, 65, 66, 67, 68, 69, 70, 72, 73, 74, 75, 76, 242, 243, 244, 999] σ0 σ0) R14.1 (by decide)), (R14.2.2.2.1 rd_at), (rd_bg.stn H0 h_0_0 (ExC.rf : ExC [0, 1, 2, 60, 61, 62, 63, 64, 65, 66, 67, 68, 69, 70, 72, 73, 74, 75, 76, 242, 243, 244, 999] σ0 σ0) R14 (by decide) (by rw [c8]; omega) (by omega)), (by omega)⟩ (fun w253 σ254 q255 => ?_)
          obtain ⟨a256, rfl, H257, e258, h260, R259, q261⟩ := q255
          have c262 := (h_0_0.mi e258 (by decide)).trans c3
          have c263 := (h_0_0.mi e258 (by decide)).trans c8
          have z264 := congrArg Int32.toInt c262
          have z265 := congrArg Int32.toInt c263
          refine k_st (st' := [.inr (.inr (some a256))]) rfl ?_
          have z266 := R14.1.1
          have R267 : RdC p0 none (1) (1) (-999) σ0 σ254 := R14.tr ⟨R259.1, R259.2⟩ (by omega) (by omega) (by omega) (by omega)
          have R268 := R267.nf (-1000) (-1000) (by rw [c263]; omega)
          have z269 := R268.2.2.1
          have z270 := R268.2.2.2.1 rd_at
          refine k_astore (ls' := [(4, .inr (.inr (some a256))), (3, .inl x247), (2, .inl x18), (0, .inr (.inr (some p0))), (1, .inl p1)]) rfl ?_
          refine k_aload rfl ?_
          refine k_aload_n rfl ?_
          refine k_aload_n rfl ?_
          have t271 := h_0_0.x e258
          refine k_get kg242 t271 (congrArg (Sum.inl : Int32 → AvC) c262) ?_
          refine k_inv (P := P_X7_meant) (Q := Q_X7_meant) rfl rfl rfl rfl (Nat.le_of_ble_eq_true rfl) (t271.rc (by decide)) ⟨_, _, rfl, H257, t271, (by omega), (by omega)⟩ (fun w272 σ273 q274 => ?_)
          obtain ⟨x275, rfl, H276, e277, h278⟩ := q274
          have c279 := (t271.mi e277 (by decide)).trans c262
          have c280 := (t271.mi e277 (by decide)).trans c263
          have z281 := congrArg Int32.toInt c279
          have z282 := congrArg Int32.toInt c280
          refine k_st (st' := [.inl x275, .inr (.inr (some a256))]) rfl ?_
          have t283 := h260.x e277
          refine k_putI kp67 H276 t283 (Or.inl fk67) (tiC x275).1 (tiC x275).2 (fun σ284 H285 e286 c287 => ?_)
          refine k_aload_n rfl ?_
          have t288 := t271.x e277
          have t289 := t288.x e286
          have R290 : RdC p0 none (1) (1) (-1000) σ0 σ273 := R268.tr ⟨(e277.gw H257.1 (by decide)), (e277.cou (u := 0) H257.1 t271 (by decide) (by rw [e277.cn (by decide)]; omega))⟩ (by omega) (by omega) (by omega) (by omega)
          have R291 : RdC p0 none (1) (1) (-1000) σ0 σ284 := R290.tr ⟨(e286.gw H276.1 (by decide)), (e286.cou (u := 0) H276.1 t288 (by decide) (by rw [e286.cn (by decide)]; omega))⟩ (by omega) (by omega) (by omega) (by omega)
          have c292 := (t288.mi e286 (by decide)).trans c280
          have R293 := R291.nf (-1000) (-1000) (by rw [c292]; omega)
          have X294 : ExC [0, 1, 2, 60, 61, 62, 63, 64, 65, 66, 67, 68, 69, 70, 72, 73, 74, 75, 76, 242, 243, 244, 999] σ0 σ254 := ExC.rf.tr (e258.mo (by decide))
          have X295 : ExC [0, 1, 2, 60, 61, 62, 63, 64, 65, 66, 67, 68, 69, 70, 72, 73, 74, 75, 76, 242, 243, 244, 999] σ0 σ273 := X294.tr (e277.mo (by decide))
          have X296 : ExC [0, 1, 2, 60, 61, 62, 63, 64, 65, 66, 67, 68, 69, 70, 72, 73, 74, 75, 76, 242, 243, 244, 999] σ0 σ284 := X295.tr (e286.mo (by decide))
          have c297 := (t288.mi e286 (by decide)).trans c279
          have z298 := congrArg Int32.toInt c297
          have z299 := congrArg Int32.toInt c292
          refine k_inv (P := P_X7_accept) (Q := Q_X7_accept) rfl rfl rfl rfl (Nat.le_of_ble_eq_true rfl) (t289.rc (by decide)) ⟨_, rfl, H285, t289, (rd_cd.st H0 h_0_0 X296 R293.1 (by decide)), (R293.2.2.2.1 rd_at), (rd_bg.stn H0 h_0_0 X296 R293 (by decide) (by rw [c292]; omega) (by omega)), (by have ct := R293.2.2.1; rw [c292, c297, ct]; omega)⟩ (fun w300 σ301 q302 => ?_)
          obtain ⟨rfl, H303, e304, R305, q306⟩ := q302
          have t312 := t289.x e304
          obtain ⟨x307, e308, c309, h310, h311⟩ := cg242 H303.1 t312
          obtain ⟨x313, e314, c315, h316, h317⟩ := cg243 H303.1 t312
          have z318 := congrArg Int32.toInt c309
          have z319 := congrArg Int32.toInt c315
          refine k_st (st' := []) rfl ?_
          have R320 : RdC p0 none (-7) (1) (-1000) σ0 σ301 := R293.tr ⟨R305.1, R305.2⟩ (by omega) (by omega) (by omega) (by omega)
          have z321 := R320.2.2.1
          have z322 := R320.2.2.2.1 rd_at
          refine k_iload_n rfl ?_
          refine k_if_eq (fun h323 => by exfalso; omega) (fun h323 => ?_)
          refine k_nil ?_
          refine hB _ _ _ _ (kgoC (is := KX7_readName_79) rfl ?_)
          refine k_aload_n rfl ?_
          have X324 : ExC [0, 1, 2, 60, 61, 62, 63, 64, 65, 66, 67, 68, 69, 70, 72, 73, 74, 75, 76, 242, 243, 244, 999] σ0 σ301 := X296.tr (e304.mo (by decide))
          refine k_inv (P := P_X7_accept) (Q := Q_X7_accept) rfl rfl rfl rfl (Nat.le_of_ble_eq_true rfl) (t312.rc (by decide)) ⟨_, rfl, H303, t312, (rd_cd.st H0 h_0_0 X324 R320.1 (by decide)), (R320.2.2.2.1 rd_at), (rd_bg.st H0 h_0_0 X324 R320 (by decide) (by omega) (by omega) (by omega)), (by have ct := R320.2.2.1; rw [c315, c309, ct]; omega)⟩ (fun w325 σ326 q327 => ?_)
          obtain ⟨rfl, H328, e329, R330, q331⟩ := q327
          have t337 := t312.x e329
          obtain ⟨x332, e333, c334, h335, h336⟩ := cg242 H328.1 t337
          obtain ⟨x338, e339, c340, h341, h342⟩ := cg243 H328.1 t337
          have z343 := congrArg Int32.toInt c334
          have z344 := congrArg Int32.toInt c340
          refine k_st (st' := []) rfl ?_
          have R345 : RdC p0 none (-15) (1) (-1000) σ0 σ326 := R320.tr ⟨R330.1, R330.2⟩ (by omega) (by omega) (by omega) (by omega)
          have z346 := R345.2.2.1
          have z347 := R345.2.2.2.1 rd_at
          refine k_nil ?_
          refine hB _ _ _ _ (kgoC (is := KX7_readName_83) rfl ?_)
          refine k_aload_n rfl ?_
          refine k_aload rfl ?_
          have t348 := t283.x e286
          have t349 := t348.x e304
          have t350 := t349.x e329
          have X351 : ExC [0, 1, 2, 60, 61, 62, 63, 64, 65, 66, 67, 68, 69, 70, 72, 73, 74, 75, 76, 242, 243, 244, 999] σ0 σ326 := X324.tr (e329.mo (by decide))
          refine k_inv (P := P_X7_put) (Q := Q_X7_put) rfl rfl rfl rfl (Nat.le_of_ble_eq_true rfl) (t337.rc (by decide)) ⟨_, _, rfl, H328, t337, t350, (rd_cd.st H0 h_0_0 X351 R345.1 (by decide)), (R345.2.2.2.1 rd_at), (rd_bg.st H0 h_0_0 X351 R345 (by decide) (by omega) (by omega) (by omega))⟩ (fun w352 σ353 q354 => ?_)
          obtain ⟨a355, rfl, H356, e357, h359, R358, q360⟩ := q354
          have c361 := (t337.mi e357 (by decide)).trans c334
          have c362 := (t337.mi e357 (by decide)).trans c340
          have z363 := congrArg Int32.toInt c361
          have z364 := congrArg Int32.toInt c362
          refine k_st (st' := [.inr (.inr (some a355))]) rfl ?_
          refine k_areturn ?_
          have X365 : ExC [0, 1, 2, 60, 61, 62, 63, 64, 65, 66, 67, 68, 69, 70, 72, 73, 74, 75, 76, 242, 243, 244, 999] σ0 σ353 := X351.tr (e357.mo (by decide))
          have R366 : RdC p0 none (-14) (2) (-999) σ0 σ353 := R345.tr ⟨R358.1, R358.2⟩ (by omega) (by omega) (by omega) (by omega)
          exact ⟨_, rfl, H356, X365, h359, (R366.mo (by omega) (by omega) (by omega)), (by omega)⟩
    · refine k_nil ?_
      refine hB _ _ _ _ (kgoC (is := KX7_readName_9) rfl ?_)
      refine k_aload_n rfl ?_
      refine k_iload_n rfl ?_
      refine k_inv (P := (P_X7_readCall d)) (Q := (Q_X7_readCall d)) rfl rfl rfl rfl (Nat.le_of_ble_eq_true rfl) (h_0_0.rc (by decide)) ⟨_, _, rfl, H0, h_0_0, (by omega), (by omega), (rd_cd.st H0 h_0_0 (ExC.rf : ExC [0, 1, 2, 60, 61, 62, 63, 64, 65, 66, 67, 68, 69, 70, 72, 73, 74, 75, 76, 242, 243, 244, 999] σ0 σ0) R14.1 (by decide)), (R14.2.2.2.1 rd_at), ((show BgC σ0 p0 (14 + 8 * (d : Int)) 0 from (rd_bg.stn H0 h_0_0 (ExC.rf : ExC [0, 1, 2, 60, 61, 62, 63, 64, 65, 66, 67, 68, 69, 70, 72, 73, 74, 75, 76, 242, 243, 244, 999] σ0 σ0) R14 (by decide) (by rw [c8]; omega) (by omega))).1 (by rw [c8]; omega)), (by rw [c8]; omega), (by have ct := R14.2.2.1; rw [c8, c3, ct]; omega), (by omega)⟩ (fun w367 σ368 q369 => ?_)
      obtain ⟨a370, rfl, H371, e372, h374, R373, q375⟩ := q369
      have t381 := h_0_0.x e372
      obtain ⟨x376, e377, c378, h379, h380⟩ := cg242 H371.1 t381
      obtain ⟨x382, e383, c384, h385, h386⟩ := cg243 H371.1 t381
      have z387 := congrArg Int32.toInt c378
      have z388 := congrArg Int32.toInt c384
      refine k_st (st' := [.inr (.inr (some a370))]) rfl ?_
      have z389 := R14.1.1
      have R390 : RdC p0 none (0) (14 + 8 * (d : Int)) (-1000) σ0 σ368 := R14.tr ⟨R373.1, R373.2⟩ (by omega) (by omega) (by omega) (by omega)
      have z391 := R390.2.2.1
      have z392 := R390.2.2.2.1 rd_at
      refine k_areturn ?_
      have X393 : ExC [0, 1, 2, 60, 61, 62, 63, 64, 65, 66, 67, 68, 69, 70, 72, 73, 74, 75, 76, 242, 243, 244, 999] σ0 σ368 := ExC.rf.tr (e372.mo (by decide))
      exact ⟨_, rfl, H371, X393, h374, (R390.mo (by omega) (by omega) (by omega)), (by omega)⟩

set_option maxRecDepth 100000 in
set_option maxHeartbeats 4000000 in
theorem s_X7_readInnerOperand (l : Launch) (d : Nat) (h_X7_readOperand : CMetC l (13 * d + 33) 170 (P_X7_readOperand d) (Q_X7_readOperand d)) : CMetC l (13 * d + 34) 171 (P_X7_readInnerOperand d) (Q_X7_readInnerOperand d) := by
  refine CMetC.of KX7_readInnerOperand [(131, P_X7_isTooDeep, Q_X7_isTooDeep), (170, (P_X7_readOperand d), (Q_X7_readOperand d)), (162, P_X7_opened, Q_X7_opened)] hX7_readInnerOperand (by decide) (by omega) okX7_readInnerOperand (cc1C (m_X7_isTooDeep l) (by omega) (cc1C h_X7_readOperand (by omega) (cc1C (m_X7_opened l) (by omega) cc0C))) ?_ ?_
  · rintro As σ ⟨p0, p1, rfl, -⟩
    exact Nat.le_of_ble_eq_true rfl
  · rintro As σ0 ⟨p0, p1, rfl, H0, h_0_0, h_1_0, h_1_1, rd_cd, rd_at, rd_bg, rd_dp⟩ hgr G hB hW
    change G 0 [(0, .inr (.inr (some p0))), (1, .inl p1)] [] σ0
    obtain ⟨x1, e2, c3, h4, h5⟩ := cg242 H0.1 h_0_0
    obtain ⟨x6, e7, c8, h9, h10⟩ := cg243 H0.1 h_0_0
    have z11 := congrArg Int32.toInt c3
    have z12 := congrArg Int32.toInt c8
    refine hB _ _ _ _ (kgoC (is := KX7_readInnerOperand_0) rfl ?_)
    refine k_aload_n rfl ?_
    refine k_iload_n rfl ?_
    refine k_inv (P := P_X7_isTooDeep) (Q := Q_X7_isTooDeep) rfl rfl rfl rfl (Nat.le_of_ble_eq_true rfl) (h_0_0.rc (by decide)) ⟨_, _, rfl, H0, h_0_0, (rd_cd.st H0 h_0_0 (ExC.rf : ExC [0, 1, 2, 60, 61, 62, 63, 64, 65, 66, 67, 68, 69, 70, 72, 73, 74, 75, 76, 242, 243, 244, 999] σ0 σ0) (RdC.rf : RdC p0 none 0 0 0 σ0 σ0).1 (by decide)), ((RdC.rf : RdC p0 none 0 0 0 σ0 σ0).2.2.2.1 rd_at), (rd_bg.st H0 h_0_0 (ExC.rf : ExC [0, 1, 2, 60, 61, 62, 63, 64, 65, 66, 67, 68, 69, 70, 72, 73, 74, 75, 76, 242, 243, 244, 999] σ0 σ0) (RdC.rf : RdC p0 none 0 0 0 σ0 σ0) (by decide) (by omega) (by omega) (by omega))⟩ (fun w13 σ14 q15 => ?_)
    obtain ⟨x16, rfl, H17, e18, h20, h21, R19, q22, q23⟩ := q15
    have c24 := (h_0_0.mi e18 (by decide)).trans c3
    have t30 := h_0_0.x e18
    obtain ⟨x25, e26, c27, h28, h29⟩ := cg243 H17.1 t30
    have z31 := congrArg Int32.toInt c24
    have z32 := congrArg Int32.toInt c27
    refine k_st (st' := [.inl x16]) rfl ?_
    rcases (by omega : x16.toInt = 0 ∨ x16.toInt = 1) with g33 | g33
    · have h34 := q23 (by omega)
      refine k_if_eq (fun h35 => ?_) (fun h35 => by exfalso; omega)
      refine hB _ _ _ _ (kgoC (is := KX7_readInnerOperand_17) rfl ?_)
      refine k_aload_n rfl ?_
      refine k_iload_n rfl ?_
      have R36 : RdC p0 none (0) (0) (0) σ0 σ14 := (RdC.rf : RdC p0 none 0 0 0 σ0 σ0).tr ⟨R19.1, R19.2⟩ (by omega) (by omega) (by omega) (by omega)
      have X37 : ExC [0, 1, 2, 60, 61, 62, 63, 64, 65, 66, 67, 68, 69, 70, 72, 73, 74, 75, 76, 242, 243, 244, 999] σ0 σ14 := ExC.rf.tr (e18.mo (by decide))
      refine k_inv (P := (P_X7_readOperand d)) (Q := (Q_X7_readOperand d)) rfl rfl rfl rfl (Nat.le_of_ble_eq_true rfl) (t30.rc (by decide)) ⟨_, _, rfl, H17, t30, (by omega), (by omega), (rd_cd.st H0 h_0_0 X37 R36.1 (by decide)), (R36.2.2.2.1 rd_at), (rd_bg.st H0 h_0_0 X37 R36 (by decide) (by omega) (by omega) (by omega)), (by omega)⟩ (fun w38 σ39 q40 => ?_)
      obtain ⟨a41, rfl, H42, e43, h45, R44, q46⟩ := q40
      have t52 := t30.x e43
      obtain ⟨x47, e48, c49, h50, h51⟩ := cg242 H42.1 t52
      obtain ⟨x53, e54, c55, h56, h57⟩ := cg243 H42.1 t52
      have z58 := congrArg Int32.toInt c49
      have z59 := congrArg Int32.toInt c55
      refine k_st (st' := [.inr (.inr (some a41))]) rfl ?_
      have z60 := R36.1.1
      have R61 : RdC p0 none (0) (14 + 8 * (d : Int)) (1) σ0 σ39 := R36.tr ⟨R44.1, R44.2⟩ (by omega) (by omega) (by omega) (by omega)
      have z62 := R61.2.2.1
      have z63 := R61.2.2.2.1 rd_at
      refine k_nil ?_
      refine hB _ _ _ _ (kgoC (is := KX7_readInnerOperand_22) rfl ?_)
      refine k_areturn ?_
      have X64 : ExC [0, 1, 2, 60, 61, 62, 63, 64, 65, 66, 67, 68, 69, 70, 72, 73, 74, 75, 76, 242, 243, 244, 999] σ0 σ39 := X37.tr (e43.mo (by decide))
      exact ⟨_, rfl, H42, X64, h45, (R61.mo (by omega) (by omega) (by omega)), (by omega)⟩
    · have h65 : 1 ≤ x25.toInt := by have hq := (q22 (by omega)).2; rw [c27] at hq; omega
      have h66 := (q22 (by omega)).1
      refine k_if_eq (fun h67 => by exfalso; omega) (fun h67 => ?_)
      refine k_nil ?_
      refine hB _ _ _ _ (kgoC (is := KX7_readInnerOperand_8) rfl ?_)
      refine k_aload_n rfl ?_
      refine k_iconst (m := 1) rfl (fun x68 h69 => ?_)
      refine k_iconst (m := (-1)) rfl (fun x70 h71 => ?_)
      have R72 : RdC p0 none (0) (0) (0) σ0 σ14 := (RdC.rf : RdC p0 none 0 0 0 σ0 σ0).tr ⟨R19.1, R19.2⟩ (by omega) (by omega) (by omega) (by omega)
      have X73 : ExC [0, 1, 2, 60, 61, 62, 63, 64, 65, 66, 67, 68, 69, 70, 72, 73, 74, 75, 76, 242, 243, 244, 999] σ0 σ14 := ExC.rf.tr (e18.mo (by decide))
      refine k_inv (P := P_X7_opened) (Q := Q_X7_opened) rfl rfl rfl rfl (Nat.le_of_ble_eq_true rfl) (t30.rc (by decide)) ⟨_, _, _, rfl, H17, t30, (rd_cd.st H0 h_0_0 X73 R72.1 (by decide)), (R72.2.2.2.1 rd_at), (rd_bg.st H0 h_0_0 X73 R72 (by decide) (by omega) (by omega) (by omega)), (by omega)⟩ (fun w74 σ75 q76 => ?_)
      obtain ⟨a77, rfl, H78, e79, h81, R80, q82⟩ := q76
      have c83 := (t30.mi e79 (by decide)).trans c24
      have c84 := (t30.mi e79 (by decide)).trans c27
      have z85 := congrArg Int32.toInt c83
      have z86 := congrArg Int32.toInt c84
      refine k_st (st' := [.inr (.inr (some a77))]) rfl ?_
      have z87 := R72.1.1
      have R88 : RdC p0 none (1) (1) (1) σ0 σ75 := R72.tr ⟨R80.1, R80.2⟩ (by omega) (by omega) (by omega) (by omega)
      have z89 := R88.2.2.1
      have z90 := R88.2.2.2.1 rd_at
      refine k_goto ?_
      refine hB _ _ _ _ (kgoC (is := KX7_readInnerOperand_22) rfl ?_)
      refine k_areturn ?_
      have X91 : ExC [0, 1, 2, 60, 61, 62, 63, 64, 65, 66, 67, 68, 69, 70, 72, 73, 74, 75, 76, 242, 243, 244, 999] σ0 σ75 := X73.tr (e79.mo (by decide))
      exact ⟨_, rfl, H78, X91, h81, ((R88.ft (0) (by rw [c84]; omega)).mo (by omega) (by omega) (by omega)), (by omega)⟩
