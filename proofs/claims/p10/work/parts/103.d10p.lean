abbrev P_X7_readParams : CpC := fun As σ => ∃ (p0 : Nat) (p1 : Nat), As = [.inr (.inr (some p0)), .inr (.inr (some p1))] ∧ HIC σ ∧ TyC σ p0 8 ∧ TyC σ p1 6 ∧ CdC σ p0 ∧ (fIC σ p0 242).toInt ≤ CtC σ p0 ∧ BgC σ p0 (10) (0) ∧ (fIC σ p1 185).toInt = 0
abbrev Q_X7_readParams : CqC := fun As σ w τ => match As with
  | [.inr (.inr (some p0)), .inr (.inr (some p1))] => w = none ∧ HIC τ ∧ ExC [0, 1, 2, 185, 242, 243, 244, 330, 331, 332, 333, 334, 999] σ τ ∧ RdC p0 none (0) (10) (0) σ τ ∧ (∀ s, ReC σ p0 s → ReC τ p0 (parY s))
  | _ => False
set_option maxRecDepth 100000 in
set_option maxHeartbeats 4000000 in
theorem b_X7_readParams : TbC KX7_readParams [(129, P_X7_expect, Q_X7_expect), (125, P_X7_code, Q_X7_code), (130, P_X7_takes, Q_X7_takes), (136, P_X7_readType, Q_X7_readType), (137, P_X7_declare, Q_X7_declare), (138, P_X7_know, Q_X7_know), (112, P_X5_addParam, Q_X5_addParam)] P_X7_readParams Q_X7_readParams := by
  · rintro As σ0 ⟨p0, p1, rfl, H0, h_0_0, h_1_0, rd_cd, rd_at, rd_bg, q_0⟩ hgr G hB hW
    change G 0 [(0, .inr (.inr (some p0))), (1, .inr (.inr (some p1)))] [] σ0
    obtain ⟨x1, e2, c3, h4, h5⟩ := cg242 H0.1 h_0_0
    obtain ⟨x6, e7, c8, h9, h10⟩ := cg243 H0.1 h_0_0
    have z11 := congrArg Int32.toInt c3
    have z12 := congrArg Int32.toInt c8
    obtain ⟨x13, e14, c15, h16, h17⟩ := cg185 H0.1 h_1_0
    have h18 : x13.toInt = 0 := by rw [← c15]; exact q_0
    have L17 : ∀ (n17 : Nat), ∀ (σ19 : CsC) (v17_2 : Int32) (v17_3 : Int32), (2147483647 - v17_3.toInt).toNat = n17 → HIC σ19 → ExC [0, 1, 2, 185, 242, 243, 244, 330, 331, 332, 333, 334, 999] σ0 σ19 → RdC p0 none (-8) (0) (0) σ0 σ19 → 0 ≤ v17_2.toInt → v17_2.toInt ≤ 1 → 0 ≤ v17_3.toInt → v17_3.toInt ≤ 10 → (∀ s, ReC σ0 p0 s → ∃ s', ReC σ19 p0 s' ∧ xpY 1 (plY v17_2.toInt (7 - v17_3.toInt).toNat v17_3.toInt.toNat s') = parY s) → (0 ≤ v17_3.toInt ∧ v17_3.toInt ≤ 7 ∧ (v17_3.toInt ≤ 6 → (fIC σ19 p1 185).toInt = v17_3.toInt)) → G 17 [(0, .inr (.inr (some p0))), (1, .inr (.inr (some p1))), (2, .inl v17_2), (3, .inl v17_3)] [] σ19 := by
      intro n17
      induction n17 using Nat.strongRecOn with
      | _ n17 ih17 =>
        intro σ19 v17_2 v17_3 n17_ H20 e21 R22 h23 h24 h25 h26 h27 h28
        have t34 := h_0_0.x e21
        obtain ⟨x29, e30, c31, h32, h33⟩ := cg242 H20.1 t34
        obtain ⟨x35, e36, c37, h38, h39⟩ := cg243 H20.1 t34
        have z40 := congrArg Int32.toInt c31
        have z41 := congrArg Int32.toInt c37
        obtain ⟨h42, h43, h44⟩ := h28
        have t50 := h_1_0.x e21
        obtain ⟨x45, e46, c47, h48, h49⟩ := cg185 H20.1 t50
        rw [c47] at h44
        refine hB _ _ _ _ (kgoC (is := KX7_readParams_17) rfl ?_)
        refine k_iload_n rfl ?_
        refine k_if_eq (fun h51 => ?_) (fun h51 => ?_)
        · refine hB _ _ _ _ (kgoC (is := KX7_readParams_89) rfl ?_)
          refine k_aload_n rfl ?_
          refine k_iconst (m := 1) rfl (fun x52 h53 => ?_)
          have X54 : ExC [0, 1, 2, 185, 242, 243, 244, 330, 331, 332, 333, 334, 999] σ0 σ19 := ExC.rf.tr (e21.mo (by decide))
          refine k_inv (P := P_X7_expect) (Q := Q_X7_expect) rfl rfl rfl rfl (Nat.le_of_ble_eq_true rfl) (t34.rc (by decide)) ⟨_, _, rfl, H20, t34, (by omega), (by omega), (rd_cd.st H0 h_0_0 X54 R22.1 (by decide)), (R22.2.2.2.1 rd_at), (rd_bg.st H0 h_0_0 X54 R22 (by decide) (by omega) (by omega) (by omega))⟩ (fun w55 σ56 q57 => ?_)
          obtain ⟨rfl, H58, e59, R60, q61, q62⟩ := q57
          have t68 := t34.x e59
          obtain ⟨x63, e64, c65, h66, h67⟩ := cg242 H58.1 t68
          obtain ⟨x69, e70, c71, h72, h73⟩ := cg243 H58.1 t68
          have z74 := congrArg Int32.toInt c65
          have z75 := congrArg Int32.toInt c71
          refine k_st (st' := []) rfl ?_
          have R76 : RdC p0 none (-16) (0) (0) σ0 σ56 := R22.tr ⟨R60.1, R60.2⟩ (by omega) (by omega) (by omega) (by omega)
          have z77 := R76.2.2.1
          have z78 := R76.2.2.2.1 rd_at
          refine k_return ?_
          have X79 : ExC [0, 1, 2, 185, 242, 243, 244, 330, 331, 332, 333, 334, 999] σ0 σ56 := X54.tr (e59.mo (by decide))
          have S83 : ∀ s, ReC σ0 p0 s → ReC σ56 p0 (parY s) := by
            intro s hs
            obtain ⟨s', hs', hp⟩ := h27 s hs
            unfold plY at hp
            first | rw [show (7 - v17_3.toInt).toNat = 0 from by omega] at hp | rw [show (7 - v17_3.toInt).toNat = (6 - v17_3.toInt).toNat + 1 from by omega] at hp | skip
            try rw [palY] at hp
            have y80 := q62 _ hs'
            rw [h53] at y80
            have g82 := (show v17_2.toInt = 0 from by omega)
            refine y80.eq ?_
            rw [← hp]
            all_goals try simp only [parY, pa3Y, plY, pa1Y, pa2Y, g82, or_false, false_or, or_true, true_or, and_false, false_and, and_true, true_and, not_true, not_false_iff, ↓reduceIte, Int.reduceEq, Int.reduceLE, Int.reduceLT, Int.reduceNeg]
            all_goals first | rfl | (exfalso; omega)
          exact ⟨rfl, H58, X79, (R76.mo (by omega) (by omega) (by omega)), S83⟩
        · refine k_nil ?_
          refine hB _ _ _ _ (kgoC (is := KX7_readParams_21) rfl ?_)
          refine k_iload_n rfl ?_
          refine k_bipush (m := 6) rfl (fun x84 h85 => ?_)
          refine k_ic_gt (fun h86 => ?_) (fun h86 => ?_)
          · refine hB _ _ _ _ (kgoC (is := KX7_readParams_89) rfl ?_)
            refine k_aload_n rfl ?_
            refine k_iconst (m := 1) rfl (fun x87 h88 => ?_)
            have X89 : ExC [0, 1, 2, 185, 242, 243, 244, 330, 331, 332, 333, 334, 999] σ0 σ19 := ExC.rf.tr (e21.mo (by decide))
            refine k_inv (P := P_X7_expect) (Q := Q_X7_expect) rfl rfl rfl rfl (Nat.le_of_ble_eq_true rfl) (t34.rc (by decide)) ⟨_, _, rfl, H20, t34, (by omega), (by omega), (rd_cd.st H0 h_0_0 X89 R22.1 (by decide)), (R22.2.2.2.1 rd_at), (rd_bg.st H0 h_0_0 X89 R22 (by decide) (by omega) (by omega) (by omega))⟩ (fun w90 σ91 q92 => ?_)
            obtain ⟨rfl, H93, e94, R95, q96, q97⟩ := q92
            have t103 := t34.x e94
            obtain ⟨x98, e99, c100, h101, h102⟩ := cg242 H93.1 t103
            obtain ⟨x104, e105, c106, h107, h108⟩ := cg243 H93.1 t103
            have z109 := congrArg Int32.toInt c100
            have z110 := congrArg Int32.toInt c106
            refine k_st (st' := []) rfl ?_
            have R111 : RdC p0 none (-16) (0) (0) σ0 σ91 := R22.tr ⟨R95.1, R95.2⟩ (by omega) (by omega) (by omega) (by omega)
            have z112 := R111.2.2.1
            have z113 := R111.2.2.2.1 rd_at
            refine k_return ?_
            have X114 : ExC [0, 1, 2, 185, 242, 243, 244, 330, 331, 332, 333, 334, 999] σ0 σ91 := X89.tr (e94.mo (by decide))
            have S118 : ∀ s, ReC σ0 p0 s → ReC σ91 p0 (parY s) := by
              intro s hs
              obtain ⟨s', hs', hp⟩ := h27 s hs
              unfold plY at hp
              first | rw [show (7 - v17_3.toInt).toNat = 0 from by omega] at hp | rw [show (7 - v17_3.toInt).toNat = (6 - v17_3.toInt).toNat + 1 from by omega] at hp | skip
              try rw [palY] at hp
              have y115 := q97 _ hs'
              rw [h88] at y115
              have g117 := (show v17_2.toInt = 1 from by omega)
              refine y115.eq ?_
              rw [← hp]
              all_goals try simp only [parY, pa3Y, plY, pa1Y, pa2Y, g117, or_false, false_or, or_true, true_or, and_false, false_and, and_true, true_and, not_true, not_false_iff, ↓reduceIte, Int.reduceEq, Int.reduceLE, Int.reduceLT, Int.reduceNeg]
              all_goals first | rfl | (exfalso; omega)
            exact ⟨rfl, H93, X114, (R111.mo (by omega) (by omega) (by omega)), S118⟩
          · refine k_nil ?_
            refine hB _ _ _ _ (kgoC (is := KX7_readParams_27) rfl ?_)
            refine k_aload_n rfl ?_
            refine k_bipush (m := 71) rfl (fun x119 h120 => ?_)
            have X121 : ExC [0, 1, 2, 185, 242, 243, 244, 330, 331, 332, 333, 334, 999] σ0 σ19 := ExC.rf.tr (e21.mo (by decide))
            refine k_inv (P := P_X7_takes) (Q := Q_X7_takes) rfl rfl rfl rfl (Nat.le_of_ble_eq_true rfl) (t34.rc (by decide)) ⟨_, _, rfl, H20, t34, (by omega), (by omega), (rd_cd.st H0 h_0_0 X121 R22.1 (by decide)), (R22.2.2.2.1 rd_at), (rd_bg.st H0 h_0_0 X121 R22 (by decide) (by omega) (by omega) (by omega))⟩ (fun w122 σ123 q124 => ?_)
            obtain ⟨x125, rfl, H126, e127, h129, h130, R128, q131, q132⟩ := q124
            have t138 := t34.x e127
            obtain ⟨x133, e134, c135, h136, h137⟩ := cg242 H126.1 t138
            obtain ⟨x139, e140, c141, h142, h143⟩ := cg243 H126.1 t138
            have z144 := congrArg Int32.toInt c135
            have z145 := congrArg Int32.toInt c141
            refine k_st (st' := [.inl x125]) rfl ?_
            rcases (by omega : x125.toInt = 0 ∨ x125.toInt = 1) with g146 | g146
            · have R147 : RdC p0 none (-8) (0) (0) σ0 σ123 := R22.tr ⟨R128.1, R128.2⟩ (by omega) (by omega) (by omega) (by omega)
              have z148 := R147.2.2.1
              have z149 := R147.2.2.2.1 rd_at
              refine k_istore (ls' := [(4, .inl x125), (0, .inr (.inr (some p0))), (1, .inr (.inr (some p1))), (2, .inl v17_2), (3, .inl v17_3)]) rfl ?_
              refine k_aload_n rfl ?_
              have X150 : ExC [0, 1, 2, 185, 242, 243, 244, 330, 331, 332, 333, 334, 999] σ0 σ123 := X121.tr (e127.mo (by decide))
              refine k_inv (P := P_X7_readType) (Q := Q_X7_readType) rfl rfl rfl rfl (Nat.le_of_ble_eq_true rfl) (t138.rc (by decide)) ⟨_, rfl, H126, t138, (rd_cd.st H0 h_0_0 X150 R147.1 (by decide)), (R147.2.2.2.1 rd_at), (rd_bg.st H0 h_0_0 X150 R147 (by decide) (by omega) (by omega) (by omega))⟩ (fun w151 σ152 q153 => ?_)
              obtain ⟨x154, rfl, H155, e156, R157, q158⟩ := q153
              have t164 := t138.x e156
              obtain ⟨x159, e160, c161, h162, h163⟩ := cg242 H155.1 t164
              obtain ⟨x165, e166, c167, h168, h169⟩ := cg243 H155.1 t164
              have z170 := congrArg Int32.toInt c161
              have z171 := congrArg Int32.toInt c167
              refine k_st (st' := [.inl x154]) rfl ?_
              refine k_istore (ls' := [(5, .inl x154), (4, .inl x125), (0, .inr (.inr (some p0))), (1, .inr (.inr (some p1))), (2, .inl v17_2), (3, .inl v17_3)]) rfl ?_
              refine k_aload_n rfl ?_
              refine k_iload rfl ?_
              refine k_iload rfl ?_
              refine k_aload_n rfl ?_
              have t172 := t50.x e127
              have t173 := t172.x e156
              have c174 := (t50.mi e127 (by decide)).trans c47
              have c175 := (t172.mi e156 (by decide)).trans c174
              refine k_get kg185 t173 (congrArg (Sum.inl : Int32 → AvC) c175) ?_
              refine k_bipush (m := 6) rfl (fun x176 h177 => ?_)
              refine k_ic_ge (fun h178 => ?_) (fun h178 => ?_)
              · refine hB _ _ _ _ (kgoC (is := KX7_readParams_59) rfl ?_)
                refine k_iconst (m := 0) rfl (fun x179 h180 => ?_)
                refine k_nil ?_
                refine hB _ _ _ _ (kgoC (is := KX7_readParams_60) rfl ?_)
                have R181 : RdC p0 none (-16) (0) (0) σ0 σ152 := R147.tr ⟨R157.1, R157.2⟩ (by omega) (by omega) (by omega) (by omega)
                have X182 : ExC [0, 1, 2, 185, 242, 243, 244, 330, 331, 332, 333, 334, 999] σ0 σ152 := X150.tr (e156.mo (by decide))
                refine k_inv (P := P_X7_declare) (Q := Q_X7_declare) rfl rfl rfl rfl (Nat.le_of_ble_eq_true rfl) (t164.rc (by decide)) ⟨_, _, _, _, rfl, H155, t164, (by omega), (by omega), (by omega), (by omega), (rd_cd.st H0 h_0_0 X182 R181.1 (by decide)), (R181.2.2.2.1 rd_at), (rd_bg.st H0 h_0_0 X182 R181 (by decide) (by omega) (by omega) (by omega))⟩ (fun w183 σ184 q185 => ?_)
                obtain ⟨x186, rfl, H187, e188, h190, h191, R189, q192⟩ := q185
                have t198 := t164.x e188
                obtain ⟨x193, e194, c195, h196, h197⟩ := cg242 H187.1 t198
                obtain ⟨x199, e200, c201, h202, h203⟩ := cg243 H187.1 t198
                have z204 := congrArg Int32.toInt c195
                have z205 := congrArg Int32.toInt c201
                refine k_st (st' := [.inl x186]) rfl ?_
                have c206 := (t173.mi e188 (by decide)).trans c175
                refine k_istore (ls' := [(6, .inl x186), (5, .inl x154), (4, .inl x125), (0, .inr (.inr (some p0))), (1, .inr (.inr (some p1))), (2, .inl v17_2), (3, .inl v17_3)]) rfl ?_
                refine k_aload_n rfl ?_
                refine k_iload rfl ?_
                refine k_inv (P := P_X7_know) (Q := Q_X7_know) rfl rfl rfl rfl (Nat.le_of_ble_eq_true rfl) (t198.rc (by decide)) ⟨_, _, rfl, H187, t198⟩ (fun w207 σ208 q209 => ?_)
                obtain ⟨rfl, H210, e211⟩ := q209
                have c212 := (t198.mi e211 (by decide)).trans c195
                have c213 := (t198.mi e211 (by decide)).trans c201
                have z214 := congrArg Int32.toInt c212
                have z215 := congrArg Int32.toInt c213
                refine k_st (st' := []) rfl ?_
                have t216 := t173.x e188
                have c217 := (t216.mi e211 (by decide)).trans c206
                refine k_aload_n rfl ?_
                refine k_iload rfl ?_
                have t218 := t216.x e211
                refine k_inv (P := P_X5_addParam) (Q := Q_X5_addParam) rfl rfl rfl rfl (Nat.le_of_ble_eq_true rfl) (t218.rc (by decide)) ⟨_, _, rfl, H210, t218⟩ (fun w219 σ220 q221 => ?_)
                obtain ⟨rfl, H222, e223, q224, q225⟩ := q221
                have t226 := t198.x e211
                have c227 := (t226.mi e223 (by decide)).trans c212
                have c228 := (t226.mi e223 (by decide)).trans c213
                have z229 := congrArg Int32.toInt c227
                have z230 := congrArg Int32.toInt c228
                refine k_st (st' := []) rfl ?_
                have t236 := t218.x e223
                obtain ⟨x231, e232, c233, h234, h235⟩ := cg185 H222.1 t236
                rw [c233, c217] at q224 q225
                refine k_aload_n rfl ?_
                refine k_iconst (m := 5) rfl (fun x237 h238 => ?_)
                have t239 := t226.x e223
                have R240 : RdC p0 none (-22) (0) (0) σ0 σ184 := R181.tr ⟨R189.1, R189.2⟩ (by omega) (by omega) (by omega) (by omega)
                have R241 : RdC p0 none (-22) (0) (0) σ0 σ208 := R240.tr ⟨(e211.gw H187.1 (by decide)), (e211.cou (u := 0) H187.1 t198 (by decide) (by rw [e211.cn (by decide)]; omega))⟩ (by omega) (by omega) (by omega) (by omega)
                have R242 : RdC p0 none (-22) (0) (0) σ0 σ220 := R241.tr ⟨(e223.gw H210.1 (by decide)), (e223.cou (u := 0) H210.1 t226 (by decide) (by rw [e223.cn (by decide)]; omega))⟩ (by omega) (by omega) (by omega) (by omega)
                have X243 : ExC [0, 1, 2, 185, 242, 243, 244, 330, 331, 332, 333, 334, 999] σ0 σ184 := X182.tr (e188.mo (by decide))
                have X244 : ExC [0, 1, 2, 185, 242, 243, 244, 330, 331, 332, 333, 334, 999] σ0 σ208 := X243.tr (e211.mo (by decide))
                have X245 : ExC [0, 1, 2, 185, 242, 243, 244, 330, 331, 332, 333, 334, 999] σ0 σ220 := X244.tr (e223.mo (by decide))
                refine k_inv (P := P_X7_takes) (Q := Q_X7_takes) rfl rfl rfl rfl (Nat.le_of_ble_eq_true rfl) (t239.rc (by decide)) ⟨_, _, rfl, H222, t239, (by omega), (by omega), (rd_cd.st H0 h_0_0 X245 R242.1 (by decide)), (R242.2.2.2.1 rd_at), (rd_bg.st H0 h_0_0 X245 R242 (by decide) (by omega) (by omega) (by omega))⟩ (fun w246 σ247 q248 => ?_)
                obtain ⟨x249, rfl, H250, e251, h253, h254, R252, q255, q256⟩ := q248
                have t262 := t239.x e251
                obtain ⟨x257, e258, c259, h260, h261⟩ := cg242 H250.1 t262
                obtain ⟨x263, e264, c265, h266, h267⟩ := cg243 H250.1 t262
                have z268 := congrArg Int32.toInt c259
                have z269 := congrArg Int32.toInt c265
                refine k_st (st' := [.inl x249]) rfl ?_
                rcases (by omega : x249.toInt = 0 ∨ x249.toInt = 1) with g270 | g270
                · have R271 : RdC p0 none (-22) (0) (0) σ0 σ247 := R242.tr ⟨R252.1, R252.2⟩ (by omega) (by omega) (by omega) (by omega)
                  have z272 := R271.2.2.1
                  have z273 := R271.2.2.2.1 rd_at
                  refine k_istore_n (ls' := [(2, .inl x249), (6, .inl x186), (5, .inl x154), (4, .inl x125), (0, .inr (.inr (some p0))), (1, .inr (.inr (some p1))), (3, .inl v17_3)]) rfl ?_
                  obtain ⟨x274, e276, h275⟩ := iincC (n := 1) (m := 1) (v := v17_3) rfl (by omega) (by omega)
                  refine k_iinc (ls' := [(3, .inl x274), (2, .inl x249), (6, .inl x186), (5, .inl x154), (4, .inl x125), (0, .inr (.inr (some p0))), (1, .inr (.inr (some p1)))]) rfl e276 rfl ?_
                  refine k_goto ?_
                  have S292 : (∀ s, ReC σ0 p0 s → ∃ s', ReC σ247 p0 s' ∧ xpY 1 (plY x249.toInt (7 - x274.toInt).toNat x274.toInt.toNat s') = parY s) := by
                    intro s hs
                    obtain ⟨s', hs', hp⟩ := h27 s hs
                    unfold plY at hp
                    first | rw [show (7 - v17_3.toInt).toNat = 0 from by omega] at hp | rw [show (7 - v17_3.toInt).toNat = (6 - v17_3.toInt).toNat + 1 from by omega] at hp | skip
                    try rw [palY] at hp
                    obtain ⟨y277, f278⟩ := q132 _ hs'
                    rw [h120] at y277
                    rw [h120] at f278
                    rw [tkY_n (f278.2 (by omega))] at y277
                    obtain ⟨y279, f280⟩ := q158 _ y277
                    have y281 := q192 _ y279
                    rw [f280] at y281
                    rw [show x125.toInt = 0 from by omega] at y281
                    rw [h180] at y281
                    have y283 := y281.x H187.1 t198 e211 (by decide)
                    have y284 := y283.x H210.1 t226 e223 (by decide)
                    obtain ⟨y285, f286⟩ := q256 _ y284
                    rw [h238] at y285
                    rw [h238] at f286
                    rw [tkY_n (f286.2 (by omega))] at y285
                    have g287 := f278.2 (by omega)
                    have g288 := f286.2 (by omega)
                    have g289 := (show v17_2.toInt = 1 from by omega)
                    have g290 := (show ¬ v17_3.toInt.toNat < 6 from by omega)
                    have g291 := (show x249.toInt = 0 from by omega)
                    refine ⟨_, y285, ?_⟩
                    rw [← hp]
                    all_goals try rw [show (7 - x274.toInt).toNat = (6 - v17_3.toInt).toNat from by omega]
                    all_goals try rw [show x274.toInt.toNat = v17_3.toInt.toNat + 1 from by omega]
                    all_goals try simp only [parY, pa3Y, plY, pa1Y, pa2Y, g287, g288, g289, g290, g291, or_false, false_or, or_true, true_or, and_false, false_and, and_true, true_and, not_true, not_false_iff, ↓reduceIte, Int.reduceEq, Int.reduceLE, Int.reduceLT, Int.reduceNeg]
                    all_goals first | rfl | (exfalso; omega)
                  have c293 := (t236.mi e251 (by decide)).trans c233
                  have X294 : ExC [0, 1, 2, 185, 242, 243, 244, 330, 331, 332, 333, 334, 999] σ0 σ247 := X245.tr (e251.mo (by decide))
                  exact hW _ _ _ _ _ (List.forall_mem_cons.2 ⟨List.Mem.tail _ (List.Mem.tail _ (List.Mem.tail _ (List.Mem.tail _ (List.Mem.tail _ (List.Mem.head _))))), (List.forall_mem_cons.2 ⟨List.Mem.tail _ (List.Mem.tail _ (List.Mem.tail _ (List.Mem.tail _ (List.Mem.tail _ (List.Mem.tail _ (List.Mem.head _)))))), (List.forall_mem_cons.2 ⟨List.Mem.tail _ (List.Mem.head _), (List.forall_mem_cons.2 ⟨List.Mem.head _, fun _ h => absurd h List.not_mem_nil⟩)⟩)⟩)⟩) (ih17 ((2147483647 - x274.toInt).toNat) (by omega) σ247 x249 x274 rfl H250 X294 (R271.mo (by omega) (by omega) (by omega)) (by omega) (by omega) (by omega) (by omega) S292 ⟨by omega, by omega, fun _ => by rw [c293]; omega⟩)
                · have R295 := R242.nf (-1000) (-1000) (q255 (by omega)).1
                  have R296 : RdC p0 none (-30) (-22) (-1000) σ0 σ247 := R295.tr ⟨(q255 (by omega)).2.1, (q255 (by omega)).2.2⟩ (by omega) (by omega) (by omega) (by omega)
                  have z297 := R296.2.2.1
                  have z298 := R296.2.2.2.1 rd_at
                  refine k_istore_n (ls' := [(2, .inl x249), (6, .inl x186), (5, .inl x154), (4, .inl x125), (0, .inr (.inr (some p0))), (1, .inr (.inr (some p1))), (3, .inl v17_3)]) rfl ?_
                  obtain ⟨x299, e301, h300⟩ := iincC (n := 1) (m := 1) (v := v17_3) rfl (by omega) (by omega)
                  refine k_iinc (ls' := [(3, .inl x299), (2, .inl x249), (6, .inl x186), (5, .inl x154), (4, .inl x125), (0, .inr (.inr (some p0))), (1, .inr (.inr (some p1)))]) rfl e301 rfl ?_
                  refine k_goto ?_
                  have S317 : (∀ s, ReC σ0 p0 s → ∃ s', ReC σ247 p0 s' ∧ xpY 1 (plY x249.toInt (7 - x299.toInt).toNat x299.toInt.toNat s') = parY s) := by
                    intro s hs
                    obtain ⟨s', hs', hp⟩ := h27 s hs
                    unfold plY at hp
                    first | rw [show (7 - v17_3.toInt).toNat = 0 from by omega] at hp | rw [show (7 - v17_3.toInt).toNat = (6 - v17_3.toInt).toNat + 1 from by omega] at hp | skip
                    try rw [palY] at hp
                    obtain ⟨y302, f303⟩ := q132 _ hs'
                    rw [h120] at y302
                    rw [h120] at f303
                    rw [tkY_n (f303.2 (by omega))] at y302
                    obtain ⟨y304, f305⟩ := q158 _ y302
                    have y306 := q192 _ y304
                    rw [f305] at y306
                    rw [show x125.toInt = 0 from by omega] at y306
                    rw [h180] at y306
                    have y308 := y306.x H187.1 t198 e211 (by decide)
                    have y309 := y308.x H210.1 t226 e223 (by decide)
                    obtain ⟨y310, f311⟩ := q256 _ y309
                    rw [h238] at y310
                    rw [h238] at f311
                    rw [tkY_y (f311.1 (by omega))] at y310
                    have g312 := f303.2 (by omega)
                    have g313 := f311.1 (by omega)
                    have g314 := (show v17_2.toInt = 1 from by omega)
                    have g315 := (show ¬ v17_3.toInt.toNat < 6 from by omega)
                    have g316 := (show x249.toInt = 1 from by omega)
                    refine ⟨_, y310, ?_⟩
                    rw [← hp]
                    all_goals try rw [show (7 - x299.toInt).toNat = (6 - v17_3.toInt).toNat from by omega]
                    all_goals try rw [show x299.toInt.toNat = v17_3.toInt.toNat + 1 from by omega]
                    all_goals try simp only [parY, pa3Y, plY, pa1Y, pa2Y, g312, g313, g314, g315, g316, or_false, false_or, or_true, true_or, and_false, false_and, and_true, true_and, not_true, not_false_iff, ↓reduceIte, Int.reduceEq, Int.reduceLE, Int.reduceLT, Int.reduceNeg]
                    all_goals first | rfl | (exfalso; omega)
                  have c318 := (t236.mi e251 (by decide)).trans c233
                  have X319 : ExC [0, 1, 2, 185, 242, 243, 244, 330, 331, 332, 333, 334, 999] σ0 σ247 := X245.tr (e251.mo (by decide))
                  exact hW _ _ _ _ _ (List.forall_mem_cons.2 ⟨List.Mem.tail _ (List.Mem.tail _ (List.Mem.tail _ (List.Mem.tail _ (List.Mem.tail _ (List.Mem.head _))))), (List.forall_mem_cons.2 ⟨List.Mem.tail _ (List.Mem.tail _ (List.Mem.tail _ (List.Mem.tail _ (List.Mem.tail _ (List.Mem.tail _ (List.Mem.head _)))))), (List.forall_mem_cons.2 ⟨List.Mem.tail _ (List.Mem.head _), (List.forall_mem_cons.2 ⟨List.Mem.head _, fun _ h => absurd h List.not_mem_nil⟩)⟩)⟩)⟩) (ih17 ((2147483647 - x299.toInt).toNat) (by omega) σ247 x249 x299 rfl H250 X319 (R296.mo (by omega) (by omega) (by omega)) (by omega) (by omega) (by omega) (by omega) S317 ⟨by omega, by omega, fun _ => by rw [c318]; omega⟩)
              · refine k_nil ?_
                refine hB _ _ _ _ (kgoC (is := KX7_readParams_55) rfl ?_)
                refine k_iconst (m := 1) rfl (fun x320 h321 => ?_)
                refine k_goto ?_
                refine hB _ _ _ _ (kgoC (is := KX7_readParams_60) rfl ?_)
                have R322 : RdC p0 none (-16) (0) (0) σ0 σ152 := R147.tr ⟨R157.1, R157.2⟩ (by omega) (by omega) (by omega) (by omega)
                have X323 : ExC [0, 1, 2, 185, 242, 243, 244, 330, 331, 332, 333, 334, 999] σ0 σ152 := X150.tr (e156.mo (by decide))
                refine k_inv (P := P_X7_declare) (Q := Q_X7_declare) rfl rfl rfl rfl (Nat.le_of_ble_eq_true rfl) (t164.rc (by decide)) ⟨_, _, _, _, rfl, H155, t164, (by omega), (by omega), (by omega), (by omega), (rd_cd.st H0 h_0_0 X323 R322.1 (by decide)), (R322.2.2.2.1 rd_at), (rd_bg.st H0 h_0_0 X323 R322 (by decide) (by omega) (by omega) (by omega))⟩ (fun w324 σ325 q326 => ?_)
                obtain ⟨x327, rfl, H328, e329, h331, h332, R330, q333⟩ := q326
                have t339 := t164.x e329
                obtain ⟨x334, e335, c336, h337, h338⟩ := cg242 H328.1 t339
                obtain ⟨x340, e341, c342, h343, h344⟩ := cg243 H328.1 t339
                have z345 := congrArg Int32.toInt c336
                have z346 := congrArg Int32.toInt c342
                refine k_st (st' := [.inl x327]) rfl ?_
                have c347 := (t173.mi e329 (by decide)).trans c175
                refine k_istore (ls' := [(6, .inl x327), (5, .inl x154), (4, .inl x125), (0, .inr (.inr (some p0))), (1, .inr (.inr (some p1))), (2, .inl v17_2), (3, .inl v17_3)]) rfl ?_
                refine k_aload_n rfl ?_
                refine k_iload rfl ?_
                refine k_inv (P := P_X7_know) (Q := Q_X7_know) rfl rfl rfl rfl (Nat.le_of_ble_eq_true rfl) (t339.rc (by decide)) ⟨_, _, rfl, H328, t339⟩ (fun w348 σ349 q350 => ?_)
                obtain ⟨rfl, H351, e352⟩ := q350
                have c353 := (t339.mi e352 (by decide)).trans c336
                have c354 := (t339.mi e352 (by decide)).trans c342
                have z355 := congrArg Int32.toInt c353
                have z356 := congrArg Int32.toInt c354
                refine k_st (st' := []) rfl ?_
                have t357 := t173.x e329
                have c358 := (t357.mi e352 (by decide)).trans c347
                refine k_aload_n rfl ?_
                refine k_iload rfl ?_
                have t359 := t357.x e352
                refine k_inv (P := P_X5_addParam) (Q := Q_X5_addParam) rfl rfl rfl rfl (Nat.le_of_ble_eq_true rfl) (t359.rc (by decide)) ⟨_, _, rfl, H351, t359⟩ (fun w360 σ361 q362 => ?_)
                obtain ⟨rfl, H363, e364, q365, q366⟩ := q362
                have t367 := t339.x e352
                have c368 := (t367.mi e364 (by decide)).trans c353
                have c369 := (t367.mi e364 (by decide)).trans c354
                have z370 := congrArg Int32.toInt c368
                have z371 := congrArg Int32.toInt c369
                refine k_st (st' := []) rfl ?_
                have t377 := t359.x e364
                obtain ⟨x372, e373, c374, h375, h376⟩ := cg185 H363.1 t377
                rw [c374, c358] at q365 q366
                refine k_aload_n rfl ?_
                refine k_iconst (m := 5) rfl (fun x378 h379 => ?_)
                have t380 := t367.x e364
                have R381 : RdC p0 none (-22) (0) (0) σ0 σ325 := R322.tr ⟨R330.1, R330.2⟩ (by omega) (by omega) (by omega) (by omega)
                have R382 : RdC p0 none (-22) (0) (0) σ0 σ349 := R381.tr ⟨(e352.gw H328.1 (by decide)), (e352.cou (u := 0) H328.1 t339 (by decide) (by rw [e352.cn (by decide)]; omega))⟩ (by omega) (by omega) (by omega) (by omega)
                have R383 : RdC p0 none (-22) (0) (0) σ0 σ361 := R382.tr ⟨(e364.gw H351.1 (by decide)), (e364.cou (u := 0) H351.1 t367 (by decide) (by rw [e364.cn (by decide)]; omega))⟩ (by omega) (by omega) (by omega) (by omega)
                have X384 : ExC [0, 1, 2, 185, 242, 243, 244, 330, 331, 332, 333, 334, 999] σ0 σ325 := X323.tr (e329.mo (by decide))
                have X385 : ExC [0, 1, 2, 185, 242, 243, 244, 330, 331, 332, 333, 334, 999] σ0 σ349 := X384.tr (e352.mo (by decide))
                have X386 : ExC [0, 1, 2, 185, 242, 243, 244, 330, 331, 332, 333, 334, 999] σ0 σ361 := X385.tr (e364.mo (by decide))
                refine k_inv (P := P_X7_takes) (Q := Q_X7_takes) rfl rfl rfl rfl (Nat.le_of_ble_eq_true rfl) (t380.rc (by decide)) ⟨_, _, rfl, H363, t380, (by omega), (by omega), (rd_cd.st H0 h_0_0 X386 R383.1 (by decide)), (R383.2.2.2.1 rd_at), (rd_bg.st H0 h_0_0 X386 R383 (by decide) (by omega) (by omega) (by omega))⟩ (fun w387 σ388 q389 => ?_)
                obtain ⟨x390, rfl, H391, e392, h394, h395, R393, q396, q397⟩ := q389
                have t403 := t380.x e392
                obtain ⟨x398, e399, c400, h401, h402⟩ := cg242 H391.1 t403
                obtain ⟨x404, e405, c406, h407, h408⟩ := cg243 H391.1 t403
                have z409 := congrArg Int32.toInt c400
                have z410 := congrArg Int32.toInt c406
                refine k_st (st' := [.inl x390]) rfl ?_
                rcases (by omega : x390.toInt = 0 ∨ x390.toInt = 1) with g411 | g411
                · have R412 : RdC p0 none (-22) (0) (0) σ0 σ388 := R383.tr ⟨R393.1, R393.2⟩ (by omega) (by omega) (by omega) (by omega)
                  have z413 := R412.2.2.1
                  have z414 := R412.2.2.2.1 rd_at
                  refine k_istore_n (ls' := [(2, .inl x390), (6, .inl x327), (5, .inl x154), (4, .inl x125), (0, .inr (.inr (some p0))), (1, .inr (.inr (some p1))), (3, .inl v17_3)]) rfl ?_
                  obtain ⟨x415, e417, h416⟩ := iincC (n := 1) (m := 1) (v := v17_3) rfl (by omega) (by omega)
                  refine k_iinc (ls' := [(3, .inl x415), (2, .inl x390), (6, .inl x327), (5, .inl x154), (4, .inl x125), (0, .inr (.inr (some p0))), (1, .inr (.inr (some p1)))]) rfl e417 rfl ?_
                  refine k_goto ?_
                  have S434 : (∀ s, ReC σ0 p0 s → ∃ s', ReC σ388 p0 s' ∧ xpY 1 (plY x390.toInt (7 - x415.toInt).toNat x415.toInt.toNat s') = parY s) := by
                    intro s hs
                    obtain ⟨s', hs', hp⟩ := h27 s hs
                    unfold plY at hp
                    first | rw [show (7 - v17_3.toInt).toNat = 0 from by omega] at hp | rw [show (7 - v17_3.toInt).toNat = (6 - v17_3.toInt).toNat + 1 from by omega] at hp | skip
                    try rw [palY] at hp
                    obtain ⟨y418, f419⟩ := q132 _ hs'
                    rw [h120] at y418
                    rw [h120] at f419
                    rw [tkY_n (f419.2 (by omega))] at y418
                    obtain ⟨y420, f421⟩ := q158 _ y418
                    have y422 := q333 _ y420
                    rw [f421] at y422
                    rw [show x125.toInt = 0 from by omega] at y422
                    rw [h321] at y422
                    have y424 := y422.x H328.1 t339 e352 (by decide)
                    have y425 := y424.x H351.1 t367 e364 (by decide)
                    have y426 := y425.pad (ty := x154.toInt)
                    rw [f421] at y426
                    obtain ⟨y427, f428⟩ := q397 _ y426
                    rw [h379] at y427
                    rw [h379] at f428
                    rw [tkY_n (f428.2 (by omega))] at y427
                    have g429 := f419.2 (by omega)
                    have g430 := f428.2 (by omega)
                    have g431 := (show v17_2.toInt = 1 from by omega)
                    have g432 := (show v17_3.toInt.toNat < 6 from by omega)
                    have g433 := (show x390.toInt = 0 from by omega)
                    refine ⟨_, y427, ?_⟩
                    rw [← hp]
                    all_goals try rw [show (7 - x415.toInt).toNat = (6 - v17_3.toInt).toNat from by omega]
                    all_goals try rw [show x415.toInt.toNat = v17_3.toInt.toNat + 1 from by omega]
                    all_goals try simp only [parY, pa3Y, plY, pa1Y, pa2Y, g429, g430, g431, g432, g433, or_false, false_or, or_true, true_or, and_false, false_and, and_true, true_and, not_true, not_false_iff, ↓reduceIte, Int.reduceEq, Int.reduceLE, Int.reduceLT, Int.reduceNeg]
                    all_goals first | rfl | (exfalso; omega)
                  have c435 := (t377.mi e392 (by decide)).trans c374
                  have X436 : ExC [0, 1, 2, 185, 242, 243, 244, 330, 331, 332, 333, 334, 999] σ0 σ388 := X386.tr (e392.mo (by decide))
                  exact hW _ _ _ _ _ (List.forall_mem_cons.2 ⟨List.Mem.tail _ (List.Mem.tail _ (List.Mem.tail _ (List.Mem.tail _ (List.Mem.tail _ (List.Mem.head _))))), (List.forall_mem_cons.2 ⟨List.Mem.tail _ (List.Mem.tail _ (List.Mem.tail _ (List.Mem.tail _ (List.Mem.tail _ (List.Mem.tail _ (List.Mem.head _)))))), (List.forall_mem_cons.2 ⟨List.Mem.tail _ (List.Mem.head _), (List.forall_mem_cons.2 ⟨List.Mem.head _, fun _ h => absurd h List.not_mem_nil⟩)⟩)⟩)⟩) (ih17 ((2147483647 - x415.toInt).toNat) (by omega) σ388 x390 x415 rfl H391 X436 (R412.mo (by omega) (by omega) (by omega)) (by omega) (by omega) (by omega) (by omega) S434 ⟨by omega, by omega, fun _ => by rw [c435]; omega⟩)
                · have R437 := R383.nf (-1000) (-1000) (q396 (by omega)).1
                  have R438 : RdC p0 none (-30) (-22) (-1000) σ0 σ388 := R437.tr ⟨(q396 (by omega)).2.1, (q396 (by omega)).2.2⟩ (by omega) (by omega) (by omega) (by omega)
                  have z439 := R438.2.2.1
                  have z440 := R438.2.2.2.1 rd_at
                  refine k_istore_n (ls' := [(2, .inl x390), (6, .inl x327), (5, .inl x154), (4, .inl x125), (0, .inr (.inr (some p0))), (1, .inr (.inr (some p1))), (3, .inl v17_3)]) rfl ?_
                  obtain ⟨x441, e443, h442⟩ := iincC (n := 1) (m := 1) (v := v17_3) rfl (by omega) (by omega)
                  refine k_iinc (ls' := [(3, .inl x441), (2, .inl x390), (6, .inl x327), (5, .inl x154), (4, .inl x125), (0, .inr (.inr (some p0))), (1, .inr (.inr (some p1)))]) rfl e443 rfl ?_
                  refine k_goto ?_
                  have S460 : (∀ s, ReC σ0 p0 s → ∃ s', ReC σ388 p0 s' ∧ xpY 1 (plY x390.toInt (7 - x441.toInt).toNat x441.toInt.toNat s') = parY s) := by
                    intro s hs
                    obtain ⟨s', hs', hp⟩ := h27 s hs
                    unfold plY at hp
                    first | rw [show (7 - v17_3.toInt).toNat = 0 from by omega] at hp | rw [show (7 - v17_3.toInt).toNat = (6 - v17_3.toInt).toNat + 1 from by omega] at hp | skip
                    try rw [palY] at hp
                    obtain ⟨y444, f445⟩ := q132 _ hs'
                    rw [h120] at y444
                    rw [h120] at f445
                    rw [tkY_n (f445.2 (by omega))] at y444
                    obtain ⟨y446, f447⟩ := q158 _ y444
                    have y448 := q333 _ y446
                    rw [f447] at y448
                    rw [show x125.toInt = 0 from by omega] at y448
                    rw [h321] at y448
                    have y450 := y448.x H328.1 t339 e352 (by decide)
                    have y451 := y450.x H351.1 t367 e364 (by decide)
                    have y452 := y451.pad (ty := x154.toInt)
                    rw [f447] at y452
                    obtain ⟨y453, f454⟩ := q397 _ y452
                    rw [h379] at y453
                    rw [h379] at f454
                    rw [tkY_y (f454.1 (by omega))] at y453
                    have g455 := f445.2 (by omega)
                    have g456 := f454.1 (by omega)
                    have g457 := (show v17_2.toInt = 1 from by omega)
                    have g458 := (show v17_3.toInt.toNat < 6 from by omega)
                    have g459 := (show x390.toInt = 1 from by omega)
                    refine ⟨_, y453, ?_⟩
                    rw [← hp]
                    all_goals try rw [show (7 - x441.toInt).toNat = (6 - v17_3.toInt).toNat from by omega]
                    all_goals try rw [show x441.toInt.toNat = v17_3.toInt.toNat + 1 from by omega]
                    all_goals try simp only [parY, pa3Y, plY, pa1Y, pa2Y, g455, g456, g457, g458, g459, or_false, false_or, or_true, true_or, and_false, false_and, and_true, true_and, not_true, not_false_iff, ↓reduceIte, Int.reduceEq, Int.reduceLE, Int.reduceLT, Int.reduceNeg]
                    all_goals first | rfl | (exfalso; omega)
                  have c461 := (t377.mi e392 (by decide)).trans c374
                  have X462 : ExC [0, 1, 2, 185, 242, 243, 244, 330, 331, 332, 333, 334, 999] σ0 σ388 := X386.tr (e392.mo (by decide))
                  exact hW _ _ _ _ _ (List.forall_mem_cons.2 ⟨List.Mem.tail _ (List.Mem.tail _ (List.Mem.tail _ (List.Mem.tail _ (List.Mem.tail _ (List.Mem.head _))))), (List.forall_mem_cons.2 ⟨List.Mem.tail _ (List.Mem.tail _ (List.Mem.tail _ (List.Mem.tail _ (List.Mem.tail _ (List.Mem.tail _ (List.Mem.head _)))))), (List.forall_mem_cons.2 ⟨List.Mem.tail _ (List.Mem.head _), (List.forall_mem_cons.2 ⟨List.Mem.head _, fun _ h => absurd h List.not_mem_nil⟩)⟩)⟩)⟩) (ih17 ((2147483647 - x441.toInt).toNat) (by omega) σ388 x390 x441 rfl H391 X462 (R438.mo (by omega) (by omega) (by omega)) (by omega) (by omega) (by omega) (by omega) S460 ⟨by omega, by omega, fun _ => by rw [c461]; omega⟩)
            · have R463 := R22.nf (-1000) (-1000) (q131 (by omega)).1
              have R464 : RdC p0 none (-16) (-8) (-1000) σ0 σ123 := R463.tr ⟨(q131 (by omega)).2.1, (q131 (by omega)).2.2⟩ (by omega) (by omega) (by omega) (by omega)
              have z465 := R464.2.2.1
              have z466 := R464.2.2.2.1 rd_at
              refine k_istore (ls' := [(4, .inl x125), (0, .inr (.inr (some p0))), (1, .inr (.inr (some p1))), (2, .inl v17_2), (3, .inl v17_3)]) rfl ?_
              refine k_aload_n rfl ?_
              have X467 : ExC [0, 1, 2, 185, 242, 243, 244, 330, 331, 332, 333, 334, 999] σ0 σ123 := X121.tr (e127.mo (by decide))
              refine k_inv (P := P_X7_readType) (Q := Q_X7_readType) rfl rfl rfl rfl (Nat.le_of_ble_eq_true rfl) (t138.rc (by decide)) ⟨_, rfl, H126, t138, (rd_cd.st H0 h_0_0 X467 R464.1 (by decide)), (R464.2.2.2.1 rd_at), (rd_bg.st H0 h_0_0 X467 R464 (by decide) (by omega) (by omega) (by omega))⟩ (fun w468 σ469 q470 => ?_)
              obtain ⟨x471, rfl, H472, e473, R474, q475⟩ := q470
              have t481 := t138.x e473
              obtain ⟨x476, e477, c478, h479, h480⟩ := cg242 H472.1 t481
              obtain ⟨x482, e483, c484, h485, h486⟩ := cg243 H472.1 t481
              have z487 := congrArg Int32.toInt c478
              have z488 := congrArg Int32.toInt c484
              refine k_st (st' := [.inl x471]) rfl ?_
              refine k_istore (ls' := [(5, .inl x471), (4, .inl x125), (0, .inr (.inr (some p0))), (1, .inr (.inr (some p1))), (2, .inl v17_2), (3, .inl v17_3)]) rfl ?_
              refine k_aload_n rfl ?_
              refine k_iload rfl ?_
              refine k_iload rfl ?_
              refine k_aload_n rfl ?_
              have t489 := t50.x e127
              have t490 := t489.x e473
              have c491 := (t50.mi e127 (by decide)).trans c47
              have c492 := (t489.mi e473 (by decide)).trans c491
              refine k_get kg185 t490 (congrArg (Sum.inl : Int32 → AvC) c492) ?_
              refine k_bipush (m := 6) rfl (fun x493 h494 => ?_)
              refine k_ic_ge (fun h495 => ?_) (fun h495 => ?_)
              · refine hB _ _ _ _ (kgoC (is := KX7_readParams_59) rfl ?_)
                refine k_iconst (m := 0) rfl (fun x496 h497 => ?_)
                refine k_nil ?_
                refine hB _ _ _ _ (kgoC (is := KX7_readParams_60) rfl ?_)
                have R498 : RdC p0 none (-24) (-8) (-1000) σ0 σ469 := R464.tr ⟨R474.1, R474.2⟩ (by omega) (by omega) (by omega) (by omega)
                have X499 : ExC [0, 1, 2, 185, 242, 243, 244, 330, 331, 332, 333, 334, 999] σ0 σ469 := X467.tr (e473.mo (by decide))
                refine k_inv (P := P_X7_declare) (Q := Q_X7_declare) rfl rfl rfl rfl (Nat.le_of_ble_eq_true rfl) (t481.rc (by decide)) ⟨_, _, _, _, rfl, H472, t481, (by omega), (by omega), (by omega), (by omega), (rd_cd.st H0 h_0_0 X499 R498.1 (by decide)), (R498.2.2.2.1 rd_at), (rd_bg.st H0 h_0_0 X499 R498 (by decide) (by omega) (by omega) (by omega))⟩ (fun w500 σ501 q502 => ?_)
                obtain ⟨x503, rfl, H504, e505, h507, h508, R506, q509⟩ := q502
                have t515 := t481.x e505
                obtain ⟨x510, e511, c512, h513, h514⟩ := cg242 H504.1 t515
                obtain ⟨x516, e517, c518, h519, h520⟩ := cg243 H504.1 t515
                have z521 := congrArg Int32.toInt c512
                have z522 := congrArg Int32.toInt c518
                refine k_st (st' := [.inl x503]) rfl ?_
                have c523 := (t490.mi e505 (by decide)).trans c492
                refine k_istore (ls' := [(6, .inl x503), (5, .inl x471), (4, .inl x125), (0, .inr (.inr (some p0))), (1, .inr (.inr (some p1))), (2, .inl v17_2), (3, .inl v17_3)]) rfl ?_
                refine k_aload_n rfl ?_
                refine k_iload rfl ?_
                refine k_inv (P := P_X7_know) (Q := Q_X7_know) rfl rfl rfl rfl (Nat.le_of_ble_eq_true rfl) (t515.rc (by decide)) ⟨_, _, rfl, H504, t515⟩ (fun w524 σ525 q526 => ?_)
                obtain ⟨rfl, H527, e528⟩ := q526
                have c529 := (t515.mi e528 (by decide)).trans c512
                have c530 := (t515.mi e528 (by decide)).trans c518
                have z531 := congrArg Int32.toInt c529
                have z532 := congrArg Int32.toInt c530
                refine k_st (st' := []) rfl ?_
                have t533 := t490.x e505
                have c534 := (t533.mi e528 (by decide)).trans c523
                refine k_aload_n rfl ?_
                refine k_iload rfl ?_
                have t535 := t533.x e528
                refine k_inv (P := P_X5_addParam) (Q := Q_X5_addParam) rfl rfl rfl rfl (Nat.le_of_ble_eq_true rfl) (t535.rc (by decide)) ⟨_, _, rfl, H527, t535⟩ (fun w536 σ537 q538 => ?_)
                obtain ⟨rfl, H539, e540, q541, q542⟩ := q538
                have t543 := t515.x e528
                have c544 := (t543.mi e540 (by decide)).trans c529
                have c545 := (t543.mi e540 (by decide)).trans c530
                have z546 := congrArg Int32.toInt c544
                have z547 := congrArg Int32.toInt c545
                refine k_st (st' := []) rfl ?_
                have t553 := t535.x e540
                obtain ⟨x548, e549, c550, h551, h552⟩ := cg185 H539.1 t553
                rw [c550, c534] at q541 q542
                refine k_aload_n rfl ?_
                refine k_iconst (m := 5) rfl (fun x554 h555 => ?_)
                have t556 := t543.x e540
                have R557 : RdC p0 none (-30) (-8) (-1000) σ0 σ501 := R498.tr ⟨R506.1, R506.2⟩ (by omega) (by omega) (by omega) (by omega)
                have R558 : RdC p0 none (-30) (-8) (-1000) σ0 σ525 := R557.tr ⟨(e528.gw H504.1 (by decide)), (e528.cou (u := 0) H504.1 t515 (by decide) (by rw [e528.cn (by decide)]; omega))⟩ (by omega) (by omega) (by omega) (by omega)
                have R559 : RdC p0 none (-30) (-8) (-1000) σ0 σ537 := R558.tr ⟨(e540.gw H527.1 (by decide)), (e540.cou (u := 0) H527.1 t543 (by decide) (by rw [e540.cn (by decide)]; omega))⟩ (by omega) (by omega) (by omega) (by omega)
                have X560 : ExC [0, 1, 2, 185, 242, 243, 244, 330, 331, 332, 333, 334, 999] σ0 σ501 := X499.tr (e505.mo (by decide))
                have X561 : ExC [0, 1, 2, 185, 242, 243, 244, 330, 331, 332, 333, 334, 999] σ0 σ525 := X560.tr (e528.mo (by decide))
                have X562 : ExC [0, 1, 2, 185, 242, 243, 244, 330, 331, 332, 333, 334, 999] σ0 σ537 := X561.tr (e540.mo (by decide))
                refine k_inv (P := P_X7_takes) (Q := Q_X7_takes) rfl rfl rfl rfl (Nat.le_of_ble_eq_true rfl) (t556.rc (by decide)) ⟨_, _, rfl, H539, t556, (by omega), (by omega), (rd_cd.st H0 h_0_0 X562 R559.1 (by decide)), (R559.2.2.2.1 rd_at), (rd_bg.st H0 h_0_0 X562 R559 (by decide) (by omega) (by omega) (by omega))⟩ (fun w563 σ564 q565 => ?_)
                obtain ⟨x566, rfl, H567, e568, h570, h571, R569, q572, q573⟩ := q565
                have t579 := t556.x e568
                obtain ⟨x574, e575, c576, h577, h578⟩ := cg242 H567.1 t579
                obtain ⟨x580, e581, c582, h583, h584⟩ := cg243 H567.1 t579
                have z585 := congrArg Int32.toInt c576
                have z586 := congrArg Int32.toInt c582
                refine k_st (st' := [.inl x566]) rfl ?_
                rcases (by omega : x566.toInt = 0 ∨ x566.toInt = 1) with g587 | g587
                · have R588 : RdC p0 none (-30) (-8) (-1000) σ0 σ564 := R559.tr ⟨R569.1, R569.2⟩ (by omega) (by omega) (by omega) (by omega)
                  have z589 := R588.2.2.1
                  have z590 := R588.2.2.2.1 rd_at
                  refine k_istore_n (ls' := [(2, .inl x566), (6, .inl x503), (5, .inl x471), (4, .inl x125), (0, .inr (.inr (some p0))), (1, .inr (.inr (some p1))), (3, .inl v17_3)]) rfl ?_
                  obtain ⟨x591, e593, h592⟩ := iincC (n := 1) (m := 1) (v := v17_3) rfl (by omega) (by omega)
                  refine k_iinc (ls' := [(3, .inl x591), (2, .inl x566), (6, .inl x503), (5, .inl x471), (4, .inl x125), (0, .inr (.inr (some p0))), (1, .inr (.inr (some p1)))]) rfl e593 rfl ?_
                  refine k_goto ?_
                  have S609 : (∀ s, ReC σ0 p0 s → ∃ s', ReC σ564 p0 s' ∧ xpY 1 (plY x566.toInt (7 - x591.toInt).toNat x591.toInt.toNat s') = parY s) := by
                    intro s hs
                    obtain ⟨s', hs', hp⟩ := h27 s hs
                    unfold plY at hp
                    first | rw [show (7 - v17_3.toInt).toNat = 0 from by omega] at hp | rw [show (7 - v17_3.toInt).toNat = (6 - v17_3.toInt).toNat + 1 from by omega] at hp | skip
                    try rw [palY] at hp
                    obtain ⟨y594, f595⟩ := q132 _ hs'
                    rw [h120] at y594
                    rw [h120] at f595
                    rw [tkY_y (f595.1 (by omega))] at y594
                    obtain ⟨y596, f597⟩ := q475 _ y594
                    have y598 := q509 _ y596
                    rw [f597] at y598
                    rw [show x125.toInt = 1 from by omega] at y598
                    rw [h497] at y598
                    have y600 := y598.x H504.1 t515 e528 (by decide)
                    have y601 := y600.x H527.1 t543 e540 (by decide)
                    obtain ⟨y602, f603⟩ := q573 _ y601
                    rw [h555] at y602
                    rw [h555] at f603
                    rw [tkY_n (f603.2 (by omega))] at y602
                    have g604 := f595.1 (by omega)
                    have g605 := f603.2 (by omega)
                    have g606 := (show v17_2.toInt = 1 from by omega)
                    have g607 := (show ¬ v17_3.toInt.toNat < 6 from by omega)
                    have g608 := (show x566.toInt = 0 from by omega)
                    refine ⟨_, y602, ?_⟩
                    rw [← hp]
                    all_goals try rw [show (7 - x591.toInt).toNat = (6 - v17_3.toInt).toNat from by omega]
                    all_goals try rw [show x591.toInt.toNat = v17_3.toInt.toNat + 1 from by omega]
                    all_goals try simp only [parY, pa3Y, plY, pa1Y, pa2Y, g604, g605, g606, g607, g608, or_false, false_or, or_true, true_or, and_false, false_and, and_true, true_and, not_true, not_false_iff, ↓reduceIte, Int.reduceEq, Int.reduceLE, Int.reduceLT, Int.reduceNeg]
                    all_goals first | rfl | (exfalso; omega)
                  have c610 := (t553.mi e568 (by decide)).trans c550
                  have X611 : ExC [0, 1, 2, 185, 242, 243, 244, 330, 331, 332, 333, 334, 999] σ0 σ564 := X562.tr (e568.mo (by decide))
                  exact hW _ _ _ _ _ (List.forall_mem_cons.2 ⟨List.Mem.tail _ (List.Mem.tail _ (List.Mem.tail _ (List.Mem.tail _ (List.Mem.tail _ (List.Mem.head _))))), (List.forall_mem_cons.2 ⟨List.Mem.tail _ (List.Mem.tail _ (List.Mem.tail _ (List.Mem.tail _ (List.Mem.tail _ (List.Mem.tail _ (List.Mem.head _)))))), (List.forall_mem_cons.2 ⟨List.Mem.tail _ (List.Mem.head _), (List.forall_mem_cons.2 ⟨List.Mem.head _, fun _ h => absurd h List.not_mem_nil⟩)⟩)⟩)⟩) (ih17 ((2147483647 - x591.toInt).toNat) (by omega) σ564 x566 x591 rfl H567 X611 (R588.mo (by omega) (by omega) (by omega)) (by omega) (by omega) (by omega) (by omega) S609 ⟨by omega, by omega, fun _ => by rw [c610]; omega⟩)
                · have R612 := R559.nf (-1000) (-1000) (q572 (by omega)).1
                  have R613 : RdC p0 none (-38) (-30) (-1000) σ0 σ564 := R612.tr ⟨(q572 (by omega)).2.1, (q572 (by omega)).2.2⟩ (by omega) (by omega) (by omega) (by omega)
                  have z614 := R613.2.2.1
                  have z615 := R613.2.2.2.1 rd_at
                  refine k_istore_n (ls' := [(2, .inl x566), (6, .inl x503), (5, .inl x471), (4, .inl x125), (0, .inr (.inr (some p0))), (1, .inr (.inr (some p1))), (3, .inl v17_3)]) rfl ?_
                  obtain ⟨x616, e618, h617⟩ := iincC (n := 1) (m := 1) (v := v17_3) rfl (by omega) (by omega)
                  refine k_iinc (ls' := [(3, .inl x616), (2, .inl x566), (6, .inl x503), (5, .inl x471), (4, .inl x125), (0, .inr (.inr (some p0))), (1, .inr (.inr (some p1)))]) rfl e618 rfl ?_
                  refine k_goto ?_
                  have S634 : (∀ s, ReC σ0 p0 s → ∃ s', ReC σ564 p0 s' ∧ xpY 1 (plY x566.toInt (7 - x616.toInt).toNat x616.toInt.toNat s') = parY s) := by
                    intro s hs
                    obtain ⟨s', hs', hp⟩ := h27 s hs
                    unfold plY at hp
                    first | rw [show (7 - v17_3.toInt).toNat = 0 from by omega] at hp | rw [show (7 - v17_3.toInt).toNat = (6 - v17_3.toInt).toNat + 1 from by omega] at hp | skip
                    try rw [palY] at hp
                    obtain ⟨y619, f620⟩ := q132 _ hs'
                    rw [h120] at y619
                    rw [h120] at f620
                    rw [tkY_y (f620.1 (by omega))] at y619
                    obtain ⟨y621, f622⟩ := q475 _ y619
                    have y623 := q509 _ y621
                    rw [f622] at y623
                    rw [show x125.toInt = 1 from by omega] at y623
                    rw [h497] at y623
                    have y625 := y623.x H504.1 t515 e528 (by decide)
                    have y626 := y625.x H527.1 t543 e540 (by decide)
                    obtain ⟨y627, f628⟩ := q573 _ y626
                    rw [h555] at y627
                    rw [h555] at f628
                    rw [tkY_y (f628.1 (by omega))] at y627
                    have g629 := f620.1 (by omega)
                    have g630 := f628.1 (by omega)
                    have g631 := (show v17_2.toInt = 1 from by omega)
                    have g632 := (show ¬ v17_3.toInt.toNat < 6 from by omega)
                    have g633 := (show x566.toInt = 1 from by omega)
                    refine ⟨_, y627, ?_⟩
                    rw [← hp]
                    all_goals try rw [show (7 - x616.toInt).toNat = (6 - v17_3.toInt).toNat from by omega]
                    all_goals try rw [show x616.toInt.toNat = v17_3.toInt.toNat + 1 from by omega]
                    all_goals try simp only [parY, pa3Y, plY, pa1Y, pa2Y, g629, g630, g631, g632, g633, or_false, false_or, or_true, true_or, and_false, false_and, and_true, true_and, not_true, not_false_iff, ↓reduceIte, Int.reduceEq, Int.reduceLE, Int.reduceLT, Int.reduceNeg]
                    all_goals first | rfl | (exfalso; omega)
                  have c635 := (t553.mi e568 (by decide)).trans c550
                  have X636 : ExC [0, 1, 2, 185, 242, 243, 244, 330, 331, 332, 333, 334, 999] σ0 σ564 := X562.tr (e568.mo (by decide))
                  exact hW _ _ _ _ _ (List.forall_mem_cons.2 ⟨List.Mem.tail _ (List.Mem.tail _ (List.Mem.tail _ (List.Mem.tail _ (List.Mem.tail _ (List.Mem.head _))))), (List.forall_mem_cons.2 ⟨List.Mem.tail _ (List.Mem.tail _ (List.Mem.tail _ (List.Mem.tail _ (List.Mem.tail _ (List.Mem.tail _ (List.Mem.head _)))))), (List.forall_mem_cons.2 ⟨List.Mem.tail _ (List.Mem.head _), (List.forall_mem_cons.2 ⟨List.Mem.head _, fun _ h => absurd h List.not_mem_nil⟩)⟩)⟩)⟩) (ih17 ((2147483647 - x616.toInt).toNat) (by omega) σ564 x566 x616 rfl H567 X636 (R613.mo (by omega) (by omega) (by omega)) (by omega) (by omega) (by omega) (by omega) S634 ⟨by omega, by omega, fun _ => by rw [c635]; omega⟩)
              · refine k_nil ?_
                refine hB _ _ _ _ (kgoC (is := KX7_readParams_55) rfl ?_)
                refine k_iconst (m := 1) rfl (fun x637 h638 => ?_)
                refine k_goto ?_
                refine hB _ _ _ _ (kgoC (is := KX7_readParams_60) rfl ?_)
                have R639 : RdC p0 none (-24) (-8) (-1000) σ0 σ469 := R464.tr ⟨R474.1, R474.2⟩ (by omega) (by omega) (by omega) (by omega)
                have X640 : ExC [0, 1, 2, 185, 242, 243, 244, 330, 331, 332, 333, 334, 999] σ0 σ469 := X467.tr (e473.mo (by decide))
                refine k_inv (P := P_X7_declare) (Q := Q_X7_declare) rfl rfl rfl rfl (Nat.le_of_ble_eq_true rfl) (t481.rc (by decide)) ⟨_, _, _, _, rfl, H472, t481, (by omega), (by omega), (by omega), (by omega), (rd_cd.st H0 h_0_0 X640 R639.1 (by decide)), (R639.2.2.2.1 rd_at), (rd_bg.st H0 h_0_0 X640 R639 (by decide) (by omega) (by omega) (by omega))⟩ (fun w641 σ642 q643 => ?_)
                obtain ⟨x644, rfl, H645, e646, h648, h649, R647, q650⟩ := q643
                have t656 := t481.x e646
                obtain ⟨x651, e652, c653, h654, h655⟩ := cg242 H645.1 t656
                obtain ⟨x657, e658, c659, h660, h661⟩ := cg243 H645.1 t656
                have z662 := congrArg Int32.toInt c653
                have z663 := congrArg Int32.toInt c659
                refine k_st (st' := [.inl x644]) rfl ?_
                have c664 := (t490.mi e646 (by decide)).trans c492
                refine k_istore (ls' := [(6, .inl x644), (5, .inl x471), (4, .inl x125), (0, .inr (.inr (some p0))), (1, .inr (.inr (some p1))), (2, .inl v17_2), (3, .inl v17_3)]) rfl ?_
                refine k_aload_n rfl ?_
                refine k_iload rfl ?_
                refine k_inv (P := P_X7_know) (Q := Q_X7_know) rfl rfl rfl rfl (Nat.le_of_ble_eq_true rfl) (t656.rc (by decide)) ⟨_, _, rfl, H645, t656⟩ (fun w665 σ666 q667 => ?_)
                obtain ⟨rfl, H668, e669⟩ := q667
                have c670 := (t656.mi e669 (by decide)).trans c653
                have c671 := (t656.mi e669 (by decide)).trans c659
                have z672 := congrArg Int32.toInt c670
                have z673 := congrArg Int32.toInt c671
                refine k_st (st' := []) rfl ?_
                have t674 := t490.x e646
                have c675 := (t674.mi e669 (by decide)).trans c664
                refine k_aload_n rfl ?_
                refine k_iload rfl ?_
                have t676 := t674.x e669
                refine k_inv (P := P_X5_addParam) (Q := Q_X5_addParam) rfl rfl rfl rfl (Nat.le_of_ble_eq_true rfl) (t676.rc (by decide)) ⟨_, _, rfl, H668, t676⟩ (fun w677 σ678 q679 => ?_)
                obtain ⟨rfl, H680, e681, q682, q683⟩ := q679
                have t684 := t656.x e669
                have c685 := (t684.mi e681 (by decide)).trans c670
                have c686 := (t684.mi e681 (by decide)).trans c671
                have z687 := congrArg Int32.toInt c685
                have z688 := congrArg Int32.toInt c686
                refine k_st (st' := []) rfl ?_
                have t694 := t676.x e681
                obtain ⟨x689, e690, c691, h692, h693⟩ := cg185 H680.1 t694
                rw [c691, c675] at q682 q683
                refine k_aload_n rfl ?_
                refine k_iconst (m := 5) rfl (fun x695 h696 => ?_)
                have t697 := t684.x e681
                have R698 : RdC p0 none (-30) (-8) (-1000) σ0 σ642 := R639.tr ⟨R647.1, R647.2⟩ (by omega) (by omega) (by omega) (by omega)
                have R699 : RdC p0 none (-30) (-8) (-1000) σ0 σ666 := R698.tr ⟨(e669.gw H645.1 (by decide)), (e669.cou (u := 0) H645.1 t656 (by decide) (by rw [e669.cn (by decide)]; omega))⟩ (by omega) (by omega) (by omega) (by omega)
                have R700 : RdC p0 none (-30) (-8) (-1000) σ0 σ678 := R699.tr ⟨(e681.gw H668.1 (by decide)), (e681.cou (u := 0) H668.1 t684 (by decide) (by rw [e681.cn (by decide)]; omega))⟩ (by omega) (by omega) (by omega) (by omega)
                have X701 : ExC [0, 1, 2, 185, 242, 243, 244, 330, 331, 332, 333, 334, 999] σ0 σ642 := X640.tr (e646.mo (by decide))
                have X702 : ExC [0, 1, 2, 185, 242, 243, 244, 330, 331, 332, 333, 334, 999] σ0 σ666 := X701.tr (e669.mo (by decide))
                have X703 : ExC [0, 1, 2, 185, 242, 243, 244, 330, 331, 332, 333, 334, 999] σ0 σ678 := X702.tr (e681.mo (by decide))
                refine k_inv (P := P_X7_takes) (Q := Q_X7_takes) rfl rfl rfl rfl (Nat.le_of_ble_eq_true rfl) (t697.rc (by decide)) ⟨_, _, rfl, H680, t697, (by omega), (by omega), (rd_cd.st H0 h_0_0 X703 R700.1 (by decide)), (R700.2.2.2.1 rd_at), (rd_bg.st H0 h_0_0 X703 R700 (by decide) (by omega) (by omega) (by omega))⟩ (fun w704 σ705 q706 => ?_)
                obtain ⟨x707, rfl, H708, e709, h711, h712, R710, q713, q714⟩ := q706
                have t720 := t697.x e709
                obtain ⟨x715, e716, c717, h718, h719⟩ := cg242 H708.1 t720
                obtain ⟨x721, e722, c723, h724, h725⟩ := cg243 H708.1 t720
                have z726 := congrArg Int32.toInt c717
                have z727 := congrArg Int32.toInt c723
                refine k_st (st' := [.inl x707]) rfl ?_
                rcases (by omega : x707.toInt = 0 ∨ x707.toInt = 1) with g728 | g728
                · have R729 : RdC p0 none (-30) (-8) (-1000) σ0 σ705 := R700.tr ⟨R710.1, R710.2⟩ (by omega) (by omega) (by omega) (by omega)
                  have z730 := R729.2.2.1
                  have z731 := R729.2.2.2.1 rd_at
                  refine k_istore_n (ls' := [(2, .inl x707), (6, .inl x644), (5, .inl x471), (4, .inl x125), (0, .inr (.inr (some p0))), (1, .inr (.inr (some p1))), (3, .inl v17_3)]) rfl ?_
                  obtain ⟨x732, e734, h733⟩ := iincC (n := 1) (m := 1) (v := v17_3) rfl (by omega) (by omega)
                  refine k_iinc (ls' := [(3, .inl x732), (2, .inl x707), (6, .inl x644), (5, .inl x471), (4, .inl x125), (0, .inr (.inr (some p0))), (1, .inr (.inr (some p1)))]) rfl e734 rfl ?_
                  refine k_goto ?_
                  have S751 : (∀ s, ReC σ0 p0 s → ∃ s', ReC σ705 p0 s' ∧ xpY 1 (plY x707.toInt (7 - x732.toInt).toNat x732.toInt.toNat s') = parY s) := by
                    intro s hs
                    obtain ⟨s', hs', hp⟩ := h27 s hs
                    unfold plY at hp
                    first | rw [show (7 - v17_3.toInt).toNat = 0 from by omega] at hp | rw [show (7 - v17_3.toInt).toNat = (6 - v17_3.toInt).toNat + 1 from by omega] at hp | skip
                    try rw [palY] at hp
                    obtain ⟨y735, f736⟩ := q132 _ hs'
                    rw [h120] at y735
                    rw [h120] at f736
                    rw [tkY_y (f736.1 (by omega))] at y735
                    obtain ⟨y737, f738⟩ := q475 _ y735
                    have y739 := q650 _ y737
                    rw [f738] at y739
                    rw [show x125.toInt = 1 from by omega] at y739
                    rw [h638] at y739
                    have y741 := y739.x H645.1 t656 e669 (by decide)
                    have y742 := y741.x H668.1 t684 e681 (by decide)
                    have y743 := y742.pad (ty := x471.toInt)
                    rw [f738] at y743
                    obtain ⟨y744, f745⟩ := q714 _ y743
                    rw [h696] at y744
                    rw [h696] at f745
                    rw [tkY_n (f745.2 (by omega))] at y744
                    have g746 := f736.1 (by omega)
                    have g747 := f745.2 (by omega)
                    have g748 := (show v17_2.toInt = 1 from by omega)
                    have g749 := (show v17_3.toInt.toNat < 6 from by omega)
                    have g750 := (show x707.toInt = 0 from by omega)
                    refine ⟨_, y744, ?_⟩
                    rw [← hp]
                    all_goals try rw [show (7 - x732.toInt).toNat = (6 - v17_3.toInt).toNat from by omega]
                    all_goals try rw [show x732.toInt.toNat = v17_3.toInt.toNat + 1 from by omega]
                    all_goals try simp only [parY, pa3Y, plY, pa1Y, pa2Y, g746, g747, g748, g749, g750, or_false, false_or, or_true, true_or, and_false, false_and, and_true, true_and, not_true, not_false_iff, ↓reduceIte, Int.reduceEq, Int.reduceLE, Int.reduceLT, Int.reduceNeg]
                    all_goals first | rfl | (exfalso; omega)
                  have c752 := (t694.mi e709 (by decide)).trans c691
                  have X753 : ExC [0, 1, 2, 185, 242, 243, 244, 330, 331, 332, 333, 334, 999] σ0 σ705 := X703.tr (e709.mo (by decide))
                  exact hW _ _ _ _ _ (List.forall_mem_cons.2 ⟨List.Mem.tail _ (List.Mem.tail _ (List.Mem.tail _ (List.Mem.tail _ (List.Mem.tail _ (List.Mem.head _))))), (List.forall_mem_cons.2 ⟨List.Mem.tail _ (List.Mem.tail _ (List.Mem.tail _ (List.Mem.tail _ (List.Mem.tail _ (List.Mem.tail _ (List.Mem.head _)))))), (List.forall_mem_cons.2 ⟨List.Mem.tail _ (List.Mem.head _), (List.forall_mem_cons.2 ⟨List.Mem.head _, fun _ h => absurd h List.not_mem_nil⟩)⟩)⟩)⟩) (ih17 ((2147483647 - x732.toInt).toNat) (by omega) σ705 x707 x732 rfl H708 X753 (R729.mo (by omega) (by omega) (by omega)) (by omega) (by omega) (by omega) (by omega) S751 ⟨by omega, by omega, fun _ => by rw [c752]; omega⟩)
                · have R754 := R700.nf (-1000) (-1000) (q713 (by omega)).1
                  have R755 : RdC p0 none (-38) (-30) (-1000) σ0 σ705 := R754.tr ⟨(q713 (by omega)).2.1, (q713 (by omega)).2.2⟩ (by omega) (by omega) (by omega) (by omega)
                  have z756 := R755.2.2.1
                  have z757 := R755.2.2.2.1 rd_at
                  refine k_istore_n (ls' := [(2, .inl x707), (6, .inl x644), (5, .inl x471), (4, .inl x125), (0, .inr (.inr (some p0))), (1, .inr (.inr (some p1))), (3, .inl v17_3)]) rfl ?_
                  obtain ⟨x758, e760, h759⟩ := iincC (n := 1) (m := 1) (v := v17_3) rfl (by omega) (by omega)
                  refine k_iinc (ls' := [(3, .inl x758), (2, .inl x707), (6, .inl x644), (5, .inl x471), (4, .inl x125), (0, .inr (.inr (some p0))), (1, .inr (.inr (some p1)))]) rfl e760 rfl ?_
                  refine k_goto ?_
                  have S777 : (∀ s, ReC σ0 p0 s → ∃ s', ReC σ705 p0 s' ∧ xpY 1 (plY x707.toInt (7 - x758.toInt).toNat x758.toInt.toNat s') = parY s) := by
                    intro s hs
                    obtain ⟨s', hs', hp⟩ := h27 s hs
                    unfold plY at hp
                    first | rw [show (7 - v17_3.toInt).toNat = 0 from by omega] at hp | rw [show (7 - v17_3.toInt).toNat = (6 - v17_3.toInt).toNat + 1 from by omega] at hp | skip
                    try rw [palY] at hp
                    obtain ⟨y761, f762⟩ := q132 _ hs'
                    rw [h120] at y761
                    rw [h120] at f762
                    rw [tkY_y (f762.1 (by omega))] at y761
                    obtain ⟨y763, f764⟩ := q475 _ y761
                    have y765 := q650 _ y763
                    rw [f764] at y765
                    rw [show x125.toInt = 1 from by omega] at y765
                    rw [h638] at y765
                    have y767 := y765.x H645.1 t656 e669 (by decide)
                    have y768 := y767.x H668.1 t684 e681 (by decide)
                    have y769 := y768.pad (ty := x471.toInt)
                    rw [f764] at y769
                    obtain ⟨y770, f771⟩ := q714 _ y769
                    rw [h696] at y770
                    rw [h696] at f771
                    rw [tkY_y (f771.1 (by omega))] at y770
                    have g772 := f762.1 (by omega)
                    have g773 := f771.1 (by omega)
                    have g774 := (show v17_2.toInt = 1 from by omega)
                    have g775 := (show v17_3.toInt.toNat < 6 from by omega)
                    have g776 := (show x707.toInt = 1 from by omega)
                    refine ⟨_, y770, ?_⟩
                    rw [← hp]
                    all_goals try rw [show (7 - x758.toInt).toNat = (6 - v17_3.toInt).toNat from by omega]
                    all_goals try rw [show x758.toInt.toNat = v17_3.toInt.toNat + 1 from by omega]
                    all_goals try simp only [parY, pa3Y, plY, pa1Y, pa2Y, g772, g773, g774, g775, g776, or_false, false_or, or_true, true_or, and_false, false_and, and_true, true_and, not_true, not_false_iff, ↓reduceIte, Int.reduceEq, Int.reduceLE, Int.reduceLT, Int.reduceNeg]
                    all_goals first | rfl | (exfalso; omega)
                  have c778 := (t694.mi e709 (by decide)).trans c691
                  have X779 : ExC [0, 1, 2, 185, 242, 243, 244, 330, 331, 332, 333, 334, 999] σ0 σ705 := X703.tr (e709.mo (by decide))
                  exact hW _ _ _ _ _ (List.forall_mem_cons.2 ⟨List.Mem.tail _ (List.Mem.tail _ (List.Mem.tail _ (List.Mem.tail _ (List.Mem.tail _ (List.Mem.head _))))), (List.forall_mem_cons.2 ⟨List.Mem.tail _ (List.Mem.tail _ (List.Mem.tail _ (List.Mem.tail _ (List.Mem.tail _ (List.Mem.tail _ (List.Mem.head _)))))), (List.forall_mem_cons.2 ⟨List.Mem.tail _ (List.Mem.head _), (List.forall_mem_cons.2 ⟨List.Mem.head _, fun _ h => absurd h List.not_mem_nil⟩)⟩)⟩)⟩) (ih17 ((2147483647 - x758.toInt).toNat) (by omega) σ705 x707 x758 rfl H708 X779 (R755.mo (by omega) (by omega) (by omega)) (by omega) (by omega) (by omega) (by omega) S777 ⟨by omega, by omega, fun _ => by rw [c778]; omega⟩)
    refine hB _ _ _ _ (kgoC (is := KX7_readParams_0) rfl ?_)
    refine k_aload_n rfl ?_
    refine k_iconst (m := 0) rfl (fun x780 h781 => ?_)
    refine k_inv (P := P_X7_expect) (Q := Q_X7_expect) rfl rfl rfl rfl (Nat.le_of_ble_eq_true rfl) (h_0_0.rc (by decide)) ⟨_, _, rfl, H0, h_0_0, (by omega), (by omega), (rd_cd.st H0 h_0_0 (ExC.rf : ExC [0, 1, 2, 185, 242, 243, 244, 330, 331, 332, 333, 334, 999] σ0 σ0) (RdC.rf : RdC p0 none 0 0 0 σ0 σ0).1 (by decide)), ((RdC.rf : RdC p0 none 0 0 0 σ0 σ0).2.2.2.1 rd_at), (rd_bg.st H0 h_0_0 (ExC.rf : ExC [0, 1, 2, 185, 242, 243, 244, 330, 331, 332, 333, 334, 999] σ0 σ0) (RdC.rf : RdC p0 none 0 0 0 σ0 σ0) (by decide) (by omega) (by omega) (by omega))⟩ (fun w782 σ783 q784 => ?_)
    obtain ⟨rfl, H785, e786, R787, q788, q789⟩ := q784
    have t795 := h_0_0.x e786
    obtain ⟨x790, e791, c792, h793, h794⟩ := cg242 H785.1 t795
    obtain ⟨x796, e797, c798, h799, h800⟩ := cg243 H785.1 t795
    have z801 := congrArg Int32.toInt c792
    have z802 := congrArg Int32.toInt c798
    refine k_st (st' := []) rfl ?_
    have R803 : RdC p0 none (-8) (0) (0) σ0 σ783 := (RdC.rf : RdC p0 none 0 0 0 σ0 σ0).tr ⟨R787.1, R787.2⟩ (by omega) (by omega) (by omega) (by omega)
    have z804 := R803.2.2.1
    have z805 := R803.2.2.2.1 rd_at
    refine k_aload_n rfl ?_
    have X806 : ExC [0, 1, 2, 185, 242, 243, 244, 330, 331, 332, 333, 334, 999] σ0 σ783 := ExC.rf.tr (e786.mo (by decide))
    refine k_inv (P := P_X7_code) (Q := Q_X7_code) rfl rfl rfl rfl (Nat.le_of_ble_eq_true rfl) (t795.rc (by decide)) ⟨_, rfl, H785, t795, (rd_cd.st H0 h_0_0 X806 R803.1 (by decide))⟩ (fun w807 σ808 q809 => ?_)
    obtain ⟨x810, rfl, rfl, q811, q812, q813, q814⟩ := q809
    refine k_st (st' := [.inl x810]) rfl ?_
    refine k_iconst (m := 1) rfl (fun x815 h816 => ?_)
    refine k_ic_eq (fun h817 => ?_) (fun h817 => ?_)
    · have h818 : x796.toInt = 0 := by omega
      refine hB _ _ _ _ (kgoC (is := KX7_readParams_89) rfl ?_)
      refine k_aload_n rfl ?_
      refine k_iconst (m := 1) rfl (fun x819 h820 => ?_)
      have R821 := R803.nf (-1000) (-1000) (by rw [c798]; omega)
      refine k_inv (P := P_X7_expect) (Q := Q_X7_expect) rfl rfl rfl rfl (Nat.le_of_ble_eq_true rfl) (t795.rc (by decide)) ⟨_, _, rfl, H785, t795, (by omega), (by omega), (rd_cd.st H0 h_0_0 X806 R821.1 (by decide)), (R821.2.2.2.1 rd_at), (rd_bg.stn H0 h_0_0 X806 R821 (by decide) (by rw [c798]; omega) (by omega))⟩ (fun w822 σ823 q824 => ?_)
      obtain ⟨rfl, H825, e826, R827, q828, q829⟩ := q824
      have t835 := t795.x e826
      obtain ⟨x830, e831, c832, h833, h834⟩ := cg242 H825.1 t835
      obtain ⟨x836, e837, c838, h839, h840⟩ := cg243 H825.1 t835
      have z841 := congrArg Int32.toInt c832
      have z842 := congrArg Int32.toInt c838
      refine k_st (st' := []) rfl ?_
      have R843 : RdC p0 none (-16) (-8) (-1000) σ0 σ823 := R821.tr ⟨R827.1, R827.2⟩ (by omega) (by omega) (by omega) (by omega)
      have z844 := R843.2.2.1
      have z845 := R843.2.2.2.1 rd_at
      refine k_return ?_
      have X846 : ExC [0, 1, 2, 185, 242, 243, 244, 330, 331, 332, 333, 334, 999] σ0 σ823 := X806.tr (e826.mo (by decide))
      have S853 : ∀ s, ReC σ0 p0 s → ReC σ823 p0 (parY s) := by
        intro s hs
        have y847 := q789 _ hs
        rw [h781] at y847
        have f849 := q814 _ y847
        have y850 := q829 _ y847
        rw [h820] at y850
        have g852 := f849.symm.trans (h817.trans h816)
        refine y850.eq ?_
        all_goals try simp only [parY, pa3Y, plY, pa1Y, pa2Y, g852, or_false, false_or, or_true, true_or, and_false, false_and, and_true, true_and, not_true, not_false_iff, ↓reduceIte, Int.reduceEq, Int.reduceLE, Int.reduceLT, Int.reduceNeg]
        all_goals first | rfl | (exfalso; omega)
      exact ⟨rfl, H825, X846, (R843.mo (by omega) (by omega) (by omega)), S853⟩
    · refine k_nil ?_
      refine hB _ _ _ _ (kgoC (is := KX7_readParams_13) rfl ?_)
      refine k_iconst (m := 1) rfl (fun x854 h855 => ?_)
      refine k_istore_n (ls' := [(2, .inl x854), (0, .inr (.inr (some p0))), (1, .inr (.inr (some p1)))]) rfl ?_
      refine k_iconst (m := 0) rfl (fun x856 h857 => ?_)
      refine k_istore_n (ls' := [(3, .inl x856), (2, .inl x854), (0, .inr (.inr (some p0))), (1, .inr (.inr (some p1)))]) rfl ?_
      refine k_nil ?_
      have S863 : (∀ s, ReC σ0 p0 s → ∃ s', ReC σ783 p0 s' ∧ xpY 1 (plY x854.toInt (7 - x856.toInt).toNat x856.toInt.toNat s') = parY s) := by
        intro s hs
        have y858 := q789 _ hs
        rw [h781] at y858
        have f860 := q814 _ y858
        have g861 := neY f860 h817 h816
        have g862 := (show x854.toInt = 1 from by omega)
        refine ⟨_, y858, ?_⟩
        all_goals try rw [show (7 - x856.toInt).toNat = 7 from by omega]
        all_goals try rw [show x856.toInt.toNat = 0 from by omega]
        all_goals try simp only [parY, pa3Y, plY, pa1Y, pa2Y, g861, g862, or_false, false_or, or_true, true_or, and_false, false_and, and_true, true_and, not_true, not_false_iff, ↓reduceIte, Int.reduceEq, Int.reduceLE, Int.reduceLT, Int.reduceNeg]
        all_goals first | rfl | (exfalso; omega)
      have c864 := (h_1_0.mi e786 (by decide)).trans c15
      exact hW _ _ _ _ _ (List.forall_mem_cons.2 ⟨List.Mem.tail _ (List.Mem.tail _ (List.Mem.head _)), (List.forall_mem_cons.2 ⟨List.Mem.tail _ (List.Mem.tail _ (List.Mem.tail _ (List.Mem.head _))), (List.forall_mem_cons.2 ⟨List.Mem.tail _ (List.Mem.head _), (List.forall_mem_cons.2 ⟨List.Mem.head _, fun _ h => absurd h List.not_mem_nil⟩)⟩)⟩)⟩) (L17 _ σ783 x854 x856 rfl H785 X806 (R803.mo (by omega) (by omega) (by omega)) (by omega) (by omega) (by omega) (by omega) S863 ⟨by omega, by omega, fun _ => by rw [c864]; omega⟩)
theorem lg_X7_readParams : ∀ (As : List AvC) (σ : CsC), P_X7_readParams As σ → lgC As ≤ rX7_readParams.2.2.1 := by
  rintro As σ ⟨p0, p1, rfl, -⟩
  exact Nat.le_of_ble_eq_true rfl
theorem m_X7_readParams (l : Launch) : CMetC l 13 135 P_X7_readParams Q_X7_readParams :=
  CMetC.of KX7_readParams [(129, P_X7_expect, Q_X7_expect), (125, P_X7_code, Q_X7_code), (130, P_X7_takes, Q_X7_takes), (136, P_X7_readType, Q_X7_readType), (137, P_X7_declare, Q_X7_declare), (138, P_X7_know, Q_X7_know), (112, P_X5_addParam, Q_X5_addParam)] hX7_readParams (by decide) (by decide) okX7_readParams (cc1C (m_X7_expect l) (by decide) (cc1C (m_X7_code l) (by decide) (cc1C (m_X7_takes l) (by decide) (cc1C (m_X7_readType l) (by decide) (cc1C (m_X7_declare l) (by decide) (cc1C (m_X7_know l) (by decide) (cc1C (m_X5_addParam l) (by decide) cc0C))))))) (lg_X7_readParams) (b_X7_readParams)
