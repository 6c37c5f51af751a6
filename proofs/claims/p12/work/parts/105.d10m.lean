abbrev P_X7_readMethod : CpC := fun As σ => ∃ (p0 : Nat), As = [.inr (.inr (some p0))] ∧ HIC σ ∧ TyC σ p0 8 ∧ CdC σ p0 ∧ (fIC σ p0 242).toInt ≤ CtC σ p0 ∧ RmC σ p0 (8 * (501 - (fIC σ p0 242).toInt) + (200)) ∧ (fIC σ p0 243).toInt = 0
abbrev Q_X7_readMethod : CqC := fun As σ w τ => match As with
  | [.inr (.inr (some p0))] => w = none ∧ HIC τ ∧ ExC [0, 1, 2, 60, 61, 62, 63, 64, 65, 66, 67, 68, 69, 70, 72, 73, 74, 75, 76, 180, 182, 183, 184, 185, 186, 242, 243, 244, 246, 270, 271, 272, 273, 275, 276, 277, 278, 279, 280, 330, 331, 332, 333, 334, 995, 999] σ τ ∧ RdC p0 none (0) (200) (0) σ τ ∧ (∀ s, ReC σ p0 s → ReC τ p0 (mthY s))
  | _ => False
set_option maxRecDepth 100000 in
set_option maxHeartbeats 4000000 in
theorem b_X7_readMethod : TbC KX7_readMethod [(125, P_X7_code, Q_X7_code), (132, P_X7_isType, Q_X7_isType), (128, P_X7_accept, Q_X7_accept), (234, P_Jx4a65c_size_8abf5, Q_Jx4a65c_size_8abf5), (111, P_X5_init, Q_X5_init), (236, P_Jx4a65c_add_9ea2d, Q_Jx4a65c_add_9ea2d), (135, P_X7_readParams, Q_X7_readParams), (143, (P_X7_readBody 21), (Q_X7_readBody 21)), (127, P_X7_raise, Q_X7_raise)] P_X7_readMethod Q_X7_readMethod := by
  · rintro As σ0 ⟨p0, rfl, H0, h_0_0, rd_cd, rd_at, rd_bl, rd_lv⟩ hgr G hB hW
    change G 0 [(0, .inr (.inr (some p0)))] [] σ0
    obtain ⟨x1, e2, c3, h4, h5⟩ := cg242 H0.1 h_0_0
    obtain ⟨x6, e7, c8, h9, h10⟩ := cg243 H0.1 h_0_0
    have z11 := congrArg Int32.toInt c3
    have z12 := congrArg Int32.toInt c8
    have h13 : x6.toInt = 0 := by rw [← c8]; exact rd_lv
    have rd_bg : BgC σ0 p0 (200) 1000000 := ⟨fun _ => rd_bl, fun z => absurd rd_lv z⟩
    refine hB _ _ _ _ (kgoC (is := KX7_readMethod_0) rfl ?_)
    refine k_aload_n rfl ?_
    have R14 := (RdC.rf : RdC p0 none 0 0 0 σ0 σ0).nf (-1000) (-1000) (by rw [c8]; omega)
    refine k_inv (P := P_X7_code) (Q := Q_X7_code) rfl rfl rfl rfl (Nat.le_of_ble_eq_true rfl) (h_0_0.rc (by decide)) ⟨_, rfl, H0, h_0_0, (rd_cd.st H0 h_0_0 (ExC.rf : ExC [0, 1, 2, 60, 61, 62, 63, 64, 65, 66, 67, 68, 69, 70, 72, 73, 74, 75, 76, 180, 182, 183, 184, 185, 186, 242, 243, 244, 246, 270, 271, 272, 273, 275, 276, 277, 278, 279, 280, 330, 331, 332, 333, 334, 995, 999] σ0 σ0) R14.1 (by decide))⟩ (fun w15 σ16 q17 => ?_)
    obtain ⟨x18, rfl, rfl, q19, q20, q21, q22⟩ := q17
    refine k_st (st' := [.inl x18]) rfl ?_
    have z23 := R14.2.2.1
    have z24 := R14.2.2.2.1 rd_at
    refine k_bipush (m := 50) rfl (fun x25 h26 => ?_)
    have z29 := tiC x18
    refine k_isub_w (fun x27 h28 => ?_)
    refine k_istore_n (ls' := [(1, .inl x27), (0, .inr (.inr (some p0)))]) rfl ?_
    refine k_aload_n rfl ?_
    refine k_inv (P := P_X7_code) (Q := Q_X7_code) rfl rfl rfl rfl (Nat.le_of_ble_eq_true rfl) (h_0_0.rc (by decide)) ⟨_, rfl, H0, h_0_0, (rd_cd.st H0 h_0_0 (ExC.rf : ExC [0, 1, 2, 60, 61, 62, 63, 64, 65, 66, 67, 68, 69, 70, 72, 73, 74, 75, 76, 180, 182, 183, 184, 185, 186, 242, 243, 244, 246, 270, 271, 272, 273, 275, 276, 277, 278, 279, 280, 330, 331, 332, 333, 334, 995, 999] σ0 σ0) R14.1 (by decide))⟩ (fun w30 σ31 q32 => ?_)
    obtain ⟨x33, rfl, rfl, q34, q35, q36, q37⟩ := q32
    refine k_st (st' := [.inl x33]) rfl ?_
    refine k_stat (P := P_X7_isType) (Q := Q_X7_isType) rfl rfl (Nat.le_of_ble_eq_true rfl) rfl rfl (Nat.le_of_ble_eq_true rfl) ⟨_, rfl, H0⟩ (fun w38 σ39 q40 => ?_)
    obtain ⟨x41, rfl, rfl, h42, h43, q44, q45⟩ := q40
    refine k_st (st' := [.inl x41]) rfl ?_
    rcases (by omega : x41.toInt = 0 ∨ x41.toInt = 1) with g46 | g46
    · refine k_if_ne (fun h47 => by exfalso; omega) (fun h47 => ?_)
      refine k_nil ?_
      refine hB _ _ _ _ (kgoC (is := KX7_readMethod_18) rfl ?_)
      refine k_aload_n rfl ?_
      refine k_inv (P := P_X7_code) (Q := Q_X7_code) rfl rfl rfl rfl (Nat.le_of_ble_eq_true rfl) (h_0_0.rc (by decide)) ⟨_, rfl, H0, h_0_0, (rd_cd.st H0 h_0_0 (ExC.rf : ExC [0, 1, 2, 60, 61, 62, 63, 64, 65, 66, 67, 68, 69, 70, 72, 73, 74, 75, 76, 180, 182, 183, 184, 185, 186, 242, 243, 244, 246, 270, 271, 272, 273, 275, 276, 277, 278, 279, 280, 330, 331, 332, 333, 334, 995, 999] σ0 σ0) R14.1 (by decide))⟩ (fun w48 σ49 q50 => ?_)
      obtain ⟨x51, rfl, rfl, q52, q53, q54, q55⟩ := q50
      refine k_st (st' := [.inl x51]) rfl ?_
      refine k_bipush (m := 55) rfl (fun x56 h57 => ?_)
      refine k_ic_eq (fun h58 => ?_) (fun h58 => ?_)
      · refine hB _ _ _ _ (kgoC (is := KX7_readMethod_32) rfl ?_)
        refine k_aload_n rfl ?_
        refine k_inv (P := P_X7_accept) (Q := Q_X7_accept) rfl rfl rfl rfl (Nat.le_of_ble_eq_true rfl) (h_0_0.rc (by decide)) ⟨_, rfl, H0, h_0_0, (rd_cd.st H0 h_0_0 (ExC.rf : ExC [0, 1, 2, 60, 61, 62, 63, 64, 65, 66, 67, 68, 69, 70, 72, 73, 74, 75, 76, 180, 182, 183, 184, 185, 186, 242, 243, 244, 246, 270, 271, 272, 273, 275, 276, 277, 278, 279, 280, 330, 331, 332, 333, 334, 995, 999] σ0 σ0) R14.1 (by decide)), (R14.2.2.2.1 rd_at), (rd_bg.stn H0 h_0_0 (ExC.rf : ExC [0, 1, 2, 60, 61, 62, 63, 64, 65, 66, 67, 68, 69, 70, 72, 73, 74, 75, 76, 180, 182, 183, 184, 185, 186, 242, 243, 244, 246, 270, 271, 272, 273, 275, 276, 277, 278, 279, 280, 330, 331, 332, 333, 334, 995, 999] σ0 σ0) R14 (by decide) (by rw [c8]; omega) (by omega)), (by have ct := R14.2.2.1; rw [c8, c3, ct]; omega)⟩ (fun w59 σ60 q61 => ?_)
        obtain ⟨rfl, H62, e63, R64, q65, q66⟩ := q61
        have t72 := h_0_0.x e63
        obtain ⟨x67, e68, c69, h70, h71⟩ := cg242 H62.1 t72
        obtain ⟨x73, e74, c75, h76, h77⟩ := cg243 H62.1 t72
        have z78 := congrArg Int32.toInt c69
        have z79 := congrArg Int32.toInt c75
        refine k_st (st' := []) rfl ?_
        have R80 : RdC p0 none (-8) (0) (-1000) σ0 σ60 := R14.tr ⟨R64.1, R64.2⟩ (by omega) (by omega) (by omega) (by omega)
        have z81 := R80.2.2.1
        have z82 := R80.2.2.2.1 rd_at
        refine k_aload_n rfl ?_
        obtain ⟨a85, e83, c84, t86⟩ := cg240 H62.1 t72
        refine k_get kg240 t72 e83 ?_
        obtain ⟨a89, e87, c88, t90, l91⟩ := cg211 H62.1 t86
        refine k_get kg211 t86 e87 ?_
        refine k_inv (P := P_Jx4a65c_size_8abf5) (Q := Q_Jx4a65c_size_8abf5) rfl rfl rfl rfl (Nat.le_of_ble_eq_true rfl) (t90.rc (by decide)) ⟨_, rfl, H62, t90⟩ (fun w92 σ93 q94 => ?_)
        obtain ⟨x95, rfl, rfl, h96, h97, q98, q99⟩ := q94
        refine k_st (st' := [.inl x95]) rfl ?_
        have z100 := q99 l91
        refine k_istore_n (ls' := [(2, .inl x95), (1, .inl x27), (0, .inr (.inr (some p0)))]) rfl ?_
        refine k_aload_n rfl ?_
        have X101 : ExC [0, 1, 2, 60, 61, 62, 63, 64, 65, 66, 67, 68, 69, 70, 72, 73, 74, 75, 76, 180, 182, 183, 184, 185, 186, 242, 243, 244, 246, 270, 271, 272, 273, 275, 276, 277, 278, 279, 280, 330, 331, 332, 333, 334, 995, 999] σ0 σ60 := ExC.rf.tr (e63.mo (by decide))
        refine k_inv (P := P_X7_code) (Q := Q_X7_code) rfl rfl rfl rfl (Nat.le_of_ble_eq_true rfl) (t72.rc (by decide)) ⟨_, rfl, H62, t72, (rd_cd.st H0 h_0_0 X101 R80.1 (by decide))⟩ (fun w102 σ103 q104 => ?_)
        obtain ⟨x105, rfl, rfl, q106, q107, q108, q109⟩ := q104
        refine k_st (st' := [.inl x105]) rfl ?_
        refine k_bipush (m := 80) rfl (fun x110 h111 => ?_)
        refine k_ic_eq (fun h112 => ?_) (fun h112 => ?_)
        · have h113 : x73.toInt = 0 := by omega
          refine hB _ _ _ _ (kgoC (is := KX7_readMethod_64) rfl ?_)
          refine k_iload_n rfl ?_
          refine k_bipush (m := 10) rfl (fun x114 h115 => ?_)
          refine k_ic_lt (fun h116 => ?_) (fun h116 => ?_)
          · refine hB _ _ _ _ (kgoC (is := KX7_readMethod_75) rfl ?_)
            refine k_aload_n rfl ?_
            refine k_get kg243 t72 (congrArg (Sum.inl : Int32 → AvC) c75) ?_
            refine k_if_eq (fun h117 => ?_) (fun h117 => by exfalso; omega)
            refine hB _ _ _ _ (kgoC (is := KX7_readMethod_83) rfl ?_)
            have R118 := R80.nf (-1000) (-1000) (by rw [c75]; omega)
            have B119 : BgC σ60 p0 3 3 := rd_bg.stn H0 h_0_0 X101 R118 (by decide) (by rw [c75]; omega) (by omega)
            obtain ⟨h120, h121⟩ := B119.new H62.1 t72 (u := 3) (by omega) (by omega)
            have z122 := R118.1.1
            refine k_new (c := 6) (g := 0) H62 (by decide) rfl (by omega) (by have hn : nfC 6 = 7 := rfl; omega) (fun a123 σ124 q125 H126 e127 r128 z129 l130 u131 u132 => ?_)
            rw [show nfC 6 = 7 from rfl] at u132
            have u133 : cpC σ124 = cpC σ60 := congrArg Prod.fst e127.2.1.1
            have u134 : spC σ124 = spC σ60 := congrArg Prod.snd e127.2.1.1
            refine k_dupR ?_
            refine k_aload_n rfl ?_
            have t135 := t72.x e127
            have c136 := (t72.mi e127 (by decide)).trans c69
            refine k_get kg242 t135 (congrArg (Sum.inl : Int32 → AvC) c136) ?_
            refine k_aload_n rfl ?_
            obtain ⟨a139, e137, c138, t140⟩ := cg241 H126.1 t135
            refine k_get kg241 t135 e137 ?_
            obtain ⟨a143, e141, c142, t144, l145, l146⟩ := cg304 H126.1 t140
            refine k_get kg304 t140 e141 ?_
            refine k_aload_n rfl ?_
            refine k_get kg242 t135 (congrArg (Sum.inl : Int32 → AvC) c136) ?_
            refine k_laload t144 (by omega) (by omega) (fun y147 => ?_)
            refine k_iload_n rfl ?_
            refine k_aload_n rfl ?_
            have c148 := (t72.mr e127 (by decide)).trans c84
            refine k_get kg240 t135 (congrArg (fun z : Option Nat => (Sum.inr (Sum.inr z) : AvC)) c148) ?_
            have t149 := t86.x e127
            obtain ⟨a152, e150, c151, t153, l154⟩ := cg212 H126.1 t149
            refine k_get kg212 t149 e150 ?_
            refine k_inv (P := P_Jx4a65c_size_8abf5) (Q := Q_Jx4a65c_size_8abf5) rfl rfl rfl rfl (Nat.le_of_ble_eq_true rfl) (t153.rc (by decide)) ⟨_, rfl, H126, t153⟩ (fun w155 σ156 q157 => ?_)
            obtain ⟨x158, rfl, rfl, h159, h160, q161, q162⟩ := q157
            refine k_st (st' := [.inl x158, .inl x27, .inr (.inl y147), .inl x67, .inr (.inr (some a123)), .inr (.inr (some a123))]) rfl ?_
            refine k_spec (P := P_X5_init) (Q := Q_X5_init) rfl rfl rfl rfl (Nat.le_of_ble_eq_true rfl) ⟨_, _, _, _, _, rfl, H126, r128, z129, (by omega), (by omega), (by omega), (by omega)⟩ (fun w163 σ164 q165 => ?_)
            obtain ⟨rfl, H166, e167, t168, l169, u170, u171, g172, q174, q175, q176, q177⟩ := q165
            have l173 := l169.trans l130
            have c178 := (t135.mit r128 (by decide) e167 (by decide)).trans c136
            have c179 := (t72.mi e127 (by decide)).trans c75
            have c180 := (t135.mit r128 (by decide) e167 (by decide)).trans c179
            have z181 := congrArg Int32.toInt c178
            have z182 := congrArg Int32.toInt c180
            refine k_st (st' := [.inr (.inr (some a123))]) rfl ?_
            obtain ⟨a183, e184, c185, t186, l187, l188⟩ := cg183 H166.1 t168
            have h189 := q177 a183 c185
            refine k_astore_n (ls' := [(3, .inr (.inr (some a123))), (2, .inl x95), (1, .inl x27), (0, .inr (.inr (some p0)))]) rfl ?_
            refine k_aload_n rfl ?_
            have t190 := t135.xt r128 (by decide) e167
            have c191 := (t135.mrt r128 (by decide) e167 (by decide)).trans c148
            refine k_get kg240 t190 (congrArg (fun z : Option Nat => (Sum.inr (Sum.inr z) : AvC)) c191) ?_
            have t192 := t149.xt r128 (by decide) e167
            have c193 := (t86.mr e127 (by decide)).trans c88
            have c194 := (t149.mrt r128 (by decide) e167 (by decide)).trans c193
            refine k_get kg211 t192 (congrArg (fun z : Option Nat => (Sum.inr (Sum.inr z) : AvC)) c194) ?_
            refine k_aload_n rfl ?_
            have t195 := t90.x e127
            have t196 := t195.xt r128 (by decide) e167
            have l197 := (t90.gh e127).trans l91
            have l198 := (t195.ght r128 (by decide) e167).trans l197
            have R199 : RdC p0 none (-7) (-7) (-999) σ0 σ124 := R118.tr ⟨(e127.gwn H62.1 u131 u132 (by decide) (by rw [← q125]; exact r128.n0)), (e127.cou (u := 1) H62.1 t72 (by decide) (by omega))⟩ (by omega) (by omega) (by omega) (by omega)
            have R200 : RdC p0 none (-5) (-5) (-997) σ0 σ164 := R199.tr ⟨g172, (e167.co (u := 2) H126.1 t135 r128 (by decide) (by omega))⟩ (by omega) (by omega) (by omega) (by omega)
            have R201 := R200.nf (-1000) (-1000) (by rw [c180]; omega)
            have X202 : ExC [0, 1, 2, 60, 61, 62, 63, 64, 65, 66, 67, 68, 69, 70, 72, 73, 74, 75, 76, 180, 182, 183, 184, 185, 186, 242, 243, 244, 246, 270, 271, 272, 273, 275, 276, 277, 278, 279, 280, 330, 331, 332, 333, 334, 995, 999] σ60 σ124 := ExC.rf.tr (e127.mo (by decide))
            have X203 : ExC [0, 1, 2, 60, 61, 62, 63, 64, 65, 66, 67, 68, 69, 70, 72, 73, 74, 75, 76, 180, 182, 183, 184, 185, 186, 242, 243, 244, 246, 270, 271, 272, 273, 275, 276, 277, 278, 279, 280, 330, 331, 332, 333, 334, 995, 999] σ60 σ164 := (X202 : ExC [0, 1, 2, 60, 61, 62, 63, 64, 65, 66, 67, 68, 69, 70, 72, 73, 74, 75, 76, 180, 182, 183, 184, 185, 186, 242, 243, 244, 246, 270, 271, 272, 273, 275, 276, 277, 278, 279, 280, 330, 331, 332, 333, 334, 995, 999] σ60 σ124).nt (Nat.le_of_eq q125.symm) (e167.mo (by decide))
            have X204 : ExC [0, 1, 2, 60, 61, 62, 63, 64, 65, 66, 67, 68, 69, 70, 72, 73, 74, 75, 76, 180, 182, 183, 184, 185, 186, 242, 243, 244, 246, 270, 271, 272, 273, 275, 276, 277, 278, 279, 280, 330, 331, 332, 333, 334, 995, 999] σ0 σ164 := X101.tr X203
            have B205 : BgC σ164 p0 1 1 := rd_bg.stn H0 h_0_0 X204 R201 (by decide) (by rw [c180]; omega) (by omega)
            obtain ⟨h206, h207⟩ := B205.new H166.1 t190 (u := 1) (by omega) (by omega)
            have c208 := (t90.mi e127 (by decide)).trans q98
            have c209 := (t195.mit r128 (by decide) e167 (by decide)).trans c208
            refine k_inv (P := P_Jx4a65c_add_9ea2d) (Q := Q_Jx4a65c_add_9ea2d) rfl rfl rfl rfl (Nat.le_of_ble_eq_true rfl) (t196.rc (by decide)) ⟨_, _, rfl, H166, t196, (by rw [l198]; exact ⟨t168, by decide, fun hz => by rw [q174]; omega⟩), (B205.sz H166.1 t190 (by omega) (by omega) c191 (by decide) c194), h206, (by omega), (fun _ => by rw [c209] <;> omega)⟩ (fun w210 σ211 q212 => ?_)
            obtain ⟨x213, rfl, H214, e215, h217, h218, g216, q219, q220, q221, q222, q223⟩ := q212
            have c224 := (t190.mi e215 (by decide)).trans c178
            have c225 := (t190.mi e215 (by decide)).trans c180
            have z226 := congrArg Int32.toInt c224
            have z227 := congrArg Int32.toInt c225
            refine k_st (st' := [.inl x213]) rfl ?_
            refine k_popI ?_
            refine k_aload_n rfl ?_
            have t228 := t190.x e215
            have c229 := (t135.mrt r128 (by decide) e167 (by decide)).trans c138
            have c230 := (t190.mr e215 (by decide)).trans c229
            refine k_get kg241 t228 (congrArg (fun z : Option Nat => (Sum.inr (Sum.inr z) : AvC)) c230) ?_
            have t231 := t140.xt r128 (by decide) e167
            have t232 := t231.x e215
            obtain ⟨a235, e233, c234, t236, l237, l238⟩ := cg303 H214.1 t232
            refine k_get kg303 t232 e233 ?_
            refine k_aload_n rfl ?_
            refine k_get kg242 t228 (congrArg (Sum.inl : Int32 → AvC) c224) ?_
            refine k_bipush (m := 100) rfl (fun x239 h240 => ?_)
            refine k_iload_n rfl ?_
            refine k_iadd (by omega) (by omega) (fun x241 h242 => ?_)
            refine k_iastore H214 t236 l238 (by omega) (by omega) (fun σ243 H244 e245 => ?_)
            refine k_aload_n rfl ?_
            have t246 := t228.x e245
            have R247 : RdC p0 none (-4) (-4) (-999) σ0 σ211 := R201.tr ⟨g216, (e215.cou2 (u := 1) H166.1 t190 (by decide) (by omega) q220)⟩ (by omega) (by omega) (by omega) (by omega)
            have R248 : RdC p0 none (-4) (-4) (-999) σ0 σ243 := R247.tr ⟨(e245.gw H214.1 (by decide)), (e245.cou (u := 0) H214.1 t228 (by decide) (by rw [e245.cn (by decide)]; omega))⟩ (by omega) (by omega) (by omega) (by omega)
            have c249 := (t228.mi e245 (by decide)).trans c225
            have R250 := R248.nf (-1000) (-1000) (by rw [c249]; omega)
            have X251 : ExC [0, 1, 2, 60, 61, 62, 63, 64, 65, 66, 67, 68, 69, 70, 72, 73, 74, 75, 76, 180, 182, 183, 184, 185, 186, 242, 243, 244, 246, 270, 271, 272, 273, 275, 276, 277, 278, 279, 280, 330, 331, 332, 333, 334, 995, 999] σ0 σ211 := X204.tr (e215.mo (by decide))
            have X252 : ExC [0, 1, 2, 60, 61, 62, 63, 64, 65, 66, 67, 68, 69, 70, 72, 73, 74, 75, 76, 180, 182, 183, 184, 185, 186, 242, 243, 244, 246, 270, 271, 272, 273, 275, 276, 277, 278, 279, 280, 330, 331, 332, 333, 334, 995, 999] σ0 σ243 := X251.tr (e245.mo (by decide))
            have c253 := (t228.mi e245 (by decide)).trans c224
            have z254 := congrArg Int32.toInt c253
            have z255 := congrArg Int32.toInt c249
            refine k_inv (P := P_X7_accept) (Q := Q_X7_accept) rfl rfl rfl rfl (Nat.le_of_ble_eq_true rfl) (t246.rc (by decide)) ⟨_, rfl, H244, t246, (rd_cd.st H0 h_0_0 X252 R250.1 (by decide)), (R250.2.2.2.1 rd_at), (rd_bg.stn H0 h_0_0 X252 R250 (by decide) (by rw [c249]; omega) (by omega)), (by have ct := R250.2.2.1; rw [c249, c253, ct]; omega)⟩ (fun w256 σ257 q258 => ?_)
            obtain ⟨rfl, H259, e260, R261, q262, q263⟩ := q258
            have t269 := t246.x e260
            obtain ⟨x264, e265, c266, h267, h268⟩ := cg242 H259.1 t269
            obtain ⟨x270, e271, c272, h273, h274⟩ := cg243 H259.1 t269
            have z275 := congrArg Int32.toInt c266
            have z276 := congrArg Int32.toInt c272
            refine k_st (st' := []) rfl ?_
            have R277 : RdC p0 none (-12) (-4) (-1000) σ0 σ257 := R250.tr ⟨R261.1, R261.2⟩ (by omega) (by omega) (by omega) (by omega)
            have z278 := R277.2.2.1
            have z279 := R277.2.2.2.1 rd_at
            refine k_aload_n rfl ?_
            refine k_lconst ?_
            refine k_putL kg245 H259 t269 fk245 (fun σ280 H281 e282 c283 => ?_)
            refine k_aload_n rfl ?_
            refine k_aconst_null ?_
            have t284 := t269.x e282
            refine k_putR kp246 H281 t284 fk246 (rfo246 (OtC.n)) (fun σ285 H286 e287 c288 => ?_)
            refine k_aload_n rfl ?_
            refine k_aload_n rfl ?_
            have t289 := t284.x e287
            have t290 := t168.x e215
            have t291 := t290.x e245
            have t292 := t291.x e260
            have t293 := t292.x e282
            have t294 := t293.x e287
            have R295 : RdC p0 none (-12) (-4) (-1000) σ0 σ280 := R277.tr ⟨(e282.gw H259.1 (by decide)), (e282.cou (u := 0) H259.1 t269 (by decide) (by rw [e282.cn (by decide)]; omega))⟩ (by omega) (by omega) (by omega) (by omega)
            have R296 : RdC p0 none (-12) (-4) (-1000) σ0 σ285 := R295.tr ⟨(e287.gw H281.1 (by decide)), (e287.cou (u := 0) H281.1 t284 (by decide) (by rw [e287.cn (by decide)]; omega))⟩ (by omega) (by omega) (by omega) (by omega)
            have c297 := (t269.mi e282 (by decide)).trans c272
            have c298 := (t284.mi e287 (by decide)).trans c297
            have X299 : ExC [0, 1, 2, 60, 61, 62, 63, 64, 65, 66, 67, 68, 69, 70, 72, 73, 74, 75, 76, 180, 182, 183, 184, 185, 186, 242, 243, 244, 246, 270, 271, 272, 273, 275, 276, 277, 278, 279, 280, 330, 331, 332, 333, 334, 995, 999] σ0 σ257 := X252.tr (e260.mo (by decide))
            have X300 : ExC [0, 1, 2, 60, 61, 62, 63, 64, 65, 66, 67, 68, 69, 70, 72, 73, 74, 75, 76, 180, 182, 183, 184, 185, 186, 242, 243, 244, 246, 270, 271, 272, 273, 275, 276, 277, 278, 279, 280, 330, 331, 332, 333, 334, 995, 999] σ0 σ280 := X299.tr (e282.mo (by decide))
            have X301 : ExC [0, 1, 2, 60, 61, 62, 63, 64, 65, 66, 67, 68, 69, 70, 72, 73, 74, 75, 76, 180, 182, 183, 184, 185, 186, 242, 243, 244, 246, 270, 271, 272, 273, 275, 276, 277, 278, 279, 280, 330, 331, 332, 333, 334, 995, 999] σ0 σ285 := X300.tr (e287.mo (by decide))
            have c302 := (t269.mi e282 (by decide)).trans c266
            have c303 := (t284.mi e287 (by decide)).trans c302
            have z304 := congrArg Int32.toInt c303
            have z305 := congrArg Int32.toInt c298
            have c306 := (t168.mi e215 (by decide)).trans q175
            have c307 := (t290.mi e245 (by decide)).trans c306
            have c308 := (t291.mi e260 (by decide)).trans c307
            have c309 := (t292.mi e282 (by decide)).trans c308
            have c310 := (t293.mi e287 (by decide)).trans c309
            refine k_inv (P := P_X7_readParams) (Q := Q_X7_readParams) rfl rfl rfl rfl (Nat.le_of_ble_eq_true rfl) (t289.rc (by decide)) ⟨_, _, rfl, H286, t289, t294, (rd_cd.st H0 h_0_0 X301 R296.1 (by decide)), (R296.2.2.2.1 rd_at), (rd_bg.st H0 h_0_0 X301 R296 (by decide) (by omega) (by omega) (by omega)), (by rw [c310]; decide)⟩ (fun w311 σ312 q313 => ?_)
            obtain ⟨rfl, H314, e315, R316, q317⟩ := q313
            have t323 := t289.x e315
            obtain ⟨x318, e319, c320, h321, h322⟩ := cg242 H314.1 t323
            obtain ⟨x324, e325, c326, h327, h328⟩ := cg243 H314.1 t323
            have z329 := congrArg Int32.toInt c320
            have z330 := congrArg Int32.toInt c326
            refine k_st (st' := []) rfl ?_
            have R331 : RdC p0 none (-12) (-2) (-1000) σ0 σ312 := R296.tr ⟨R316.1, R316.2⟩ (by omega) (by omega) (by omega) (by omega)
            have z332 := R331.2.2.1
            have z333 := R331.2.2.2.1 rd_at
            refine k_aload_n rfl ?_
            refine k_aload_n rfl ?_
            refine k_iconst (m := 0) rfl (fun x334 h335 => ?_)
            have X336 : ExC [0, 1, 2, 60, 61, 62, 63, 64, 65, 66, 67, 68, 69, 70, 72, 73, 74, 75, 76, 180, 182, 183, 184, 185, 186, 242, 243, 244, 246, 270, 271, 272, 273, 275, 276, 277, 278, 279, 280, 330, 331, 332, 333, 334, 995, 999] σ0 σ312 := X301.tr (e315.mo (by decide))
            refine k_inv (P := (P_X7_readBody 21)) (Q := (Q_X7_readBody 21)) rfl rfl rfl rfl (Nat.le_of_ble_eq_true rfl) (t323.rc (by decide)) ⟨_, _, rfl, H314, t323, (by omega), (by omega), (rd_cd.st H0 h_0_0 X336 R331.1 (by decide)), (R331.2.2.2.1 rd_at), (rd_bg.st H0 h_0_0 X336 R331 (by decide) (by omega) (by omega) (by omega)), (by omega)⟩ (fun w337 σ338 q339 => ?_)
            obtain ⟨a340, rfl, H341, e342, h344, R343, q345, q346, q347, q348⟩ := q339
            have t354 := t323.x e342
            obtain ⟨x349, e350, c351, h352, h353⟩ := cg242 H341.1 t354
            obtain ⟨x355, e356, c357, h358, h359⟩ := cg243 H341.1 t354
            have z360 := congrArg Int32.toInt c351
            have z361 := congrArg Int32.toInt c357
            refine k_st (st' := [.inr (.inr (some a340)), .inr (.inr (some a123))]) rfl ?_
            have z362 := R331.1.1
            obtain ⟨x363, e364, c365, h366, h367⟩ := cg272 H341.1 h344
            rw [c365] at q346
            obtain ⟨x368, e369, c370, h371, h372⟩ := cg270 H341.1 h344
            rw [c370] at q347
            have R373 : RdC p0 none (-18) (174) (-998) σ0 σ338 := R331.tr ⟨R343.1, R343.2⟩ (by omega) (by omega) (by omega) (by omega)
            have z374 := R373.2.2.1
            have z375 := R373.2.2.2.1 rd_at
            have t381 := t294.x e315
            have t382 := t381.x e342
            refine k_p186 H341 t382 h344 (by rw [c370]; omega) (fun σ376 H377 e378 g379 c380 => ?_)
            refine k_return ?_
            have X383 : ExC [0, 1, 2, 60, 61, 62, 63, 64, 65, 66, 67, 68, 69, 70, 72, 73, 74, 75, 76, 180, 182, 183, 184, 185, 186, 242, 243, 244, 246, 270, 271, 272, 273, 275, 276, 277, 278, 279, 280, 330, 331, 332, 333, 334, 995, 999] σ0 σ338 := X336.tr (e342.mo (by decide))
            have X384 : ExC [0, 1, 2, 60, 61, 62, 63, 64, 65, 66, 67, 68, 69, 70, 72, 73, 74, 75, 76, 180, 182, 183, 184, 185, 186, 242, 243, 244, 246, 270, 271, 272, 273, 275, 276, 277, 278, 279, 280, 330, 331, 332, 333, 334, 995, 999] σ0 σ376 := X383.tr (e378.mo (by decide))
            have R385 : RdC p0 none (-18) (174) (-998) σ0 σ376 := R373.tr ⟨g379, (e378.cou (u := 0) H341.1 t354 (by decide) (by rw [e378.cn (by decide)]; omega))⟩ (by omega) (by omega) (by omega) (by omega)
            have c386 := (t354.mi e378 (by decide)).trans c357
            have c387 := (t354.mi e378 (by decide)).trans c351
            have S435 : ∀ s, ReC σ0 p0 s → ReC σ376 p0 (mthY s) := by
              intro s hs
              have f388 := q22 _ hs
              have f389 := q37 _ hs
              have f390 := q55 _ hs
              have y391 := q66 _ hs
              have w393 := ReC.ra y391
              have f394 := y391.nm c84 c88 q98
              have f395 := q109 _ y391
              have f396 := y391.ft c75
              have w398 := RaC.x w393 y391 (Nat.le_refl _) H62.1 t72 e127 (by decide)
              have y397 := y391.x H62.1 t72 e127 (by decide)
              have f399 := y397.at_ c136
              have f400 := y397.at_ c136
              have f401 := y397.nv c148 c151 q161
              have w403 := RaC.xt w398 y397 (Nat.le_refl _) H126.1 t135 r128 e167 (by decide)
              have y402 := y397.xt H126.1 t135 r128 e167 (by decide)
              obtain ⟨w405, w406⟩ := RaC.ad w403 y402 rfl H166.1 t190 e215 q223 c191 c194
              have y404 := y402.adm (ty := (codY s - 50)) H166.1 t190 e215 q222 q221 c191 c194 q223 t168 (by have z := y391.2.1; omega) (fun rr hrr => by have e0 := Option.some.inj (c185.symm.trans hrr); omega) ⟨(congrArg Int32.toInt q174).trans (ReC.at_ y402 c178), (congrArg Int32.toInt q176).trans (by first | (show x27.toInt = codY s - 50; omega) | exact (ReC.no y402 (by decide) c180 (by omega)).elim), by rw [q175]; rfl⟩
              have l407 := ReC.ml y404
              have f408 := y404.at_ c224
              have w410 := RaC.x w405 y404 (Nat.le_of_lt (by rw [l407]; exact Nat.lt_succ_self _)) H214.1 t228 e245 (by decide)
              have w411 := RbE.x w406 y404 (by rw [l407]; exact Nat.lt_succ_self _) H214.1 t228 e245 (by decide)
              have y409 := y404.x H214.1 t228 e245 (by decide)
              have w413 := RaC.x w410 y409 (Nat.le_of_lt (by rw [l407]; exact Nat.lt_succ_self _)) H244.1 t246 e260 (by decide)
              have w414 := RbE.x w411 y409 (by rw [l407]; exact Nat.lt_succ_self _) H244.1 t246 e260 (by decide)
              have y412 := q263 _ y409
              have l416 := (ReC.ga y412).trans l407
              have w418 := RaC.x w413 y412 (Nat.le_of_lt (by rw [l416]; exact Nat.lt_succ_self _)) H259.1 t269 e282 (by decide)
              have w419 := RbE.x w414 y412 (by rw [l416]; exact Nat.lt_succ_self _) H259.1 t269 e282 (by decide)
              have y417 := y412.x H259.1 t269 e282 (by decide)
              have w421 := RaC.x w418 y417 (Nat.le_of_lt (by rw [l416]; exact Nat.lt_succ_self _)) H281.1 t284 e287 (by decide)
              have w422 := RbE.x w419 y417 (by rw [l416]; exact Nat.lt_succ_self _) H281.1 t284 e287 (by decide)
              have y420 := y417.x H281.1 t284 e287 (by decide)
              have y425 := ReC.wx (o := a123) y420 (fun q hq a ha => ⟨by rw [l416]; exact Nat.lt_succ_self _, w422 q hq a ha, by have z := w421 q hq a ha; rw [← q125] at z; exact z⟩)
              have y426 := q317 _ y425 ⟨_, l416.symm, List.mem_cons_self⟩
              rw [wx_par] at y426
              have y423 := ReC.dr y426 (fun x hx => List.mem_cons_of_mem _ (by rw [← zf_par]; exact hx))
              have y427 := q348 _ y423
              have y429 := y427.x H341.1 t354 e378 (by decide)
              have g430 := nrY f389 (q45 (by omega))
              have g431 := f390.symm.trans (h58.trans h57)
              have g432 := ngY (k := 10) f394 (by omega)
              have g433 := f395.symm.trans (h112.trans h111)
              have g434 := f396.symm.trans (show x73.toInt = 0 from by omega)
              refine y429.eq ?_
              all_goals try simp only [mthY, me1Y, me2Y, me3Y, g430, g431, g432, g433, g434, or_false, false_or, or_true, true_or, and_false, false_and, and_true, true_and, not_true, not_false_iff, ↓reduceIte, Int.reduceEq, Int.reduceLE, Int.reduceLT, Int.reduceNeg]
              all_goals first | rfl | (exfalso; omega)
            exact ⟨rfl, H377, X384, (R385.mo (by omega) (by omega) (by omega)), S435⟩
          · refine k_nil ?_
            refine hB _ _ _ _ (kgoC (is := KX7_readMethod_70) rfl ?_)
            refine k_aload_n rfl ?_
            refine k_iconst (m := 3) rfl (fun x436 h437 => ?_)
            have R438 := R80.nf (-1000) (-1000) (by rw [c75]; omega)
            refine k_inv (P := P_X7_raise) (Q := Q_X7_raise) rfl rfl rfl rfl (Nat.le_of_ble_eq_true rfl) (t72.rc (by decide)) ⟨_, _, rfl, H62, t72, (by omega), (by omega), (rd_cd.st H0 h_0_0 X101 R438.1 (by decide)), (R438.2.2.2.1 rd_at), (rd_bg.stn H0 h_0_0 X101 R438 (by decide) (by rw [c75]; omega) (by omega))⟩ (fun w439 σ440 q441 => ?_)
            obtain ⟨rfl, H442, e443, R444, q445, q446⟩ := q441
            have c447 := (t72.mi e443 (by decide)).trans c69
            have t453 := t72.x e443
            obtain ⟨x448, e449, c450, h451, h452⟩ := cg243 H442.1 t453
            have z454 := congrArg Int32.toInt c447
            have z455 := congrArg Int32.toInt c450
            refine k_st (st' := []) rfl ?_
            have h456 : 1 ≤ x448.toInt := by have hq := q445; rw [c450] at hq; omega
            refine k_nil ?_
            refine hB _ _ _ _ (kgoC (is := KX7_readMethod_75) rfl ?_)
            refine k_aload_n rfl ?_
            refine k_get kg243 t453 (congrArg (Sum.inl : Int32 → AvC) c450) ?_
            refine k_if_eq (fun h457 => by exfalso; omega) (fun h457 => ?_)
            refine k_nil ?_
            refine hB _ _ _ _ (kgoC (is := KX7_readMethod_82) rfl ?_)
            refine k_return ?_
            have X458 : ExC [0, 1, 2, 60, 61, 62, 63, 64, 65, 66, 67, 68, 69, 70, 72, 73, 74, 75, 76, 180, 182, 183, 184, 185, 186, 242, 243, 244, 246, 270, 271, 272, 273, 275, 276, 277, 278, 279, 280, 330, 331, 332, 333, 334, 995, 999] σ0 σ440 := X101.tr (e443.mo (by decide))
            have R459 : RdC p0 none (-8) (-8) (-1000) σ0 σ440 := R438.tr ⟨R444.1, R444.2⟩ (by omega) (by omega) (by omega) (by omega)
            have S475 : ∀ s, ReC σ0 p0 s → ReC σ440 p0 (mthY s) := by
              intro s hs
              have f460 := q22 _ hs
              have f461 := q37 _ hs
              have f462 := q55 _ hs
              have y463 := q66 _ hs
              have f465 := y463.nm c84 c88 q98
              have f466 := q109 _ y463
              have y467 := q446 _ y463
              rw [h437] at y467
              have f469 := y467.ft c450
              have g470 := nrY f461 (q45 (by omega))
              have g471 := f462.symm.trans (h58.trans h57)
              have g472 := lgY (k := 10) f465 (by omega)
              have g473 := f466.symm.trans (h112.trans h111)
              have g474 := nzY f469 (by omega)
              refine y467.eq ?_
              all_goals try simp only [mthY, me1Y, me2Y, me3Y, g470, g471, g472, g473, g474, or_false, false_or, or_true, true_or, and_false, false_and, and_true, true_and, not_true, not_false_iff, ↓reduceIte, Int.reduceEq, Int.reduceLE, Int.reduceLT, Int.reduceNeg]
              all_goals first | rfl | (exfalso; omega)
            exact ⟨rfl, H442, X458, ((R459.ft (0) (by rw [c450]; omega)).mo (by omega) (by omega) (by omega)), S475⟩
        · refine k_nil ?_
          refine hB _ _ _ _ (kgoC (is := KX7_readMethod_56) rfl ?_)
          refine k_aload_n rfl ?_
          refine k_iconst (m := 2) rfl (fun x476 h477 => ?_)
          refine k_inv (P := P_X7_raise) (Q := Q_X7_raise) rfl rfl rfl rfl (Nat.le_of_ble_eq_true rfl) (t72.rc (by decide)) ⟨_, _, rfl, H62, t72, (by omega), (by omega), (rd_cd.st H0 h_0_0 X101 R80.1 (by decide)), (R80.2.2.2.1 rd_at), (rd_bg.st H0 h_0_0 X101 R80 (by decide) (by omega) (by omega) (by omega))⟩ (fun w478 σ479 q480 => ?_)
          obtain ⟨rfl, H481, e482, R483, q484, q485⟩ := q480
          have c486 := (t72.mi e482 (by decide)).trans c69
          have t492 := t72.x e482
          obtain ⟨x487, e488, c489, h490, h491⟩ := cg243 H481.1 t492
          have z493 := congrArg Int32.toInt c486
          have z494 := congrArg Int32.toInt c489
          refine k_st (st' := []) rfl ?_
          have h495 : 1 ≤ x487.toInt := by have hq := q484; rw [c489] at hq; omega
          refine k_goto ?_
          refine hB _ _ _ _ (kgoC (is := KX7_readMethod_75) rfl ?_)
          refine k_aload_n rfl ?_
          refine k_get kg243 t492 (congrArg (Sum.inl : Int32 → AvC) c489) ?_
          refine k_if_eq (fun h496 => by exfalso; omega) (fun h496 => ?_)
          refine k_nil ?_
          refine hB _ _ _ _ (kgoC (is := KX7_readMethod_82) rfl ?_)
          refine k_return ?_
          have X497 : ExC [0, 1, 2, 60, 61, 62, 63, 64, 65, 66, 67, 68, 69, 70, 72, 73, 74, 75, 76, 180, 182, 183, 184, 185, 186, 242, 243, 244, 246, 270, 271, 272, 273, 275, 276, 277, 278, 279, 280, 330, 331, 332, 333, 334, 995, 999] σ0 σ479 := X101.tr (e482.mo (by decide))
          have R498 : RdC p0 none (-8) (0) (-1000) σ0 σ479 := R80.tr ⟨R483.1, R483.2⟩ (by omega) (by omega) (by omega) (by omega)
          have S513 : ∀ s, ReC σ0 p0 s → ReC σ479 p0 (mthY s) := by
            intro s hs
            have f499 := q22 _ hs
            have f500 := q37 _ hs
            have f501 := q55 _ hs
            have y502 := q66 _ hs
            have f504 := y502.nm c84 c88 q98
            have f505 := q109 _ y502
            have y506 := q485 _ y502
            rw [h477] at y506
            have f508 := y506.ft c489
            have g509 := nrY f500 (q45 (by omega))
            have g510 := f501.symm.trans (h58.trans h57)
            have g511 := neY f505 h112 h111
            have g512 := nzY f508 (by omega)
            refine y506.eq ?_
            all_goals try simp only [mthY, me1Y, me2Y, me3Y, g509, g510, g511, g512, or_false, false_or, or_true, true_or, and_false, false_and, and_true, true_and, not_true, not_false_iff, ↓reduceIte, Int.reduceEq, Int.reduceLE, Int.reduceLT, Int.reduceNeg]
            all_goals first | rfl | (exfalso; omega)
          exact ⟨rfl, H481, X497, ((R498.ft (0) (by rw [c489]; omega)).mo (by omega) (by omega) (by omega)), S513⟩
      · refine k_nil ?_
        refine hB _ _ _ _ (kgoC (is := KX7_readMethod_27) rfl ?_)
        refine k_aload_n rfl ?_
        refine k_iconst (m := 2) rfl (fun x514 h515 => ?_)
        refine k_inv (P := P_X7_raise) (Q := Q_X7_raise) rfl rfl rfl rfl (Nat.le_of_ble_eq_true rfl) (h_0_0.rc (by decide)) ⟨_, _, rfl, H0, h_0_0, (by omega), (by omega), (rd_cd.st H0 h_0_0 (ExC.rf : ExC [0, 1, 2, 60, 61, 62, 63, 64, 65, 66, 67, 68, 69, 70, 72, 73, 74, 75, 76, 180, 182, 183, 184, 185, 186, 242, 243, 244, 246, 270, 271, 272, 273, 275, 276, 277, 278, 279, 280, 330, 331, 332, 333, 334, 995, 999] σ0 σ0) R14.1 (by decide)), (R14.2.2.2.1 rd_at), (rd_bg.stn H0 h_0_0 (ExC.rf : ExC [0, 1, 2, 60, 61, 62, 63, 64, 65, 66, 67, 68, 69, 70, 72, 73, 74, 75, 76, 180, 182, 183, 184, 185, 186, 242, 243, 244, 246, 270, 271, 272, 273, 275, 276, 277, 278, 279, 280, 330, 331, 332, 333, 334, 995, 999] σ0 σ0) R14 (by decide) (by rw [c8]; omega) (by omega))⟩ (fun w516 σ517 q518 => ?_)
        obtain ⟨rfl, H519, e520, R521, q522, q523⟩ := q518
        have c524 := (h_0_0.mi e520 (by decide)).trans c3
        have t530 := h_0_0.x e520
        obtain ⟨x525, e526, c527, h528, h529⟩ := cg243 H519.1 t530
        have z531 := congrArg Int32.toInt c524
        have z532 := congrArg Int32.toInt c527
        refine k_st (st' := []) rfl ?_
        have h533 : 1 ≤ x525.toInt := by have hq := q522; rw [c527] at hq; omega
        refine k_nil ?_
        refine hB _ _ _ _ (kgoC (is := KX7_readMethod_32) rfl ?_)
        refine k_aload_n rfl ?_
        have R534 : RdC p0 none (0) (0) (-1000) σ0 σ517 := R14.tr ⟨R521.1, R521.2⟩ (by omega) (by omega) (by omega) (by omega)
        have X535 : ExC [0, 1, 2, 60, 61, 62, 63, 64, 65, 66, 67, 68, 69, 70, 72, 73, 74, 75, 76, 180, 182, 183, 184, 185, 186, 242, 243, 244, 246, 270, 271, 272, 273, 275, 276, 277, 278, 279, 280, 330, 331, 332, 333, 334, 995, 999] σ0 σ517 := ExC.rf.tr (e520.mo (by decide))
        refine k_inv (P := P_X7_accept) (Q := Q_X7_accept) rfl rfl rfl rfl (Nat.le_of_ble_eq_true rfl) (t530.rc (by decide)) ⟨_, rfl, H519, t530, (rd_cd.st H0 h_0_0 X535 R534.1 (by decide)), (R534.2.2.2.1 rd_at), (rd_bg.st H0 h_0_0 X535 R534 (by decide) (by omega) (by omega) (by omega)), (by have ct := R534.2.2.1; rw [c527, c524, ct]; omega)⟩ (fun w536 σ537 q538 => ?_)
        obtain ⟨rfl, H539, e540, R541, q542, q543⟩ := q538
        have t549 := t530.x e540
        obtain ⟨x544, e545, c546, h547, h548⟩ := cg242 H539.1 t549
        obtain ⟨x550, e551, c552, h553, h554⟩ := cg243 H539.1 t549
        have z555 := congrArg Int32.toInt c546
        have z556 := congrArg Int32.toInt c552
        refine k_st (st' := []) rfl ?_
        have R557 : RdC p0 none (-8) (0) (-1000) σ0 σ537 := R534.tr ⟨R541.1, R541.2⟩ (by omega) (by omega) (by omega) (by omega)
        have z558 := R557.2.2.1
        have z559 := R557.2.2.2.1 rd_at
        refine k_aload_n rfl ?_
        obtain ⟨a562, e560, c561, t563⟩ := cg240 H539.1 t549
        refine k_get kg240 t549 e560 ?_
        obtain ⟨a566, e564, c565, t567, l568⟩ := cg211 H539.1 t563
        refine k_get kg211 t563 e564 ?_
        refine k_inv (P := P_Jx4a65c_size_8abf5) (Q := Q_Jx4a65c_size_8abf5) rfl rfl rfl rfl (Nat.le_of_ble_eq_true rfl) (t567.rc (by decide)) ⟨_, rfl, H539, t567⟩ (fun w569 σ570 q571 => ?_)
        obtain ⟨x572, rfl, rfl, h573, h574, q575, q576⟩ := q571
        refine k_st (st' := [.inl x572]) rfl ?_
        have z577 := q576 l568
        refine k_istore_n (ls' := [(2, .inl x572), (1, .inl x27), (0, .inr (.inr (some p0)))]) rfl ?_
        refine k_aload_n rfl ?_
        have X578 : ExC [0, 1, 2, 60, 61, 62, 63, 64, 65, 66, 67, 68, 69, 70, 72, 73, 74, 75, 76, 180, 182, 183, 184, 185, 186, 242, 243, 244, 246, 270, 271, 272, 273, 275, 276, 277, 278, 279, 280, 330, 331, 332, 333, 334, 995, 999] σ0 σ537 := X535.tr (e540.mo (by decide))
        refine k_inv (P := P_X7_code) (Q := Q_X7_code) rfl rfl rfl rfl (Nat.le_of_ble_eq_true rfl) (t549.rc (by decide)) ⟨_, rfl, H539, t549, (rd_cd.st H0 h_0_0 X578 R557.1 (by decide))⟩ (fun w579 σ580 q581 => ?_)
        obtain ⟨x582, rfl, rfl, q583, q584, q585, q586⟩ := q581
        refine k_st (st' := [.inl x582]) rfl ?_
        refine k_bipush (m := 80) rfl (fun x587 h588 => ?_)
        refine k_ic_eq (fun h589 => ?_) (fun h589 => ?_)
        · have h590 : x550.toInt = 0 := by omega
          refine hB _ _ _ _ (kgoC (is := KX7_readMethod_64) rfl ?_)
          refine k_iload_n rfl ?_
          refine k_bipush (m := 10) rfl (fun x591 h592 => ?_)
          refine k_ic_lt (fun h593 => ?_) (fun h593 => ?_)
          · refine hB _ _ _ _ (kgoC (is := KX7_readMethod_75) rfl ?_)
            refine k_aload_n rfl ?_
            refine k_get kg243 t549 (congrArg (Sum.inl : Int32 → AvC) c552) ?_
            refine k_if_eq (fun h594 => ?_) (fun h594 => by exfalso; omega)
            refine hB _ _ _ _ (kgoC (is := KX7_readMethod_83) rfl ?_)
            have R595 := R557.nf (-1000) (-1000) (by rw [c552]; omega)
            have B596 : BgC σ537 p0 3 3 := rd_bg.stn H0 h_0_0 X578 R595 (by decide) (by rw [c552]; omega) (by omega)
            obtain ⟨h597, h598⟩ := B596.new H539.1 t549 (u := 3) (by omega) (by omega)
            have z599 := R595.1.1
            refine k_new (c := 6) (g := 0) H539 (by decide) rfl (by omega) (by have hn : nfC 6 = 7 := rfl; omega) (fun a600 σ601 q602 H603 e604 r605 z606 l607 u608 u609 => ?_)
            rw [show nfC 6 = 7 from rfl] at u609
            have u610 : cpC σ601 = cpC σ537 := congrArg Prod.fst e604.2.1.1
            have u611 : spC σ601 = spC σ537 := congrArg Prod.snd e604.2.1.1
            refine k_dupR ?_
            refine k_aload_n rfl ?_
            have t612 := t549.x e604
            have c613 := (t549.mi e604 (by decide)).trans c546
            refine k_get kg242 t612 (congrArg (Sum.inl : Int32 → AvC) c613) ?_
            refine k_aload_n rfl ?_
            obtain ⟨a616, e614, c615, t617⟩ := cg241 H603.1 t612
            refine k_get kg241 t612 e614 ?_
            obtain ⟨a620, e618, c619, t621, l622, l623⟩ := cg304 H603.1 t617
            refine k_get kg304 t617 e618 ?_
            refine k_aload_n rfl ?_
            refine k_get kg242 t612 (congrArg (Sum.inl : Int32 → AvC) c613) ?_
            refine k_laload t621 (by omega) (by omega) (fun y624 => ?_)
            refine k_iload_n rfl ?_
            refine k_aload_n rfl ?_
            have c625 := (t549.mr e604 (by decide)).trans c561
            refine k_get kg240 t612 (congrArg (fun z : Option Nat => (Sum.inr (Sum.inr z) : AvC)) c625) ?_
            have t626 := t563.x e604
            obtain ⟨a629, e627, c628, t630, l631⟩ := cg212 H603.1 t626
            refine k_get kg212 t626 e627 ?_
            refine k_inv (P := P_Jx4a65c_size_8abf5) (Q := Q_Jx4a65c_size_8abf5) rfl rfl rfl rfl (Nat.le_of_ble_eq_true rfl) (t630.rc (by decide)) ⟨_, rfl, H603, t630⟩ (fun w632 σ633 q634 => ?_)
            obtain ⟨x635, rfl, rfl, h636, h637, q638, q639⟩ := q634
            refine k_st (st' := [.inl x635, .inl x27, .inr (.inl y624), .inl x544, .inr (.inr (some a600)), .inr (.inr (some a600))]) rfl ?_
            refine k_spec (P := P_X5_init) (Q := Q_X5_init) rfl rfl rfl rfl (Nat.le_of_ble_eq_true rfl) ⟨_, _, _, _, _, rfl, H603, r605, z606, (by omega), (by omega), (by omega), (by omega)⟩ (fun w640 σ641 q642 => ?_)
            obtain ⟨rfl, H643, e644, t645, l646, u647, u648, g649, q651, q652, q653, q654⟩ := q642
            have l650 := l646.trans l607
            have c655 := (t612.mit r605 (by decide) e644 (by decide)).trans c613
            have c656 := (t549.mi e604 (by decide)).trans c552
            have c657 := (t612.mit r605 (by decide) e644 (by decide)).trans c656
            have z658 := congrArg Int32.toInt c655
            have z659 := congrArg Int32.toInt c657
            refine k_st (st' := [.inr (.inr (some a600))]) rfl ?_
            obtain ⟨a660, e661, c662, t663, l664, l665⟩ := cg183 H643.1 t645
            have h666 := q654 a660 c662
            refine k_astore_n (ls' := [(3, .inr (.inr (some a600))), (2, .inl x572), (1, .inl x27), (0, .inr (.inr (some p0)))]) rfl ?_
            refine k_aload_n rfl ?_
            have t667 := t612.xt r605 (by decide) e644
            have c668 := (t612.mrt r605 (by decide) e644 (by decide)).trans c625
            refine k_get kg240 t667 (congrArg (fun z : Option Nat => (Sum.inr (Sum.inr z) : AvC)) c668) ?_
            have t669 := t626.xt r605 (by decide) e644
            have c670 := (t563.mr e604 (by decide)).trans c565
            have c671 := (t626.mrt r605 (by decide) e644 (by decide)).trans c670
            refine k_get kg211 t669 (congrArg (fun z : Option Nat => (Sum.inr (Sum.inr z) : AvC)) c671) ?_
            refine k_aload_n rfl ?_
            have t672 := t567.x e604
            have t673 := t672.xt r605 (by decide) e644
            have l674 := (t567.gh e604).trans l568
            have l675 := (t672.ght r605 (by decide) e644).trans l674
            have R676 : RdC p0 none (-7) (-7) (-999) σ0 σ601 := R595.tr ⟨(e604.gwn H539.1 u608 u609 (by decide) (by rw [← q602]; exact r605.n0)), (e604.cou (u := 1) H539.1 t549 (by decide) (by omega))⟩ (by omega) (by omega) (by omega) (by omega)
            have R677 : RdC p0 none (-5) (-5) (-997) σ0 σ641 := R676.tr ⟨g649, (e644.co (u := 2) H603.1 t612 r605 (by decide) (by omega))⟩ (by omega) (by omega) (by omega) (by omega)
            have R678 := R677.nf (-1000) (-1000) (by rw [c657]; omega)
            have X679 : ExC [0, 1, 2, 60, 61, 62, 63, 64, 65, 66, 67, 68, 69, 70, 72, 73, 74, 75, 76, 180, 182, 183, 184, 185, 186, 242, 243, 244, 246, 270, 271, 272, 273, 275, 276, 277, 278, 279, 280, 330, 331, 332, 333, 334, 995, 999] σ537 σ601 := ExC.rf.tr (e604.mo (by decide))
            have X680 : ExC [0, 1, 2, 60, 61, 62, 63, 64, 65, 66, 67, 68, 69, 70, 72, 73, 74, 75, 76, 180, 182, 183, 184, 185, 186, 242, 243, 244, 246, 270, 271, 272, 273, 275, 276, 277, 278, 279, 280, 330, 331, 332, 333, 334, 995, 999] σ537 σ641 := (X679 : ExC [0, 1, 2, 60, 61, 62, 63, 64, 65, 66, 67, 68, 69, 70, 72, 73, 74, 75, 76, 180, 182, 183, 184, 185, 186, 242, 243, 244, 246, 270, 271, 272, 273, 275, 276, 277, 278, 279, 280, 330, 331, 332, 333, 334, 995, 999] σ537 σ601).nt (Nat.le_of_eq q602.symm) (e644.mo (by decide))
            have X681 : ExC [0, 1, 2, 60, 61, 62, 63, 64, 65, 66, 67, 68, 69, 70, 72, 73, 74, 75, 76, 180, 182, 183, 184, 185, 186, 242, 243, 244, 246, 270, 271, 272, 273, 275, 276, 277, 278, 279, 280, 330, 331, 332, 333, 334, 995, 999] σ0 σ641 := X578.tr X680
            have B682 : BgC σ641 p0 1 1 := rd_bg.stn H0 h_0_0 X681 R678 (by decide) (by rw [c657]; omega) (by omega)
            obtain ⟨h683, h684⟩ := B682.new H643.1 t667 (u := 1) (by omega) (by omega)
            have c685 := (t567.mi e604 (by decide)).trans q575
            have c686 := (t672.mit r605 (by decide) e644 (by decide)).trans c685
            refine k_inv (P := P_Jx4a65c_add_9ea2d) (Q := Q_Jx4a65c_add_9ea2d) rfl rfl rfl rfl (Nat.le_of_ble_eq_true rfl) (t673.rc (by decide)) ⟨_, _, rfl, H643, t673, (by rw [l675]; exact ⟨t645, by decide, fun hz => by rw [q651]; omega⟩), (B682.sz H643.1 t667 (by omega) (by omega) c668 (by decide) c671), h683, (by omega), (fun _ => by rw [c686] <;> omega)⟩ (fun w687 σ688 q689 => ?_)
            obtain ⟨x690, rfl, H691, e692, h694, h695, g693, q696, q697, q698, q699, q700⟩ := q689
            have c701 := (t667.mi e692 (by decide)).trans c655
            have c702 := (t667.mi e692 (by decide)).trans c657
            have z703 := congrArg Int32.toInt c701
            have z704 := congrArg Int32.toInt c702
            refine k_st (st' := [.inl x690]) rfl ?_
            refine k_popI ?_
            refine k_aload_n rfl ?_
            have t705 := t667.x e692
            have c706 := (t612.mrt r605 (by decide) e644 (by decide)).trans c615
            have c707 := (t667.mr e692 (by decide)).trans c706
            refine k_get kg241 t705 (congrArg (fun z : Option Nat => (Sum.inr (Sum.inr z) : AvC)) c707) ?_
            have t708 := t617.xt r605 (by decide) e644
            have t709 := t708.x e692
            obtain ⟨a712, e710, c711, t713, l714, l715⟩ := cg303 H691.1 t709
            refine k_get kg303 t709 e710 ?_
            refine k_aload_n rfl ?_
            refine k_get kg242 t705 (congrArg (Sum.inl : Int32 → AvC) c701) ?_
            refine k_bipush (m := 100) rfl (fun x716 h717 => ?_)
            refine k_iload_n rfl ?_
            refine k_iadd (by omega) (by omega) (fun x718 h719 => ?_)
            refine k_iastore H691 t713 l715 (by omega) (by omega) (fun σ720 H721 e722 => ?_)
            refine k_aload_n rfl ?_
            have t723 := t705.x e722
            have R724 : RdC p0 none (-4) (-4) (-999) σ0 σ688 := R678.tr ⟨g693, (e692.cou2 (u := 1) H643.1 t667 (by decide) (by omega) q697)⟩ (by omega) (by omega) (by omega) (by omega)
            have R725 : RdC p0 none (-4) (-4) (-999) σ0 σ720 := R724.tr ⟨(e722.gw H691.1 (by decide)), (e722.cou (u := 0) H691.1 t705 (by decide) (by rw [e722.cn (by decide)]; omega))⟩ (by omega) (by omega) (by omega) (by omega)
            have c726 := (t705.mi e722 (by decide)).trans c702
            have R727 := R725.nf (-1000) (-1000) (by rw [c726]; omega)
            have X728 : ExC [0, 1, 2, 60, 61, 62, 63, 64, 65, 66, 67, 68, 69, 70, 72, 73, 74, 75, 76, 180, 182, 183, 184, 185, 186, 242, 243, 244, 246, 270, 271, 272, 273, 275, 276, 277, 278, 279, 280, 330, 331, 332, 333, 334, 995, 999] σ0 σ688 := X681.tr (e692.mo (by decide))
            have X729 : ExC [0, 1, 2, 60, 61, 62, 63, 64, 65, 66, 67, 68, 69, 70, 72, 73, 74, 75, 76, 180, 182, 183, 184, 185, 186, 242, 243, 244, 246, 270, 271, 272, 273, 275, 276, 277, 278, 279, 280, 330, 331, 332, 333, 334, 995, 999] σ0 σ720 := X728.tr (e722.mo (by decide))
            have c730 := (t705.mi e722 (by decide)).trans c701
            have z731 := congrArg Int32.toInt c730
            have z732 := congrArg Int32.toInt c726
            refine k_inv (P := P_X7_accept) (Q := Q_X7_accept) rfl rfl rfl rfl (Nat.le_of_ble_eq_true rfl) (t723.rc (by decide)) ⟨_, rfl, H721, t723, (rd_cd.st H0 h_0_0 X729 R727.1 (by decide)), (R727.2.2.2.1 rd_at), (rd_bg.stn H0 h_0_0 X729 R727 (by decide) (by rw [c726]; omega) (by omega)), (by have ct := R727.2.2.1; rw [c726, c730, ct]; omega)⟩ (fun w733 σ734 q735 => ?_)
            obtain ⟨rfl, H736, e737, R738, q739, q740⟩ := q735
            have t746 := t723.x e737
            obtain ⟨x741, e742, c743, h744, h745⟩ := cg242 H736.1 t746
            obtain ⟨x747, e748, c749, h750, h751⟩ := cg243 H736.1 t746
            have z752 := congrArg Int32.toInt c743
            have z753 := congrArg Int32.toInt c749
            refine k_st (st' := []) rfl ?_
            have R754 : RdC p0 none (-12) (-4) (-1000) σ0 σ734 := R727.tr ⟨R738.1, R738.2⟩ (by omega) (by omega) (by omega) (by omega)
            have z755 := R754.2.2.1
            have z756 := R754.2.2.2.1 rd_at
            refine k_aload_n rfl ?_
            refine k_lconst ?_
            refine k_putL kg245 H736 t746 fk245 (fun σ757 H758 e759 c760 => ?_)
            refine k_aload_n rfl ?_
            refine k_aconst_null ?_
            have t761 := t746.x e759
            refine k_putR kp246 H758 t761 fk246 (rfo246 (OtC.n)) (fun σ762 H763 e764 c765 => ?_)
            refine k_aload_n rfl ?_
            refine k_aload_n rfl ?_
            have t766 := t761.x e764
            have t767 := t645.x e692
            have t768 := t767.x e722
            have t769 := t768.x e737
            have t770 := t769.x e759
            have t771 := t770.x e764
            have R772 : RdC p0 none (-12) (-4) (-1000) σ0 σ757 := R754.tr ⟨(e759.gw H736.1 (by decide)), (e759.cou (u := 0) H736.1 t746 (by decide) (by rw [e759.cn (by decide)]; omega))⟩ (by omega) (by omega) (by omega) (by omega)
            have R773 : RdC p0 none (-12) (-4) (-1000) σ0 σ762 := R772.tr ⟨(e764.gw H758.1 (by decide)), (e764.cou (u := 0) H758.1 t761 (by decide) (by rw [e764.cn (by decide)]; omega))⟩ (by omega) (by omega) (by omega) (by omega)
            have c774 := (t746.mi e759 (by decide)).trans c749
            have c775 := (t761.mi e764 (by decide)).trans c774
            have X776 : ExC [0, 1, 2, 60, 61, 62, 63, 64, 65, 66, 67, 68, 69, 70, 72, 73, 74, 75, 76, 180, 182, 183, 184, 185, 186, 242, 243, 244, 246, 270, 271, 272, 273, 275, 276, 277, 278, 279, 280, 330, 331, 332, 333, 334, 995, 999] σ0 σ734 := X729.tr (e737.mo (by decide))
            have X777 : ExC [0, 1, 2, 60, 61, 62, 63, 64, 65, 66, 67, 68, 69, 70, 72, 73, 74, 75, 76, 180, 182, 183, 184, 185, 186, 242, 243, 244, 246, 270, 271, 272, 273, 275, 276, 277, 278, 279, 280, 330, 331, 332, 333, 334, 995, 999] σ0 σ757 := X776.tr (e759.mo (by decide))
            have X778 : ExC [0, 1, 2, 60, 61, 62, 63, 64, 65, 66, 67, 68, 69, 70, 72, 73, 74, 75, 76, 180, 182, 183, 184, 185, 186, 242, 243, 244, 246, 270, 271, 272, 273, 275, 276, 277, 278, 279, 280, 330, 331, 332, 333, 334, 995, 999] σ0 σ762 := X777.tr (e764.mo (by decide))
            have c779 := (t746.mi e759 (by decide)).trans c743
            have c780 := (t761.mi e764 (by decide)).trans c779
            have z781 := congrArg Int32.toInt c780
            have z782 := congrArg Int32.toInt c775
            have c783 := (t645.mi e692 (by decide)).trans q652
            have c784 := (t767.mi e722 (by decide)).trans c783
            have c785 := (t768.mi e737 (by decide)).trans c784
            have c786 := (t769.mi e759 (by decide)).trans c785
            have c787 := (t770.mi e764 (by decide)).trans c786
            refine k_inv (P := P_X7_readParams) (Q := Q_X7_readParams) rfl rfl rfl rfl (Nat.le_of_ble_eq_true rfl) (t766.rc (by decide)) ⟨_, _, rfl, H763, t766, t771, (rd_cd.st H0 h_0_0 X778 R773.1 (by decide)), (R773.2.2.2.1 rd_at), (rd_bg.st H0 h_0_0 X778 R773 (by decide) (by omega) (by omega) (by omega)), (by rw [c787]; decide)⟩ (fun w788 σ789 q790 => ?_)
            obtain ⟨rfl, H791, e792, R793, q794⟩ := q790
            have t800 := t766.x e792
            obtain ⟨x795, e796, c797, h798, h799⟩ := cg242 H791.1 t800
            obtain ⟨x801, e802, c803, h804, h805⟩ := cg243 H791.1 t800
            have z806 := congrArg Int32.toInt c797
            have z807 := congrArg Int32.toInt c803
            refine k_st (st' := []) rfl ?_
            have R808 : RdC p0 none (-12) (-2) (-1000) σ0 σ789 := R773.tr ⟨R793.1, R793.2⟩ (by omega) (by omega) (by omega) (by omega)
            have z809 := R808.2.2.1
            have z810 := R808.2.2.2.1 rd_at
            refine k_aload_n rfl ?_
            refine k_aload_n rfl ?_
            refine k_iconst (m := 0) rfl (fun x811 h812 => ?_)
            have X813 : ExC [0, 1, 2, 60, 61, 62, 63, 64, 65, 66, 67, 68, 69, 70, 72, 73, 74, 75, 76, 180, 182, 183, 184, 185, 186, 242, 243, 244, 246, 270, 271, 272, 273, 275, 276, 277, 278, 279, 280, 330, 331, 332, 333, 334, 995, 999] σ0 σ789 := X778.tr (e792.mo (by decide))
            refine k_inv (P := (P_X7_readBody 21)) (Q := (Q_X7_readBody 21)) rfl rfl rfl rfl (Nat.le_of_ble_eq_true rfl) (t800.rc (by decide)) ⟨_, _, rfl, H791, t800, (by omega), (by omega), (rd_cd.st H0 h_0_0 X813 R808.1 (by decide)), (R808.2.2.2.1 rd_at), (rd_bg.st H0 h_0_0 X813 R808 (by decide) (by omega) (by omega) (by omega)), (by omega)⟩ (fun w814 σ815 q816 => ?_)
            obtain ⟨a817, rfl, H818, e819, h821, R820, q822, q823, q824, q825⟩ := q816
            have t831 := t800.x e819
            obtain ⟨x826, e827, c828, h829, h830⟩ := cg242 H818.1 t831
            obtain ⟨x832, e833, c834, h835, h836⟩ := cg243 H818.1 t831
            have z837 := congrArg Int32.toInt c828
            have z838 := congrArg Int32.toInt c834
            refine k_st (st' := [.inr (.inr (some a817)), .inr (.inr (some a600))]) rfl ?_
            have z839 := R808.1.1
            obtain ⟨x840, e841, c842, h843, h844⟩ := cg272 H818.1 h821
            rw [c842] at q823
            obtain ⟨x845, e846, c847, h848, h849⟩ := cg270 H818.1 h821
            rw [c847] at q824
            have R850 : RdC p0 none (-18) (174) (-998) σ0 σ815 := R808.tr ⟨R820.1, R820.2⟩ (by omega) (by omega) (by omega) (by omega)
            have z851 := R850.2.2.1
            have z852 := R850.2.2.2.1 rd_at
            have t858 := t771.x e792
            have t859 := t858.x e819
            refine k_p186 H818 t859 h821 (by rw [c847]; omega) (fun σ853 H854 e855 g856 c857 => ?_)
            refine k_return ?_
            have X860 : ExC [0, 1, 2, 60, 61, 62, 63, 64, 65, 66, 67, 68, 69, 70, 72, 73, 74, 75, 76, 180, 182, 183, 184, 185, 186, 242, 243, 244, 246, 270, 271, 272, 273, 275, 276, 277, 278, 279, 280, 330, 331, 332, 333, 334, 995, 999] σ0 σ815 := X813.tr (e819.mo (by decide))
            have X861 : ExC [0, 1, 2, 60, 61, 62, 63, 64, 65, 66, 67, 68, 69, 70, 72, 73, 74, 75, 76, 180, 182, 183, 184, 185, 186, 242, 243, 244, 246, 270, 271, 272, 273, 275, 276, 277, 278, 279, 280, 330, 331, 332, 333, 334, 995, 999] σ0 σ853 := X860.tr (e855.mo (by decide))
            have R862 : RdC p0 none (-18) (174) (-998) σ0 σ853 := R850.tr ⟨g856, (e855.cou (u := 0) H818.1 t831 (by decide) (by rw [e855.cn (by decide)]; omega))⟩ (by omega) (by omega) (by omega) (by omega)
            have c863 := (t831.mi e855 (by decide)).trans c834
            have c864 := (t831.mi e855 (by decide)).trans c828
            have S914 : ∀ s, ReC σ0 p0 s → ReC σ853 p0 (mthY s) := by
              intro s hs
              have f865 := q22 _ hs
              have f866 := q37 _ hs
              have f867 := q55 _ hs
              have y868 := q523 _ hs
              rw [h515] at y868
              have y870 := q543 _ y868
              have w872 := ReC.ra y870
              have f873 := y870.nm c561 c565 q575
              have f874 := q586 _ y870
              have f875 := y870.ft c552
              have w877 := RaC.x w872 y870 (Nat.le_refl _) H539.1 t549 e604 (by decide)
              have y876 := y870.x H539.1 t549 e604 (by decide)
              have f878 := y876.at_ c613
              have f879 := y876.at_ c613
              have f880 := y876.nv c625 c628 q638
              have w882 := RaC.xt w877 y876 (Nat.le_refl _) H603.1 t612 r605 e644 (by decide)
              have y881 := y876.xt H603.1 t612 r605 e644 (by decide)
              obtain ⟨w884, w885⟩ := RaC.ad w882 y881 rfl H643.1 t667 e692 q700 c668 c671
              have y883 := y881.adm (ty := (codY s - 50)) H643.1 t667 e692 q699 q698 c668 c671 q700 t645 (by have z := y870.2.1; omega) (fun rr hrr => by have e0 := Option.some.inj (c662.symm.trans hrr); omega) ⟨(congrArg Int32.toInt q651).trans (ReC.at_ y881 c655), (congrArg Int32.toInt q653).trans (by first | (show x27.toInt = codY s - 50; omega) | exact (ReC.no y881 (by decide) c657 (by omega)).elim), by rw [q652]; rfl⟩
              have l886 := ReC.ml y883
              have f887 := y883.at_ c701
              have w889 := RaC.x w884 y883 (Nat.le_of_lt (by rw [l886]; exact Nat.lt_succ_self _)) H691.1 t705 e722 (by decide)
              have w890 := RbE.x w885 y883 (by rw [l886]; exact Nat.lt_succ_self _) H691.1 t705 e722 (by decide)
              have y888 := y883.x H691.1 t705 e722 (by decide)
              have w892 := RaC.x w889 y888 (Nat.le_of_lt (by rw [l886]; exact Nat.lt_succ_self _)) H721.1 t723 e737 (by decide)
              have w893 := RbE.x w890 y888 (by rw [l886]; exact Nat.lt_succ_self _) H721.1 t723 e737 (by decide)
              have y891 := q740 _ y888
              have l895 := (ReC.ga y891).trans l886
              have w897 := RaC.x w892 y891 (Nat.le_of_lt (by rw [l895]; exact Nat.lt_succ_self _)) H736.1 t746 e759 (by decide)
              have w898 := RbE.x w893 y891 (by rw [l895]; exact Nat.lt_succ_self _) H736.1 t746 e759 (by decide)
              have y896 := y891.x H736.1 t746 e759 (by decide)
              have w900 := RaC.x w897 y896 (Nat.le_of_lt (by rw [l895]; exact Nat.lt_succ_self _)) H758.1 t761 e764 (by decide)
              have w901 := RbE.x w898 y896 (by rw [l895]; exact Nat.lt_succ_self _) H758.1 t761 e764 (by decide)
              have y899 := y896.x H758.1 t761 e764 (by decide)
              have y904 := ReC.wx (o := a600) y899 (fun q hq a ha => ⟨by rw [l895]; exact Nat.lt_succ_self _, w901 q hq a ha, by have z := w900 q hq a ha; rw [← q602] at z; exact z⟩)
              have y905 := q794 _ y904 ⟨_, l895.symm, List.mem_cons_self⟩
              rw [wx_par] at y905
              have y902 := ReC.dr y905 (fun x hx => List.mem_cons_of_mem _ (by rw [← zf_par]; exact hx))
              have y906 := q825 _ y902
              have y908 := y906.x H818.1 t831 e855 (by decide)
              have g909 := nrY f866 (q45 (by omega))
              have g910 := neY f867 h58 h57
              have g911 := ngY (k := 10) f873 (by omega)
              have g912 := f874.symm.trans (h589.trans h588)
              have g913 := f875.symm.trans (show x550.toInt = 0 from by omega)
              refine y908.eq ?_
              all_goals try simp only [mthY, me1Y, me2Y, me3Y, g909, g910, g911, g912, g913, or_false, false_or, or_true, true_or, and_false, false_and, and_true, true_and, not_true, not_false_iff, ↓reduceIte, Int.reduceEq, Int.reduceLE, Int.reduceLT, Int.reduceNeg]
              all_goals first | rfl | (exfalso; omega)
            exact ⟨rfl, H854, X861, (R862.mo (by omega) (by omega) (by omega)), S914⟩
          · refine k_nil ?_
            refine hB _ _ _ _ (kgoC (is := KX7_readMethod_70) rfl ?_)
            refine k_aload_n rfl ?_
            refine k_iconst (m := 3) rfl (fun x915 h916 => ?_)
            have R917 := R557.nf (-1000) (-1000) (by rw [c552]; omega)
            refine k_inv (P := P_X7_raise) (Q := Q_X7_raise) rfl rfl rfl rfl (Nat.le_of_ble_eq_true rfl) (t549.rc (by decide)) ⟨_, _, rfl, H539, t549, (by omega), (by omega), (rd_cd.st H0 h_0_0 X578 R917.1 (by decide)), (R917.2.2.2.1 rd_at), (rd_bg.stn H0 h_0_0 X578 R917 (by decide) (by rw [c552]; omega) (by omega))⟩ (fun w918 σ919 q920 => ?_)
            obtain ⟨rfl, H921, e922, R923, q924, q925⟩ := q920
            have c926 := (t549.mi e922 (by decide)).trans c546
            have t932 := t549.x e922
            obtain ⟨x927, e928, c929, h930, h931⟩ := cg243 H921.1 t932
            have z933 := congrArg Int32.toInt c926
            have z934 := congrArg Int32.toInt c929
            refine k_st (st' := []) rfl ?_
            have h935 : 1 ≤ x927.toInt := by have hq := q924; rw [c929] at hq; omega
            refine k_nil ?_
            refine hB _ _ _ _ (kgoC (is := KX7_readMethod_75) rfl ?_)
            refine k_aload_n rfl ?_
            refine k_get kg243 t932 (congrArg (Sum.inl : Int32 → AvC) c929) ?_
            refine k_if_eq (fun h936 => by exfalso; omega) (fun h936 => ?_)
            refine k_nil ?_
            refine hB _ _ _ _ (kgoC (is := KX7_readMethod_82) rfl ?_)
            refine k_return ?_
            have X937 : ExC [0, 1, 2, 60, 61, 62, 63, 64, 65, 66, 67, 68, 69, 70, 72, 73, 74, 75, 76, 180, 182, 183, 184, 185, 186, 242, 243, 244, 246, 270, 271, 272, 273, 275, 276, 277, 278, 279, 280, 330, 331, 332, 333, 334, 995, 999] σ0 σ919 := X578.tr (e922.mo (by decide))
            have R938 : RdC p0 none (-8) (-8) (-1000) σ0 σ919 := R917.tr ⟨R923.1, R923.2⟩ (by omega) (by omega) (by omega) (by omega)
            have S956 : ∀ s, ReC σ0 p0 s → ReC σ919 p0 (mthY s) := by
              intro s hs
              have f939 := q22 _ hs
              have f940 := q37 _ hs
              have f941 := q55 _ hs
              have y942 := q523 _ hs
              rw [h515] at y942
              have y944 := q543 _ y942
              have f946 := y944.nm c561 c565 q575
              have f947 := q586 _ y944
              have y948 := q925 _ y944
              rw [h916] at y948
              have f950 := y948.ft c929
              have g951 := nrY f940 (q45 (by omega))
              have g952 := neY f941 h58 h57
              have g953 := lgY (k := 10) f946 (by omega)
              have g954 := f947.symm.trans (h589.trans h588)
              have g955 := nzY f950 (by omega)
              refine y948.eq ?_
              all_goals try simp only [mthY, me1Y, me2Y, me3Y, g951, g952, g953, g954, g955, or_false, false_or, or_true, true_or, and_false, false_and, and_true, true_and, not_true, not_false_iff, ↓reduceIte, Int.reduceEq, Int.reduceLE, Int.reduceLT, Int.reduceNeg]
              all_goals first | rfl | (exfalso; omega)
            exact ⟨rfl, H921, X937, ((R938.ft (0) (by rw [c929]; omega)).mo (by omega) (by omega) (by omega)), S956⟩
        · refine k_nil ?_
          refine hB _ _ _ _ (kgoC (is := KX7_readMethod_56) rfl ?_)
          refine k_aload_n rfl ?_
          refine k_iconst (m := 2) rfl (fun x957 h958 => ?_)
          refine k_inv (P := P_X7_raise) (Q := Q_X7_raise) rfl rfl rfl rfl (Nat.le_of_ble_eq_true rfl) (t549.rc (by decide)) ⟨_, _, rfl, H539, t549, (by omega), (by omega), (rd_cd.st H0 h_0_0 X578 R557.1 (by decide)), (R557.2.2.2.1 rd_at), (rd_bg.st H0 h_0_0 X578 R557 (by decide) (by omega) (by omega) (by omega))⟩ (fun w959 σ960 q961 => ?_)
          obtain ⟨rfl, H962, e963, R964, q965, q966⟩ := q961
          have c967 := (t549.mi e963 (by decide)).trans c546
          have t973 := t549.x e963
          obtain ⟨x968, e969, c970, h971, h972⟩ := cg243 H962.1 t973
          have z974 := congrArg Int32.toInt c967
          have z975 := congrArg Int32.toInt c970
          refine k_st (st' := []) rfl ?_
          have h976 : 1 ≤ x968.toInt := by have hq := q965; rw [c970] at hq; omega
          refine k_goto ?_
          refine hB _ _ _ _ (kgoC (is := KX7_readMethod_75) rfl ?_)
          refine k_aload_n rfl ?_
          refine k_get kg243 t973 (congrArg (Sum.inl : Int32 → AvC) c970) ?_
          refine k_if_eq (fun h977 => by exfalso; omega) (fun h977 => ?_)
          refine k_nil ?_
          refine hB _ _ _ _ (kgoC (is := KX7_readMethod_82) rfl ?_)
          refine k_return ?_
          have X978 : ExC [0, 1, 2, 60, 61, 62, 63, 64, 65, 66, 67, 68, 69, 70, 72, 73, 74, 75, 76, 180, 182, 183, 184, 185, 186, 242, 243, 244, 246, 270, 271, 272, 273, 275, 276, 277, 278, 279, 280, 330, 331, 332, 333, 334, 995, 999] σ0 σ960 := X578.tr (e963.mo (by decide))
          have R979 : RdC p0 none (-8) (0) (-1000) σ0 σ960 := R557.tr ⟨R964.1, R964.2⟩ (by omega) (by omega) (by omega) (by omega)
          have S996 : ∀ s, ReC σ0 p0 s → ReC σ960 p0 (mthY s) := by
            intro s hs
            have f980 := q22 _ hs
            have f981 := q37 _ hs
            have f982 := q55 _ hs
            have y983 := q523 _ hs
            rw [h515] at y983
            have y985 := q543 _ y983
            have f987 := y985.nm c561 c565 q575
            have f988 := q586 _ y985
            have y989 := q966 _ y985
            rw [h958] at y989
            have f991 := y989.ft c970
            have g992 := nrY f981 (q45 (by omega))
            have g993 := neY f982 h58 h57
            have g994 := neY f988 h589 h588
            have g995 := nzY f991 (by omega)
            refine y989.eq ?_
            all_goals try simp only [mthY, me1Y, me2Y, me3Y, g992, g993, g994, g995, or_false, false_or, or_true, true_or, and_false, false_and, and_true, true_and, not_true, not_false_iff, ↓reduceIte, Int.reduceEq, Int.reduceLE, Int.reduceLT, Int.reduceNeg]
            all_goals first | rfl | (exfalso; omega)
          exact ⟨rfl, H962, X978, ((R979.ft (0) (by rw [c970]; omega)).mo (by omega) (by omega) (by omega)), S996⟩
    · have h997 := q44 (by omega)
      refine k_if_ne (fun h998 => ?_) (fun h998 => by exfalso; omega)
      refine hB _ _ _ _ (kgoC (is := KX7_readMethod_32) rfl ?_)
      refine k_aload_n rfl ?_
      refine k_inv (P := P_X7_accept) (Q := Q_X7_accept) rfl rfl rfl rfl (Nat.le_of_ble_eq_true rfl) (h_0_0.rc (by decide)) ⟨_, rfl, H0, h_0_0, (rd_cd.st H0 h_0_0 (ExC.rf : ExC [0, 1, 2, 60, 61, 62, 63, 64, 65, 66, 67, 68, 69, 70, 72, 73, 74, 75, 76, 180, 182, 183, 184, 185, 186, 242, 243, 244, 246, 270, 271, 272, 273, 275, 276, 277, 278, 279, 280, 330, 331, 332, 333, 334, 995, 999] σ0 σ0) R14.1 (by decide)), (R14.2.2.2.1 rd_at), (rd_bg.stn H0 h_0_0 (ExC.rf : ExC [0, 1, 2, 60, 61, 62, 63, 64, 65, 66, 67, 68, 69, 70, 72, 73, 74, 75, 76, 180, 182, 183, 184, 185, 186, 242, 243, 244, 246, 270, 271, 272, 273, 275, 276, 277, 278, 279, 280, 330, 331, 332, 333, 334, 995, 999] σ0 σ0) R14 (by decide) (by rw [c8]; omega) (by omega)), (by have ct := R14.2.2.1; rw [c8, c3, ct]; omega)⟩ (fun w999 σ1000 q1001 => ?_)
      obtain ⟨rfl, H1002, e1003, R1004, q1005, q1006⟩ := q1001
      have t1012 := h_0_0.x e1003
      obtain ⟨x1007, e1008, c1009, h1010, h1011⟩ := cg242 H1002.1 t1012
      obtain ⟨x1013, e1014, c1015, h1016, h1017⟩ := cg243 H1002.1 t1012
      have z1018 := congrArg Int32.toInt c1009
      have z1019 := congrArg Int32.toInt c1015
      refine k_st (st' := []) rfl ?_
      have R1020 : RdC p0 none (-8) (0) (-1000) σ0 σ1000 := R14.tr ⟨R1004.1, R1004.2⟩ (by omega) (by omega) (by omega) (by omega)
      have z1021 := R1020.2.2.1
      have z1022 := R1020.2.2.2.1 rd_at
      refine k_aload_n rfl ?_
      obtain ⟨a1025, e1023, c1024, t1026⟩ := cg240 H1002.1 t1012
      refine k_get kg240 t1012 e1023 ?_
      obtain ⟨a1029, e1027, c1028, t1030, l1031⟩ := cg211 H1002.1 t1026
      refine k_get kg211 t1026 e1027 ?_
      refine k_inv (P := P_Jx4a65c_size_8abf5) (Q := Q_Jx4a65c_size_8abf5) rfl rfl rfl rfl (Nat.le_of_ble_eq_true rfl) (t1030.rc (by decide)) ⟨_, rfl, H1002, t1030⟩ (fun w1032 σ1033 q1034 => ?_)
      obtain ⟨x1035, rfl, rfl, h1036, h1037, q1038, q1039⟩ := q1034
      refine k_st (st' := [.inl x1035]) rfl ?_
      have z1040 := q1039 l1031
      refine k_istore_n (ls' := [(2, .inl x1035), (1, .inl x27), (0, .inr (.inr (some p0)))]) rfl ?_
      refine k_aload_n rfl ?_
      have X1041 : ExC [0, 1, 2, 60, 61, 62, 63, 64, 65, 66, 67, 68, 69, 70, 72, 73, 74, 75, 76, 180, 182, 183, 184, 185, 186, 242, 243, 244, 246, 270, 271, 272, 273, 275, 276, 277, 278, 279, 280, 330, 331, 332, 333, 334, 995, 999] σ0 σ1000 := ExC.rf.tr (e1003.mo (by decide))
      refine k_inv (P := P_X7_code) (Q := Q_X7_code) rfl rfl rfl rfl (Nat.le_of_ble_eq_true rfl) (t1012.rc (by decide)) ⟨_, rfl, H1002, t1012, (rd_cd.st H0 h_0_0 X1041 R1020.1 (by decide))⟩ (fun w1042 σ1043 q1044 => ?_)
      obtain ⟨x1045, rfl, rfl, q1046, q1047, q1048, q1049⟩ := q1044
      refine k_st (st' := [.inl x1045]) rfl ?_
      refine k_bipush (m := 80) rfl (fun x1050 h1051 => ?_)
      refine k_ic_eq (fun h1052 => ?_) (fun h1052 => ?_)
      · have h1053 : x1013.toInt = 0 := by omega
        refine hB _ _ _ _ (kgoC (is := KX7_readMethod_64) rfl ?_)
        refine k_iload_n rfl ?_
        refine k_bipush (m := 10) rfl (fun x1054 h1055 => ?_)
        refine k_ic_lt (fun h1056 => ?_) (fun h1056 => ?_)
        · refine hB _ _ _ _ (kgoC (is := KX7_readMethod_75) rfl ?_)
          refine k_aload_n rfl ?_
          refine k_get kg243 t1012 (congrArg (Sum.inl : Int32 → AvC) c1015) ?_
          refine k_if_eq (fun h1057 => ?_) (fun h1057 => by exfalso; omega)
          refine hB _ _ _ _ (kgoC (is := KX7_readMethod_83) rfl ?_)
          have R1058 := R1020.nf (-1000) (-1000) (by rw [c1015]; omega)
          have B1059 : BgC σ1000 p0 3 3 := rd_bg.stn H0 h_0_0 X1041 R1058 (by decide) (by rw [c1015]; omega) (by omega)
          obtain ⟨h1060, h1061⟩ := B1059.new H1002.1 t1012 (u := 3) (by omega) (by omega)
          have z1062 := R1058.1.1
          refine k_new (c := 6) (g := 0) H1002 (by decide) rfl (by omega) (by have hn : nfC 6 = 7 := rfl; omega) (fun a1063 σ1064 q1065 H1066 e1067 r1068 z1069 l1070 u1071 u1072 => ?_)
          rw [show nfC 6 = 7 from rfl] at u1072
          have u1073 : cpC σ1064 = cpC σ1000 := congrArg Prod.fst e1067.2.1.1
          have u1074 : spC σ1064 = spC σ1000 := congrArg Prod.snd e1067.2.1.1
          refine k_dupR ?_
          refine k_aload_n rfl ?_
          have t1075 := t1012.x e1067
          have c1076 := (t1012.mi e1067 (by decide)).trans c1009
          refine k_get kg242 t1075 (congrArg (Sum.inl : Int32 → AvC) c1076) ?_
          refine k_aload_n rfl ?_
          obtain ⟨a1079, e1077, c1078, t1080⟩ := cg241 H1066.1 t1075
          refine k_get kg241 t1075 e1077 ?_
          obtain ⟨a1083, e1081, c1082, t1084, l1085, l1086⟩ := cg304 H1066.1 t1080
          refine k_get kg304 t1080 e1081 ?_
          refine k_aload_n rfl ?_
          refine k_get kg242 t1075 (congrArg (Sum.inl : Int32 → AvC) c1076) ?_
          refine k_laload t1084 (by omega) (by omega) (fun y1087 => ?_)
          refine k_iload_n rfl ?_
          refine k_aload_n rfl ?_
          have c1088 := (t1012.mr e1067 (by decide)).trans c1024
          refine k_get kg240 t1075 (congrArg (fun z : Option Nat => (Sum.inr (Sum.inr z) : AvC)) c1088) ?_
          have t1089 := t1026.x e1067
          obtain ⟨a1092, e1090, c1091, t1093, l1094⟩ := cg212 H1066.1 t1089
          refine k_get kg212 t1089 e1090 ?_
          refine k_inv (P := P_Jx4a65c_size_8abf5) (Q := Q_Jx4a65c_size_8abf5) rfl rfl rfl rfl (Nat.le_of_ble_eq_true rfl) (t1093.rc (by decide)) ⟨_, rfl, H1066, t1093⟩ (fun w1095 σ1096 q1097 => ?_)
          obtain ⟨x1098, rfl, rfl, h1099, h1100, q1101, q1102⟩ := q1097
          refine k_st (st' := [.inl x1098, .inl x27, .inr (.inl y1087), .inl x1007, .inr (.inr (some a1063)), .inr (.inr (some a1063))]) rfl ?_
          refine k_spec (P := P_X5_init) (Q := Q_X5_init) rfl rfl rfl rfl (Nat.le_of_ble_eq_true rfl) ⟨_, _, _, _, _, rfl, H1066, r1068, z1069, (by omega), (by omega), (by omega), (by omega)⟩ (fun w1103 σ1104 q1105 => ?_)
          obtain ⟨rfl, H1106, e1107, t1108, l1109, u1110, u1111, g1112, q1114, q1115, q1116, q1117⟩ := q1105
          have l1113 := l1109.trans l1070
          have c1118 := (t1075.mit r1068 (by decide) e1107 (by decide)).trans c1076
          have c1119 := (t1012.mi e1067 (by decide)).trans c1015
          have c1120 := (t1075.mit r1068 (by decide) e1107 (by decide)).trans c1119
          have z1121 := congrArg Int32.toInt c1118
          have z1122 := congrArg Int32.toInt c1120
          refine k_st (st' := [.inr (.inr (some a1063))]) rfl ?_
          obtain ⟨a1123, e1124, c1125, t1126, l1127, l1128⟩ := cg183 H1106.1 t1108
          have h1129 := q1117 a1123 c1125
          refine k_astore_n (ls' := [(3, .inr (.inr (some a1063))), (2, .inl x1035), (1, .inl x27), (0, .inr (.inr (some p0)))]) rfl ?_
          refine k_aload_n rfl ?_
          have t1130 := t1075.xt r1068 (by decide) e1107
          have c1131 := (t1075.mrt r1068 (by decide) e1107 (by decide)).trans c1088
          refine k_get kg240 t1130 (congrArg (fun z : Option Nat => (Sum.inr (Sum.inr z) : AvC)) c1131) ?_
          have t1132 := t1089.xt r1068 (by decide) e1107
          have c1133 := (t1026.mr e1067 (by decide)).trans c1028
          have c1134 := (t1089.mrt r1068 (by decide) e1107 (by decide)).trans c1133
          refine k_get kg211 t1132 (congrArg (fun z : Option Nat => (Sum.inr (Sum.inr z) : AvC)) c1134) ?_
          refine k_aload_n rfl ?_
          have t1135 := t1030.x e1067
          have t1136 := t1135.xt r1068 (by decide) e1107
          have l1137 := (t1030.gh e1067).trans l1031
          have l1138 := (t1135.ght r1068 (by decide) e1107).trans l1137
          have R1139 : RdC p0 none (-7) (-7) (-999) σ0 σ1064 := R1058.tr ⟨(e1067.gwn H1002.1 u1071 u1072 (by decide) (by rw [← q1065]; exact r1068.n0)), (e1067.cou (u := 1) H1002.1 t1012 (by decide) (by omega))⟩ (by omega) (by omega) (by omega) (by omega)
          have R1140 : RdC p0 none (-5) (-5) (-997) σ0 σ1104 := R1139.tr ⟨g1112, (e1107.co (u := 2) H1066.1 t1075 r1068 (by decide) (by omega))⟩ (by omega) (by omega) (by omega) (by omega)
          have R1141 := R1140.nf (-1000) (-1000) (by rw [c1120]; omega)
          have X1142 : ExC [0, 1, 2, 60, 61, 62, 63, 64, 65, 66, 67, 68, 69, 70, 72, 73, 74, 75, 76, 180, 182, 183, 184, 185, 186, 242, 243, 244, 246, 270, 271, 272, 273, 275, 276, 277, 278, 279, 280, 330, 331, 332, 333, 334, 995, 999] σ1000 σ1064 := ExC.rf.tr (e1067.mo (by decide))
          have X1143 : ExC [0, 1, 2, 60, 61, 62, 63, 64, 65, 66, 67, 68, 69, 70, 72, 73, 74, 75, 76, 180, 182, 183, 184, 185, 186, 242, 243, 244, 246, 270, 271, 272, 273, 275, 276, 277, 278, 279, 280, 330, 331, 332, 333, 334, 995, 999] σ1000 σ1104 := (X1142 : ExC [0, 1, 2, 60, 61, 62, 63, 64, 65, 66, 67, 68, 69, 70, 72, 73, 74, 75, 76, 180, 182, 183, 184, 185, 186, 242, 243, 244, 246, 270, 271, 272, 273, 275, 276, 277, 278, 279, 280, 330, 331, 332, 333, 334, 995, 999] σ1000 σ1064).nt (Nat.le_of_eq q1065.symm) (e1107.mo (by decide))
          have X1144 : ExC [0, 1, 2, 60, 61, 62, 63, 64, 65, 66, 67, 68, 69, 70, 72, 73, 74, 75, 76, 180, 182, 183, 184, 185, 186, 242, 243, 244, 246, 270, 271, 272, 273, 275, 276, 277, 278, 279, 280, 330, 331, 332, 333, 334, 995, 999] σ0 σ1104 := X1041.tr X1143
          have B1145 : BgC σ1104 p0 1 1 := rd_bg.stn H0 h_0_0 X1144 R1141 (by decide) (by rw [c1120]; omega) (by omega)
          obtain ⟨h1146, h1147⟩ := B1145.new H1106.1 t1130 (u := 1) (by omega) (by omega)
          have c1148 := (t1030.mi e1067 (by decide)).trans q1038
          have c1149 := (t1135.mit r1068 (by decide) e1107 (by decide)).trans c1148
          refine k_inv (P := P_Jx4a65c_add_9ea2d) (Q := Q_Jx4a65c_add_9ea2d) rfl rfl rfl rfl (Nat.le_of_ble_eq_true rfl) (t1136.rc (by decide)) ⟨_, _, rfl, H1106, t1136, (by rw [l1138]; exact ⟨t1108, by decide, fun hz => by rw [q1114]; omega⟩), (B1145.sz H1106.1 t1130 (by omega) (by omega) c1131 (by decide) c1134), h1146, (by omega), (fun _ => by rw [c1149] <;> omega)⟩ (fun w1150 σ1151 q1152 => ?_)
          obtain ⟨x1153, rfl, H1154, e1155, h1157, h1158, g1156, q1159, q1160, q1161, q1162, q1163⟩ := q1152
          have c1164 := (t1130.mi e1155 (by decide)).trans c1118
          have c1165 := (t1130.mi e1155 (by decide)).trans c1120
          have z1166 := congrArg Int32.toInt c1164
          have z1167 := congrArg Int32.toInt c1165
          refine k_st (st' := [.inl x1153]) rfl ?_
          refine k_popI ?_
          refine k_aload_n rfl ?_
          have t1168 := t1130.x e1155
          have c1169 := (t1075.mrt r1068 (by decide) e1107 (by decide)).trans c1078
          have c1170 := (t1130.mr e1155 (by decide)).trans c1169
          refine k_get kg241 t1168 (congrArg (fun z : Option Nat => (Sum.inr (Sum.inr z) : AvC)) c1170) ?_
          have t1171 := t1080.xt r1068 (by decide) e1107
          have t1172 := t1171.x e1155
          obtain ⟨a1175, e1173, c1174, t1176, l1177, l1178⟩ := cg303 H1154.1 t1172
          refine k_get kg303 t1172 e1173 ?_
          refine k_aload_n rfl ?_
          refine k_get kg242 t1168 (congrArg (Sum.inl : Int32 → AvC) c1164) ?_
          refine k_bipush (m := 100) rfl (fun x1179 h1180 => ?_)
          refine k_iload_n rfl ?_
          refine k_iadd (by omega) (by omega) (fun x1181 h1182 => ?_)
          refine k_iastore H1154 t1176 l1178 (by omega) (by omega) (fun σ1183 H1184 e1185 => ?_)
          refine k_aload_n rfl ?_
          have t1186 := t1168.x e1185
          have R1187 : RdC p0 none (-4) (-4) (-999) σ0 σ1151 := R1141.tr ⟨g1156, (e1155.cou2 (u := 1) H1106.1 t1130 (by decide) (by omega) q1160)⟩ (by omega) (by omega) (by omega) (by omega)
          have R1188 : RdC p0 none (-4) (-4) (-999) σ0 σ1183 := R1187.tr ⟨(e1185.gw H1154.1 (by decide)), (e1185.cou (u := 0) H1154.1 t1168 (by decide) (by rw [e1185.cn (by decide)]; omega))⟩ (by omega) (by omega) (by omega) (by omega)
          have c1189 := (t1168.mi e1185 (by decide)).trans c1165
          have R1190 := R1188.nf (-1000) (-1000) (by rw [c1189]; omega)
          have X1191 : ExC [0, 1, 2, 60, 61, 62, 63, 64, 65, 66, 67, 68, 69, 70, 72, 73, 74, 75, 76, 180, 182, 183, 184, 185, 186, 242, 243, 244, 246, 270, 271, 272, 273, 275, 276, 277, 278, 279, 280, 330, 331, 332, 333, 334, 995, 999] σ0 σ1151 := X1144.tr (e1155.mo (by decide))
          have X1192 : ExC [0, 1, 2, 60, 61, 62, 63, 64, 65, 66, 67, 68, 69, 70, 72, 73, 74, 75, 76, 180, 182, 183, 184, 185, 186, 242, 243, 244, 246, 270, 271, 272, 273, 275, 276, 277, 278, 279, 280, 330, 331, 332, 333, 334, 995, 999] σ0 σ1183 := X1191.tr (e1185.mo (by decide))
          have c1193 := (t1168.mi e1185 (by decide)).trans c1164
          have z1194 := congrArg Int32.toInt c1193
          have z1195 := congrArg Int32.toInt c1189
          refine k_inv (P := P_X7_accept) (Q := Q_X7_accept) rfl rfl rfl rfl (Nat.le_of_ble_eq_true rfl) (t1186.rc (by decide)) ⟨_, rfl, H1184, t1186, (rd_cd.st H0 h_0_0 X1192 R1190.1 (by decide)), (R1190.2.2.2.1 rd_at), (rd_bg.stn H0 h_0_0 X1192 R1190 (by decide) (by rw [c1189]; omega) (by omega)), (by have ct := R1190.2.2.1; rw [c1189, c1193, ct]; omega)⟩ (fun w1196 σ1197 q1198 => ?_)
          obtain ⟨rfl, H1199, e1200, R1201, q1202, q1203⟩ := q1198
          have t1209 := t1186.x e1200
          obtain ⟨x1204, e1205, c1206, h1207, h1208⟩ := cg242 H1199.1 t1209
          obtain ⟨x1210, e1211, c1212, h1213, h1214⟩ := cg243 H1199.1 t1209
          have z1215 := congrArg Int32.toInt c1206
          have z1216 := congrArg Int32.toInt c1212
          refine k_st (st' := []) rfl ?_
          have R1217 : RdC p0 none (-12) (-4) (-1000) σ0 σ1197 := R1190.tr ⟨R1201.1, R1201.2⟩ (by omega) (by omega) (by omega) (by omega)
          have z1218 := R1217.2.2.1
          have z1219 := R1217.2.2.2.1 rd_at
          refine k_aload_n rfl ?_
          refine k_lconst ?_
          refine k_putL kg245 H1199 t1209 fk245 (fun σ1220 H1221 e1222 c1223 => ?_)
          refine k_aload_n rfl ?_
          refine k_aconst_null ?_
          have t1224 := t1209.x e1222
          refine k_putR kp246 H1221 t1224 fk246 (rfo246 (OtC.n)) (fun σ1225 H1226 e1227 c1228 => ?_)
          refine k_aload_n rfl ?_
          refine k_aload_n rfl ?_
          have t1229 := t1224.x e1227
          have t1230 := t1108.x e1155
          have t1231 := t1230.x e1185
          have t1232 := t1231.x e1200
          have t1233 := t1232.x e1222
          have t1234 := t1233.x e1227
          have R1235 : RdC p0 none (-12) (-4) (-1000) σ0 σ1220 := R1217.tr ⟨(e1222.gw H1199.1 (by decide)), (e1222.cou (u := 0) H1199.1 t1209 (by decide) (by rw [e1222.cn (by decide)]; omega))⟩ (by omega) (by omega) (by omega) (by omega)
          have R1236 : RdC p0 none (-12) (-4) (-1000) σ0 σ1225 := R1235.tr ⟨(e1227.gw H1221.1 (by decide)), (e1227.cou (u := 0) H1221.1 t1224 (by decide) (by rw [e1227.cn (by decide)]; omega))⟩ (by omega) (by omega) (by omega) (by omega)
          have c1237 := (t1209.mi e1222 (by decide)).trans c1212
          have c1238 := (t1224.mi e1227 (by decide)).trans c1237
          have X1239 : ExC [0, 1, 2, 60, 61, 62, 63, 64, 65, 66, 67, 68, 69, 70, 72, 73, 74, 75, 76, 180, 182, 183, 184, 185, 186, 242, 243, 244, 246, 270, 271, 272, 273, 275, 276, 277, 278, 279, 280, 330, 331, 332, 333, 334, 995, 999] σ0 σ1197 := X1192.tr (e1200.mo (by decide))
          have X1240 : ExC [0, 1, 2, 60, 61, 62, 63, 64, 65, 66, 67, 68, 69, 70, 72, 73, 74, 75, 76, 180, 182, 183, 184, 185, 186, 242, 243, 244, 246, 270, 271, 272, 273, 275, 276, 277, 278, 279, 280, 330, 331, 332, 333, 334, 995, 999] σ0 σ1220 := X1239.tr (e1222.mo (by decide))
          have X1241 : ExC [0, 1, 2, 60, 61, 62, 63, 64, 65, 66, 67, 68, 69, 70, 72, 73, 74, 75, 76, 180, 182, 183, 184, 185, 186, 242, 243, 244, 246, 270, 271, 272, 273, 275, 276, 277, 278, 279, 280, 330, 331, 332, 333, 334, 995, 999] σ0 σ1225 := X1240.tr (e1227.mo (by decide))
          have c1242 := (t1209.mi e1222 (by decide)).trans c1206
          have c1243 := (t1224.mi e1227 (by decide)).trans c1242
          have z1244 := congrArg Int32.toInt c1243
          have z1245 := congrArg Int32.toInt c1238
          have c1246 := (t1108.mi e1155 (by decide)).trans q1115
          have c1247 := (t1230.mi e1185 (by decide)).trans c1246
          have c1248 := (t1231.mi e1200 (by decide)).trans c1247
          have c1249 := (t1232.mi e1222 (by decide)).trans c1248
          have c1250 := (t1233.mi e1227 (by decide)).trans c1249
          refine k_inv (P := P_X7_readParams) (Q := Q_X7_readParams) rfl rfl rfl rfl (Nat.le_of_ble_eq_true rfl) (t1229.rc (by decide)) ⟨_, _, rfl, H1226, t1229, t1234, (rd_cd.st H0 h_0_0 X1241 R1236.1 (by decide)), (R1236.2.2.2.1 rd_at), (rd_bg.st H0 h_0_0 X1241 R1236 (by decide) (by omega) (by omega) (by omega)), (by rw [c1250]; decide)⟩ (fun w1251 σ1252 q1253 => ?_)
          obtain ⟨rfl, H1254, e1255, R1256, q1257⟩ := q1253
          have t1263 := t1229.x e1255
          obtain ⟨x1258, e1259, c1260, h1261, h1262⟩ := cg242 H1254.1 t1263
          obtain ⟨x1264, e1265, c1266, h1267, h1268⟩ := cg243 H1254.1 t1263
          have z1269 := congrArg Int32.toInt c1260
          have z1270 := congrArg Int32.toInt c1266
          refine k_st (st' := []) rfl ?_
          have R1271 : RdC p0 none (-12) (-2) (-1000) σ0 σ1252 := R1236.tr ⟨R1256.1, R1256.2⟩ (by omega) (by omega) (by omega) (by omega)
          have z1272 := R1271.2.2.1
          have z1273 := R1271.2.2.2.1 rd_at
          refine k_aload_n rfl ?_
          refine k_aload_n rfl ?_
          refine k_iconst (m := 0) rfl (fun x1274 h1275 => ?_)
          have X1276 : ExC [0, 1, 2, 60, 61, 62, 63, 64, 65, 66, 67, 68, 69, 70, 72, 73, 74, 75, 76, 180, 182, 183, 184, 185, 186, 242, 243, 244, 246, 270, 271, 272, 273, 275, 276, 277, 278, 279, 280, 330, 331, 332, 333, 334, 995, 999] σ0 σ1252 := X1241.tr (e1255.mo (by decide))
          refine k_inv (P := (P_X7_readBody 21)) (Q := (Q_X7_readBody 21)) rfl rfl rfl rfl (Nat.le_of_ble_eq_true rfl) (t1263.rc (by decide)) ⟨_, _, rfl, H1254, t1263, (by omega), (by omega), (rd_cd.st H0 h_0_0 X1276 R1271.1 (by decide)), (R1271.2.2.2.1 rd_at), (rd_bg.st H0 h_0_0 X1276 R1271 (by decide) (by omega) (by omega) (by omega)), (by omega)⟩ (fun w1277 σ1278 q1279 => ?_)
          obtain ⟨a1280, rfl, H1281, e1282, h1284, R1283, q1285, q1286, q1287, q1288⟩ := q1279
          have t1294 := t1263.x e1282
          obtain ⟨x1289, e1290, c1291, h1292, h1293⟩ := cg242 H1281.1 t1294
          obtain ⟨x1295, e1296, c1297, h1298, h1299⟩ := cg243 H1281.1 t1294
          have z1300 := congrArg Int32.toInt c1291
          have z1301 := congrArg Int32.toInt c1297
          refine k_st (st' := [.inr (.inr (some a1280)), .inr (.inr (some a1063))]) rfl ?_
          have z1302 := R1271.1.1
          obtain ⟨x1303, e1304, c1305, h1306, h1307⟩ := cg272 H1281.1 h1284
          rw [c1305] at q1286
          obtain ⟨x1308, e1309, c1310, h1311, h1312⟩ := cg270 H1281.1 h1284
          rw [c1310] at q1287
          have R1313 : RdC p0 none (-18) (174) (-998) σ0 σ1278 := R1271.tr ⟨R1283.1, R1283.2⟩ (by omega) (by omega) (by omega) (by omega)
          have z1314 := R1313.2.2.1
          have z1315 := R1313.2.2.2.1 rd_at
          have t1321 := t1234.x e1255
          have t1322 := t1321.x e1282
          refine k_p186 H1281 t1322 h1284 (by rw [c1310]; omega) (fun σ1316 H1317 e1318 g1319 c1320 => ?_)
          refine k_return ?_
          have X1323 : ExC [0, 1, 2, 60, 61, 62, 63, 64, 65, 66, 67, 68, 69, 70, 72, 73, 74, 75, 76, 180, 182, 183, 184, 185, 186, 242, 243, 244, 246, 270, 271, 272, 273, 275, 276, 277, 278, 279, 280, 330, 331, 332, 333, 334, 995, 999] σ0 σ1278 := X1276.tr (e1282.mo (by decide))
          have X1324 : ExC [0, 1, 2, 60, 61, 62, 63, 64, 65, 66, 67, 68, 69, 70, 72, 73, 74, 75, 76, 180, 182, 183, 184, 185, 186, 242, 243, 244, 246, 270, 271, 272, 273, 275, 276, 277, 278, 279, 280, 330, 331, 332, 333, 334, 995, 999] σ0 σ1316 := X1323.tr (e1318.mo (by decide))
          have R1325 : RdC p0 none (-18) (174) (-998) σ0 σ1316 := R1313.tr ⟨g1319, (e1318.cou (u := 0) H1281.1 t1294 (by decide) (by rw [e1318.cn (by decide)]; omega))⟩ (by omega) (by omega) (by omega) (by omega)
          have c1326 := (t1294.mi e1318 (by decide)).trans c1297
          have c1327 := (t1294.mi e1318 (by decide)).trans c1291
          have S1373 : ∀ s, ReC σ0 p0 s → ReC σ1316 p0 (mthY s) := by
            intro s hs
            have f1328 := q22 _ hs
            have f1329 := q37 _ hs
            have y1330 := q1006 _ hs
            have w1332 := ReC.ra y1330
            have f1333 := y1330.nm c1024 c1028 q1038
            have f1334 := q1049 _ y1330
            have f1335 := y1330.ft c1015
            have w1337 := RaC.x w1332 y1330 (Nat.le_refl _) H1002.1 t1012 e1067 (by decide)
            have y1336 := y1330.x H1002.1 t1012 e1067 (by decide)
            have f1338 := y1336.at_ c1076
            have f1339 := y1336.at_ c1076
            have f1340 := y1336.nv c1088 c1091 q1101
            have w1342 := RaC.xt w1337 y1336 (Nat.le_refl _) H1066.1 t1075 r1068 e1107 (by decide)
            have y1341 := y1336.xt H1066.1 t1075 r1068 e1107 (by decide)
            obtain ⟨w1344, w1345⟩ := RaC.ad w1342 y1341 rfl H1106.1 t1130 e1155 q1163 c1131 c1134
            have y1343 := y1341.adm (ty := (codY s - 50)) H1106.1 t1130 e1155 q1162 q1161 c1131 c1134 q1163 t1108 (by have z := y1330.2.1; omega) (fun rr hrr => by have e0 := Option.some.inj (c1125.symm.trans hrr); omega) ⟨(congrArg Int32.toInt q1114).trans (ReC.at_ y1341 c1118), (congrArg Int32.toInt q1116).trans (by first | (show x27.toInt = codY s - 50; omega) | exact (ReC.no y1341 (by decide) c1120 (by omega)).elim), by rw [q1115]; rfl⟩
            have l1346 := ReC.ml y1343
            have f1347 := y1343.at_ c1164
            have w1349 := RaC.x w1344 y1343 (Nat.le_of_lt (by rw [l1346]; exact Nat.lt_succ_self _)) H1154.1 t1168 e1185 (by decide)
            have w1350 := RbE.x w1345 y1343 (by rw [l1346]; exact Nat.lt_succ_self _) H1154.1 t1168 e1185 (by decide)
            have y1348 := y1343.x H1154.1 t1168 e1185 (by decide)
            have w1352 := RaC.x w1349 y1348 (Nat.le_of_lt (by rw [l1346]; exact Nat.lt_succ_self _)) H1184.1 t1186 e1200 (by decide)
            have w1353 := RbE.x w1350 y1348 (by rw [l1346]; exact Nat.lt_succ_self _) H1184.1 t1186 e1200 (by decide)
            have y1351 := q1203 _ y1348
            have l1355 := (ReC.ga y1351).trans l1346
            have w1357 := RaC.x w1352 y1351 (Nat.le_of_lt (by rw [l1355]; exact Nat.lt_succ_self _)) H1199.1 t1209 e1222 (by decide)
            have w1358 := RbE.x w1353 y1351 (by rw [l1355]; exact Nat.lt_succ_self _) H1199.1 t1209 e1222 (by decide)
            have y1356 := y1351.x H1199.1 t1209 e1222 (by decide)
            have w1360 := RaC.x w1357 y1356 (Nat.le_of_lt (by rw [l1355]; exact Nat.lt_succ_self _)) H1221.1 t1224 e1227 (by decide)
            have w1361 := RbE.x w1358 y1356 (by rw [l1355]; exact Nat.lt_succ_self _) H1221.1 t1224 e1227 (by decide)
            have y1359 := y1356.x H1221.1 t1224 e1227 (by decide)
            have y1364 := ReC.wx (o := a1063) y1359 (fun q hq a ha => ⟨by rw [l1355]; exact Nat.lt_succ_self _, w1361 q hq a ha, by have z := w1360 q hq a ha; rw [← q1065] at z; exact z⟩)
            have y1365 := q1257 _ y1364 ⟨_, l1355.symm, List.mem_cons_self⟩
            rw [wx_par] at y1365
            have y1362 := ReC.dr y1365 (fun x hx => List.mem_cons_of_mem _ (by rw [← zf_par]; exact hx))
            have y1366 := q1288 _ y1362
            have y1368 := y1366.x H1281.1 t1294 e1318 (by decide)
            have g1369 := rgY f1329 (q44 (by omega))
            have g1370 := ngY (k := 10) f1333 (by omega)
            have g1371 := f1334.symm.trans (h1052.trans h1051)
            have g1372 := f1335.symm.trans (show x1013.toInt = 0 from by omega)
            refine y1368.eq ?_
            all_goals try simp only [mthY, me1Y, me2Y, me3Y, g1369, g1370, g1371, g1372, or_false, false_or, or_true, true_or, and_false, false_and, and_true, true_and, not_true, not_false_iff, ↓reduceIte, Int.reduceEq, Int.reduceLE, Int.reduceLT, Int.reduceNeg]
            all_goals first | rfl | (exfalso; omega)
          exact ⟨rfl, H1317, X1324, (R1325.mo (by omega) (by omega) (by omega)), S1373⟩
        · refine k_nil ?_
          refine hB _ _ _ _ (kgoC (is := KX7_readMethod_70) rfl ?_)
          refine k_aload_n rfl ?_
          refine k_iconst (m := 3) rfl (fun x1374 h1375 => ?_)
          have R1376 := R1020.nf (-1000) (-1000) (by rw [c1015]; omega)
          refine k_inv (P := P_X7_raise) (Q := Q_X7_raise) rfl rfl rfl rfl (Nat.le_of_ble_eq_true rfl) (t1012.rc (by decide)) ⟨_, _, rfl, H1002, t1012, (by omega), (by omega), (rd_cd.st H0 h_0_0 X1041 R1376.1 (by decide)), (R1376.2.2.2.1 rd_at), (rd_bg.stn H0 h_0_0 X1041 R1376 (by decide) (by rw [c1015]; omega) (by omega))⟩ (fun w1377 σ1378 q1379 => ?_)
          obtain ⟨rfl, H1380, e1381, R1382, q1383, q1384⟩ := q1379
          have c1385 := (t1012.mi e1381 (by decide)).trans c1009
          have t1391 := t1012.x e1381
          obtain ⟨x1386, e1387, c1388, h1389, h1390⟩ := cg243 H1380.1 t1391
          have z1392 := congrArg Int32.toInt c1385
          have z1393 := congrArg Int32.toInt c1388
          refine k_st (st' := []) rfl ?_
          have h1394 : 1 ≤ x1386.toInt := by have hq := q1383; rw [c1388] at hq; omega
          refine k_nil ?_
          refine hB _ _ _ _ (kgoC (is := KX7_readMethod_75) rfl ?_)
          refine k_aload_n rfl ?_
          refine k_get kg243 t1391 (congrArg (Sum.inl : Int32 → AvC) c1388) ?_
          refine k_if_eq (fun h1395 => by exfalso; omega) (fun h1395 => ?_)
          refine k_nil ?_
          refine hB _ _ _ _ (kgoC (is := KX7_readMethod_82) rfl ?_)
          refine k_return ?_
          have X1396 : ExC [0, 1, 2, 60, 61, 62, 63, 64, 65, 66, 67, 68, 69, 70, 72, 73, 74, 75, 76, 180, 182, 183, 184, 185, 186, 242, 243, 244, 246, 270, 271, 272, 273, 275, 276, 277, 278, 279, 280, 330, 331, 332, 333, 334, 995, 999] σ0 σ1378 := X1041.tr (e1381.mo (by decide))
          have R1397 : RdC p0 none (-8) (-8) (-1000) σ0 σ1378 := R1376.tr ⟨R1382.1, R1382.2⟩ (by omega) (by omega) (by omega) (by omega)
          have S1411 : ∀ s, ReC σ0 p0 s → ReC σ1378 p0 (mthY s) := by
            intro s hs
            have f1398 := q22 _ hs
            have f1399 := q37 _ hs
            have y1400 := q1006 _ hs
            have f1402 := y1400.nm c1024 c1028 q1038
            have f1403 := q1049 _ y1400
            have y1404 := q1384 _ y1400
            rw [h1375] at y1404
            have f1406 := y1404.ft c1388
            have g1407 := rgY f1399 (q44 (by omega))
            have g1408 := lgY (k := 10) f1402 (by omega)
            have g1409 := f1403.symm.trans (h1052.trans h1051)
            have g1410 := nzY f1406 (by omega)
            refine y1404.eq ?_
            all_goals try simp only [mthY, me1Y, me2Y, me3Y, g1407, g1408, g1409, g1410, or_false, false_or, or_true, true_or, and_false, false_and, and_true, true_and, not_true, not_false_iff, ↓reduceIte, Int.reduceEq, Int.reduceLE, Int.reduceLT, Int.reduceNeg]
            all_goals first | rfl | (exfalso; omega)
          exact ⟨rfl, H1380, X1396, ((R1397.ft (0) (by rw [c1388]; omega)).mo (by omega) (by omega) (by omega)), S1411⟩
      · refine k_nil ?_
        refine hB _ _ _ _ (kgoC (is := KX7_readMethod_56) rfl ?_)
        refine k_aload_n rfl ?_
        refine k_iconst (m := 2) rfl (fun x1412 h1413 => ?_)
        refine k_inv (P := P_X7_raise) (Q := Q_X7_raise) rfl rfl rfl rfl (Nat.le_of_ble_eq_true rfl) (t1012.rc (by decide)) ⟨_, _, rfl, H1002, t1012, (by omega), (by omega), (rd_cd.st H0 h_0_0 X1041 R1020.1 (by decide)), (R1020.2.2.2.1 rd_at), (rd_bg.st H0 h_0_0 X1041 R1020 (by decide) (by omega) (by omega) (by omega))⟩ (fun w1414 σ1415 q1416 => ?_)
        obtain ⟨rfl, H1417, e1418, R1419, q1420, q1421⟩ := q1416
        have c1422 := (t1012.mi e1418 (by decide)).trans c1009
        have t1428 := t1012.x e1418
        obtain ⟨x1423, e1424, c1425, h1426, h1427⟩ := cg243 H1417.1 t1428
        have z1429 := congrArg Int32.toInt c1422
        have z1430 := congrArg Int32.toInt c1425
        refine k_st (st' := []) rfl ?_
        have h1431 : 1 ≤ x1423.toInt := by have hq := q1420; rw [c1425] at hq; omega
        refine k_goto ?_
        refine hB _ _ _ _ (kgoC (is := KX7_readMethod_75) rfl ?_)
        refine k_aload_n rfl ?_
        refine k_get kg243 t1428 (congrArg (Sum.inl : Int32 → AvC) c1425) ?_
        refine k_if_eq (fun h1432 => by exfalso; omega) (fun h1432 => ?_)
        refine k_nil ?_
        refine hB _ _ _ _ (kgoC (is := KX7_readMethod_82) rfl ?_)
        refine k_return ?_
        have X1433 : ExC [0, 1, 2, 60, 61, 62, 63, 64, 65, 66, 67, 68, 69, 70, 72, 73, 74, 75, 76, 180, 182, 183, 184, 185, 186, 242, 243, 244, 246, 270, 271, 272, 273, 275, 276, 277, 278, 279, 280, 330, 331, 332, 333, 334, 995, 999] σ0 σ1415 := X1041.tr (e1418.mo (by decide))
        have R1434 : RdC p0 none (-8) (0) (-1000) σ0 σ1415 := R1020.tr ⟨R1419.1, R1419.2⟩ (by omega) (by omega) (by omega) (by omega)
        have S1447 : ∀ s, ReC σ0 p0 s → ReC σ1415 p0 (mthY s) := by
          intro s hs
          have f1435 := q22 _ hs
          have f1436 := q37 _ hs
          have y1437 := q1006 _ hs
          have f1439 := y1437.nm c1024 c1028 q1038
          have f1440 := q1049 _ y1437
          have y1441 := q1421 _ y1437
          rw [h1413] at y1441
          have f1443 := y1441.ft c1425
          have g1444 := rgY f1436 (q44 (by omega))
          have g1445 := neY f1440 h1052 h1051
          have g1446 := nzY f1443 (by omega)
          refine y1441.eq ?_
          all_goals try simp only [mthY, me1Y, me2Y, me3Y, g1444, g1445, g1446, or_false, false_or, or_true, true_or, and_false, false_and, and_true, true_and, not_true, not_false_iff, ↓reduceIte, Int.reduceEq, Int.reduceLE, Int.reduceLT, Int.reduceNeg]
          all_goals first | rfl | (exfalso; omega)
        exact ⟨rfl, H1417, X1433, ((R1434.ft (0) (by rw [c1425]; omega)).mo (by omega) (by omega) (by omega)), S1447⟩
theorem lg_X7_readMethod : ∀ (As : List AvC) (σ : CsC), P_X7_readMethod As σ → lgC As ≤ rX7_readMethod.2.2.1 := by
  rintro As σ ⟨p0, rfl, -⟩
  exact Nat.le_of_ble_eq_true rfl
theorem m_X7_readMethod (l : Launch) : CMetC l 312 134 P_X7_readMethod Q_X7_readMethod :=
  CMetC.of KX7_readMethod [(125, P_X7_code, Q_X7_code), (132, P_X7_isType, Q_X7_isType), (128, P_X7_accept, Q_X7_accept), (234, P_Jx4a65c_size_8abf5, Q_Jx4a65c_size_8abf5), (111, P_X5_init, Q_X5_init), (236, P_Jx4a65c_add_9ea2d, Q_Jx4a65c_add_9ea2d), (135, P_X7_readParams, Q_X7_readParams), (143, (P_X7_readBody 21), (Q_X7_readBody 21)), (127, P_X7_raise, Q_X7_raise)] hX7_readMethod (by decide) (by decide) okX7_readMethod (cc1C (m_X7_code l) (by decide) (cc1C (m_X7_isType l) (by decide) (cc1C (m_X7_accept l) (by decide) (cc1C (m_Jx4a65c_size_8abf5 l) (by decide) (cc1C (m_X5_init l) (by decide) (cc1C (m_Jx4a65c_add_9ea2d l) (by decide) (cc1C (m_X7_readParams l) (by decide) (cc1C (m_X7_readBody l 21) (by decide) (cc1C (m_X7_raise l) (by decide) cc0C))))))))) (lg_X7_readMethod) (b_X7_readMethod)
