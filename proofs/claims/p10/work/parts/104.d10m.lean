abbrev P_X7_readMethod : CpC := fun As σ => ∃ (p0 : Nat), As = [.inr (.inr (some p0))] ∧ HIC σ ∧ TyC σ p0 8 ∧ CdC σ p0 ∧ (fIC σ p0 242).toInt ≤ CtC σ p0 ∧ RmC σ p0 (8 * (501 - (fIC σ p0 242).toInt) + (200)) ∧ (fIC σ p0 243).toInt = 0
abbrev Q_X7_readMethod : CqC := fun As σ w τ => match As with
  | [.inr (.inr (some p0))] => w = none ∧ HIC τ ∧ ExC [0, 1, 2, 60, 61, 62, 63, 64, 65, 66, 67, 68, 69, 70, 72, 73, 74, 75, 76, 180, 182, 183, 184, 185, 186, 242, 243, 244, 246, 270, 271, 272, 273, 275, 276, 277, 278, 279, 280, 330, 331, 332, 333, 334, 999] σ τ ∧ RdC p0 none (0) (200) (0) σ τ ∧ (∀ s, ReC σ p0 s → ReC τ p0 (mthY s))
  | _ => False
set_option maxRecDepth 100000 in
set_option maxHeartbeats 4000000 in
theorem b_X7_readMethod : TbC KX7_readMethod [(125, P_X7_code, Q_X7_code), (132, P_X7_isType, Q_X7_isType), (128, P_X7_accept, Q_X7_accept), (234, P_Jx4a65c_size_8abf5, Q_Jx4a65c_size_8abf5), (111, P_X5_init, Q_X5_init), (236, P_Jx4a65c_add_9ea2d, Q_Jx4a65c_add_9ea2d), (135, P_X7_readParams, Q_X7_readParams), (143, (P_X7_readBody 21), (Q_X7_readBody 21)), (127, P_X7_raise, Q_X7_raise)] P_X7_readMethod Q_X7_readMethod := by
  · rintro As σ0 ⟨p0, rfl, H0, h_0_0, rd_cd, rd_at, rd_bl, rd_lv⟩ hgr G hB hW
    change G 0 [(0, .inr (.inr (some p0)))] [] σ0
    obtain ⟨x1, e2, c3, h4, h5⟩ := cg242 H0.1 h_0_0
    obtain ⟨x6, e7, c8, h9, h10⟩ := cg243 H0.1 h_0_0
    have z11 := congrArg Int32.toInt c3
    have z12 := congrArg Int32.toInt c8
    have h13 : x6.toInt = 0 := by rw [← c8]; exact rd_lv
    have rd_bg : BgC σ0 p0 (200) 1000000 := ⟨fun _ => rd_bl, fun z => absurd rd_lv z⟩
    refine hB _ _ _ _ (kgoC (is := KX7_readMethod_0) rfl ?_)
    refine k_aload_n rfl ?_
    have R14 := (RdC.rf : RdC p0 none 0 0 0 σ0 σ0).nf (-1000) (-1000) (by rw [c8]; omega)
    refine k_inv (P := P_X7_code) (Q := Q_X7_code) rfl rfl rfl rfl (Nat.le_of_ble_eq_true rfl) (h_0_0.rc (by decide)) ⟨_, rfl, H0, h_0_0, (rd_cd.st H0 h_0_0 (ExC.rf : ExC [0, 1, 2, 60, 61, 62, 63, 64, 65, 66, 67, 68, 69, 70, 72, 73, 74, 75, 76, 180, 182, 183, 184, 185, 186, 242, 243, 244, 246, 270, 271, 272, 273, 275, 276, 277, 278, 279, 280, 330, 331, 332, 333, 334, 999] σ0 σ0) R14.1 (by decide))⟩ (fun w15 σ16 q17 => ?_)
    obtain ⟨x18, rfl, rfl, q19, q20, q21, q22⟩ := q17
    refine k_st (st' := [.inl x18]) rfl ?_
    have z23 := R14.2.2.1
    have z24 := R14.2.2.2.1 rd_at
    refine k_bipush (m := 50) rfl (fun x25 h26 => ?_)
    have z29 := tiC x18
    refine k_isub_w (fun x27 h28 => ?_)
    refine k_istore_n (ls' := [(1, .inl x27), (0, .inr (.inr (some p0)))]) rfl ?_
    refine k_aload_n rfl ?_
    refine k_inv (P := P_X7_code) (Q := Q_X7_code) rfl rfl rfl rfl (Nat.le_of_ble_eq_true rfl) (h_0_0.rc (by decide)) ⟨_, rfl, H0, h_0_0, (rd_cd.st H0 h_0_0 (ExC.rf : ExC [0, 1, 2, 60, 61, 62, 63, 64, 65, 66, 67, 68, 69, 70, 72, 73, 74, 75, 76, 180, 182, 183, 184, 185, 186, 242, 243, 244, 246, 270, 271, 272, 273, 275, 276, 277, 278, 279, 280, 330, 331, 332, 333, 334, 999] σ0 σ0) R14.1 (by decide))⟩ (fun w30 σ31 q32 => ?_)
    obtain ⟨x33, rfl, rfl, q34, q35, q36, q37⟩ := q32
    refine k_st (st' := [.inl x33]) rfl ?_
    refine k_stat (P := P_X7_isType) (Q := Q_X7_isType) rfl rfl (Nat.le_of_ble_eq_true rfl) rfl rfl (Nat.le_of_ble_eq_true rfl) ⟨_, rfl, H0⟩ (fun w38 σ39 q40 => ?_)
    obtain ⟨x41, rfl, rfl, h42, h43, q44, q45⟩ := q40
    refine k_st (st' := [.inl x41]) rfl ?_
    rcases (by omega : x41.toInt = 0 ∨ x41.toInt = 1) with g46 | g46
    · refine k_if_ne (fun h47 => by exfalso; omega) (fun h47 => ?_)
      refine k_nil ?_
      refine hB _ _ _ _ (kgoC (is := KX7_readMethod_18) rfl ?_)
      refine k_aload_n rfl ?_
      refine k_inv (P := P_X7_code) (Q := Q_X7_code) rfl rfl rfl rfl (Nat.le_of_ble_eq_true rfl) (h_0_0.rc (by decide)) ⟨_, rfl, H0, h_0_0, (rd_cd.st H0 h_0_0 (ExC.rf : ExC [0, 1, 2, 60, 61, 62, 63, 64, 65, 66, 67, 68, 69, 70, 72, 73, 74, 75, 76, 180, 182, 183, 184, 185, 186, 242, 243, 244, 246, 270, 271, 272, 273, 275, 276, 277, 278, 279, 280, 330, 331, 332, 333, 334, 999] σ0 σ0) R14.1 (by decide))⟩ (fun w48 σ49 q50 => ?_)
      obtain ⟨x51, rfl, rfl, q52, q53, q54, q55⟩ := q50
      refine k_st (st' := [.inl x51]) rfl ?_
      refine k_bipush (m := 55) rfl (fun x56 h57 => ?_)
      refine k_ic_eq (fun h58 => ?_) (fun h58 => ?_)
      · refine hB _ _ _ _ (kgoC (is := KX7_readMethod_32) rfl ?_)
        refine k_aload_n rfl ?_
        refine k_inv (P := P_X7_accept) (Q := Q_X7_accept) rfl rfl rfl rfl (Nat.le_of_ble_eq_true rfl) (h_0_0.rc (by decide)) ⟨_, rfl, H0, h_0_0, (rd_cd.st H0 h_0_0 (ExC.rf : ExC [0, 1, 2, 60, 61, 62, 63, 64, 65, 66, 67, 68, 69, 70, 72, 73, 74, 75, 76, 180, 182, 183, 184, 185, 186, 242, 243, 244, 246, 270, 271, 272, 273, 275, 276, 277, 278, 279, 280, 330, 331, 332, 333, 334, 999] σ0 σ0) R14.1 (by decide)), (R14.2.2.2.1 rd_at), (rd_bg.stn H0 h_0_0 (ExC.rf : ExC [0, 1, 2, 60, 61, 62, 63, 64, 65, 66, 67, 68, 69, 70, 72, 73, 74, 75, 76, 180, 182, 183, 184, 185, 186, 242, 243, 244, 246, 270, 271, 272, 273, 275, 276, 277, 278, 279, 280, 330, 331, 332, 333, 334, 999] σ0 σ0) R14 (by decide) (by rw [c8]; omega) (by omega)), (by have ct := R14.2.2.1; rw [c8, c3, ct]; omega)⟩ (fun w59 σ60 q61 => ?_)
        obtain ⟨rfl, H62, e63, R64, q65, q66⟩ := q61
        have t72 := h_0_0.x e63
        obtain ⟨x67, e68, c69, h70, h71⟩ := cg242 H62.1 t72
        obtain ⟨x73, e74, c75, h76, h77⟩ := cg243 H62.1 t72
        have z78 := congrArg Int32.toInt c69
        have z79 := congrArg Int32.toInt c75
        refine k_st (st' := []) rfl ?_
        have R80 : RdC p0 none (-8) (0) (-1000) σ0 σ60 := R14.tr ⟨R64.1, R64.2⟩ (by omega) (by omega) (by omega) (by omega)
        have z81 := R80.2.2.1
        have z82 := R80.2.2.2.1 rd_at
        refine k_aload_n rfl ?_
        obtain ⟨a85, e83, c84, t86⟩ := cg240 H62.1 t72
        refine k_get kg240 t72 e83 ?_
        obtain ⟨a89, e87, c88, t90, l91⟩ := cg211 H62.1 t86
        refine k_get kg211 t86 e87 ?_
        refine k_inv (P := P_Jx4a65c_size_8abf5) (Q := Q_Jx4a65c_size_8abf5) rfl rfl rfl rfl (Nat.le_of_ble_eq_true rfl) (t90.rc (by decide)) ⟨_, rfl, H62, t90⟩ (fun w92 σ93 q94 => ?_)
        obtain ⟨x95, rfl, rfl, h96, h97, q98, q99⟩ := q94
        refine k_st (st' := [.inl x95]) rfl ?_
        have z100 := q99 l91
        refine k_istore_n (ls' := [(2, .inl x95), (1, .inl x27), (0, .inr (.inr (some p0)))]) rfl ?_
        refine k_aload_n rfl ?_
        have X101 : ExC [0, 1, 2, 60, 61, 62, 63, 64, 65, 66, 67, 68, 69, 70, 72, 73, 74, 75, 76, 180, 182, 183, 184, 185, 186, 242, 243, 244, 246, 270, 271, 272, 273, 275, 276, 277, 278, 279, 280, 330, 331, 332, 333, 334, 999] σ0 σ60 := ExC.rf.tr (e63.mo (by decide))
        refine k_inv (P := P_X7_code) (Q := Q_X7_code) rfl rfl rfl rfl (Nat.le_of_ble_eq_true rfl) (t72.rc (by decide)) ⟨_, rfl, H62, t72, (rd_cd.st H0 h_0_0 X101 R80.1 (by decide))⟩ (fun w102 σ103 q104 => ?_)
        obtain ⟨x105, rfl, rfl, q106, q107, q108, q109⟩ := q104
        refine k_st (st' := [.inl x105]) rfl ?_
        refine k_bipush (m := 80) rfl (fun x110 h111 => ?_)
        refine k_ic_eq (fun h112 => ?_) (fun h112 => ?_)
        · have h113 : x73.toInt = 0 := by omega
          refine hB _ _ _ _ (kgoC (is := KX7_readMethod_64) rfl ?_)
          refine k_iload_n rfl ?_
          refine k_bipush (m := 10) rfl (fun x114 h115 => ?_)
          refine k_ic_lt (fun h116 => ?_) (fun h116 => ?_)
          · refine hB _ _ _ _ (kgoC (is := KX7_readMethod_75) rfl ?_)
            refine k_aload_n rfl ?_
            refine k_get kg243 t72 (congrArg (Sum.inl : Int32 → AvC) c75) ?_
            refine k_if_eq (fun h117 => ?_) (fun h117 => by exfalso; omega)
            refine hB _ _ _ _ (kgoC (is := KX7_readMethod_83) rfl ?_)
            have R118 := R80.nf (-1000) (-1000) (by rw [c75]; omega)
            have B119 : BgC σ60 p0 3 3 := rd_bg.stn H0 h_0_0 X101 R118 (by decide) (by rw [c75]; omega) (by omega)
            obtain ⟨h120, h121⟩ := B119.new H62.1 t72 (u := 3) (by omega) (by omega)
            have z122 := R118.1.1
            refine k_new (c := 6) (g := 0) H62 (by decide) rfl (by omega) (by have hn : nfC 6 = 7 := rfl; omega) (fun a123 σ124 q125 H126 e127 r128 z129 l130 u131 u132 => ?_)
            rw [show nfC 6 = 7 from rfl] at u132
            have u133 : cpC σ124 = cpC σ60 := congrArg Prod.fst e127.2.1.1
            have u134 : spC σ124 = spC σ60 := congrArg Prod.snd e127.2.1.1
            refine k_dupR ?_
            refine k_aload_n rfl ?_
            have t135 := t72.x e127
            have c136 := (t72.mi e127 (by decide)).trans c69
            refine k_get kg242 t135 (congrArg (Sum.inl : Int32 → AvC) c136) ?_
            refine k_aload_n rfl ?_
            obtain ⟨a139, e137, c138, t140⟩ := cg241 H126.1 t135
            refine k_get kg241 t135 e137 ?_
            obtain ⟨a143, e141, c142, t144, l145, l146⟩ := cg304 H126.1 t140
            refine k_get kg304 t140 e141 ?_
            refine k_aload_n rfl ?_
            refine k_get kg242 t135 (congrArg (Sum.inl : Int32 → AvC) c136) ?_
            refine k_laload t144 (by omega) (by omega) (fun y147 => ?_)
            refine k_iload_n rfl ?_
            refine k_aload_n rfl ?_
            have c148 := (t72.mr e127 (by decide)).trans c84
            refine k_get kg240 t135 (congrArg (fun z : Option Nat => (Sum.inr (Sum.inr z) : AvC)) c148) ?_
            have t149 := t86.x e127
            obtain ⟨a152, e150, c151, t153, l154⟩ := cg212 H126.1 t149
            refine k_get kg212 t149 e150 ?_
            refine k_inv (P := P_Jx4a65c_size_8abf5) (Q := Q_Jx4a65c_size_8abf5) rfl rfl rfl rfl (Nat.le_of_ble_eq_true rfl) (t153.rc (by decide)) ⟨_, rfl, H126, t153⟩ (fun w155 σ156 q157 => ?_)
            obtain ⟨x158, rfl, rfl, h159, h160, q161, q162⟩ := q157
            refine k_st (st' := [.inl x158, .inl x27, .inr (.inl y147), .inl x67, .inr (.inr (some a123)), .inr (.inr (some a123))]) rfl ?_
            refine k_spec (P := P_X5_init) (Q := Q_X5_init) rfl rfl rfl rfl (Nat.le_of_ble_eq_true rfl) ⟨_, _, _, _, _, rfl, H126, r128, z129, (by omega), (by omega), (by omega), (by omega)⟩ (fun w163 σ164 q165 => ?_)
            obtain ⟨rfl, H166, e167, t168, l169, u170, u171, g172, q174, q175⟩ := q165
            have l173 := l169.trans l130
            have c176 := (t135.mit r128 (by decide) e167 (by decide)).trans c136
            have c177 := (t72.mi e127 (by decide)).trans c75
            have c178 := (t135.mit r128 (by decide) e167 (by decide)).trans c177
            have z179 := congrArg Int32.toInt c176
            have z180 := congrArg Int32.toInt c178
            refine k_st (st' := [.inr (.inr (some a123))]) rfl ?_
            refine k_astore_n (ls' := [(3, .inr (.inr (some a123))), (2, .inl x95), (1, .inl x27), (0, .inr (.inr (some p0)))]) rfl ?_
            refine k_aload_n rfl ?_
            have t181 := t135.xt r128 (by decide) e167
            have c182 := (t135.mrt r128 (by decide) e167 (by decide)).trans c148
            refine k_get kg240 t181 (congrArg (fun z : Option Nat => (Sum.inr (Sum.inr z) : AvC)) c182) ?_
            have t183 := t149.xt r128 (by decide) e167
            have c184 := (t86.mr e127 (by decide)).trans c88
            have c185 := (t149.mrt r128 (by decide) e167 (by decide)).trans c184
            refine k_get kg211 t183 (congrArg (fun z : Option Nat => (Sum.inr (Sum.inr z) : AvC)) c185) ?_
            refine k_aload_n rfl ?_
            have t186 := t90.x e127
            have t187 := t186.xt r128 (by decide) e167
            have l188 := (t90.gh e127).trans l91
            have l189 := (t186.ght r128 (by decide) e167).trans l188
            have R190 : RdC p0 none (-7) (-7) (-999) σ0 σ124 := R118.tr ⟨(e127.gwn H62.1 u131 u132 (by decide) (by rw [← q125]; exact r128.n0)), (e127.cou (u := 1) H62.1 t72 (by decide) (by omega))⟩ (by omega) (by omega) (by omega) (by omega)
            have R191 : RdC p0 none (-5) (-5) (-997) σ0 σ164 := R190.tr ⟨g172, (e167.co (u := 2) H126.1 t135 r128 (by decide) (by omega))⟩ (by omega) (by omega) (by omega) (by omega)
            have R192 := R191.nf (-1000) (-1000) (by rw [c178]; omega)
            have X193 : ExC [0, 1, 2, 60, 61, 62, 63, 64, 65, 66, 67, 68, 69, 70, 72, 73, 74, 75, 76, 180, 182, 183, 184, 185, 186, 242, 243, 244, 246, 270, 271, 272, 273, 275, 276, 277, 278, 279, 280, 330, 331, 332, 333, 334, 999] σ60 σ124 := ExC.rf.tr (e127.mo (by decide))
            have X194 : ExC [0, 1, 2, 60, 61, 62, 63, 64, 65, 66, 67, 68, 69, 70, 72, 73, 74, 75, 76, 180, 182, 183, 184, 185, 186, 242, 243, 244, 246, 270, 271, 272, 273, 275, 276, 277, 278, 279, 280, 330, 331, 332, 333, 334, 999] σ60 σ164 := (X193 : ExC [0, 1, 2, 60, 61, 62, 63, 64, 65, 66, 67, 68, 69, 70, 72, 73, 74, 75, 76, 180, 182, 183, 184, 185, 186, 242, 243, 244, 246, 270, 271, 272, 273, 275, 276, 277, 278, 279, 280, 330, 331, 332, 333, 334, 999] σ60 σ124).nt (Nat.le_of_eq q125.symm) (e167.mo (by decide))
            have X195 : ExC [0, 1, 2, 60, 61, 62, 63, 64, 65, 66, 67, 68, 69, 70, 72, 73, 74, 75, 76, 180, 182, 183, 184, 185, 186, 242, 243, 244, 246, 270, 271, 272, 273, 275, 276, 277, 278, 279, 280, 330, 331, 332, 333, 334, 999] σ0 σ164 := X101.tr X194
            have B196 : BgC σ164 p0 1 1 := rd_bg.stn H0 h_0_0 X195 R192 (by decide) (by rw [c178]; omega) (by omega)
            obtain ⟨h197, h198⟩ := B196.new H166.1 t181 (u := 1) (by omega) (by omega)
            have c199 := (t90.mi e127 (by decide)).trans q98
            have c200 := (t186.mit r128 (by decide) e167 (by decide)).trans c199
            refine k_inv (P := P_Jx4a65c_add_9ea2d) (Q := Q_Jx4a65c_add_9ea2d) rfl rfl rfl rfl (Nat.le_of_ble_eq_true rfl) (t187.rc (by decide)) ⟨_, _, rfl, H166, t187, (by rw [l189]; exact ⟨t168, by decide, fun hz => by rw [q174]; omega⟩), (B196.sz H166.1 t181 (by omega) (by omega) c182 (by decide) c185), h197, (by omega), (fun _ => by rw [c200] <;> omega)⟩ (fun w201 σ202 q203 => ?_)
            obtain ⟨x204, rfl, H205, e206, h208, h209, g207, q210, q211, q212, q213, q214⟩ := q203
            have c215 := (t181.mi e206 (by decide)).trans c176
            have c216 := (t181.mi e206 (by decide)).trans c178
            have z217 := congrArg Int32.toInt c215
            have z218 := congrArg Int32.toInt c216
            refine k_st (st' := [.inl x204]) rfl ?_
            refine k_popI ?_
            refine k_aload_n rfl ?_
            have t219 := t181.x e206
            have c220 := (t135.mrt r128 (by decide) e167 (by decide)).trans c138
            have c221 := (t181.mr e206 (by decide)).trans c220
            refine k_get kg241 t219 (congrArg (fun z : Option Nat => (Sum.inr (Sum.inr z) : AvC)) c221) ?_
            have t222 := t140.xt r128 (by decide) e167
            have t223 := t222.x e206
            obtain ⟨a226, e224, c225, t227, l228, l229⟩ := cg303 H205.1 t223
            refine k_get kg303 t223 e224 ?_
            refine k_aload_n rfl ?_
            refine k_get kg242 t219 (congrArg (Sum.inl : Int32 → AvC) c215) ?_
            refine k_bipush (m := 100) rfl (fun x230 h231 => ?_)
            refine k_iload_n rfl ?_
            refine k_iadd (by omega) (by omega) (fun x232 h233 => ?_)
            refine k_iastore H205 t227 l229 (by omega) (by omega) (fun σ234 H235 e236 => ?_)
            refine k_aload_n rfl ?_
            have t237 := t219.x e236
            have R238 : RdC p0 none (-4) (-4) (-999) σ0 σ202 := R192.tr ⟨g207, (e206.cou2 (u := 1) H166.1 t181 (by decide) (by omega) q211)⟩ (by omega) (by omega) (by omega) (by omega)
            have R239 : RdC p0 none (-4) (-4) (-999) σ0 σ234 := R238.tr ⟨(e236.gw H205.1 (by decide)), (e236.cou (u := 0) H205.1 t219 (by decide) (by rw [e236.cn (by decide)]; omega))⟩ (by omega) (by omega) (by omega) (by omega)
            have c240 := (t219.mi e236 (by decide)).trans c216
            have R241 := R239.nf (-1000) (-1000) (by rw [c240]; omega)
            have X242 : ExC [0, 1, 2, 60, 61, 62, 63, 64, 65, 66, 67, 68, 69, 70, 72, 73, 74, 75, 76, 180, 182, 183, 184, 185, 186, 242, 243, 244, 246, 270, 271, 272, 273, 275, 276, 277, 278, 279, 280, 330, 331, 332, 333, 334, 999] σ0 σ202 := X195.tr (e206.mo (by decide))
            have X243 : ExC [0, 1, 2, 60, 61, 62, 63, 64, 65, 66, 67, 68, 69, 70, 72, 73, 74, 75, 76, 180, 182, 183, 184, 185, 186, 242, 243, 244, 246, 270, 271, 272, 273, 275, 276, 277, 278, 279, 280, 330, 331, 332, 333, 334, 999] σ0 σ234 := X242.tr (e236.mo (by decide))
            have c244 := (t219.mi e236 (by decide)).trans c215
            have z245 := congrArg Int32.toInt c244
            have z246 := congrArg Int32.toInt c240
            refine k_inv (P := P_X7_accept) (Q := Q_X7_accept) rfl rfl rfl rfl (Nat.le_of_ble_eq_true rfl) (t237.rc (by decide)) ⟨_, rfl, H235, t237, (rd_cd.st H0 h_0_0 X243 R241.1 (by decide)), (R241.2.2.2.1 rd_at), (rd_bg.stn H0 h_0_0 X243 R241 (by decide) (by rw [c240]; omega) (by omega)), (by have ct := R241.2.2.1; rw [c240, c244, ct]; omega)⟩ (fun w247 σ248 q249 => ?_)
            obtain ⟨rfl, H250, e251, R252, q253, q254⟩ := q249
            have t260 := t237.x e251
            obtain ⟨x255, e256, c257, h258, h259⟩ := cg242 H250.1 t260
            obtain ⟨x261, e262, c263, h264, h265⟩ := cg243 H250.1 t260
            have z266 := congrArg Int32.toInt c257
            have z267 := congrArg Int32.toInt c263
            refine k_st (st' := []) rfl ?_
            have R268 : RdC p0 none (-12) (-4) (-1000) σ0 σ248 := R241.tr ⟨R252.1, R252.2⟩ (by omega) (by omega) (by omega) (by omega)
            have z269 := R268.2.2.1
            have z270 := R268.2.2.2.1 rd_at
            refine k_aload_n rfl ?_
            refine k_lconst ?_
            refine k_putL kg245 H250 t260 fk245 (fun σ271 H272 e273 c274 => ?_)
            refine k_aload_n rfl ?_
            refine k_aconst_null ?_
            have t275 := t260.x e273
            refine k_putR kp246 H272 t275 fk246 (rfo246 (OtC.n)) (fun σ276 H277 e278 c279 => ?_)
            refine k_aload_n rfl ?_
            refine k_aload_n rfl ?_
            have t280 := t275.x e278
            have t281 := t168.x e206
            have t282 := t281.x e236
            have t283 := t282.x e251
            have t284 := t283.x e273
            have t285 := t284.x e278
            have R286 : RdC p0 none (-12) (-4) (-1000) σ0 σ271 := R268.tr ⟨(e273.gw H250.1 (by decide)), (e273.cou (u := 0) H250.1 t260 (by decide) (by rw [e273.cn (by decide)]; omega))⟩ (by omega) (by omega) (by omega) (by omega)
            have R287 : RdC p0 none (-12) (-4) (-1000) σ0 σ276 := R286.tr ⟨(e278.gw H272.1 (by decide)), (e278.cou (u := 0) H272.1 t275 (by decide) (by rw [e278.cn (by decide)]; omega))⟩ (by omega) (by omega) (by omega) (by omega)
            have c288 := (t260.mi e273 (by decide)).trans c263
            have c289 := (t275.mi e278 (by decide)).trans c288
            have X290 : ExC [0, 1, 2, 60, 61, 62, 63, 64, 65, 66, 67, 68, 69, 70, 72, 73, 74, 75, 76, 180, 182, 183, 184, 185, 186, 242, 243, 244, 246, 270, 271, 272, 273, 275, 276, 277, 278, 279, 280, 330, 331, 332, 333, 334, 999] σ0 σ248 := X243.tr (e251.mo (by decide))
            have X291 : ExC [0, 1, 2, 60, 61, 62, 63, 64, 65, 66, 67, 68, 69, 70, 72, 73, 74, 75, 76, 180, 182, 183, 184, 185, 186, 242, 243, 244, 246, 270, 271, 272, 273, 275, 276, 277, 278, 279, 280, 330, 331, 332, 333, 334, 999] σ0 σ271 := X290.tr (e273.mo (by decide))
            have X292 : ExC [0, 1, 2, 60, 61, 62, 63, 64, 65, 66, 67, 68, 69, 70, 72, 73, 74, 75, 76, 180, 182, 183, 184, 185, 186, 242, 243, 244, 246, 270, 271, 272, 273, 275, 276, 277, 278, 279, 280, 330, 331, 332, 333, 334, 999] σ0 σ276 := X291.tr (e278.mo (by decide))
            have c293 := (t260.mi e273 (by decide)).trans c257
            have c294 := (t275.mi e278 (by decide)).trans c293
            have z295 := congrArg Int32.toInt c294
            have z296 := congrArg Int32.toInt c289
            have c297 := (t168.mi e206 (by decide)).trans q175
            have c298 := (t281.mi e236 (by decide)).trans c297
            have c299 := (t282.mi e251 (by decide)).trans c298
            have c300 := (t283.mi e273 (by decide)).trans c299
            have c301 := (t284.mi e278 (by decide)).trans c300
            refine k_inv (P := P_X7_readParams) (Q := Q_X7_readParams) rfl rfl rfl rfl (Nat.le_of_ble_eq_true rfl) (t280.rc (by decide)) ⟨_, _, rfl, H277, t280, t285, (rd_cd.st H0 h_0_0 X292 R287.1 (by decide)), (R287.2.2.2.1 rd_at), (rd_bg.st H0 h_0_0 X292 R287 (by decide) (by omega) (by omega) (by omega)), (by rw [c301]; decide)⟩ (fun w302 σ303 q304 => ?_)
            obtain ⟨rfl, H305, e306, R307, q308⟩ := q304
            have t314 := t280.x e306
            obtain ⟨x309, e310, c311, h312, h313⟩ := cg242 H305.1 t314
            obtain ⟨x315, e316, c317, h318, h319⟩ := cg243 H305.1 t314
            have z320 := congrArg Int32.toInt c311
            have z321 := congrArg Int32.toInt c317
            refine k_st (st' := []) rfl ?_
            have R322 : RdC p0 none (-12) (-2) (-1000) σ0 σ303 := R287.tr ⟨R307.1, R307.2⟩ (by omega) (by omega) (by omega) (by omega)
            have z323 := R322.2.2.1
            have z324 := R322.2.2.2.1 rd_at
            refine k_aload_n rfl ?_
            refine k_aload_n rfl ?_
            refine k_iconst (m := 0) rfl (fun x325 h326 => ?_)
            have X327 : ExC [0, 1, 2, 60, 61, 62, 63, 64, 65, 66, 67, 68, 69, 70, 72, 73, 74, 75, 76, 180, 182, 183, 184, 185, 186, 242, 243, 244, 246, 270, 271, 272, 273, 275, 276, 277, 278, 279, 280, 330, 331, 332, 333, 334, 999] σ0 σ303 := X292.tr (e306.mo (by decide))
            refine k_inv (P := (P_X7_readBody 21)) (Q := (Q_X7_readBody 21)) rfl rfl rfl rfl (Nat.le_of_ble_eq_true rfl) (t314.rc (by decide)) ⟨_, _, rfl, H305, t314, (by omega), (by omega), (rd_cd.st H0 h_0_0 X327 R322.1 (by decide)), (R322.2.2.2.1 rd_at), (rd_bg.st H0 h_0_0 X327 R322 (by decide) (by omega) (by omega) (by omega)), (by omega)⟩ (fun w328 σ329 q330 => ?_)
            obtain ⟨a331, rfl, H332, e333, h335, R334, q336, q337, q338, q339⟩ := q330
            have t345 := t314.x e333
            obtain ⟨x340, e341, c342, h343, h344⟩ := cg242 H332.1 t345
            obtain ⟨x346, e347, c348, h349, h350⟩ := cg243 H332.1 t345
            have z351 := congrArg Int32.toInt c342
            have z352 := congrArg Int32.toInt c348
            refine k_st (st' := [.inr (.inr (some a331)), .inr (.inr (some a123))]) rfl ?_
            have z353 := R322.1.1
            obtain ⟨x354, e355, c356, h357, h358⟩ := cg272 H332.1 h335
            rw [c356] at q337
            obtain ⟨x359, e360, c361, h362, h363⟩ := cg270 H332.1 h335
            rw [c361] at q338
            have R364 : RdC p0 none (-18) (174) (-998) σ0 σ329 := R322.tr ⟨R334.1, R334.2⟩ (by omega) (by omega) (by omega) (by omega)
            have z365 := R364.2.2.1
            have z366 := R364.2.2.2.1 rd_at
            have t372 := t285.x e306
            have t373 := t372.x e333
            refine k_p186 H332 t373 h335 (by rw [c361]; omega) (fun σ367 H368 e369 g370 c371 => ?_)
            refine k_return ?_
            have X374 : ExC [0, 1, 2, 60, 61, 62, 63, 64, 65, 66, 67, 68, 69, 70, 72, 73, 74, 75, 76, 180, 182, 183, 184, 185, 186, 242, 243, 244, 246, 270, 271, 272, 273, 275, 276, 277, 278, 279, 280, 330, 331, 332, 333, 334, 999] σ0 σ329 := X327.tr (e333.mo (by decide))
            have X375 : ExC [0, 1, 2, 60, 61, 62, 63, 64, 65, 66, 67, 68, 69, 70, 72, 73, 74, 75, 76, 180, 182, 183, 184, 185, 186, 242, 243, 244, 246, 270, 271, 272, 273, 275, 276, 277, 278, 279, 280, 330, 331, 332, 333, 334, 999] σ0 σ367 := X374.tr (e369.mo (by decide))
            have R376 : RdC p0 none (-18) (174) (-998) σ0 σ367 := R364.tr ⟨g370, (e369.cou (u := 0) H332.1 t345 (by decide) (by rw [e369.cn (by decide)]; omega))⟩ (by omega) (by omega) (by omega) (by omega)
            have c377 := (t345.mi e369 (by decide)).trans c348
            have c378 := (t345.mi e369 (by decide)).trans c342
            have S409 : ∀ s, ReC σ0 p0 s → ReC σ367 p0 (mthY s) := by
              intro s hs
              have f379 := q22 _ hs
              have f380 := q37 _ hs
              have f381 := q55 _ hs
              have y382 := q66 _ hs
              have f384 := y382.nm c84 c88 q98
              have f385 := q109 _ y382
              have f386 := y382.ft c75
              have y387 := y382.x H62.1 t72 e127 (by decide)
              have f388 := y387.at_ c136
              have f389 := y387.at_ c136
              have f390 := y387.nv c148 c151 q161
              have y391 := y387.xt H126.1 t135 r128 e167 (by decide)
              have y392 := y391.adm (ty := (codY s - 50)) H166.1 t181 e206 q213 q212 c182 c185 q214
              have f393 := y392.at_ c215
              have y394 := y392.x H205.1 t219 e236 (by decide)
              have y395 := q254 _ y394
              have y397 := y395.x H250.1 t260 e273 (by decide)
              have y398 := y397.x H272.1 t275 e278 (by decide)
              have y399 := q308 _ y398
              have y401 := q339 _ y399
              have y403 := y401.x H332.1 t345 e369 (by decide)
              have g404 := nrY f380 (q45 (by omega))
              have g405 := f381.symm.trans (h58.trans h57)
              have g406 := ngY (k := 10) f384 (by omega)
              have g407 := f385.symm.trans (h112.trans h111)
              have g408 := f386.symm.trans (show x73.toInt = 0 from by omega)
              refine y403.eq ?_
              all_goals try simp only [mthY, me1Y, me2Y, me3Y, g404, g405, g406, g407, g408, or_false, false_or, or_true, true_or, and_false, false_and, and_true, true_and, not_true, not_false_iff, ↓reduceIte, Int.reduceEq, Int.reduceLE, Int.reduceLT, Int.reduceNeg]
              all_goals first | rfl | (exfalso; omega)
            exact ⟨rfl, H368, X375, (R376.mo (by omega) (by omega) (by omega)), S409⟩
          · refine k_nil ?_
            refine hB _ _ _ _ (kgoC (is := KX7_readMethod_70) rfl ?_)
            refine k_aload_n rfl ?_
            refine k_iconst (m := 3) rfl (fun x410 h411 => ?_)
            have R412 := R80.nf (-1000) (-1000) (by rw [c75]; omega)
            refine k_inv (P := P_X7_raise) (Q := Q_X7_raise) rfl rfl rfl rfl (Nat.le_of_ble_eq_true rfl) (t72.rc (by decide)) ⟨_, _, rfl, H62, t72, (by omega), (by omega), (rd_cd.st H0 h_0_0 X101 R412.1 (by decide)), (R412.2.2.2.1 rd_at), (rd_bg.stn H0 h_0_0 X101 R412 (by decide) (by rw [c75]; omega) (by omega))⟩ (fun w413 σ414 q415 => ?_)
            obtain ⟨rfl, H416, e417, R418, q419, q420⟩ := q415
            have c421 := (t72.mi e417 (by decide)).trans c69
            have t427 := t72.x e417
            obtain ⟨x422, e423, c424, h425, h426⟩ := cg243 H416.1 t427
            have z428 := congrArg Int32.toInt c421
            have z429 := congrArg Int32.toInt c424
            refine k_st (st' := []) rfl ?_
            have h430 : 1 ≤ x422.toInt := by have hq := q419; rw [c424] at hq; omega
            refine k_nil ?_
            refine hB _ _ _ _ (kgoC (is := KX7_readMethod_75) rfl ?_)
            refine k_aload_n rfl ?_
            refine k_get kg243 t427 (congrArg (Sum.inl : Int32 → AvC) c424) ?_
            refine k_if_eq (fun h431 => by exfalso; omega) (fun h431 => ?_)
            refine k_nil ?_
            refine hB _ _ _ _ (kgoC (is := KX7_readMethod_82) rfl ?_)
            refine k_return ?_
            have X432 : ExC [0, 1, 2, 60, 61, 62, 63, 64, 65, 66, 67, 68, 69, 70, 72, 73, 74, 75, 76, 180, 182, 183, 184, 185, 186, 242, 243, 244, 246, 270, 271, 272, 273, 275, 276, 277, 278, 279, 280, 330, 331, 332, 333, 334, 999] σ0 σ414 := X101.tr (e417.mo (by decide))
            have R433 : RdC p0 none (-8) (-8) (-1000) σ0 σ414 := R412.tr ⟨R418.1, R418.2⟩ (by omega) (by omega) (by omega) (by omega)
            have S449 : ∀ s, ReC σ0 p0 s → ReC σ414 p0 (mthY s) := by
              intro s hs
              have f434 := q22 _ hs
              have f435 := q37 _ hs
              have f436 := q55 _ hs
              have y437 := q66 _ hs
              have f439 := y437.nm c84 c88 q98
              have f440 := q109 _ y437
              have y441 := q420 _ y437
              rw [h411] at y441
              have f443 := y441.ft c424
              have g444 := nrY f435 (q45 (by omega))
              have g445 := f436.symm.trans (h58.trans h57)
              have g446 := lgY (k := 10) f439 (by omega)
              have g447 := f440.symm.trans (h112.trans h111)
              have g448 := nzY f443 (by omega)
              refine y441.eq ?_
              all_goals try simp only [mthY, me1Y, me2Y, me3Y, g444, g445, g446, g447, g448, or_false, false_or, or_true, true_or, and_false, false_and, and_true, true_and, not_true, not_false_iff, ↓reduceIte, Int.reduceEq, Int.reduceLE, Int.reduceLT, Int.reduceNeg]
              all_goals first | rfl | (exfalso; omega)
            exact ⟨rfl, H416, X432, ((R433.ft (0) (by rw [c424]; omega)).mo (by omega) (by omega) (by omega)), S449⟩
        · refine k_nil ?_
          refine hB _ _ _ _ (kgoC (is := KX7_readMethod_56) rfl ?_)
          refine k_aload_n rfl ?_
          refine k_iconst (m := 2) rfl (fun x450 h451 => ?_)
          refine k_inv (P := P_X7_raise) (Q := Q_X7_raise) rfl rfl rfl rfl (Nat.le_of_ble_eq_true rfl) (t72.rc (by decide)) ⟨_, _, rfl, H62, t72, (by omega), (by omega), (rd_cd.st H0 h_0_0 X101 R80.1 (by decide)), (R80.2.2.2.1 rd_at), (rd_bg.st H0 h_0_0 X101 R80 (by decide) (by omega) (by omega) (by omega))⟩ (fun w452 σ453 q454 => ?_)
          obtain ⟨rfl, H455, e456, R457, q458, q459⟩ := q454
          have c460 := (t72.mi e456 (by decide)).trans c69
          have t466 := t72.x e456
          obtain ⟨x461, e462, c463, h464, h465⟩ := cg243 H455.1 t466
          have z467 := congrArg Int32.toInt c460
          have z468 := congrArg Int32.toInt c463
          refine k_st (st' := []) rfl ?_
          have h469 : 1 ≤ x461.toInt := by have hq := q458; rw [c463] at hq; omega
          refine k_goto ?_
          refine hB _ _ _ _ (kgoC (is := KX7_readMethod_75) rfl ?_)
          refine k_aload_n rfl ?_
          refine k_get kg243 t466 (congrArg (Sum.inl : Int32 → AvC) c463) ?_
          refine k_if_eq (fun h470 => by exfalso; omega) (fun h470 => ?_)
          refine k_nil ?_
          refine hB _ _ _ _ (kgoC (is := KX7_readMethod_82) rfl ?_)
          refine k_return ?_
          have X471 : ExC [0, 1, 2, 60, 61, 62, 63, 64, 65, 66, 67, 68, 69, 70, 72, 73, 74, 75, 76, 180, 182, 183, 184, 185, 186, 242, 243, 244, 246, 270, 271, 272, 273, 275, 276, 277, 278, 279, 280, 330, 331, 332, 333, 334, 999] σ0 σ453 := X101.tr (e456.mo (by decide))
          have R472 : RdC p0 none (-8) (0) (-1000) σ0 σ453 := R80.tr ⟨R457.1, R457.2⟩ (by omega) (by omega) (by omega) (by omega)
          have S487 : ∀ s, ReC σ0 p0 s → ReC σ453 p0 (mthY s) := by
            intro s hs
            have f473 := q22 _ hs
            have f474 := q37 _ hs
            have f475 := q55 _ hs
            have y476 := q66 _ hs
            have f478 := y476.nm c84 c88 q98
            have f479 := q109 _ y476
            have y480 := q459 _ y476
            rw [h451] at y480
            have f482 := y480.ft c463
            have g483 := nrY f474 (q45 (by omega))
            have g484 := f475.symm.trans (h58.trans h57)
            have g485 := neY f479 h112 h111
            have g486 := nzY f482 (by omega)
            refine y480.eq ?_
            all_goals try simp only [mthY, me1Y, me2Y, me3Y, g483, g484, g485, g486, or_false, false_or, or_true, true_or, and_false, false_and, and_true, true_and, not_true, not_false_iff, ↓reduceIte, Int.reduceEq, Int.reduceLE, Int.reduceLT, Int.reduceNeg]
            all_goals first | rfl | (exfalso; omega)
          exact ⟨rfl, H455, X471, ((R472.ft (0) (by rw [c463]; omega)).mo (by omega) (by omega) (by omega)), S487⟩
      · refine k_nil ?_
        refine hB _ _ _ _ (kgoC (is := KX7_readMethod_27) rfl ?_)
        refine k_aload_n rfl ?_
        refine k_iconst (m := 2) rfl (fun x488 h489 => ?_)
        refine k_inv (P := P_X7_raise) (Q := Q_X7_raise) rfl rfl rfl rfl (Nat.le_of_ble_eq_true rfl) (h_0_0.rc (by decide)) ⟨_, _, rfl, H0, h_0_0, (by omega), (by omega), (rd_cd.st H0 h_0_0 (ExC.rf : ExC [0, 1, 2, 60, 61, 62, 63, 64, 65, 66, 67, 68, 69, 70, 72, 73, 74, 75, 76, 180, 182, 183, 184, 185, 186, 242, 243, 244, 246, 270, 271, 272, 273, 275, 276, 277, 278, 279, 280, 330, 331, 332, 333, 334, 999] σ0 σ0) R14.1 (by decide)), (R14.2.2.2.1 rd_at), (rd_bg.stn H0 h_0_0 (ExC.rf : ExC [0, 1, 2, 60, 61, 62, 63, 64, 65, 66, 67, 68, 69, 70, 72, 73, 74, 75, 76, 180, 182, 183, 184, 185, 186, 242, 243, 244, 246, 270, 271, 272, 273, 275, 276, 277, 278, 279, 280, 330, 331, 332, 333, 334, 999] σ0 σ0) R14 (by decide) (by rw [c8]; omega) (by omega))⟩ (fun w490 σ491 q492 => ?_)
        obtain ⟨rfl, H493, e494, R495, q496, q497⟩ := q492
        have c498 := (h_0_0.mi e494 (by decide)).trans c3
        have t504 := h_0_0.x e494
        obtain ⟨x499, e500, c501, h502, h503⟩ := cg243 H493.1 t504
        have z505 := congrArg Int32.toInt c498
        have z506 := congrArg Int32.toInt c501
        refine k_st (st' := []) rfl ?_
        have h507 : 1 ≤ x499.toInt := by have hq := q496; rw [c501] at hq; omega
        refine k_nil ?_
        refine hB _ _ _ _ (kgoC (is := KX7_readMethod_32) rfl ?_)
        refine k_aload_n rfl ?_
        have R508 : RdC p0 none (0) (0) (-1000) σ0 σ491 := R14.tr ⟨R495.1, R495.2⟩ (by omega) (by omega) (by omega) (by omega)
        have X509 : ExC [0, 1, 2, 60, 61, 62, 63, 64, 65, 66, 67, 68, 69, 70, 72, 73, 74, 75, 76, 180, 182, 183, 184, 185, 186, 242, 243, 244, 246, 270, 271, 272, 273, 275, 276, 277, 278, 279, 280, 330, 331, 332, 333, 334, 999] σ0 σ491 := ExC.rf.tr (e494.mo (by decide))
        refine k_inv (P := P_X7_accept) (Q := Q_X7_accept) rfl rfl rfl rfl (Nat.le_of_ble_eq_true rfl) (t504.rc (by decide)) ⟨_, rfl, H493, t504, (rd_cd.st H0 h_0_0 X509 R508.1 (by decide)), (R508.2.2.2.1 rd_at), (rd_bg.st H0 h_0_0 X509 R508 (by decide) (by omega) (by omega) (by omega)), (by have ct := R508.2.2.1; rw [c501, c498, ct]; omega)⟩ (fun w510 σ511 q512 => ?_)
        obtain ⟨rfl, H513, e514, R515, q516, q517⟩ := q512
        have t523 := t504.x e514
        obtain ⟨x518, e519, c520, h521, h522⟩ := cg242 H513.1 t523
        obtain ⟨x524, e525, c526, h527, h528⟩ := cg243 H513.1 t523
        have z529 := congrArg Int32.toInt c520
        have z530 := congrArg Int32.toInt c526
        refine k_st (st' := []) rfl ?_
        have R531 : RdC p0 none (-8) (0) (-1000) σ0 σ511 := R508.tr ⟨R515.1, R515.2⟩ (by omega) (by omega) (by omega) (by omega)
        have z532 := R531.2.2.1
        have z533 := R531.2.2.2.1 rd_at
        refine k_aload_n rfl ?_
        obtain ⟨a536, e534, c535, t537⟩ := cg240 H513.1 t523
        refine k_get kg240 t523 e534 ?_
        obtain ⟨a540, e538, c539, t541, l542⟩ := cg211 H513.1 t537
        refine k_get kg211 t537 e538 ?_
        refine k_inv (P := P_Jx4a65c_size_8abf5) (Q := Q_Jx4a65c_size_8abf5) rfl rfl rfl rfl (Nat.le_of_ble_eq_true rfl) (t541.rc (by decide)) ⟨_, rfl, H513, t541⟩ (fun w543 σ544 q545 => ?_)
        obtain ⟨x546, rfl, rfl, h547, h548, q549, q550⟩ := q545
        refine k_st (st' := [.inl x546]) rfl ?_
        have z551 := q550 l542
        refine k_istore_n (ls' := [(2, .inl x546), (1, .inl x27), (0, .inr (.inr (some p0)))]) rfl ?_
        refine k_aload_n rfl ?_
        have X552 : ExC [0, 1, 2, 60, 61, 62, 63, 64, 65, 66, 67, 68, 69, 70, 72, 73, 74, 75, 76, 180, 182, 183, 184, 185, 186, 242, 243, 244, 246, 270, 271, 272, 273, 275, 276, 277, 278, 279, 280, 330, 331, 332, 333, 334, 999] σ0 σ511 := X509.tr (e514.mo (by decide))
        refine k_inv (P := P_X7_code) (Q := Q_X7_code) rfl rfl rfl rfl (Nat.le_of_ble_eq_true rfl) (t523.rc (by decide)) ⟨_, rfl, H513, t523, (rd_cd.st H0 h_0_0 X552 R531.1 (by decide))⟩ (fun w553 σ554 q555 => ?_)
        obtain ⟨x556, rfl, rfl, q557, q558, q559, q560⟩ := q555
        refine k_st (st' := [.inl x556]) rfl ?_
        refine k_bipush (m := 80) rfl (fun x561 h562 => ?_)
        refine k_ic_eq (fun h563 => ?_) (fun h563 => ?_)
        · have h564 : x524.toInt = 0 := by omega
          refine hB _ _ _ _ (kgoC (is := KX7_readMethod_64) rfl ?_)
          refine k_iload_n rfl ?_
          refine k_bipush (m := 10) rfl (fun x565 h566 => ?_)
          refine k_ic_lt (fun h567 => ?_) (fun h567 => ?_)
          · refine hB _ _ _ _ (kgoC (is := KX7_readMethod_75) rfl ?_)
            refine k_aload_n rfl ?_
            refine k_get kg243 t523 (congrArg (Sum.inl : Int32 → AvC) c526) ?_
            refine k_if_eq (fun h568 => ?_) (fun h568 => by exfalso; omega)
            refine hB _ _ _ _ (kgoC (is := KX7_readMethod_83) rfl ?_)
            have R569 := R531.nf (-1000) (-1000) (by rw [c526]; omega)
            have B570 : BgC σ511 p0 3 3 := rd_bg.stn H0 h_0_0 X552 R569 (by decide) (by rw [c526]; omega) (by omega)
            obtain ⟨h571, h572⟩ := B570.new H513.1 t523 (u := 3) (by omega) (by omega)
            have z573 := R569.1.1
            refine k_new (c := 6) (g := 0) H513 (by decide) rfl (by omega) (by have hn : nfC 6 = 7 := rfl; omega) (fun a574 σ575 q576 H577 e578 r579 z580 l581 u582 u583 => ?_)
            rw [show nfC 6 = 7 from rfl] at u583
            have u584 : cpC σ575 = cpC σ511 := congrArg Prod.fst e578.2.1.1
            have u585 : spC σ575 = spC σ511 := congrArg Prod.snd e578.2.1.1
            refine k_dupR ?_
            refine k_aload_n rfl ?_
            have t586 := t523.x e578
            have c587 := (t523.mi e578 (by decide)).trans c520
            refine k_get kg242 t586 (congrArg (Sum.inl : Int32 → AvC) c587) ?_
            refine k_aload_n rfl ?_
            obtain ⟨a590, e588, c589, t591⟩ := cg241 H577.1 t586
            refine k_get kg241 t586 e588 ?_
            obtain ⟨a594, e592, c593, t595, l596, l597⟩ := cg304 H577.1 t591
            refine k_get kg304 t591 e592 ?_
            refine k_aload_n rfl ?_
            refine k_get kg242 t586 (congrArg (Sum.inl : Int32 → AvC) c587) ?_
            refine k_laload t595 (by omega) (by omega) (fun y598 => ?_)
            refine k_iload_n rfl ?_
            refine k_aload_n rfl ?_
            have c599 := (t523.mr e578 (by decide)).trans c535
            refine k_get kg240 t586 (congrArg (fun z : Option Nat => (Sum.inr (Sum.inr z) : AvC)) c599) ?_
            have t600 := t537.x e578
            obtain ⟨a603, e601, c602, t604, l605⟩ := cg212 H577.1 t600
            refine k_get kg212 t600 e601 ?_
            refine k_inv (P := P_Jx4a65c_size_8abf5) (Q := Q_Jx4a65c_size_8abf5) rfl rfl rfl rfl (Nat.le_of_ble_eq_true rfl) (t604.rc (by decide)) ⟨_, rfl, H577, t604⟩ (fun w606 σ607 q608 => ?_)
            obtain ⟨x609, rfl, rfl, h610, h611, q612, q613⟩ := q608
            refine k_st (st' := [.inl x609, .inl x27, .inr (.inl y598), .inl x518, .inr (.inr (some a574)), .inr (.inr (some a574))]) rfl ?_
            refine k_spec (P := P_X5_init) (Q := Q_X5_init) rfl rfl rfl rfl (Nat.le_of_ble_eq_true rfl) ⟨_, _, _, _, _, rfl, H577, r579, z580, (by omega), (by omega), (by omega), (by omega)⟩ (fun w614 σ615 q616 => ?_)
            obtain ⟨rfl, H617, e618, t619, l620, u621, u622, g623, q625, q626⟩ := q616
            have l624 := l620.trans l581
            have c627 := (t586.mit r579 (by decide) e618 (by decide)).trans c587
            have c628 := (t523.mi e578 (by decide)).trans c526
            have c629 := (t586.mit r579 (by decide) e618 (by decide)).trans c628
            have z630 := congrArg Int32.toInt c627
            have z631 := congrArg Int32.toInt c629
            refine k_st (st' := [.inr (.inr (some a574))]) rfl ?_
            refine k_astore_n (ls' := [(3, .inr (.inr (some a574))), (2, .inl x546), (1, .inl x27), (0, .inr (.inr (some p0)))]) rfl ?_
            refine k_aload_n rfl ?_
            have t632 := t586.xt r579 (by decide) e618
            have c633 := (t586.mrt r579 (by decide) e618 (by decide)).trans c599
            refine k_get kg240 t632 (congrArg (fun z : Option Nat => (Sum.inr (Sum.inr z) : AvC)) c633) ?_
            have t634 := t600.xt r579 (by decide) e618
            have c635 := (t537.mr e578 (by decide)).trans c539
            have c636 := (t600.mrt r579 (by decide) e618 (by decide)).trans c635
            refine k_get kg211 t634 (congrArg (fun z : Option Nat => (Sum.inr (Sum.inr z) : AvC)) c636) ?_
            refine k_aload_n rfl ?_
            have t637 := t541.x e578
            have t638 := t637.xt r579 (by decide) e618
            have l639 := (t541.gh e578).trans l542
            have l640 := (t637.ght r579 (by decide) e618).trans l639
            have R641 : RdC p0 none (-7) (-7) (-999) σ0 σ575 := R569.tr ⟨(e578.gwn H513.1 u582 u583 (by decide) (by rw [← q576]; exact r579.n0)), (e578.cou (u := 1) H513.1 t523 (by decide) (by omega))⟩ (by omega) (by omega) (by omega) (by omega)
            have R642 : RdC p0 none (-5) (-5) (-997) σ0 σ615 := R641.tr ⟨g623, (e618.co (u := 2) H577.1 t586 r579 (by decide) (by omega))⟩ (by omega) (by omega) (by omega) (by omega)
            have R643 := R642.nf (-1000) (-1000) (by rw [c629]; omega)
            have X644 : ExC [0, 1, 2, 60, 61, 62, 63, 64, 65, 66, 67, 68, 69, 70, 72, 73, 74, 75, 76, 180, 182, 183, 184, 185, 186, 242, 243, 244, 246, 270, 271, 272, 273, 275, 276, 277, 278, 279, 280, 330, 331, 332, 333, 334, 999] σ511 σ575 := ExC.rf.tr (e578.mo (by decide))
            have X645 : ExC [0, 1, 2, 60, 61, 62, 63, 64, 65, 66, 67, 68, 69, 70, 72, 73, 74, 75, 76, 180, 182, 183, 184, 185, 186, 242, 243, 244, 246, 270, 271, 272, 273, 275, 276, 277, 278, 279, 280, 330, 331, 332, 333, 334, 999] σ511 σ615 := (X644 : ExC [0, 1, 2, 60, 61, 62, 63, 64, 65, 66, 67, 68, 69, 70, 72, 73, 74, 75, 76, 180, 182, 183, 184, 185, 186, 242, 243, 244, 246, 270, 271, 272, 273, 275, 276, 277, 278, 279, 280, 330, 331, 332, 333, 334, 999] σ511 σ575).nt (Nat.le_of_eq q576.symm) (e618.mo (by decide))
            have X646 : ExC [0, 1, 2, 60, 61, 62, 63, 64, 65, 66, 67, 68, 69, 70, 72, 73, 74, 75, 76, 180, 182, 183, 184, 185, 186, 242, 243, 244, 246, 270, 271, 272, 273, 275, 276, 277, 278, 279, 280, 330, 331, 332, 333, 334, 999] σ0 σ615 := X552.tr X645
            have B647 : BgC σ615 p0 1 1 := rd_bg.stn H0 h_0_0 X646 R643 (by decide) (by rw [c629]; omega) (by omega)
            obtain ⟨h648, h649⟩ := B647.new H617.1 t632 (u := 1) (by omega) (by omega)
            have c650 := (t541.mi e578 (by decide)).trans q549
            have c651 := (t637.mit r579 (by decide) e618 (by decide)).trans c650
            refine k_inv (P := P_Jx4a65c_add_9ea2d) (Q := Q_Jx4a65c_add_9ea2d) rfl rfl rfl rfl (Nat.le_of_ble_eq_true rfl) (t638.rc (by decide)) ⟨_, _, rfl, H617, t638, (by rw [l640]; exact ⟨t619, by decide, fun hz => by rw [q625]; omega⟩), (B647.sz H617.1 t632 (by omega) (by omega) c633 (by decide) c636), h648, (by omega), (fun _ => by rw [c651] <;> omega)⟩ (fun w652 σ653 q654 => ?_)
            obtain ⟨x655, rfl, H656, e657, h659, h660, g658, q661, q662, q663, q664, q665⟩ := q654
            have c666 := (t632.mi e657 (by decide)).trans c627
            have c667 := (t632.mi e657 (by decide)).trans c629
            have z668 := congrArg Int32.toInt c666
            have z669 := congrArg Int32.toInt c667
            refine k_st (st' := [.inl x655]) rfl ?_
            refine k_popI ?_
            refine k_aload_n rfl ?_
            have t670 := t632.x e657
            have c671 := (t586.mrt r579 (by decide) e618 (by decide)).trans c589
            have c672 := (t632.mr e657 (by decide)).trans c671
            refine k_get kg241 t670 (congrArg (fun z : Option Nat => (Sum.inr (Sum.inr z) : AvC)) c672) ?_
            have t673 := t591.xt r579 (by decide) e618
            have t674 := t673.x e657
            obtain ⟨a677, e675, c676, t678, l679, l680⟩ := cg303 H656.1 t674
            refine k_get kg303 t674 e675 ?_
            refine k_aload_n rfl ?_
            refine k_get kg242 t670 (congrArg (Sum.inl : Int32 → AvC) c666) ?_
            refine k_bipush (m := 100) rfl (fun x681 h682 => ?_)
            refine k_iload_n rfl ?_
            refine k_iadd (by omega) (by omega) (fun x683 h684 => ?_)
            refine k_iastore H656 t678 l680 (by omega) (by omega) (fun σ685 H686 e687 => ?_)
            refine k_aload_n rfl ?_
            have t688 := t670.x e687
            have R689 : RdC p0 none (-4) (-4) (-999) σ0 σ653 := R643.tr ⟨g658, (e657.cou2 (u := 1) H617.1 t632 (by decide) (by omega) q662)⟩ (by omega) (by omega) (by omega) (by omega)
            have R690 : RdC p0 none (-4) (-4) (-999) σ0 σ685 := R689.tr ⟨(e687.gw H656.1 (by decide)), (e687.cou (u := 0) H656.1 t670 (by decide) (by rw [e687.cn (by decide)]; omega))⟩ (by omega) (by omega) (by omega) (by omega)
            have c691 := (t670.mi e687 (by decide)).trans c667
            have R692 := R690.nf (-1000) (-1000) (by rw [c691]; omega)
            have X693 : ExC [0, 1, 2, 60, 61, 62, 63, 64, 65, 66, 67, 68, 69, 70, 72, 73, 74, 75, 76, 180, 182, 183, 184, 185, 186, 242, 243, 244, 246, 270, 271, 272, 273, 275, 276, 277, 278, 279, 280, 330, 331, 332, 333, 334, 999] σ0 σ653 := X646.tr (e657.mo (by decide))
            have X694 : ExC [0, 1, 2, 60, 61, 62, 63, 64, 65, 66, 67, 68, 69, 70, 72, 73, 74, 75, 76, 180, 182, 183, 184, 185, 186, 242, 243, 244, 246, 270, 271, 272, 273, 275, 276, 277, 278, 279, 280, 330, 331, 332, 333, 334, 999] σ0 σ685 := X693.tr (e687.mo (by decide))
            have c695 := (t670.mi e687 (by decide)).trans c666
            have z696 := congrArg Int32.toInt c695
            have z697 := congrArg Int32.toInt c691
            refine k_inv (P := P_X7_accept) (Q := Q_X7_accept) rfl rfl rfl rfl (Nat.le_of_ble_eq_true rfl) (t688.rc (by decide)) ⟨_, rfl, H686, t688, (rd_cd.st H0 h_0_0 X694 R692.1 (by decide)), (R692.2.2.2.1 rd_at), (rd_bg.stn H0 h_0_0 X694 R692 (by decide) (by rw [c691]; omega) (by omega)), (by have ct := R692.2.2.1; rw [c691, c695, ct]; omega)⟩ (fun w698 σ699 q700 => ?_)
            obtain ⟨rfl, H701, e702, R703, q704, q705⟩ := q700
            have t711 := t688.x e702
            obtain ⟨x706, e707, c708, h709, h710⟩ := cg242 H701.1 t711
            obtain ⟨x712, e713, c714, h715, h716⟩ := cg243 H701.1 t711
            have z717 := congrArg Int32.toInt c708
            have z718 := congrArg Int32.toInt c714
            refine k_st (st' := []) rfl ?_
            have R719 : RdC p0 none (-12) (-4) (-1000) σ0 σ699 := R692.tr ⟨R703.1, R703.2⟩ (by omega) (by omega) (by omega) (by omega)
            have z720 := R719.2.2.1
            have z721 := R719.2.2.2.1 rd_at
            refine k_aload_n rfl ?_
            refine k_lconst ?_
            refine k_putL kg245 H701 t711 fk245 (fun σ722 H723 e724 c725 => ?_)
            refine k_aload_n rfl ?_
            refine k_aconst_null ?_
            have t726 := t711.x e724
            refine k_putR kp246 H723 t726 fk246 (rfo246 (OtC.n)) (fun σ727 H728 e729 c730 => ?_)
            refine k_aload_n rfl ?_
            refine k_aload_n rfl ?_
            have t731 := t726.x e729
            have t732 := t619.x e657
            have t733 := t732.x e687
            have t734 := t733.x e702
            have t735 := t734.x e724
            have t736 := t735.x e729
            have R737 : RdC p0 none (-12) (-4) (-1000) σ0 σ722 := R719.tr ⟨(e724.gw H701.1 (by decide)), (e724.cou (u := 0) H701.1 t711 (by decide) (by rw [e724.cn (by decide)]; omega))⟩ (by omega) (by omega) (by omega) (by omega)
            have R738 : RdC p0 none (-12) (-4) (-1000) σ0 σ727 := R737.tr ⟨(e729.gw H723.1 (by decide)), (e729.cou (u := 0) H723.1 t726 (by decide) (by rw [e729.cn (by decide)]; omega))⟩ (by omega) (by omega) (by omega) (by omega)
            have c739 := (t711.mi e724 (by decide)).trans c714
            have c740 := (t726.mi e729 (by decide)).trans c739
            have X741 : ExC [0, 1, 2, 60, 61, 62, 63, 64, 65, 66, 67, 68, 69, 70, 72, 73, 74, 75, 76, 180, 182, 183, 184, 185, 186, 242, 243, 244, 246, 270, 271, 272, 273, 275, 276, 277, 278, 279, 280, 330, 331, 332, 333, 334, 999] σ0 σ699 := X694.tr (e702.mo (by decide))
            have X742 : ExC [0, 1, 2, 60, 61, 62, 63, 64, 65, 66, 67, 68, 69, 70, 72, 73, 74, 75, 76, 180, 182, 183, 184, 185, 186, 242, 243, 244, 246, 270, 271, 272, 273, 275, 276, 277, 278, 279, 280, 330, 331, 332, 333, 334, 999] σ0 σ722 := X741.tr (e724.mo (by decide))
            have X743 : ExC [0, 1, 2, 60, 61, 62, 63, 64, 65, 66, 67, 68, 69, 70, 72, 73, 74, 75, 76, 180, 182, 183, 184, 185, 186, 242, 243, 244, 246, 270, 271, 272, 273, 275, 276, 277, 278, 279, 280, 330, 331, 332, 333, 334, 999] σ0 σ727 := X742.tr (e729.mo (by decide))
            have c744 := (t711.mi e724 (by decide)).trans c708
            have c745 := (t726.mi e729 (by decide)).trans c744
            have z746 := congrArg Int32.toInt c745
            have z747 := congrArg Int32.toInt c740
            have c748 := (t619.mi e657 (by decide)).trans q626
            have c749 := (t732.mi e687 (by decide)).trans c748
            have c750 := (t733.mi e702 (by decide)).trans c749
            have c751 := (t734.mi e724 (by decide)).trans c750
            have c752 := (t735.mi e729 (by decide)).trans c751
            refine k_inv (P := P_X7_readParams) (Q := Q_X7_readParams) rfl rfl rfl rfl (Nat.le_of_ble_eq_true rfl) (t731.rc (by decide)) ⟨_, _, rfl, H728, t731, t736, (rd_cd.st H0 h_0_0 X743 R738.1 (by decide)), (R738.2.2.2.1 rd_at), (rd_bg.st H0 h_0_0 X743 R738 (by decide) (by omega) (by omega) (by omega)), (by rw [c752]; decide)⟩ (fun w753 σ754 q755 => ?_)
            obtain ⟨rfl, H756, e757, R758, q759⟩ := q755
            have t765 := t731.x e757
            obtain ⟨x760, e761, c762, h763, h764⟩ := cg242 H756.1 t765
            obtain ⟨x766, e767, c768, h769, h770⟩ := cg243 H756.1 t765
            have z771 := congrArg Int32.toInt c762
            have z772 := congrArg Int32.toInt c768
            refine k_st (st' := []) rfl ?_
            have R773 : RdC p0 none (-12) (-2) (-1000) σ0 σ754 := R738.tr ⟨R758.1, R758.2⟩ (by omega) (by omega) (by omega) (by omega)
            have z774 := R773.2.2.1
            have z775 := R773.2.2.2.1 rd_at
            refine k_aload_n rfl ?_
            refine k_aload_n rfl ?_
            refine k_iconst (m := 0) rfl (fun x776 h777 => ?_)
            have X778 : ExC [0, 1, 2, 60, 61, 62, 63, 64, 65, 66, 67, 68, 69, 70, 72, 73, 74, 75, 76, 180, 182, 183, 184, 185, 186, 242, 243, 244, 246, 270, 271, 272, 273, 275, 276, 277, 278, 279, 280, 330, 331, 332, 333, 334, 999] σ0 σ754 := X743.tr (e757.mo (by decide))
            refine k_inv (P := (P_X7_readBody 21)) (Q := (Q_X7_readBody 21)) rfl rfl rfl rfl (Nat.le_of_ble_eq_true rfl) (t765.rc (by decide)) ⟨_, _, rfl, H756, t765, (by omega), (by omega), (rd_cd.st H0 h_0_0 X778 R773.1 (by decide)), (R773.2.2.2.1 rd_at), (rd_bg.st H0 h_0_0 X778 R773 (by decide) (by omega) (by omega) (by omega)), (by omega)⟩ (fun w779 σ780 q781 => ?_)
            obtain ⟨a782, rfl, H783, e784, h786, R785, q787, q788, q789, q790⟩ := q781
            have t796 := t765.x e784
            obtain ⟨x791, e792, c793, h794, h795⟩ := cg242 H783.1 t796
            obtain ⟨x797, e798, c799, h800, h801⟩ := cg243 H783.1 t796
            have z802 := congrArg Int32.toInt c793
            have z803 := congrArg Int32.toInt c799
            refine k_st (st' := [.inr (.inr (some a782)), .inr (.inr (some a574))]) rfl ?_
            have z804 := R773.1.1
            obtain ⟨x805, e806, c807, h808, h809⟩ := cg272 H783.1 h786
            rw [c807] at q788
            obtain ⟨x810, e811, c812, h813, h814⟩ := cg270 H783.1 h786
            rw [c812] at q789
            have R815 : RdC p0 none (-18) (174) (-998) σ0 σ780 := R773.tr ⟨R785.1, R785.2⟩ (by omega) (by omega) (by omega) (by omega)
            have z816 := R815.2.2.1
            have z817 := R815.2.2.2.1 rd_at
            have t823 := t736.x e757
            have t824 := t823.x e784
            refine k_p186 H783 t824 h786 (by rw [c812]; omega) (fun σ818 H819 e820 g821 c822 => ?_)
            refine k_return ?_
            have X825 : ExC [0, 1, 2, 60, 61, 62, 63, 64, 65, 66, 67, 68, 69, 70, 72, 73, 74, 75, 76, 180, 182, 183, 184, 185, 186, 242, 243, 244, 246, 270, 271, 272, 273, 275, 276, 277, 278, 279, 280, 330, 331, 332, 333, 334, 999] σ0 σ780 := X778.tr (e784.mo (by decide))
            have X826 : ExC [0, 1, 2, 60, 61, 62, 63, 64, 65, 66, 67, 68, 69, 70, 72, 73, 74, 75, 76, 180, 182, 183, 184, 185, 186, 242, 243, 244, 246, 270, 271, 272, 273, 275, 276, 277, 278, 279, 280, 330, 331, 332, 333, 334, 999] σ0 σ818 := X825.tr (e820.mo (by decide))
            have R827 : RdC p0 none (-18) (174) (-998) σ0 σ818 := R815.tr ⟨g821, (e820.cou (u := 0) H783.1 t796 (by decide) (by rw [e820.cn (by decide)]; omega))⟩ (by omega) (by omega) (by omega) (by omega)
            have c828 := (t796.mi e820 (by decide)).trans c799
            have c829 := (t796.mi e820 (by decide)).trans c793
            have S862 : ∀ s, ReC σ0 p0 s → ReC σ818 p0 (mthY s) := by
              intro s hs
              have f830 := q22 _ hs
              have f831 := q37 _ hs
              have f832 := q55 _ hs
              have y833 := q497 _ hs
              rw [h489] at y833
              have y835 := q517 _ y833
              have f837 := y835.nm c535 c539 q549
              have f838 := q560 _ y835
              have f839 := y835.ft c526
              have y840 := y835.x H513.1 t523 e578 (by decide)
              have f841 := y840.at_ c587
              have f842 := y840.at_ c587
              have f843 := y840.nv c599 c602 q612
              have y844 := y840.xt H577.1 t586 r579 e618 (by decide)
              have y845 := y844.adm (ty := (codY s - 50)) H617.1 t632 e657 q664 q663 c633 c636 q665
              have f846 := y845.at_ c666
              have y847 := y845.x H656.1 t670 e687 (by decide)
              have y848 := q705 _ y847
              have y850 := y848.x H701.1 t711 e724 (by decide)
              have y851 := y850.x H723.1 t726 e729 (by decide)
              have y852 := q759 _ y851
              have y854 := q790 _ y852
              have y856 := y854.x H783.1 t796 e820 (by decide)
              have g857 := nrY f831 (q45 (by omega))
              have g858 := neY f832 h58 h57
              have g859 := ngY (k := 10) f837 (by omega)
              have g860 := f838.symm.trans (h563.trans h562)
              have g861 := f839.symm.trans (show x524.toInt = 0 from by omega)
              refine y856.eq ?_
              all_goals try simp only [mthY, me1Y, me2Y, me3Y, g857, g858, g859, g860, g861, or_false, false_or, or_true, true_or, and_false, false_and, and_true, true_and, not_true, not_false_iff, ↓reduceIte, Int.reduceEq, Int.reduceLE, Int.reduceLT, Int.reduceNeg]
              all_goals first | rfl | (exfalso; omega)
            exact ⟨rfl, H819, X826, (R827.mo (by omega) (by omega) (by omega)), S862⟩
          · refine k_nil ?_
            refine hB _ _ _ _ (kgoC (is := KX7_readMethod_70) rfl ?_)
            refine k_aload_n rfl ?_
            refine k_iconst (m := 3) rfl (fun x863 h864 => ?_)
            have R865 := R531.nf (-1000) (-1000) (by rw [c526]; omega)
            refine k_inv (P := P_X7_raise) (Q := Q_X7_raise) rfl rfl rfl rfl (Nat.le_of_ble_eq_true rfl) (t523.rc (by decide)) ⟨_, _, rfl, H513, t523, (by omega), (by omega), (rd_cd.st H0 h_0_0 X552 R865.1 (by decide)), (R865.2.2.2.1 rd_at), (rd_bg.stn H0 h_0_0 X552 R865 (by decide) (by rw [c526]; omega) (by omega))⟩ (fun w866 σ867 q868 => ?_)
            obtain ⟨rfl, H869, e870, R871, q872, q873⟩ := q868
            have c874 := (t523.mi e870 (by decide)).trans c520
            have t880 := t523.x e870
            obtain ⟨x875, e876, c877, h878, h879⟩ := cg243 H869.1 t880
            have z881 := congrArg Int32.toInt c874
            have z882 := congrArg Int32.toInt c877
            refine k_st (st' := []) rfl ?_
            have h883 : 1 ≤ x875.toInt := by have hq := q872; rw [c877] at hq; omega
            refine k_nil ?_
            refine hB _ _ _ _ (kgoC (is := KX7_readMethod_75) rfl ?_)
            refine k_aload_n rfl ?_
            refine k_get kg243 t880 (congrArg (Sum.inl : Int32 → AvC) c877) ?_
            refine k_if_eq (fun h884 => by exfalso; omega) (fun h884 => ?_)
            refine k_nil ?_
            refine hB _ _ _ _ (kgoC (is := KX7_readMethod_82) rfl ?_)
            refine k_return ?_
            have X885 : ExC [0, 1, 2, 60, 61, 62, 63, 64, 65, 66, 67, 68, 69, 70, 72, 73, 74, 75, 76, 180, 182, 183, 184, 185, 186, 242, 243, 244, 246, 270, 271, 272, 273, 275, 276, 277, 278, 279, 280, 330, 331, 332, 333, 334, 999] σ0 σ867 := X552.tr (e870.mo (by decide))
            have R886 : RdC p0 none (-8) (-8) (-1000) σ0 σ867 := R865.tr ⟨R871.1, R871.2⟩ (by omega) (by omega) (by omega) (by omega)
            have S904 : ∀ s, ReC σ0 p0 s → ReC σ867 p0 (mthY s) := by
              intro s hs
              have f887 := q22 _ hs
              have f888 := q37 _ hs
              have f889 := q55 _ hs
              have y890 := q497 _ hs
              rw [h489] at y890
              have y892 := q517 _ y890
              have f894 := y892.nm c535 c539 q549
              have f895 := q560 _ y892
              have y896 := q873 _ y892
              rw [h864] at y896
              have f898 := y896.ft c877
              have g899 := nrY f888 (q45 (by omega))
              have g900 := neY f889 h58 h57
              have g901 := lgY (k := 10) f894 (by omega)
              have g902 := f895.symm.trans (h563.trans h562)
              have g903 := nzY f898 (by omega)
              refine y896.eq ?_
              all_goals try simp only [mthY, me1Y, me2Y, me3Y, g899, g900, g901, g902, g903, or_false, false_or, or_true, true_or, and_false, false_and, and_true, true_and, not_true, not_false_iff, ↓reduceIte, Int.reduceEq, Int.reduceLE, Int.reduceLT, Int.reduceNeg]
              all_goals first | rfl | (exfalso; omega)
            exact ⟨rfl, H869, X885, ((R886.ft (0) (by rw [c877]; omega)).mo (by omega) (by omega) (by omega)), S904⟩
        · refine k_nil ?_
          refine hB _ _ _ _ (kgoC (is := KX7_readMethod_56) rfl ?_)
          refine k_aload_n rfl ?_
          refine k_iconst (m := 2) rfl (fun x905 h906 => ?_)
          refine k_inv (P := P_X7_raise) (Q := Q_X7_raise) rfl rfl rfl rfl (Nat.le_of_ble_eq_true rfl) (t523.rc (by decide)) ⟨_, _, rfl, H513, t523, (by omega), (by omega), (rd_cd.st H0 h_0_0 X552 R531.1 (by decide)), (R531.2.2.2.1 rd_at), (rd_bg.st H0 h_0_0 X552 R531 (by decide) (by omega) (by omega) (by omega))⟩ (fun w907 σ908 q909 => ?_)
          obtain ⟨rfl, H910, e911, R912, q913, q914⟩ := q909
          have c915 := (t523.mi e911 (by decide)).trans c520
          have t921 := t523.x e911
          obtain ⟨x916, e917, c918, h919, h920⟩ := cg243 H910.1 t921
          have z922 := congrArg Int32.toInt c915
          have z923 := congrArg Int32.toInt c918
          refine k_st (st' := []) rfl ?_
          have h924 : 1 ≤ x916.toInt := by have hq := q913; rw [c918] at hq; omega
          refine k_goto ?_
          refine hB _ _ _ _ (kgoC (is := KX7_readMethod_75) rfl ?_)
          refine k_aload_n rfl ?_
          refine k_get kg243 t921 (congrArg (Sum.inl : Int32 → AvC) c918) ?_
          refine k_if_eq (fun h925 => by exfalso; omega) (fun h925 => ?_)
          refine k_nil ?_
          refine hB _ _ _ _ (kgoC (is := KX7_readMethod_82) rfl ?_)
          refine k_return ?_
          have X926 : ExC [0, 1, 2, 60, 61, 62, 63, 64, 65, 66, 67, 68, 69, 70, 72, 73, 74, 75, 76, 180, 182, 183, 184, 185, 186, 242, 243, 244, 246, 270, 271, 272, 273, 275, 276, 277, 278, 279, 280, 330, 331, 332, 333, 334, 999] σ0 σ908 := X552.tr (e911.mo (by decide))
          have R927 : RdC p0 none (-8) (0) (-1000) σ0 σ908 := R531.tr ⟨R912.1, R912.2⟩ (by omega) (by omega) (by omega) (by omega)
          have S944 : ∀ s, ReC σ0 p0 s → ReC σ908 p0 (mthY s) := by
            intro s hs
            have f928 := q22 _ hs
            have f929 := q37 _ hs
            have f930 := q55 _ hs
            have y931 := q497 _ hs
            rw [h489] at y931
            have y933 := q517 _ y931
            have f935 := y933.nm c535 c539 q549
            have f936 := q560 _ y933
            have y937 := q914 _ y933
            rw [h906] at y937
            have f939 := y937.ft c918
            have g940 := nrY f929 (q45 (by omega))
            have g941 := neY f930 h58 h57
            have g942 := neY f936 h563 h562
            have g943 := nzY f939 (by omega)
            refine y937.eq ?_
            all_goals try simp only [mthY, me1Y, me2Y, me3Y, g940, g941, g942, g943, or_false, false_or, or_true, true_or, and_false, false_and, and_true, true_and, not_true, not_false_iff, ↓reduceIte, Int.reduceEq, Int.reduceLE, Int.reduceLT, Int.reduceNeg]
            all_goals first | rfl | (exfalso; omega)
          exact ⟨rfl, H910, X926, ((R927.ft (0) (by rw [c918]; omega)).mo (by omega) (by omega) (by omega)), S944⟩
    · have h945 := q44 (by omega)
      refine k_if_ne (fun h946 => ?_) (fun h946 => by exfalso; omega)
      refine hB _ _ _ _ (kgoC (is := KX7_readMethod_32) rfl ?_)
      refine k_aload_n rfl ?_
      refine k_inv (P := P_X7_accept) (Q := Q_X7_accept) rfl rfl rfl rfl (Nat.le_of_ble_eq_true rfl) (h_0_0.rc (by decide)) ⟨_, rfl, H0, h_0_0, (rd_cd.st H0 h_0_0 (ExC.rf : ExC [0, 1, 2, 60, 61, 62, 63, 64, 65, 66, 67, 68, 69, 70, 72, 73, 74, 75, 76, 180, 182, 183, 184, 185, 186, 242, 243, 244, 246, 270, 271, 272, 273, 275, 276, 277, 278, 279, 280, 330, 331, 332, 333, 334, 999] σ0 σ0) R14.1 (by decide)), (R14.2.2.2.1 rd_at), (rd_bg.stn H0 h_0_0 (ExC.rf : ExC [0, 1, 2, 60, 61, 62, 63, 64, 65, 66, 67, 68, 69, 70, 72, 73, 74, 75, 76, 180, 182, 183, 184, 185, 186, 242, 243, 244, 246, 270, 271, 272, 273, 275, 276, 277, 278, 279, 280, 330, 331, 332, 333, 334, 999] σ0 σ0) R14 (by decide) (by rw [c8]; omega) (by omega)), (by have ct := R14.2.2.1; rw [c8, c3, ct]; omega)⟩ (fun w947 σ948 q949 => ?_)
      obtain ⟨rfl, H950, e951, R952, q953, q954⟩ := q949
      have t960 := h_0_0.x e951
      obtain ⟨x955, e956, c957, h958, h959⟩ := cg242 H950.1 t960
      obtain ⟨x961, e962, c963, h964, h965⟩ := cg243 H950.1 t960
      have z966 := congrArg Int32.toInt c957
      have z967 := congrArg Int32.toInt c963
      refine k_st (st' := []) rfl ?_
      have R968 : RdC p0 none (-8) (0) (-1000) σ0 σ948 := R14.tr ⟨R952.1, R952.2⟩ (by omega) (by omega) (by omega) (by omega)
      have z969 := R968.2.2.1
      have z970 := R968.2.2.2.1 rd_at
      refine k_aload_n rfl ?_
      obtain ⟨a973, e971, c972, t974⟩ := cg240 H950.1 t960
      refine k_get kg240 t960 e971 ?_
      obtain ⟨a977, e975, c976, t978, l979⟩ := cg211 H950.1 t974
      refine k_get kg211 t974 e975 ?_
      refine k_inv (P := P_Jx4a65c_size_8abf5) (Q := Q_Jx4a65c_size_8abf5) rfl rfl rfl rfl (Nat.le_of_ble_eq_true rfl) (t978.rc (by decide)) ⟨_, rfl, H950, t978⟩ (fun w980 σ981 q982 => ?_)
      obtain ⟨x983, rfl, rfl, h984, h985, q986, q987⟩ := q982
      refine k_st (st' := [.inl x983]) rfl ?_
      have z988 := q987 l979
      refine k_istore_n (ls' := [(2, .inl x983), (1, .inl x27), (0, .inr (.inr (some p0)))]) rfl ?_
      refine k_aload_n rfl ?_
      have X989 : ExC [0, 1, 2, 60, 61, 62, 63, 64, 65, 66, 67, 68, 69, 70, 72, 73, 74, 75, 76, 180, 182, 183, 184, 185, 186, 242, 243, 244, 246, 270, 271, 272, 273, 275, 276, 277, 278, 279, 280, 330, 331, 332, 333, 334, 999] σ0 σ948 := ExC.rf.tr (e951.mo (by decide))
      refine k_inv (P := P_X7_code) (Q := Q_X7_code) rfl rfl rfl rfl (Nat.le_of_ble_eq_true rfl) (t960.rc (by decide)) ⟨_, rfl, H950, t960, (rd_cd.st H0 h_0_0 X989 R968.1 (by decide))⟩ (fun w990 σ991 q992 => ?_)
      obtain ⟨x993, rfl, rfl, q994, q995, q996, q997⟩ := q992
      refine k_st (st' := [.inl x993]) rfl ?_
      refine k_bipush (m := 80) rfl (fun x998 h999 => ?_)
      refine k_ic_eq (fun h1000 => ?_) (fun h1000 => ?_)
      · have h1001 : x961.toInt = 0 := by omega
        refine hB _ _ _ _ (kgoC (is := KX7_readMethod_64) rfl ?_)
        refine k_iload_n rfl ?_
        refine k_bipush (m := 10) rfl (fun x1002 h1003 => ?_)
        refine k_ic_lt (fun h1004 => ?_) (fun h1004 => ?_)
        · refine hB _ _ _ _ (kgoC (is := KX7_readMethod_75) rfl ?_)
          refine k_aload_n rfl ?_
          refine k_get kg243 t960 (congrArg (Sum.inl : Int32 → AvC) c963) ?_
          refine k_if_eq (fun h1005 => ?_) (fun h1005 => by exfalso; omega)
          refine hB _ _ _ _ (kgoC (is := KX7_readMethod_83) rfl ?_)
          have R1006 := R968.nf (-1000) (-1000) (by rw [c963]; omega)
          have B1007 : BgC σ948 p0 3 3 := rd_bg.stn H0 h_0_0 X989 R1006 (by decide) (by rw [c963]; omega) (by omega)
          obtain ⟨h1008, h1009⟩ := B1007.new H950.1 t960 (u := 3) (by omega) (by omega)
          have z1010 := R1006.1.1
          refine k_new (c := 6) (g := 0) H950 (by decide) rfl (by omega) (by have hn : nfC 6 = 7 := rfl; omega) (fun a1011 σ1012 q1013 H1014 e1015 r1016 z1017 l1018 u1019 u1020 => ?_)
          rw [show nfC 6 = 7 from rfl] at u1020
          have u1021 : cpC σ1012 = cpC σ948 := congrArg Prod.fst e1015.2.1.1
          have u1022 : spC σ1012 = spC σ948 := congrArg Prod.snd e1015.2.1.1
          refine k_dupR ?_
          refine k_aload_n rfl ?_
          have t1023 := t960.x e1015
          have c1024 := (t960.mi e1015 (by decide)).trans c957
          refine k_get kg242 t1023 (congrArg (Sum.inl : Int32 → AvC) c1024) ?_
          refine k_aload_n rfl ?_
          obtain ⟨a1027, e1025, c1026, t1028⟩ := cg241 H1014.1 t1023
          refine k_get kg241 t1023 e1025 ?_
          obtain ⟨a1031, e1029, c1030, t1032, l1033, l1034⟩ := cg304 H1014.1 t1028
          refine k_get kg304 t1028 e1029 ?_
          refine k_aload_n rfl ?_
          refine k_get kg242 t1023 (congrArg (Sum.inl : Int32 → AvC) c1024) ?_
          refine k_laload t1032 (by omega) (by omega) (fun y1035 => ?_)
          refine k_iload_n rfl ?_
          refine k_aload_n rfl ?_
          have c1036 := (t960.mr e1015 (by decide)).trans c972
          refine k_get kg240 t1023 (congrArg (fun z : Option Nat => (Sum.inr (Sum.inr z) : AvC)) c1036) ?_
          have t1037 := t974.x e1015
          obtain ⟨a1040, e1038, c1039, t1041, l1042⟩ := cg212 H1014.1 t1037
          refine k_get kg212 t1037 e1038 ?_
          refine k_inv (P := P_Jx4a65c_size_8abf5) (Q := Q_Jx4a65c_size_8abf5) rfl rfl rfl rfl (Nat.le_of_ble_eq_true rfl) (t1041.rc (by decide)) ⟨_, rfl, H1014, t1041⟩ (fun w1043 σ1044 q1045 => ?_)
          obtain ⟨x1046, rfl, rfl, h1047, h1048, q1049, q1050⟩ := q1045
          refine k_st (st' := [.inl x1046, .inl x27, .inr (.inl y1035), .inl x955, .inr (.inr (some a1011)), .inr (.inr (some a1011))]) rfl ?_
          refine k_spec (P := P_X5_init) (Q := Q_X5_init) rfl rfl rfl rfl (Nat.le_of_ble_eq_true rfl) ⟨_, _, _, _, _, rfl, H1014, r1016, z1017, (by omega), (by omega), (by omega), (by omega)⟩ (fun w1051 σ1052 q1053 => ?_)
          obtain ⟨rfl, H1054, e1055, t1056, l1057, u1058, u1059, g1060, q1062, q1063⟩ := q1053
          have l1061 := l1057.trans l1018
          have c1064 := (t1023.mit r1016 (by decide) e1055 (by decide)).trans c1024
          have c1065 := (t960.mi e1015 (by decide)).trans c963
          have c1066 := (t1023.mit r1016 (by decide) e1055 (by decide)).trans c1065
          have z1067 := congrArg Int32.toInt c1064
          have z1068 := congrArg Int32.toInt c1066
          refine k_st (st' := [.inr (.inr (some a1011))]) rfl ?_
          refine k_astore_n (ls' := [(3, .inr (.inr (some a1011))), (2, .inl x983), (1, .inl x27), (0, .inr (.inr (some p0)))]) rfl ?_
          refine k_aload_n rfl ?_
          have t1069 := t1023.xt r1016 (by decide) e1055
          have c1070 := (t1023.mrt r1016 (by decide) e1055 (by decide)).trans c1036
          refine k_get kg240 t1069 (congrArg (fun z : Option Nat => (Sum.inr (Sum.inr z) : AvC)) c1070) ?_
          have t1071 := t1037.xt r1016 (by decide) e1055
          have c1072 := (t974.mr e1015 (by decide)).trans c976
          have c1073 := (t1037.mrt r1016 (by decide) e1055 (by decide)).trans c1072
          refine k_get kg211 t1071 (congrArg (fun z : Option Nat => (Sum.inr (Sum.inr z) : AvC)) c1073) ?_
          refine k_aload_n rfl ?_
          have t1074 := t978.x e1015
          have t1075 := t1074.xt r1016 (by decide) e1055
          have l1076 := (t978.gh e1015).trans l979
          have l1077 := (t1074.ght r1016 (by decide) e1055).trans l1076
          have R1078 : RdC p0 none (-7) (-7) (-999) σ0 σ1012 := R1006.tr ⟨(e1015.gwn H950.1 u1019 u1020 (by decide) (by rw [← q1013]; exact r1016.n0)), (e1015.cou (u := 1) H950.1 t960 (by decide) (by omega))⟩ (by omega) (by omega) (by omega) (by omega)
          have R1079 : RdC p0 none (-5) (-5) (-997) σ0 σ1052 := R1078.tr ⟨g1060, (e1055.co (u := 2) H1014.1 t1023 r1016 (by decide) (by omega))⟩ (by omega) (by omega) (by omega) (by omega)
          have R1080 := R1079.nf (-1000) (-1000) (by rw [c1066]; omega)
          have X1081 : ExC [0, 1, 2, 60, 61, 62, 63, 64, 65, 66, 67, 68, 69, 70, 72, 73, 74, 75, 76, 180, 182, 183, 184, 185, 186, 242, 243, 244, 246, 270, 271, 272, 273, 275, 276, 277, 278, 279, 280, 330, 331, 332, 333, 334, 999] σ948 σ1012 := ExC.rf.tr (e1015.mo (by decide))
          have X1082 : ExC [0, 1, 2, 60, 61, 62, 63, 64, 65, 66, 67, 68, 69, 70, 72, 73, 74, 75, 76, 180, 182, 183, 184, 185, 186, 242, 243, 244, 246, 270, 271, 272, 273, 275, 276, 277, 278, 279, 280, 330, 331, 332, 333, 334, 999] σ948 σ1052 := (X1081 : ExC [0, 1, 2, 60, 61, 62, 63, 64, 65, 66, 67, 68, 69, 70, 72, 73, 74, 75, 76, 180, 182, 183, 184, 185, 186, 242, 243, 244, 246, 270, 271, 272, 273, 275, 276, 277, 278, 279, 280, 330, 331, 332, 333, 334, 999] σ948 σ1012).nt (Nat.le_of_eq q1013.symm) (e1055.mo (by decide))
          have X1083 : ExC [0, 1, 2, 60, 61, 62, 63, 64, 65, 66, 67, 68, 69, 70, 72, 73, 74, 75, 76, 180, 182, 183, 184, 185, 186, 242, 243, 244, 246, 270, 271, 272, 273, 275, 276, 277, 278, 279, 280, 330, 331, 332, 333, 334, 999] σ0 σ1052 := X989.tr X1082
          have B1084 : BgC σ1052 p0 1 1 := rd_bg.stn H0 h_0_0 X1083 R1080 (by decide) (by rw [c1066]; omega) (by omega)
          obtain ⟨h1085, h1086⟩ := B1084.new H1054.1 t1069 (u := 1) (by omega) (by omega)
          have c1087 := (t978.mi e1015 (by decide)).trans q986
          have c1088 := (t1074.mit r1016 (by decide) e1055 (by decide)).trans c1087
          refine k_inv (P := P_Jx4a65c_add_9ea2d) (Q := Q_Jx4a65c_add_9ea2d) rfl rfl rfl rfl (Nat.le_of_ble_eq_true rfl) (t1075.rc (by decide)) ⟨_, _, rfl, H1054, t1075, (by rw [l1077]; exact ⟨t1056, by decide, fun hz => by rw [q1062]; omega⟩), (B1084.sz H1054.1 t1069 (by omega) (by omega) c1070 (by decide) c1073), h1085, (by omega), (fun _ => by rw [c1088] <;> omega)⟩ (fun w1089 σ1090 q1091 => ?_)
          obtain ⟨x1092, rfl, H1093, e1094, h1096, h1097, g1095, q1098, q1099, q1100, q1101, q1102⟩ := q1091
          have c1103 := (t1069.mi e1094 (by decide)).trans c1064
          have c1104 := (t1069.mi e1094 (by decide)).trans c1066
          have z1105 := congrArg Int32.toInt c1103
          have z1106 := congrArg Int32.toInt c1104
          refine k_st (st' := [.inl x1092]) rfl ?_
          refine k_popI ?_
          refine k_aload_n rfl ?_
          have t1107 := t1069.x e1094
          have c1108 := (t1023.mrt r1016 (by decide) e1055 (by decide)).trans c1026
          have c1109 := (t1069.mr e1094 (by decide)).trans c1108
          refine k_get kg241 t1107 (congrArg (fun z : Option Nat => (Sum.inr (Sum.inr z) : AvC)) c1109) ?_
          have t1110 := t1028.xt r1016 (by decide) e1055
          have t1111 := t1110.x e1094
          obtain ⟨a1114, e1112, c1113, t1115, l1116, l1117⟩ := cg303 H1093.1 t1111
          refine k_get kg303 t1111 e1112 ?_
          refine k_aload_n rfl ?_
          refine k_get kg242 t1107 (congrArg (Sum.inl : Int32 → AvC) c1103) ?_
          refine k_bipush (m := 100) rfl (fun x1118 h1119 => ?_)
          refine k_iload_n rfl ?_
          refine k_iadd (by omega) (by omega) (fun x1120 h1121 => ?_)
          refine k_iastore H1093 t1115 l1117 (by omega) (by omega) (fun σ1122 H1123 e1124 => ?_)
          refine k_aload_n rfl ?_
          have t1125 := t1107.x e1124
          have R1126 : RdC p0 none (-4) (-4) (-999) σ0 σ1090 := R1080.tr ⟨g1095, (e1094.cou2 (u := 1) H1054.1 t1069 (by decide) (by omega) q1099)⟩ (by omega) (by omega) (by omega) (by omega)
          have R1127 : RdC p0 none (-4) (-4) (-999) σ0 σ1122 := R1126.tr ⟨(e1124.gw H1093.1 (by decide)), (e1124.cou (u := 0) H1093.1 t1107 (by decide) (by rw [e1124.cn (by decide)]; omega))⟩ (by omega) (by omega) (by omega) (by omega)
          have c1128 := (t1107.mi e1124 (by decide)).trans c1104
          have R1129 := R1127.nf (-1000) (-1000) (by rw [c1128]; omega)
          have X1130 : ExC [0, 1, 2, 60, 61, 62, 63, 64, 65, 66, 67, 68, 69, 70, 72, 73, 74, 75, 76, 180, 182, 183, 184, 185, 186, 242, 243, 244, 246, 270, 271, 272, 273, 275, 276, 277, 278, 279, 280, 330, 331, 332, 333, 334, 999] σ0 σ1090 := X1083.tr (e1094.mo (by decide))
          have X1131 : ExC [0, 1, 2, 60, 61, 62, 63, 64, 65, 66, 67, 68, 69, 70, 72, 73, 74, 75, 76, 180, 182, 183, 184, 185, 186, 242, 243, 244, 246, 270, 271, 272, 273, 275, 276, 277, 278, 279, 280, 330, 331, 332, 333, 334, 999] σ0 σ1122 := X1130.tr (e1124.mo (by decide))
          have c1132 := (t1107.mi e1124 (by decide)).trans c1103
          have z1133 := congrArg Int32.toInt c1132
          have z1134 := congrArg Int32.toInt c1128
          refine k_inv (P := P_X7_accept) (Q := Q_X7_accept) rfl rfl rfl rfl (Nat.le_of_ble_eq_true rfl) (t1125.rc (by decide)) ⟨_, rfl, H1123, t1125, (rd_cd.st H0 h_0_0 X1131 R1129.1 (by decide)), (R1129.2.2.2.1 rd_at), (rd_bg.stn H0 h_0_0 X1131 R1129 (by decide) (by rw [c1128]; omega) (by omega)), (by have ct := R1129.2.2.1; rw [c1128, c1132, ct]; omega)⟩ (fun w1135 σ1136 q1137 => ?_)
          obtain ⟨rfl, H1138, e1139, R1140, q1141, q1142⟩ := q1137
          have t1148 := t1125.x e1139
          obtain ⟨x1143, e1144, c1145, h1146, h1147⟩ := cg242 H1138.1 t1148
          obtain ⟨x1149, e1150, c1151, h1152, h1153⟩ := cg243 H1138.1 t1148
          have z1154 := congrArg Int32.toInt c1145
          have z1155 := congrArg Int32.toInt c1151
          refine k_st (st' := []) rfl ?_
          have R1156 : RdC p0 none (-12) (-4) (-1000) σ0 σ1136 := R1129.tr ⟨R1140.1, R1140.2⟩ (by omega) (by omega) (by omega) (by omega)
          have z1157 := R1156.2.2.1
          have z1158 := R1156.2.2.2.1 rd_at
          refine k_aload_n rfl ?_
          refine k_lconst ?_
          refine k_putL kg245 H1138 t1148 fk245 (fun σ1159 H1160 e1161 c1162 => ?_)
          refine k_aload_n rfl ?_
          refine k_aconst_null ?_
          have t1163 := t1148.x e1161
          refine k_putR kp246 H1160 t1163 fk246 (rfo246 (OtC.n)) (fun σ1164 H1165 e1166 c1167 => ?_)
          refine k_aload_n rfl ?_
          refine k_aload_n rfl ?_
          have t1168 := t1163.x e1166
          have t1169 := t1056.x e1094
          have t1170 := t1169.x e1124
          have t1171 := t1170.x e1139
          have t1172 := t1171.x e1161
          have t1173 := t1172.x e1166
          have R1174 : RdC p0 none (-12) (-4) (-1000) σ0 σ1159 := R1156.tr ⟨(e1161.gw H1138.1 (by decide)), (e1161.cou (u := 0) H1138.1 t1148 (by decide) (by rw [e1161.cn (by decide)]; omega))⟩ (by omega) (by omega) (by omega) (by omega)
          have R1175 : RdC p0 none (-12) (-4) (-1000) σ0 σ1164 := R1174.tr ⟨(e1166.gw H1160.1 (by decide)), (e1166.cou (u := 0) H1160.1 t1163 (by decide) (by rw [e1166.cn (by decide)]; omega))⟩ (by omega) (by omega) (by omega) (by omega)
          have c1176 := (t1148.mi e1161 (by decide)).trans c1151
          have c1177 := (t1163.mi e1166 (by decide)).trans c1176
          have X1178 : ExC [0, 1, 2, 60, 61, 62, 63, 64, 65, 66, 67, 68, 69, 70, 72, 73, 74, 75, 76, 180, 182, 183, 184, 185, 186, 242, 243, 244, 246, 270, 271, 272, 273, 275, 276, 277, 278, 279, 280, 330, 331, 332, 333, 334, 999] σ0 σ1136 := X1131.tr (e1139.mo (by decide))
          have X1179 : ExC [0, 1, 2, 60, 61, 62, 63, 64, 65, 66, 67, 68, 69, 70, 72, 73, 74, 75, 76, 180, 182, 183, 184, 185, 186, 242, 243, 244, 246, 270, 271, 272, 273, 275, 276, 277, 278, 279, 280, 330, 331, 332, 333, 334, 999] σ0 σ1159 := X1178.tr (e1161.mo (by decide))
          have X1180 : ExC [0, 1, 2, 60, 61, 62, 63, 64, 65, 66, 67, 68, 69, 70, 72, 73, 74, 75, 76, 180, 182, 183, 184, 185, 186, 242, 243, 244, 246, 270, 271, 272, 273, 275, 276, 277, 278, 279, 280, 330, 331, 332, 333, 334, 999] σ0 σ1164 := X1179.tr (e1166.mo (by decide))
          have c1181 := (t1148.mi e1161 (by decide)).trans c1145
          have c1182 := (t1163.mi e1166 (by decide)).trans c1181
          have z1183 := congrArg Int32.toInt c1182
          have z1184 := congrArg Int32.toInt c1177
          have c1185 := (t1056.mi e1094 (by decide)).trans q1063
          have c1186 := (t1169.mi e1124 (by decide)).trans c1185
          have c1187 := (t1170.mi e1139 (by decide)).trans c1186
          have c1188 := (t1171.mi e1161 (by decide)).trans c1187
          have c1189 := (t1172.mi e1166 (by decide)).trans c1188
          refine k_inv (P := P_X7_readParams) (Q := Q_X7_readParams) rfl rfl rfl rfl (Nat.le_of_ble_eq_true rfl) (t1168.rc (by decide)) ⟨_, _, rfl, H1165, t1168, t1173, (rd_cd.st H0 h_0_0 X1180 R1175.1 (by decide)), (R1175.2.2.2.1 rd_at), (rd_bg.st H0 h_0_0 X1180 R1175 (by decide) (by omega) (by omega) (by omega)), (by rw [c1189]; decide)⟩ (fun w1190 σ1191 q1192 => ?_)
          obtain ⟨rfl, H1193, e1194, R1195, q1196⟩ := q1192
          have t1202 := t1168.x e1194
          obtain ⟨x1197, e1198, c1199, h1200, h1201⟩ := cg242 H1193.1 t1202
          obtain ⟨x1203, e1204, c1205, h1206, h1207⟩ := cg243 H1193.1 t1202
          have z1208 := congrArg Int32.toInt c1199
          have z1209 := congrArg Int32.toInt c1205
          refine k_st (st' := []) rfl ?_
          have R1210 : RdC p0 none (-12) (-2) (-1000) σ0 σ1191 := R1175.tr ⟨R1195.1, R1195.2⟩ (by omega) (by omega) (by omega) (by omega)
          have z1211 := R1210.2.2.1
          have z1212 := R1210.2.2.2.1 rd_at
          refine k_aload_n rfl ?_
          refine k_aload_n rfl ?_
          refine k_iconst (m := 0) rfl (fun x1213 h1214 => ?_)
          have X1215 : ExC [0, 1, 2, 60, 61, 62, 63, 64, 65, 66, 67, 68, 69, 70, 72, 73, 74, 75, 76, 180, 182, 183, 184, 185, 186, 242, 243, 244, 246, 270, 271, 272, 273, 275, 276, 277, 278, 279, 280, 330, 331, 332, 333, 334, 999] σ0 σ1191 := X1180.tr (e1194.mo (by decide))
          refine k_inv (P := (P_X7_readBody 21)) (Q := (Q_X7_readBody 21)) rfl rfl rfl rfl (Nat.le_of_ble_eq_true rfl) (t1202.rc (by decide)) ⟨_, _, rfl, H1193, t1202, (by omega), (by omega), (rd_cd.st H0 h_0_0 X1215 R1210.1 (by decide)), (R1210.2.2.2.1 rd_at), (rd_bg.st H0 h_0_0 X1215 R1210 (by decide) (by omega) (by omega) (by omega)), (by omega)⟩ (fun w1216 σ1217 q1218 => ?_)
          obtain ⟨a1219, rfl, H1220, e1221, h1223, R1222, q1224, q1225, q1226, q1227⟩ := q1218
          have t1233 := t1202.x e1221
          obtain ⟨x1228, e1229, c1230, h1231, h1232⟩ := cg242 H1220.1 t1233
          obtain ⟨x1234, e1235, c1236, h1237, h1238⟩ := cg243 H1220.1 t1233
          have z1239 := congrArg Int32.toInt c1230
          have z1240 := congrArg Int32.toInt c1236
          refine k_st (st' := [.inr (.inr (some a1219)), .inr (.inr (some a1011))]) rfl ?_
          have z1241 := R1210.1.1
          obtain ⟨x1242, e1243, c1244, h1245, h1246⟩ := cg272 H1220.1 h1223
          rw [c1244] at q1225
          obtain ⟨x1247, e1248, c1249, h1250, h1251⟩ := cg270 H1220.1 h1223
          rw [c1249] at q1226
          have R1252 : RdC p0 none (-18) (174) (-998) σ0 σ1217 := R1210.tr ⟨R1222.1, R1222.2⟩ (by omega) (by omega) (by omega) (by omega)
          have z1253 := R1252.2.2.1
          have z1254 := R1252.2.2.2.1 rd_at
          have t1260 := t1173.x e1194
          have t1261 := t1260.x e1221
          refine k_p186 H1220 t1261 h1223 (by rw [c1249]; omega) (fun σ1255 H1256 e1257 g1258 c1259 => ?_)
          refine k_return ?_
          have X1262 : ExC [0, 1, 2, 60, 61, 62, 63, 64, 65, 66, 67, 68, 69, 70, 72, 73, 74, 75, 76, 180, 182, 183, 184, 185, 186, 242, 243, 244, 246, 270, 271, 272, 273, 275, 276, 277, 278, 279, 280, 330, 331, 332, 333, 334, 999] σ0 σ1217 := X1215.tr (e1221.mo (by decide))
          have X1263 : ExC [0, 1, 2, 60, 61, 62, 63, 64, 65, 66, 67, 68, 69, 70, 72, 73, 74, 75, 76, 180, 182, 183, 184, 185, 186, 242, 243, 244, 246, 270, 271, 272, 273, 275, 276, 277, 278, 279, 280, 330, 331, 332, 333, 334, 999] σ0 σ1255 := X1262.tr (e1257.mo (by decide))
          have R1264 : RdC p0 none (-18) (174) (-998) σ0 σ1255 := R1252.tr ⟨g1258, (e1257.cou (u := 0) H1220.1 t1233 (by decide) (by rw [e1257.cn (by decide)]; omega))⟩ (by omega) (by omega) (by omega) (by omega)
          have c1265 := (t1233.mi e1257 (by decide)).trans c1236
          have c1266 := (t1233.mi e1257 (by decide)).trans c1230
          have S1295 : ∀ s, ReC σ0 p0 s → ReC σ1255 p0 (mthY s) := by
            intro s hs
            have f1267 := q22 _ hs
            have f1268 := q37 _ hs
            have y1269 := q954 _ hs
            have f1271 := y1269.nm c972 c976 q986
            have f1272 := q997 _ y1269
            have f1273 := y1269.ft c963
            have y1274 := y1269.x H950.1 t960 e1015 (by decide)
            have f1275 := y1274.at_ c1024
            have f1276 := y1274.at_ c1024
            have f1277 := y1274.nv c1036 c1039 q1049
            have y1278 := y1274.xt H1014.1 t1023 r1016 e1055 (by decide)
            have y1279 := y1278.adm (ty := (codY s - 50)) H1054.1 t1069 e1094 q1101 q1100 c1070 c1073 q1102
            have f1280 := y1279.at_ c1103
            have y1281 := y1279.x H1093.1 t1107 e1124 (by decide)
            have y1282 := q1142 _ y1281
            have y1284 := y1282.x H1138.1 t1148 e1161 (by decide)
            have y1285 := y1284.x H1160.1 t1163 e1166 (by decide)
            have y1286 := q1196 _ y1285
            have y1288 := q1227 _ y1286
            have y1290 := y1288.x H1220.1 t1233 e1257 (by decide)
            have g1291 := rgY f1268 (q44 (by omega))
            have g1292 := ngY (k := 10) f1271 (by omega)
            have g1293 := f1272.symm.trans (h1000.trans h999)
            have g1294 := f1273.symm.trans (show x961.toInt = 0 from by omega)
            refine y1290.eq ?_
            all_goals try simp only [mthY, me1Y, me2Y, me3Y, g1291, g1292, g1293, g1294, or_false, false_or, or_true, true_or, and_false, false_and, and_true, true_and, not_true, not_false_iff, ↓reduceIte, Int.reduceEq, Int.reduceLE, Int.reduceLT, Int.reduceNeg]
            all_goals first | rfl | (exfalso; omega)
          exact ⟨rfl, H1256, X1263, (R1264.mo (by omega) (by omega) (by omega)), S1295⟩
        · refine k_nil ?_
          refine hB _ _ _ _ (kgoC (is := KX7_readMethod_70) rfl ?_)
          refine k_aload_n rfl ?_
          refine k_iconst (m := 3) rfl (fun x1296 h1297 => ?_)
          have R1298 := R968.nf (-1000) (-1000) (by rw [c963]; omega)
          refine k_inv (P := P_X7_raise) (Q := Q_X7_raise) rfl rfl rfl rfl (Nat.le_of_ble_eq_true rfl) (t960.rc (by decide)) ⟨_, _, rfl, H950, t960, (by omega), (by omega), (rd_cd.st H0 h_0_0 X989 R1298.1 (by decide)), (R1298.2.2.2.1 rd_at), (rd_bg.stn H0 h_0_0 X989 R1298 (by decide) (by rw [c963]; omega) (by omega))⟩ (fun w1299 σ1300 q1301 => ?_)
          obtain ⟨rfl, H1302, e1303, R1304, q1305, q1306⟩ := q1301
          have c1307 := (t960.mi e1303 (by decide)).trans c957
          have t1313 := t960.x e1303
          obtain ⟨x1308, e1309, c1310, h1311, h1312⟩ := cg243 H1302.1 t1313
          have z1314 := congrArg Int32.toInt c1307
          have z1315 := congrArg Int32.toInt c1310
          refine k_st (st' := []) rfl ?_
          have h1316 : 1 ≤ x1308.toInt := by have hq := q1305; rw [c1310] at hq; omega
          refine k_nil ?_
          refine hB _ _ _ _ (kgoC (is := KX7_readMethod_75) rfl ?_)
          refine k_aload_n rfl ?_
          refine k_get kg243 t1313 (congrArg (Sum.inl : Int32 → AvC) c1310) ?_
          refine k_if_eq (fun h1317 => by exfalso; omega) (fun h1317 => ?_)
          refine k_nil ?_
          refine hB _ _ _ _ (kgoC (is := KX7_readMethod_82) rfl ?_)
          refine k_return ?_
          have X1318 : ExC [0, 1, 2, 60, 61, 62, 63, 64, 65, 66, 67, 68, 69, 70, 72, 73, 74, 75, 76, 180, 182, 183, 184, 185, 186, 242, 243, 244, 246, 270, 271, 272, 273, 275, 276, 277, 278, 279, 280, 330, 331, 332, 333, 334, 999] σ0 σ1300 := X989.tr (e1303.mo (by decide))
          have R1319 : RdC p0 none (-8) (-8) (-1000) σ0 σ1300 := R1298.tr ⟨R1304.1, R1304.2⟩ (by omega) (by omega) (by omega) (by omega)
          have S1333 : ∀ s, ReC σ0 p0 s → ReC σ1300 p0 (mthY s) := by
            intro s hs
            have f1320 := q22 _ hs
            have f1321 := q37 _ hs
            have y1322 := q954 _ hs
            have f1324 := y1322.nm c972 c976 q986
            have f1325 := q997 _ y1322
            have y1326 := q1306 _ y1322
            rw [h1297] at y1326
            have f1328 := y1326.ft c1310
            have g1329 := rgY f1321 (q44 (by omega))
            have g1330 := lgY (k := 10) f1324 (by omega)
            have g1331 := f1325.symm.trans (h1000.trans h999)
            have g1332 := nzY f1328 (by omega)
            refine y1326.eq ?_
            all_goals try simp only [mthY, me1Y, me2Y, me3Y, g1329, g1330, g1331, g1332, or_false, false_or, or_true, true_or, and_false, false_and, and_true, true_and, not_true, not_false_iff, ↓reduceIte, Int.reduceEq, Int.reduceLE, Int.reduceLT, Int.reduceNeg]
            all_goals first | rfl | (exfalso; omega)
          exact ⟨rfl, H1302, X1318, ((R1319.ft (0) (by rw [c1310]; omega)).mo (by omega) (by omega) (by omega)), S1333⟩
      · refine k_nil ?_
        refine hB _ _ _ _ (kgoC (is := KX7_readMethod_56) rfl ?_)
        refine k_aload_n rfl ?_
        refine k_iconst (m := 2) rfl (fun x1334 h1335 => ?_)
        refine k_inv (P := P_X7_raise) (Q := Q_X7_raise) rfl rfl rfl rfl (Nat.le_of_ble_eq_true rfl) (t960.rc (by decide)) ⟨_, _, rfl, H950, t960, (by omega), (by omega), (rd_cd.st H0 h_0_0 X989 R968.1 (by decide)), (R968.2.2.2.1 rd_at), (rd_bg.st H0 h_0_0 X989 R968 (by decide) (by omega) (by omega) (by omega))⟩ (fun w1336 σ1337 q1338 => ?_)
        obtain ⟨rfl, H1339, e1340, R1341, q1342, q1343⟩ := q1338
        have c1344 := (t960.mi e1340 (by decide)).trans c957
        have t1350 := t960.x e1340
        obtain ⟨x1345, e1346, c1347, h1348, h1349⟩ := cg243 H1339.1 t1350
        have z1351 := congrArg Int32.toInt c1344
        have z1352 := congrArg Int32.toInt c1347
        refine k_st (st' := []) rfl ?_
        have h1353 : 1 ≤ x1345.toInt := by have hq := q1342; rw [c1347] at hq; omega
        refine k_goto ?_
        refine hB _ _ _ _ (kgoC (is := KX7_readMethod_75) rfl ?_)
        refine k_aload_n rfl ?_
        refine k_get kg243 t1350 (congrArg (Sum.inl : Int32 → AvC) c1347) ?_
        refine k_if_eq (fun h1354 => by exfalso; omega) (fun h1354 => ?_)
        refine k_nil ?_
        refine hB _ _ _ _ (kgoC (is := KX7_readMethod_82) rfl ?_)
        refine k_return ?_
        have X1355 : ExC [0, 1, 2, 60, 61, 62, 63, 64, 65, 66, 67, 68, 69, 70, 72, 73, 74, 75, 76, 180, 182, 183, 184, 185, 186, 242, 243, 244, 246, 270, 271, 272, 273, 275, 276, 277, 278, 279, 280, 330, 331, 332, 333, 334, 999] σ0 σ1337 := X989.tr (e1340.mo (by decide))
        have R1356 : RdC p0 none (-8) (0) (-1000) σ0 σ1337 := R968.tr ⟨R1341.1, R1341.2⟩ (by omega) (by omega) (by omega) (by omega)
        have S1369 : ∀ s, ReC σ0 p0 s → ReC σ1337 p0 (mthY s) := by
          intro s hs
          have f1357 := q22 _ hs
          have f1358 := q37 _ hs
          have y1359 := q954 _ hs
          have f1361 := y1359.nm c972 c976 q986
          have f1362 := q997 _ y1359
          have y1363 := q1343 _ y1359
          rw [h1335] at y1363
          have f1365 := y1363.ft c1347
          have g1366 := rgY f1358 (q44 (by omega))
          have g1367 := neY f1362 h1000 h999
          have g1368 := nzY f1365 (by omega)
          refine y1363.eq ?_
          all_goals try simp only [mthY, me1Y, me2Y, me3Y, g1366, g1367, g1368, or_false, false_or, or_true, true_or, and_false, false_and, and_true, true_and, not_true, not_false_iff, ↓reduceIte, Int.reduceEq, Int.reduceLE, Int.reduceLT, Int.reduceNeg]
          all_goals first | rfl | (exfalso; omega)
        exact ⟨rfl, H1339, X1355, ((R1356.ft (0) (by rw [c1347]; omega)).mo (by omega) (by omega) (by omega)), S1369⟩
theorem lg_X7_readMethod : ∀ (As : List AvC) (σ : CsC), P_X7_readMethod As σ → lgC As ≤ rX7_readMethod.2.2.1 := by
  rintro As σ ⟨p0, rfl, -⟩
  exact Nat.le_of_ble_eq_true rfl
theorem m_X7_readMethod (l : Launch) : CMetC l 312 134 P_X7_readMethod Q_X7_readMethod :=
  CMetC.of KX7_readMethod [(125, P_X7_code, Q_X7_code), (132, P_X7_isType, Q_X7_isType), (128, P_X7_accept, Q_X7_accept), (234, P_Jx4a65c_size_8abf5, Q_Jx4a65c_size_8abf5), (111, P_X5_init, Q_X5_init), (236, P_Jx4a65c_add_9ea2d, Q_Jx4a65c_add_9ea2d), (135, P_X7_readParams, Q_X7_readParams), (143, (P_X7_readBody 21), (Q_X7_readBody 21)), (127, P_X7_raise, Q_X7_raise)] hX7_readMethod (by decide) (by decide) okX7_readMethod (cc1C (m_X7_code l) (by decide) (cc1C (m_X7_isType l) (by decide) (cc1C (m_X7_accept l) (by decide) (cc1C (m_Jx4a65c_size_8abf5 l) (by decide) (cc1C (m_X5_init l) (by decide) (cc1C (m_Jx4a65c_add_9ea2d l) (by decide) (cc1C (m_X7_readParams l) (by decide) (cc1C (m_X7_readBody l 21) (by decide) (cc1C (m_X7_raise l) (by decide) cc0C))))))))) (lg_X7_readMethod) (b_X7_readMethod)
