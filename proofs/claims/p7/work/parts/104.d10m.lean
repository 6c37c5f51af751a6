abbrev P_X7_readMethod : CpC := fun As σ => ∃ (p0 : Nat), As = [.inr (.inr (some p0))] ∧ HIC σ ∧ TyC σ p0 8 ∧ CdC σ p0 ∧ (fIC σ p0 242).toInt ≤ CtC σ p0 ∧ RmC σ p0 (8 * (501 - (fIC σ p0 242).toInt) + (200)) ∧ (fIC σ p0 243).toInt = 0
abbrev Q_X7_readMethod : CqC := fun As σ w τ => match As with
  | [.inr (.inr (some p0))] => w = none ∧ HIC τ ∧ ExC [0, 1, 2, 60, 61, 62, 63, 64, 65, 66, 67, 68, 69, 70, 72, 73, 74, 75, 76, 180, 182, 183, 184, 185, 186, 242, 243, 244, 246, 270, 271, 272, 273, 275, 276, 277, 278, 279, 280, 330, 331, 332, 333, 334, 999] σ τ ∧ RdC p0 none (0) (200) (0) σ τ ∧ (∀ s, ReC σ p0 s → ReC τ p0 (mthY s))
  | _ => False
set_option maxRecDepth 100000 in
set_option maxHeartbeats 4000000 in
theorem b_X7_readMethod : TbC KX7_readMethod [(125, P_X7_code, Q_X7_code), (132, P_X7_isType, Q_X7_isType), (128, P_X7_accept, Q_X7_accept), (234, P_Jx4a65c_size_8abf5, Q_Jx4a65c_size_8abf5), (111, P_X5_init, Q_X5_init), (236, P_Jx4a65c_add_9ea2d, Q_Jx4a65c_add_9ea2d), (135, P_X7_readParams, Q_X7_readParams), (143, (P_X7_readBody 21), (Q_X7_readBody 21)), (127, P_X7_raise, Q_X7_raise)] P_X7_readMethod Q_X7_readMethod := by
  · rintro As σ0 ⟨p0, rfl, H0, h_0_0, rd_cd, rd_at, rd_bl, rd_lv⟩ hgr G hB hW
    change G 0 [(0, .inr (.inr (some p0)))] [] σ0
    obtain ⟨x1, e2, c3, h4, h5⟩ := cg242 H0.1 h_0_0
    obtain ⟨x6, e7, c8, h9, h10⟩ := cg243 H0.1 h_0_0
    have z11 := congrArg Int32.toInt c3
    have z12 := congrArg Int32.toInt c8
    have h13 : x6.toInt = 0 := by rw [← c8]; exact rd_lv
    have rd_bg : BgC σ0 p0 (200) 1000000 := ⟨fun _ => rd_bl, fun z => absurd rd_lv z⟩
    refine hB _ _ _ _ (kgoC (is := KX7_readMethod_0) rfl ?_)
    refine k_aload_n rfl ?_
    have R14 := (RdC.rf : RdC p0 none 0 0 0 σ0 σ0).nf (-1000) (-1000) (by rw [c8]; omega)
    refine k_inv (P := P_X7_code) (Q := Q_X7_code) rfl rfl rfl rfl (Nat.le_of_ble_eq_true rfl) (h_0_0.rc (by decide)) ⟨_, rfl, H0, h_0_0, (rd_cd.st H0 h_0_0 (ExC.rf : ExC [0, 1, 2, 60, 61, 62, 63, 64, 65, 66, 67, 68, 69, 70, 72, 73, 74, 75, 76, 180, 182, 183, 184, 185, 186, 242, 243, 244, 246, 270, 271, 272, 273, 275, 276, 277, 278, 279, 280, 330, 331, 332, 333, 334, 999] σ0 σ0) R14.1 (by decide))⟩ (fun w15 σ16 q17 => ?_)
    obtain ⟨x18, rfl, rfl, q19, q20, q21, q22⟩ := q17
    refine k_st (st' := [.inl x18]) rfl ?_
    have z23 := R14.2.2.1
    have z24 := R14.2.2.2.1 rd_at
    refine k_bipush (m := 50) rfl (fun x25 h26 => ?_)
    have z29 := tiC x18
    refine k_isub_w (fun x27 h28 => ?_)
    refine k_istore_n (ls' := [(1, .inl x27), (0, .inr (.inr (some p0)))]) rfl ?_
    refine k_aload_n rfl ?_
    refine k_inv (P := P_X7_code) (Q := Q_X7_code) rfl rfl rfl rfl (Nat.le_of_ble_eq_true rfl) (h_0_0.rc (by decide)) ⟨_, rfl, H0, h_0_0, (rd_cd.st H0 h_0_0 (ExC.rf : ExC [0, 1, 2, 60, 61, 62, 63, 64, 65, 66, 67, 68, 69, 70, 72, 73, 74, 75, 76, 180, 182, 183, 184, 185, 186, 242, 243, 244, 246, 270, 271, 272, 273, 275, 276, 277, 278, 279, 280, 330, 331, 332, 333, 334, 999] σ0 σ0) R14.1 (by decide))⟩ (fun w30 σ31 q32 => ?_)
    obtain ⟨x33, rfl, rfl, q34, q35, q36, q37⟩ := q32
    refine k_st (st' := [.inl x33]) rfl ?_
    refine k_stat (P := P_X7_isType) (Q := Q_X7_isType) rfl rfl (Nat.le_of_ble_eq_true rfl) rfl rfl (Nat.le_of_ble_eq_true rfl) ⟨_, rfl, H0⟩ (fun w38 σ39 q40 => ?_)
    obtain ⟨x41, rfl, rfl, h42, h43, q44, q45⟩ := q40
    refine k_st (st' := [.inl x41]) rfl ?_
    rcases (by omega : x41.toInt = 0 ∨ x41.toInt = 1) with g46 | g46
    · refine k_if_ne (fun h47 => by exfalso; omega) (fun h47 => ?_)
      refine k_nil ?_
      refine hB _ _ _ _ (kgoC (is := KX7_readMethod_18) rfl ?_)
      refine k_aload_n rfl ?_
      refine k_inv (P := P_X7_code) (Q := Q_X7_code) rfl rfl rfl rfl (Nat.le_of_ble_eq_true rfl) (h_0_0.rc (by decide)) ⟨_, rfl, H0, h_0_0, (rd_cd.st H0 h_0_0 (ExC.rf : ExC [0, 1, 2, 60, 61, 62, 63, 64, 65, 66, 67, 68, 69, 70, 72, 73, 74, 75, 76, 180, 182, 183, 184, 185, 186, 242, 243, 244, 246, 270, 271, 272, 273, 275, 276, 277, 278, 279, 280, 330, 331, 332, 333, 334, 999] σ0 σ0) R14.1 (by decide))⟩ (fun w48 σ49 q50 => ?_)
      obtain ⟨x51, rfl, rfl, q52, q53, q54, q55⟩ := q50
      refine k_st (st' := [.inl x51]) rfl ?_
      refine k_bipush (m := 55) rfl (fun x56 h57 => ?_)
      refine k_ic_eq (fun h58 => ?_) (fun h58 => ?_)
      · refine hB _ _ _ _ (kgoC (is := KX7_readMethod_32) rfl ?_)
        refine k_aload_n rfl ?_
        refine k_inv (P := P_X7_accept) (Q := Q_X7_accept) rfl rfl rfl rfl (Nat.le_of_ble_eq_true rfl) (h_0_0.rc (by decide)) ⟨_, rfl, H0, h_0_0, (rd_cd.st H0 h_0_0 (ExC.rf : ExC [0, 1, 2, 60, 61, 62, 63, 64, 65, 66, 67, 68, 69, 70, 72, 73, 74, 75, 76, 180, 182, 183, 184, 185, 186, 242, 243, 244, 246, 270, 271, 272, 273, 275, 276, 277, 278, 279, 280, 330, 331, 332, 333, 334, 999] σ0 σ0) R14.1 (by decide)), (R14.2.2.2.1 rd_at), (rd_bg.stn H0 h_0_0 (ExC.rf : ExC [0, 1, 2, 60, 61, 62, 63, 64, 65, 66, 67, 68, 69, 70, 72, 73, 74, 75, 76, 180, 182, 183, 184, 185, 186, 242, 243, 244, 246, 270, 271, 272, 273, 275, 276, 277, 278, 279, 280, 330, 331, 332, 333, 334, 999] σ0 σ0) R14 (by decide) (by rw [c8]; omega) (by omega)), (by have ct := R14.2.2.1; rw [c8, c3, ct]; omega)⟩ (fun w59 σ60 q61 => ?_)
        obtain ⟨rfl, H62, e63, R64, q65, q66⟩ := q61
        have t72 := h_0_0.x e63
        obtain ⟨x67, e68, c69, h70, h71⟩ := cg242 H62.1 t72
        obtain ⟨x73, e74, c75, h76, h77⟩ := cg243 H62.1 t72
        have z78 := congrArg Int32.toInt c69
        have z79 := congrArg Int32.toInt c75
        refine k_st (st' := []) rfl ?_
        have R80 : RdC p0 none (-8) (0) (-1000) σ0 σ60 := R14.tr ⟨R64.1, R64.2⟩ (by omega) (by omega) (by omega) (by omega)
        have z81 := R80.2.2.1
        have z82 := R80.2.2.2.1 rd_at
        refine k_aload_n rfl ?_
        obtain ⟨a85, e83, c84, t86⟩ := cg240 H62.1 t72
        refine k_get kg240 t72 e83 ?_
        obtain ⟨a89, e87, c88, t90, l91⟩ := cg211 H62.1 t86
        refine k_get kg211 t86 e87 ?_
        refine k_inv (P := P_Jx4a65c_size_8abf5) (Q := Q_Jx4a65c_size_8abf5) rfl rfl rfl rfl (Nat.le_of_ble_eq_true rfl) (t90.rc (by decide)) ⟨_, rfl, H62, t90⟩ (fun w92 σ93 q94 => ?_)
        obtain ⟨x95, rfl, rfl, h96, h97, q98, q99⟩ := q94
        refine k_st (st' := [.inl x95]) rfl ?_
        have z100 := q99 l91
        refine k_istore_n (ls' := [(2, .inl x95), (1, .inl x27), (0, .inr (.inr (some p0)))]) rfl ?_
        refine k_aload_n rfl ?_
        have X101 : ExC [0, 1, 2, 60, 61, 62, 63, 64, 65, 66, 67, 68, 69, 70, 72, 73, 74, 75, 76, 180, 182, 183, 184, 185, 186, 242, 243, 244, 246, 270, 271, 272, 273, 275, 276, 277, 278, 279, 280, 330, 331, 332, 333, 334, 999] σ0 σ60 := ExC.rf.tr (e63.mo (by decide))
        refine k_inv (P := P_X7_code) (Q := Q_X7_code) rfl rfl rfl rfl (Nat.le_of_ble_eq_true rfl) (t72.rc (by decide)) ⟨_, rfl, H62, t72, (rd_cd.st H0 h_0_0 X101 R80.1 (by decide))⟩ (fun w102 σ103 q104 => ?_)
        obtain ⟨x105, rfl, rfl, q106, q107, q108, q109⟩ := q104
        refine k_st (st' := [.inl x105]) rfl ?_
        refine k_bipush (m := 80) rfl (fun x110 h111 => ?_)
        refine k_ic_eq (fun h112 => ?_) (fun h112 => ?_)
        · have h113 : x73.toInt = 0 := by omega
          refine hB _ _ _ _ (kgoC (is := KX7_readMethod_64) rfl ?_)
          refine k_iload_n rfl ?_
          refine k_bipush (m := 10) rfl (fun x114 h115 => ?_)
          refine k_ic_lt (fun h116 => ?_) (fun h116 => ?_)
          · refine hB _ _ _ _ (kgoC (is := KX7_readMethod_75) rfl ?_)
            refine k_aload_n rfl ?_
            refine k_get kg243 t72 (congrArg (Sum.inl : Int32 → AvC) c75) ?_
            refine k_if_eq (fun h117 => ?_) (fun h117 => by exfalso; omega)
            refine hB _ _ _ _ (kgoC (is := KX7_readMethod_83) rfl ?_)
            have R118 := R80.nf (-1000) (-1000) (by rw [c75]; omega)
            have B119 : BgC σ60 p0 3 3 := rd_bg.stn H0 h_0_0 X101 R118 (by decide) (by rw [c75]; omega) (by omega)
            obtain ⟨h120, h121⟩ := B119.new H62.1 t72 (u := 3) (by omega) (by omega)
            have z122 := R118.1.1
            refine k_new (c := 6) (g := 0) H62 (by decide) rfl (by omega) (by have hn : nfC 6 = 7 := rfl; omega) (fun a123 σ124 q125 H126 e127 r128 z129 l130 u131 u132 => ?_)
            rw [show nfC 6 = 7 from rfl] at u132
            have u133 : cpC σ124 = cpC σ60 := congrArg Prod.fst e127.2.1.1
            have u134 : spC σ124 = spC σ60 := congrArg Prod.snd e127.2.1.1
            refine k_dupR ?_
            refine k_aload_n rfl ?_
            have t135 := t72.x e127
            have c136 := (t72.mi e127 (by decide)).trans c69
            refine k_get kg242 t135 (congrArg (Sum.inl : Int32 → AvC) c136) ?_
            refine k_aload_n rfl ?_
            obtain ⟨a139, e137, c138, t140⟩ := cg241 H126.1 t135
            refine k_get kg241 t135 e137 ?_
            obtain ⟨a143, e141, c142, t144, l145, l146⟩ := cg304 H126.1 t140
            refine k_get kg304 t140 e141 ?_
            refine k_aload_n rfl ?_
            refine k_get kg242 t135 (congrArg (Sum.inl : Int32 → AvC) c136) ?_
            refine k_laload t144 (by omega) (by omega) (fun y147 => ?_)
            refine k_iload_n rfl ?_
            refine k_aload_n rfl ?_
            have c148 := (t72.mr e127 (by decide)).trans c84
            refine k_get kg240 t135 (congrArg (fun z : Option Nat => (Sum.inr (Sum.inr z) : AvC)) c148) ?_
            have t149 := t86.x e127
            obtain ⟨a152, e150, c151, t153, l154⟩ := cg212 H126.1 t149
            refine k_get kg212 t149 e150 ?_
            refine k_inv (P := P_Jx4a65c_size_8abf5) (Q := Q_Jx4a65c_size_8abf5) rfl rfl rfl rfl (Nat.le_of_ble_eq_true rfl) (t153.rc (by decide)) ⟨_, rfl, H126, t153⟩ (fun w155 σ156 q157 => ?_)
            obtain ⟨x158, rfl, rfl, h159, h160, q161, q162⟩ := q157
            refine k_st (st' := [.inl x158, .inl x27, .inr (.inl y147), .inl x67, .inr (.inr (some a123)), .inr (.inr (some a123))]) rfl ?_
            refine k_spec (P := P_X5_init) (Q := Q_X5_init) rfl rfl rfl rfl (Nat.le_of_ble_eq_true rfl) ⟨_, _, _, _, _, rfl, H126, r128, z129, (by omega), (by omega), (by omega), (by omega)⟩ (fun w163 σ164 q165 => ?_)
            obtain ⟨rfl, H166, e167, t168, l169, u170, u171, g172, q174, q175⟩ := q165
            have l173 := l169.trans l130
            have c176 := (t135.mit r128 (by decide) e167 (by decide)).trans c136
            have c177 := (t72.mi e127 (by decide)).trans c75
            have c178 := (t135.mit r128 (by decide) e167 (by decide)).trans c177
            have z179 := congrArg Int32.toInt c176
            have z180 := congrArg Int32.toInt c178
            refine k_st (st' := [.inr (.inr (some a123))]) rfl ?_
            refine k_astore_n (ls' := [(3, .inr (.inr (some a123))), (2, .inl x95), (1, .inl x27), (0, .inr (.inr (some p0)))]) rfl ?_
            refine k_aload_n rfl ?_
            have t181 := t135.xt r128 (by decide) e167
            have c182 := (t135.mrt r128 (by decide) e167 (by decide)).trans c148
            refine k_get kg240 t181 (congrArg (fun z : Option Nat => (Sum.inr (Sum.inr z) : AvC)) c182) ?_
            have t183 := t149.xt r128 (by decide) e167
            have c184 := (t86.mr e127 (by decide)).trans c88
            have c185 := (t149.mrt r128 (by decide) e167 (by decide)).trans c184
            refine k_get kg211 t183 (congrArg (fun z : Option Nat => (Sum.inr (Sum.inr z) : AvC)) c185) ?_
            refine k_aload_n rfl ?_
            have t186 := t90.x e127
            have t187 := t186.xt r128 (by decide) e167
            have l188 := (t90.gh e127).trans l91
            have l189 := (t186.ght r128 (by decide) e167).trans l188
            have R190 : RdC p0 none (-7) (-7) (-999) σ0 σ124 := R118.tr ⟨(e127.gwn H62.1 u131 u132 (by decide) (by rw [← q125]; exact r128.n0)), (e127.cou (u := 1) H62.1 t72 (by decide) (by omega))⟩ (by omega) (by omega) (by omega) (by omega)
            have R191 : RdC p0 none (-5) (-5) (-997) σ0 σ164 := R190.tr ⟨g172, (e167.co (u := 2) H126.1 t135 r128 (by decide) (by omega))⟩ (by omega) (by omega) (by omega) (by omega)
            have R192 := R191.nf (-1000) (-1000) (by rw [c178]; omega)
            have X193 : ExC [0, 1, 2, 60, 61, 62, 63, 64, 65, 66, 67, 68, 69, 70, 72, 73, 74, 75, 76, 180, 182, 183, 184, 185, 186, 242, 243, 244, 246, 270, 271, 272, 273, 275, 276, 277, 278, 279, 280, 330, 331, 332, 333, 334, 999] σ60 σ124 := ExC.rf.tr (e127.mo (by decide))
            have X194 : ExC [0, 1, 2, 60, 61, 62, 63, 64, 65, 66, 67, 68, 69, 70, 72, 73, 74, 75, 76, 180, 182, 183, 184, 185, 186, 242, 243, 244, 246, 270, 271, 272, 273, 275, 276, 277, 278, 279, 280, 330, 331, 332, 333, 334, 999] σ60 σ164 := (X193 : ExC [0, 1, 2, 60, 61, 62, 63, 64, 65, 66, 67, 68, 69, 70, 72, 73, 74, 75, 76, 180, 182, 183, 184, 185, 186, 242, 243, 244, 246, 270, 271, 272, 273, 275, 276, 277, 278, 279, 280, 330, 331, 332, 333, 334, 999] σ60 σ124).nt (Nat.le_of_eq q125.symm) (e167.mo (by decide))
            have X195 : ExC [0, 1, 2, 60, 61, 62, 63, 64, 65, 66, 67, 68, 69, 70, 72, 73, 74, 75, 76, 180, 182, 183, 184, 185, 186, 242, 243, 244, 246, 270, 271, 272, 273, 275, 276, 277, 278, 279, 280, 330, 331, 332, 333, 334, 999] σ0 σ164 := X101.tr X194
            have B196 : BgC σ164 p0 1 1 := rd_bg.stn H0 h_0_0 X195 R192 (by decide) (by rw [c178]; omega) (by omega)
            obtain ⟨h197, h198⟩ := B196.new H166.1 t181 (u := 1) (by omega) (by omega)
            have c199 := (t90.mi e127 (by decide)).trans q98
            have c200 := (t186.mit r128 (by decide) e167 (by decide)).trans c199
            refine k_inv (P := P_Jx4a65c_add_9ea2d) (Q := Q_Jx4a65c_add_9ea2d) rfl rfl rfl rfl (Nat.le_of_ble_eq_true rfl) (t187.rc (by decide)) ⟨_, _, rfl, H166, t187, (by rw [l189]; exact ⟨t168, by decide, fun hz => by rw [q174]; omega⟩), (B196.sz H166.1 t181 (by omega) (by omega) c182 (by decide) c185), h197, (by omega), (fun _ => by rw [c200] <;> omega)⟩ (fun w201 σ202 q203 => ?_)
            obtain ⟨x204, rfl, H205, e206, h208, h209, g207, q210, q211, q212, q213⟩ := q203
            have c214 := (t181.mi e206 (by decide)).trans c176
            have c215 := (t181.mi e206 (by decide)).trans c178
            have z216 := congrArg Int32.toInt c214
            have z217 := congrArg Int32.toInt c215
            refine k_st (st' := [.inl x204]) rfl ?_
            refine k_popI ?_
            refine k_aload_n rfl ?_
            have t218 := t181.x e206
            have c219 := (t135.mrt r128 (by decide) e167 (by decide)).trans c138
            have c220 := (t181.mr e206 (by decide)).trans c219
            refine k_get kg241 t218 (congrArg (fun z : Option Nat => (Sum.inr (Sum.inr z) : AvC)) c220) ?_
            have t221 := t140.xt r128 (by decide) e167
            have t222 := t221.x e206
            obtain ⟨a225, e223, c224, t226, l227, l228⟩ := cg303 H205.1 t222
            refine k_get kg303 t222 e223 ?_
            refine k_aload_n rfl ?_
            refine k_get kg242 t218 (congrArg (Sum.inl : Int32 → AvC) c214) ?_
            refine k_bipush (m := 100) rfl (fun x229 h230 => ?_)
            refine k_iload_n rfl ?_
            refine k_iadd (by omega) (by omega) (fun x231 h232 => ?_)
            refine k_iastore H205 t226 l228 (by omega) (by omega) (fun σ233 H234 e235 => ?_)
            refine k_aload_n rfl ?_
            have t236 := t218.x e235
            have R237 : RdC p0 none (-4) (-4) (-999) σ0 σ202 := R192.tr ⟨g207, (e206.cou2 (u := 1) H166.1 t181 (by decide) (by omega) q211)⟩ (by omega) (by omega) (by omega) (by omega)
            have R238 : RdC p0 none (-4) (-4) (-999) σ0 σ233 := R237.tr ⟨(e235.gw H205.1 (by decide)), (e235.cou (u := 0) H205.1 t218 (by decide) (by rw [e235.cn (by decide)]; omega))⟩ (by omega) (by omega) (by omega) (by omega)
            have c239 := (t218.mi e235 (by decide)).trans c215
            have R240 := R238.nf (-1000) (-1000) (by rw [c239]; omega)
            have X241 : ExC [0, 1, 2, 60, 61, 62, 63, 64, 65, 66, 67, 68, 69, 70, 72, 73, 74, 75, 76, 180, 182, 183, 184, 185, 186, 242, 243, 244, 246, 270, 271, 272, 273, 275, 276, 277, 278, 279, 280, 330, 331, 332, 333, 334, 999] σ0 σ202 := X195.tr (e206.mo (by decide))
            have X242 : ExC [0, 1, 2, 60, 61, 62, 63, 64, 65, 66, 67, 68, 69, 70, 72, 73, 74, 75, 76, 180, 182, 183, 184, 185, 186, 242, 243, 244, 246, 270, 271, 272, 273, 275, 276, 277, 278, 279, 280, 330, 331, 332, 333, 334, 999] σ0 σ233 := X241.tr (e235.mo (by decide))
            have c243 := (t218.mi e235 (by decide)).trans c214
            have z244 := congrArg Int32.toInt c243
            have z245 := congrArg Int32.toInt c239
            refine k_inv (P := P_X7_accept) (Q := Q_X7_accept) rfl rfl rfl rfl (Nat.le_of_ble_eq_true rfl) (t236.rc (by decide)) ⟨_, rfl, H234, t236, (rd_cd.st H0 h_0_0 X242 R240.1 (by decide)), (R240.2.2.2.1 rd_at), (rd_bg.stn H0 h_0_0 X242 R240 (by decide) (by rw [c239]; omega) (by omega)), (by have ct := R240.2.2.1; rw [c239, c243, ct]; omega)⟩ (fun w246 σ247 q248 => ?_)
            obtain ⟨rfl, H249, e250, R251, q252, q253⟩ := q248
            have t259 := t236.x e250
            obtain ⟨x254, e255, c256, h257, h258⟩ := cg242 H249.1 t259
            obtain ⟨x260, e261, c262, h263, h264⟩ := cg243 H249.1 t259
            have z265 := congrArg Int32.toInt c256
            have z266 := congrArg Int32.toInt c262
            refine k_st (st' := []) rfl ?_
            have R267 : RdC p0 none (-12) (-4) (-1000) σ0 σ247 := R240.tr ⟨R251.1, R251.2⟩ (by omega) (by omega) (by omega) (by omega)
            have z268 := R267.2.2.1
            have z269 := R267.2.2.2.1 rd_at
            refine k_aload_n rfl ?_
            refine k_lconst ?_
            refine k_putL kg245 H249 t259 fk245 (fun σ270 H271 e272 c273 => ?_)
            refine k_aload_n rfl ?_
            refine k_aconst_null ?_
            have t274 := t259.x e272
            refine k_putR kp246 H271 t274 fk246 (rfo246 (OtC.n)) (fun σ275 H276 e277 c278 => ?_)
            refine k_aload_n rfl ?_
            refine k_aload_n rfl ?_
            have t279 := t274.x e277
            have t280 := t168.x e206
            have t281 := t280.x e235
            have t282 := t281.x e250
            have t283 := t282.x e272
            have t284 := t283.x e277
            have R285 : RdC p0 none (-12) (-4) (-1000) σ0 σ270 := R267.tr ⟨(e272.gw H249.1 (by decide)), (e272.cou (u := 0) H249.1 t259 (by decide) (by rw [e272.cn (by decide)]; omega))⟩ (by omega) (by omega) (by omega) (by omega)
            have R286 : RdC p0 none (-12) (-4) (-1000) σ0 σ275 := R285.tr ⟨(e277.gw H271.1 (by decide)), (e277.cou (u := 0) H271.1 t274 (by decide) (by rw [e277.cn (by decide)]; omega))⟩ (by omega) (by omega) (by omega) (by omega)
            have c287 := (t259.mi e272 (by decide)).trans c262
            have c288 := (t274.mi e277 (by decide)).trans c287
            have X289 : ExC [0, 1, 2, 60, 61, 62, 63, 64, 65, 66, 67, 68, 69, 70, 72, 73, 74, 75, 76, 180, 182, 183, 184, 185, 186, 242, 243, 244, 246, 270, 271, 272, 273, 275, 276, 277, 278, 279, 280, 330, 331, 332, 333, 334, 999] σ0 σ247 := X242.tr (e250.mo (by decide))
            have X290 : ExC [0, 1, 2, 60, 61, 62, 63, 64, 65, 66, 67, 68, 69, 70, 72, 73, 74, 75, 76, 180, 182, 183, 184, 185, 186, 242, 243, 244, 246, 270, 271, 272, 273, 275, 276, 277, 278, 279, 280, 330, 331, 332, 333, 334, 999] σ0 σ270 := X289.tr (e272.mo (by decide))
            have X291 : ExC [0, 1, 2, 60, 61, 62, 63, 64, 65, 66, 67, 68, 69, 70, 72, 73, 74, 75, 76, 180, 182, 183, 184, 185, 186, 242, 243, 244, 246, 270, 271, 272, 273, 275, 276, 277, 278, 279, 280, 330, 331, 332, 333, 334, 999] σ0 σ275 := X290.tr (e277.mo (by decide))
            have c292 := (t259.mi e272 (by decide)).trans c256
            have c293 := (t274.mi e277 (by decide)).trans c292
            have z294 := congrArg Int32.toInt c293
            have z295 := congrArg Int32.toInt c288
            have c296 := (t168.mi e206 (by decide)).trans q175
            have c297 := (t280.mi e235 (by decide)).trans c296
            have c298 := (t281.mi e250 (by decide)).trans c297
            have c299 := (t282.mi e272 (by decide)).trans c298
            have c300 := (t283.mi e277 (by decide)).trans c299
            refine k_inv (P := P_X7_readParams) (Q := Q_X7_readParams) rfl rfl rfl rfl (Nat.le_of_ble_eq_true rfl) (t279.rc (by decide)) ⟨_, _, rfl, H276, t279, t284, (rd_cd.st H0 h_0_0 X291 R286.1 (by decide)), (R286.2.2.2.1 rd_at), (rd_bg.st H0 h_0_0 X291 R286 (by decide) (by omega) (by omega) (by omega)), (by rw [c300]; decide)⟩ (fun w301 σ302 q303 => ?_)
            obtain ⟨rfl, H304, e305, R306, q307⟩ := q303
            have t313 := t279.x e305
            obtain ⟨x308, e309, c310, h311, h312⟩ := cg242 H304.1 t313
            obtain ⟨x314, e315, c316, h317, h318⟩ := cg243 H304.1 t313
            have z319 := congrArg Int32.toInt c310
            have z320 := congrArg Int32.toInt c316
            refine k_st (st' := []) rfl ?_
            have R321 : RdC p0 none (-12) (-2) (-1000) σ0 σ302 := R286.tr ⟨R306.1, R306.2⟩ (by omega) (by omega) (by omega) (by omega)
            have z322 := R321.2.2.1
            have z323 := R321.2.2.2.1 rd_at
            refine k_aload_n rfl ?_
            refine k_aload_n rfl ?_
            refine k_iconst (m := 0) rfl (fun x324 h325 => ?_)
            have X326 : ExC [0, 1, 2, 60, 61, 62, 63, 64, 65, 66, 67, 68, 69, 70, 72, 73, 74, 75, 76, 180, 182, 183, 184, 185, 186, 242, 243, 244, 246, 270, 271, 272, 273, 275, 276, 277, 278, 279, 280, 330, 331, 332, 333, 334, 999] σ0 σ302 := X291.tr (e305.mo (by decide))
            refine k_inv (P := (P_X7_readBody 21)) (Q := (Q_X7_readBody 21)) rfl rfl rfl rfl (Nat.le_of_ble_eq_true rfl) (t313.rc (by decide)) ⟨_, _, rfl, H304, t313, (by omega), (by omega), (rd_cd.st H0 h_0_0 X326 R321.1 (by decide)), (R321.2.2.2.1 rd_at), (rd_bg.st H0 h_0_0 X326 R321 (by decide) (by omega) (by omega) (by omega)), (by omega)⟩ (fun w327 σ328 q329 => ?_)
            obtain ⟨a330, rfl, H331, e332, h334, R333, q335, q336, q337, q338⟩ := q329
            have t344 := t313.x e332
            obtain ⟨x339, e340, c341, h342, h343⟩ := cg242 H331.1 t344
            obtain ⟨x345, e346, c347, h348, h349⟩ := cg243 H331.1 t344
            have z350 := congrArg Int32.toInt c341
            have z351 := congrArg Int32.toInt c347
            refine k_st (st' := [.inr (.inr (some a330)), .inr (.inr (some a123))]) rfl ?_
            have z352 := R321.1.1
            obtain ⟨x353, e354, c355, h356, h357⟩ := cg272 H331.1 h334
            rw [c355] at q336
            obtain ⟨x358, e359, c360, h361, h362⟩ := cg270 H331.1 h334
            rw [c360] at q337
            have R363 : RdC p0 none (-18) (174) (-998) σ0 σ328 := R321.tr ⟨R333.1, R333.2⟩ (by omega) (by omega) (by omega) (by omega)
            have z364 := R363.2.2.1
            have z365 := R363.2.2.2.1 rd_at
            have t371 := t284.x e305
            have t372 := t371.x e332
            refine k_p186 H331 t372 h334 (by rw [c360]; omega) (fun σ366 H367 e368 g369 c370 => ?_)
            refine k_return ?_
            have X373 : ExC [0, 1, 2, 60, 61, 62, 63, 64, 65, 66, 67, 68, 69, 70, 72, 73, 74, 75, 76, 180, 182, 183, 184, 185, 186, 242, 243, 244, 246, 270, 271, 272, 273, 275, 276, 277, 278, 279, 280, 330, 331, 332, 333, 334, 999] σ0 σ328 := X326.tr (e332.mo (by decide))
            have X374 : ExC [0, 1, 2, 60, 61, 62, 63, 64, 65, 66, 67, 68, 69, 70, 72, 73, 74, 75, 76, 180, 182, 183, 184, 185, 186, 242, 243, 244, 246, 270, 271, 272, 273, 275, 276, 277, 278, 279, 280, 330, 331, 332, 333, 334, 999] σ0 σ366 := X373.tr (e368.mo (by decide))
            have R375 : RdC p0 none (-18) (174) (-998) σ0 σ366 := R363.tr ⟨g369, (e368.cou (u := 0) H331.1 t344 (by decide) (by rw [e368.cn (by decide)]; omega))⟩ (by omega) (by omega) (by omega) (by omega)
            have c376 := (t344.mi e368 (by decide)).trans c347
            have c377 := (t344.mi e368 (by decide)).trans c341
            have S408 : ∀ s, ReC σ0 p0 s → ReC σ366 p0 (mthY s) := by
              intro s hs
              have f378 := q22 _ hs
              have f379 := q37 _ hs
              have f380 := q55 _ hs
              have y381 := q66 _ hs
              have f383 := y381.nm c84 c88 q98
              have f384 := q109 _ y381
              have f385 := y381.ft c75
              have y386 := y381.x H62.1 t72 e127 (by decide)
              have f387 := y386.at_ c136
              have f388 := y386.at_ c136
              have f389 := y386.nv c148 c151 q161
              have y390 := y386.xt H126.1 t135 r128 e167 (by decide)
              have y391 := y390.adm (ty := (codY s - 50)) H166.1 t181 e206 q213 q212 c182 c185
              have f392 := y391.at_ c214
              have y393 := y391.x H205.1 t218 e235 (by decide)
              have y394 := q253 _ y393
              have y396 := y394.x H249.1 t259 e272 (by decide)
              have y397 := y396.x H271.1 t274 e277 (by decide)
              have y398 := q307 _ y397
              have y400 := q338 _ y398
              have y402 := y400.x H331.1 t344 e368 (by decide)
              have g403 := nrY f379 (q45 (by omega))
              have g404 := f380.symm.trans (h58.trans h57)
              have g405 := ngY (k := 10) f383 (by omega)
              have g406 := f384.symm.trans (h112.trans h111)
              have g407 := f385.symm.trans (show x73.toInt = 0 from by omega)
              refine y402.eq ?_
              all_goals try simp only [mthY, me1Y, me2Y, me3Y, g403, g404, g405, g406, g407, or_false, false_or, or_true, true_or, and_false, false_and, and_true, true_and, not_true, not_false_iff, ↓reduceIte, Int.reduceEq, Int.reduceLE, Int.reduceLT, Int.reduceNeg]
              all_goals first | rfl | (exfalso; omega)
            exact ⟨rfl, H367, X374, (R375.mo (by omega) (by omega) (by omega)), S408⟩
          · refine k_nil ?_
            refine hB _ _ _ _ (kgoC (is := KX7_readMethod_70) rfl ?_)
            refine k_aload_n rfl ?_
            refine k_iconst (m := 3) rfl (fun x409 h410 => ?_)
            have R411 := R80.nf (-1000) (-1000) (by rw [c75]; omega)
            refine k_inv (P := P_X7_raise) (Q := Q_X7_raise) rfl rfl rfl rfl (Nat.le_of_ble_eq_true rfl) (t72.rc (by decide)) ⟨_, _, rfl, H62, t72, (by omega), (by omega), (rd_cd.st H0 h_0_0 X101 R411.1 (by decide)), (R411.2.2.2.1 rd_at), (rd_bg.stn H0 h_0_0 X101 R411 (by decide) (by rw [c75]; omega) (by omega))⟩ (fun w412 σ413 q414 => ?_)
            obtain ⟨rfl, H415, e416, R417, q418, q419⟩ := q414
            have c420 := (t72.mi e416 (by decide)).trans c69
            have t426 := t72.x e416
            obtain ⟨x421, e422, c423, h424, h425⟩ := cg243 H415.1 t426
            have z427 := congrArg Int32.toInt c420
            have z428 := congrArg Int32.toInt c423
            refine k_st (st' := []) rfl ?_
            have h429 : 1 ≤ x421.toInt := by have hq := q418; rw [c423] at hq; omega
            refine k_nil ?_
            refine hB _ _ _ _ (kgoC (is := KX7_readMethod_75) rfl ?_)
            refine k_aload_n rfl ?_
            refine k_get kg243 t426 (congrArg (Sum.inl : Int32 → AvC) c423) ?_
            refine k_if_eq (fun h430 => by exfalso; omega) (fun h430 => ?_)
            refine k_nil ?_
            refine hB _ _ _ _ (kgoC (is := KX7_readMethod_82) rfl ?_)
            refine k_return ?_
            have X431 : ExC [0, 1, 2, 60, 61, 62, 63, 64, 65, 66, 67, 68, 69, 70, 72, 73, 74, 75, 76, 180, 182, 183, 184, 185, 186, 242, 243, 244, 246, 270, 271, 272, 273, 275, 276, 277, 278, 279, 280, 330, 331, 332, 333, 334, 999] σ0 σ413 := X101.tr (e416.mo (by decide))
            have R432 : RdC p0 none (-8) (-8) (-1000) σ0 σ413 := R411.tr ⟨R417.1, R417.2⟩ (by omega) (by omega) (by omega) (by omega)
            have S448 : ∀ s, ReC σ0 p0 s → ReC σ413 p0 (mthY s) := by
              intro s hs
              have f433 := q22 _ hs
              have f434 := q37 _ hs
              have f435 := q55 _ hs
              have y436 := q66 _ hs
              have f438 := y436.nm c84 c88 q98
              have f439 := q109 _ y436
              have y440 := q419 _ y436
              rw [h410] at y440
              have f442 := y440.ft c423
              have g443 := nrY f434 (q45 (by omega))
              have g444 := f435.symm.trans (h58.trans h57)
              have g445 := lgY (k := 10) f438 (by omega)
              have g446 := f439.symm.trans (h112.trans h111)
              have g447 := nzY f442 (by omega)
              refine y440.eq ?_
              all_goals try simp only [mthY, me1Y, me2Y, me3Y, g443, g444, g445, g446, g447, or_false, false_or, or_true, true_or, and_false, false_and, and_true, true_and, not_true, not_false_iff, ↓reduceIte, Int.reduceEq, Int.reduceLE, Int.reduceLT, Int.reduceNeg]
              all_goals first | rfl | (exfalso; omega)
            exact ⟨rfl, H415, X431, ((R432.ft (0) (by rw [c423]; omega)).mo (by omega) (by omega) (by omega)), S448⟩
        · refine k_nil ?_
          refine hB _ _ _ _ (kgoC (is := KX7_readMethod_56) rfl ?_)
          refine k_aload_n rfl ?_
          refine k_iconst (m := 2) rfl (fun x449 h450 => ?_)
          refine k_inv (P := P_X7_raise) (Q := Q_X7_raise) rfl rfl rfl rfl (Nat.le_of_ble_eq_true rfl) (t72.rc (by decide)) ⟨_, _, rfl, H62, t72, (by omega), (by omega), (rd_cd.st H0 h_0_0 X101 R80.1 (by decide)), (R80.2.2.2.1 rd_at), (rd_bg.st H0 h_0_0 X101 R80 (by decide) (by omega) (by omega) (by omega))⟩ (fun w451 σ452 q453 => ?_)
          obtain ⟨rfl, H454, e455, R456, q457, q458⟩ := q453
          have c459 := (t72.mi e455 (by decide)).trans c69
          have t465 := t72.x e455
          obtain ⟨x460, e461, c462, h463, h464⟩ := cg243 H454.1 t465
          have z466 := congrArg Int32.toInt c459
          have z467 := congrArg Int32.toInt c462
          refine k_st (st' := []) rfl ?_
          have h468 : 1 ≤ x460.toInt := by have hq := q457; rw [c462] at hq; omega
          refine k_goto ?_
          refine hB _ _ _ _ (kgoC (is := KX7_readMethod_75) rfl ?_)
          refine k_aload_n rfl ?_
          refine k_get kg243 t465 (congrArg (Sum.inl : Int32 → AvC) c462) ?_
          refine k_if_eq (fun h469 => by exfalso; omega) (fun h469 => ?_)
          refine k_nil ?_
          refine hB _ _ _ _ (kgoC (is := KX7_readMethod_82) rfl ?_)
          refine k_return ?_
          have X470 : ExC [0, 1, 2, 60, 61, 62, 63, 64, 65, 66, 67, 68, 69, 70, 72, 73, 74, 75, 76, 180, 182, 183, 184, 185, 186, 242, 243, 244, 246, 270, 271, 272, 273, 275, 276, 277, 278, 279, 280, 330, 331, 332, 333, 334, 999] σ0 σ452 := X101.tr (e455.mo (by decide))
          have R471 : RdC p0 none (-8) (0) (-1000) σ0 σ452 := R80.tr ⟨R456.1, R456.2⟩ (by omega) (by omega) (by omega) (by omega)
          have S486 : ∀ s, ReC σ0 p0 s → ReC σ452 p0 (mthY s) := by
            intro s hs
            have f472 := q22 _ hs
            have f473 := q37 _ hs
            have f474 := q55 _ hs
            have y475 := q66 _ hs
            have f477 := y475.nm c84 c88 q98
            have f478 := q109 _ y475
            have y479 := q458 _ y475
            rw [h450] at y479
            have f481 := y479.ft c462
            have g482 := nrY f473 (q45 (by omega))
            have g483 := f474.symm.trans (h58.trans h57)
            have g484 := neY f478 h112 h111
            have g485 := nzY f481 (by omega)
            refine y479.eq ?_
            all_goals try simp only [mthY, me1Y, me2Y, me3Y, g482, g483, g484, g485, or_false, false_or, or_true, true_or, and_false, false_and, and_true, true_and, not_true, not_false_iff, ↓reduceIte, Int.reduceEq, Int.reduceLE, Int.reduceLT, Int.reduceNeg]
            all_goals first | rfl | (exfalso; omega)
          exact ⟨rfl, H454, X470, ((R471.ft (0) (by rw [c462]; omega)).mo (by omega) (by omega) (by omega)), S486⟩
      · refine k_nil ?_
        refine hB _ _ _ _ (kgoC (is := KX7_readMethod_27) rfl ?_)
        refine k_aload_n rfl ?_
        refine k_iconst (m := 2) rfl (fun x487 h488 => ?_)
        refine k_inv (P := P_X7_raise) (Q := Q_X7_raise) rfl rfl rfl rfl (Nat.le_of_ble_eq_true rfl) (h_0_0.rc (by decide)) ⟨_, _, rfl, H0, h_0_0, (by omega), (by omega), (rd_cd.st H0 h_0_0 (ExC.rf : ExC [0, 1, 2, 60, 61, 62, 63, 64, 65, 66, 67, 68, 69, 70, 72, 73, 74, 75, 76, 180, 182, 183, 184, 185, 186, 242, 243, 244, 246, 270, 271, 272, 273, 275, 276, 277, 278, 279, 280, 330, 331, 332, 333, 334, 999] σ0 σ0) R14.1 (by decide)), (R14.2.2.2.1 rd_at), (rd_bg.stn H0 h_0_0 (ExC.rf : ExC [0, 1, 2, 60, 61, 62, 63, 64, 65, 66, 67, 68, 69, 70, 72, 73, 74, 75, 76, 180, 182, 183, 184, 185, 186, 242, 243, 244, 246, 270, 271, 272, 273, 275, 276, 277, 278, 279, 280, 330, 331, 332, 333, 334, 999] σ0 σ0) R14 (by decide) (by rw [c8]; omega) (by omega))⟩ (fun w489 σ490 q491 => ?_)
        obtain ⟨rfl, H492, e493, R494, q495, q496⟩ := q491
        have c497 := (h_0_0.mi e493 (by decide)).trans c3
        have t503 := h_0_0.x e493
        obtain ⟨x498, e499, c500, h501, h502⟩ := cg243 H492.1 t503
        have z504 := congrArg Int32.toInt c497
        have z505 := congrArg Int32.toInt c500
        refine k_st (st' := []) rfl ?_
        have h506 : 1 ≤ x498.toInt := by have hq := q495; rw [c500] at hq; omega
        refine k_nil ?_
        refine hB _ _ _ _ (kgoC (is := KX7_readMethod_32) rfl ?_)
        refine k_aload_n rfl ?_
        have R507 : RdC p0 none (0) (0) (-1000) σ0 σ490 := R14.tr ⟨R494.1, R494.2⟩ (by omega) (by omega) (by omega) (by omega)
        have X508 : ExC [0, 1, 2, 60, 61, 62, 63, 64, 65, 66, 67, 68, 69, 70, 72, 73, 74, 75, 76, 180, 182, 183, 184, 185, 186, 242, 243, 244, 246, 270, 271, 272, 273, 275, 276, 277, 278, 279, 280, 330, 331, 332, 333, 334, 999] σ0 σ490 := ExC.rf.tr (e493.mo (by decide))
        refine k_inv (P := P_X7_accept) (Q := Q_X7_accept) rfl rfl rfl rfl (Nat.le_of_ble_eq_true rfl) (t503.rc (by decide)) ⟨_, rfl, H492, t503, (rd_cd.st H0 h_0_0 X508 R507.1 (by decide)), (R507.2.2.2.1 rd_at), (rd_bg.st H0 h_0_0 X508 R507 (by decide) (by omega) (by omega) (by omega)), (by have ct := R507.2.2.1; rw [c500, c497, ct]; omega)⟩ (fun w509 σ510 q511 => ?_)
        obtain ⟨rfl, H512, e513, R514, q515, q516⟩ := q511
        have t522 := t503.x e513
        obtain ⟨x517, e518, c519, h520, h521⟩ := cg242 H512.1 t522
        obtain ⟨x523, e524, c525, h526, h527⟩ := cg243 H512.1 t522
        have z528 := congrArg Int32.toInt c519
        have z529 := congrArg Int32.toInt c525
        refine k_st (st' := []) rfl ?_
        have R530 : RdC p0 none (-8) (0) (-1000) σ0 σ510 := R507.tr ⟨R514.1, R514.2⟩ (by omega) (by omega) (by omega) (by omega)
        have z531 := R530.2.2.1
        have z532 := R530.2.2.2.1 rd_at
        refine k_aload_n rfl ?_
        obtain ⟨a535, e533, c534, t536⟩ := cg240 H512.1 t522
        refine k_get kg240 t522 e533 ?_
        obtain ⟨a539, e537, c538, t540, l541⟩ := cg211 H512.1 t536
        refine k_get kg211 t536 e537 ?_
        refine k_inv (P := P_Jx4a65c_size_8abf5) (Q := Q_Jx4a65c_size_8abf5) rfl rfl rfl rfl (Nat.le_of_ble_eq_true rfl) (t540.rc (by decide)) ⟨_, rfl, H512, t540⟩ (fun w542 σ543 q544 => ?_)
        obtain ⟨x545, rfl, rfl, h546, h547, q548, q549⟩ := q544
        refine k_st (st' := [.inl x545]) rfl ?_
        have z550 := q549 l541
        refine k_istore_n (ls' := [(2, .inl x545), (1, .inl x27), (0, .inr (.inr (some p0)))]) rfl ?_
        refine k_aload_n rfl ?_
        have X551 : ExC [0, 1, 2, 60, 61, 62, 63, 64, 65, 66, 67, 68, 69, 70, 72, 73, 74, 75, 76, 180, 182, 183, 184, 185, 186, 242, 243, 244, 246, 270, 271, 272, 273, 275, 276, 277, 278, 279, 280, 330, 331, 332, 333, 334, 999] σ0 σ510 := X508.tr (e513.mo (by decide))
        refine k_inv (P := P_X7_code) (Q := Q_X7_code) rfl rfl rfl rfl (Nat.le_of_ble_eq_true rfl) (t522.rc (by decide)) ⟨_, rfl, H512, t522, (rd_cd.st H0 h_0_0 X551 R530.1 (by decide))⟩ (fun w552 σ553 q554 => ?_)
        obtain ⟨x555, rfl, rfl, q556, q557, q558, q559⟩ := q554
        refine k_st (st' := [.inl x555]) rfl ?_
        refine k_bipush (m := 80) rfl (fun x560 h561 => ?_)
        refine k_ic_eq (fun h562 => ?_) (fun h562 => ?_)
        · have h563 : x523.toInt = 0 := by omega
          refine hB _ _ _ _ (kgoC (is := KX7_readMethod_64) rfl ?_)
          refine k_iload_n rfl ?_
          refine k_bipush (m := 10) rfl (fun x564 h565 => ?_)
          refine k_ic_lt (fun h566 => ?_) (fun h566 => ?_)
          · refine hB _ _ _ _ (kgoC (is := KX7_readMethod_75) rfl ?_)
            refine k_aload_n rfl ?_
            refine k_get kg243 t522 (congrArg (Sum.inl : Int32 → AvC) c525) ?_
            refine k_if_eq (fun h567 => ?_) (fun h567 => by exfalso; omega)
            refine hB _ _ _ _ (kgoC (is := KX7_readMethod_83) rfl ?_)
            have R568 := R530.nf (-1000) (-1000) (by rw [c525]; omega)
            have B569 : BgC σ510 p0 3 3 := rd_bg.stn H0 h_0_0 X551 R568 (by decide) (by rw [c525]; omega) (by omega)
            obtain ⟨h570, h571⟩ := B569.new H512.1 t522 (u := 3) (by omega) (by omega)
            have z572 := R568.1.1
            refine k_new (c := 6) (g := 0) H512 (by decide) rfl (by omega) (by have hn : nfC 6 = 7 := rfl; omega) (fun a573 σ574 q575 H576 e577 r578 z579 l580 u581 u582 => ?_)
            rw [show nfC 6 = 7 from rfl] at u582
            have u583 : cpC σ574 = cpC σ510 := congrArg Prod.fst e577.2.1.1
            have u584 : spC σ574 = spC σ510 := congrArg Prod.snd e577.2.1.1
            refine k_dupR ?_
            refine k_aload_n rfl ?_
            have t585 := t522.x e577
            have c586 := (t522.mi e577 (by decide)).trans c519
            refine k_get kg242 t585 (congrArg (Sum.inl : Int32 → AvC) c586) ?_
            refine k_aload_n rfl ?_
            obtain ⟨a589, e587, c588, t590⟩ := cg241 H576.1 t585
            refine k_get kg241 t585 e587 ?_
            obtain ⟨a593, e591, c592, t594, l595, l596⟩ := cg304 H576.1 t590
            refine k_get kg304 t590 e591 ?_
            refine k_aload_n rfl ?_
            refine k_get kg242 t585 (congrArg (Sum.inl : Int32 → AvC) c586) ?_
            refine k_laload t594 (by omega) (by omega) (fun y597 => ?_)
            refine k_iload_n rfl ?_
            refine k_aload_n rfl ?_
            have c598 := (t522.mr e577 (by decide)).trans c534
            refine k_get kg240 t585 (congrArg (fun z : Option Nat => (Sum.inr (Sum.inr z) : AvC)) c598) ?_
            have t599 := t536.x e577
            obtain ⟨a602, e600, c601, t603, l604⟩ := cg212 H576.1 t599
            refine k_get kg212 t599 e600 ?_
            refine k_inv (P := P_Jx4a65c_size_8abf5) (Q := Q_Jx4a65c_size_8abf5) rfl rfl rfl rfl (Nat.le_of_ble_eq_true rfl) (t603.rc (by decide)) ⟨_, rfl, H576, t603⟩ (fun w605 σ606 q607 => ?_)
            obtain ⟨x608, rfl, rfl, h609, h610, q611, q612⟩ := q607
            refine k_st (st' := [.inl x608, .inl x27, .inr (.inl y597), .inl x517, .inr (.inr (some a573)), .inr (.inr (some a573))]) rfl ?_
            refine k_spec (P := P_X5_init) (Q := Q_X5_init) rfl rfl rfl rfl (Nat.le_of_ble_eq_true rfl) ⟨_, _, _, _, _, rfl, H576, r578, z579, (by omega), (by omega), (by omega), (by omega)⟩ (fun w613 σ614 q615 => ?_)
            obtain ⟨rfl, H616, e617, t618, l619, u620, u621, g622, q624, q625⟩ := q615
            have l623 := l619.trans l580
            have c626 := (t585.mit r578 (by decide) e617 (by decide)).trans c586
            have c627 := (t522.mi e577 (by decide)).trans c525
            have c628 := (t585.mit r578 (by decide) e617 (by decide)).trans c627
            have z629 := congrArg Int32.toInt c626
            have z630 := congrArg Int32.toInt c628
            refine k_st (st' := [.inr (.inr (some a573))]) rfl ?_
            refine k_astore_n (ls' := [(3, .inr (.inr (some a573))), (2, .inl x545), (1, .inl x27), (0, .inr (.inr (some p0)))]) rfl ?_
            refine k_aload_n rfl ?_
            have t631 := t585.xt r578 (by decide) e617
            have c632 := (t585.mrt r578 (by decide) e617 (by decide)).trans c598
            refine k_get kg240 t631 (congrArg (fun z : Option Nat => (Sum.inr (Sum.inr z) : AvC)) c632) ?_
            have t633 := t599.xt r578 (by decide) e617
            have c634 := (t536.mr e577 (by decide)).trans c538
            have c635 := (t599.mrt r578 (by decide) e617 (by decide)).trans c634
            refine k_get kg211 t633 (congrArg (fun z : Option Nat => (Sum.inr (Sum.inr z) : AvC)) c635) ?_
            refine k_aload_n rfl ?_
            have t636 := t540.x e577
            have t637 := t636.xt r578 (by decide) e617
            have l638 := (t540.gh e577).trans l541
            have l639 := (t636.ght r578 (by decide) e617).trans l638
            have R640 : RdC p0 none (-7) (-7) (-999) σ0 σ574 := R568.tr ⟨(e577.gwn H512.1 u581 u582 (by decide) (by rw [← q575]; exact r578.n0)), (e577.cou (u := 1) H512.1 t522 (by decide) (by omega))⟩ (by omega) (by omega) (by omega) (by omega)
            have R641 : RdC p0 none (-5) (-5) (-997) σ0 σ614 := R640.tr ⟨g622, (e617.co (u := 2) H576.1 t585 r578 (by decide) (by omega))⟩ (by omega) (by omega) (by omega) (by omega)
            have R642 := R641.nf (-1000) (-1000) (by rw [c628]; omega)
            have X643 : ExC [0, 1, 2, 60, 61, 62, 63, 64, 65, 66, 67, 68, 69, 70, 72, 73, 74, 75, 76, 180, 182, 183, 184, 185, 186, 242, 243, 244, 246, 270, 271, 272, 273, 275, 276, 277, 278, 279, 280, 330, 331, 332, 333, 334, 999] σ510 σ574 := ExC.rf.tr (e577.mo (by decide))
            have X644 : ExC [0, 1, 2, 60, 61, 62, 63, 64, 65, 66, 67, 68, 69, 70, 72, 73, 74, 75, 76, 180, 182, 183, 184, 185, 186, 242, 243, 244, 246, 270, 271, 272, 273, 275, 276, 277, 278, 279, 280, 330, 331, 332, 333, 334, 999] σ510 σ614 := (X643 : ExC [0, 1, 2, 60, 61, 62, 63, 64, 65, 66, 67, 68, 69, 70, 72, 73, 74, 75, 76, 180, 182, 183, 184, 185, 186, 242, 243, 244, 246, 270, 271, 272, 273, 275, 276, 277, 278, 279, 280, 330, 331, 332, 333, 334, 999] σ510 σ574).nt (Nat.le_of_eq q575.symm) (e617.mo (by decide))
            have X645 : ExC [0, 1, 2, 60, 61, 62, 63, 64, 65, 66, 67, 68, 69, 70, 72, 73, 74, 75, 76, 180, 182, 183, 184, 185, 186, 242, 243, 244, 246, 270, 271, 272, 273, 275, 276, 277, 278, 279, 280, 330, 331, 332, 333, 334, 999] σ0 σ614 := X551.tr X644
            have B646 : BgC σ614 p0 1 1 := rd_bg.stn H0 h_0_0 X645 R642 (by decide) (by rw [c628]; omega) (by omega)
            obtain ⟨h647, h648⟩ := B646.new H616.1 t631 (u := 1) (by omega) (by omega)
            have c649 := (t540.mi e577 (by decide)).trans q548
            have c650 := (t636.mit r578 (by decide) e617 (by decide)).trans c649
            refine k_inv (P := P_Jx4a65c_add_9ea2d) (Q := Q_Jx4a65c_add_9ea2d) rfl rfl rfl rfl (Nat.le_of_ble_eq_true rfl) (t637.rc (by decide)) ⟨_, _, rfl, H616, t637, (by rw [l639]; exact ⟨t618, by decide, fun hz => by rw [q624]; omega⟩), (B646.sz H616.1 t631 (by omega) (by omega) c632 (by decide) c635), h647, (by omega), (fun _ => by rw [c650] <;> omega)⟩ (fun w651 σ652 q653 => ?_)
            obtain ⟨x654, rfl, H655, e656, h658, h659, g657, q660, q661, q662, q663⟩ := q653
            have c664 := (t631.mi e656 (by decide)).trans c626
            have c665 := (t631.mi e656 (by decide)).trans c628
            have z666 := congrArg Int32.toInt c664
            have z667 := congrArg Int32.toInt c665
            refine k_st (st' := [.inl x654]) rfl ?_
            refine k_popI ?_
            refine k_aload_n rfl ?_
            have t668 := t631.x e656
            have c669 := (t585.mrt r578 (by decide) e617 (by decide)).trans c588
            have c670 := (t631.mr e656 (by decide)).trans c669
            refine k_get kg241 t668 (congrArg (fun z : Option Nat => (Sum.inr (Sum.inr z) : AvC)) c670) ?_
            have t671 := t590.xt r578 (by decide) e617
            have t672 := t671.x e656
            obtain ⟨a675, e673, c674, t676, l677, l678⟩ := cg303 H655.1 t672
            refine k_get kg303 t672 e673 ?_
            refine k_aload_n rfl ?_
            refine k_get kg242 t668 (congrArg (Sum.inl : Int32 → AvC) c664) ?_
            refine k_bipush (m := 100) rfl (fun x679 h680 => ?_)
            refine k_iload_n rfl ?_
            refine k_iadd (by omega) (by omega) (fun x681 h682 => ?_)
            refine k_iastore H655 t676 l678 (by omega) (by omega) (fun σ683 H684 e685 => ?_)
            refine k_aload_n rfl ?_
            have t686 := t668.x e685
            have R687 : RdC p0 none (-4) (-4) (-999) σ0 σ652 := R642.tr ⟨g657, (e656.cou2 (u := 1) H616.1 t631 (by decide) (by omega) q661)⟩ (by omega) (by omega) (by omega) (by omega)
            have R688 : RdC p0 none (-4) (-4) (-999) σ0 σ683 := R687.tr ⟨(e685.gw H655.1 (by decide)), (e685.cou (u := 0) H655.1 t668 (by decide) (by rw [e685.cn (by decide)]; omega))⟩ (by omega) (by omega) (by omega) (by omega)
            have c689 := (t668.mi e685 (by decide)).trans c665
            have R690 := R688.nf (-1000) (-1000) (by rw [c689]; omega)
            have X691 : ExC [0, 1, 2, 60, 61, 62, 63, 64, 65, 66, 67, 68, 69, 70, 72, 73, 74, 75, 76, 180, 182, 183, 184, 185, 186, 242, 243, 244, 246, 270, 271, 272, 273, 275, 276, 277, 278, 279, 280, 330, 331, 332, 333, 334, 999] σ0 σ652 := X645.tr (e656.mo (by decide))
            have X692 : ExC [0, 1, 2, 60, 61, 62, 63, 64, 65, 66, 67, 68, 69, 70, 72, 73, 74, 75, 76, 180, 182, 183, 184, 185, 186, 242, 243, 244, 246, 270, 271, 272, 273, 275, 276, 277, 278, 279, 280, 330, 331, 332, 333, 334, 999] σ0 σ683 := X691.tr (e685.mo (by decide))
            have c693 := (t668.mi e685 (by decide)).trans c664
            have z694 := congrArg Int32.toInt c693
            have z695 := congrArg Int32.toInt c689
            refine k_inv (P := P_X7_accept) (Q := Q_X7_accept) rfl rfl rfl rfl (Nat.le_of_ble_eq_true rfl) (t686.rc (by decide)) ⟨_, rfl, H684, t686, (rd_cd.st H0 h_0_0 X692 R690.1 (by decide)), (R690.2.2.2.1 rd_at), (rd_bg.stn H0 h_0_0 X692 R690 (by decide) (by rw [c689]; omega) (by omega)), (by have ct := R690.2.2.1; rw [c689, c693, ct]; omega)⟩ (fun w696 σ697 q698 => ?_)
            obtain ⟨rfl, H699, e700, R701, q702, q703⟩ := q698
            have t709 := t686.x e700
            obtain ⟨x704, e705, c706, h707, h708⟩ := cg242 H699.1 t709
            obtain ⟨x710, e711, c712, h713, h714⟩ := cg243 H699.1 t709
            have z715 := congrArg Int32.toInt c706
            have z716 := congrArg Int32.toInt c712
            refine k_st (st' := []) rfl ?_
            have R717 : RdC p0 none (-12) (-4) (-1000) σ0 σ697 := R690.tr ⟨R701.1, R701.2⟩ (by omega) (by omega) (by omega) (by omega)
            have z718 := R717.2.2.1
            have z719 := R717.2.2.2.1 rd_at
            refine k_aload_n rfl ?_
            refine k_lconst ?_
            refine k_putL kg245 H699 t709 fk245 (fun σ720 H721 e722 c723 => ?_)
            refine k_aload_n rfl ?_
            refine k_aconst_null ?_
            have t724 := t709.x e722
            refine k_putR kp246 H721 t724 fk246 (rfo246 (OtC.n)) (fun σ725 H726 e727 c728 => ?_)
            refine k_aload_n rfl ?_
            refine k_aload_n rfl ?_
            have t729 := t724.x e727
            have t730 := t618.x e656
            have t731 := t730.x e685
            have t732 := t731.x e700
            have t733 := t732.x e722
            have t734 := t733.x e727
            have R735 : RdC p0 none (-12) (-4) (-1000) σ0 σ720 := R717.tr ⟨(e722.gw H699.1 (by decide)), (e722.cou (u := 0) H699.1 t709 (by decide) (by rw [e722.cn (by decide)]; omega))⟩ (by omega) (by omega) (by omega) (by omega)
            have R736 : RdC p0 none (-12) (-4) (-1000) σ0 σ725 := R735.tr ⟨(e727.gw H721.1 (by decide)), (e727.cou (u := 0) H721.1 t724 (by decide) (by rw [e727.cn (by decide)]; omega))⟩ (by omega) (by omega) (by omega) (by omega)
            have c737 := (t709.mi e722 (by decide)).trans c712
            have c738 := (t724.mi e727 (by decide)).trans c737
            have X739 : ExC [0, 1, 2, 60, 61, 62, 63, 64, 65, 66, 67, 68, 69, 70, 72, 73, 74, 75, 76, 180, 182, 183, 184, 185, 186, 242, 243, 244, 246, 270, 271, 272, 273, 275, 276, 277, 278, 279, 280, 330, 331, 332, 333, 334, 999] σ0 σ697 := X692.tr (e700.mo (by decide))
            have X740 : ExC [0, 1, 2, 60, 61, 62, 63, 64, 65, 66, 67, 68, 69, 70, 72, 73, 74, 75, 76, 180, 182, 183, 184, 185, 186, 242, 243, 244, 246, 270, 271, 272, 273, 275, 276, 277, 278, 279, 280, 330, 331, 332, 333, 334, 999] σ0 σ720 := X739.tr (e722.mo (by decide))
            have X741 : ExC [0, 1, 2, 60, 61, 62, 63, 64, 65, 66, 67, 68, 69, 70, 72, 73, 74, 75, 76, 180, 182, 183, 184, 185, 186, 242, 243, 244, 246, 270, 271, 272, 273, 275, 276, 277, 278, 279, 280, 330, 331, 332, 333, 334, 999] σ0 σ725 := X740.tr (e727.mo (by decide))
            have c742 := (t709.mi e722 (by decide)).trans c706
            have c743 := (t724.mi e727 (by decide)).trans c742
            have z744 := congrArg Int32.toInt c743
            have z745 := congrArg Int32.toInt c738
            have c746 := (t618.mi e656 (by decide)).trans q625
            have c747 := (t730.mi e685 (by decide)).trans c746
            have c748 := (t731.mi e700 (by decide)).trans c747
            have c749 := (t732.mi e722 (by decide)).trans c748
            have c750 := (t733.mi e727 (by decide)).trans c749
            refine k_inv (P := P_X7_readParams) (Q := Q_X7_readParams) rfl rfl rfl rfl (Nat.le_of_ble_eq_true rfl) (t729.rc (by decide)) ⟨_, _, rfl, H726, t729, t734, (rd_cd.st H0 h_0_0 X741 R736.1 (by decide)), (R736.2.2.2.1 rd_at), (rd_bg.st H0 h_0_0 X741 R736 (by decide) (by omega) (by omega) (by omega)), (by rw [c750]; decide)⟩ (fun w751 σ752 q753 => ?_)
            obtain ⟨rfl, H754, e755, R756, q757⟩ := q753
            have t763 := t729.x e755
            obtain ⟨x758, e759, c760, h761, h762⟩ := cg242 H754.1 t763
            obtain ⟨x764, e765, c766, h767, h768⟩ := cg243 H754.1 t763
            have z769 := congrArg Int32.toInt c760
            have z770 := congrArg Int32.toInt c766
            refine k_st (st' := []) rfl ?_
            have R771 : RdC p0 none (-12) (-2) (-1000) σ0 σ752 := R736.tr ⟨R756.1, R756.2⟩ (by omega) (by omega) (by omega) (by omega)
            have z772 := R771.2.2.1
            have z773 := R771.2.2.2.1 rd_at
            refine k_aload_n rfl ?_
            refine k_aload_n rfl ?_
            refine k_iconst (m := 0) rfl (fun x774 h775 => ?_)
            have X776 : ExC [0, 1, 2, 60, 61, 62, 63, 64, 65, 66, 67, 68, 69, 70, 72, 73, 74, 75, 76, 180, 182, 183, 184, 185, 186, 242, 243, 244, 246, 270, 271, 272, 273, 275, 276, 277, 278, 279, 280, 330, 331, 332, 333, 334, 999] σ0 σ752 := X741.tr (e755.mo (by decide))
            refine k_inv (P := (P_X7_readBody 21)) (Q := (Q_X7_readBody 21)) rfl rfl rfl rfl (Nat.le_of_ble_eq_true rfl) (t763.rc (by decide)) ⟨_, _, rfl, H754, t763, (by omega), (by omega), (rd_cd.st H0 h_0_0 X776 R771.1 (by decide)), (R771.2.2.2.1 rd_at), (rd_bg.st H0 h_0_0 X776 R771 (by decide) (by omega) (by omega) (by omega)), (by omega)⟩ (fun w777 σ778 q779 => ?_)
            obtain ⟨a780, rfl, H781, e782, h784, R783, q785, q786, q787, q788⟩ := q779
            have t794 := t763.x e782
            obtain ⟨x789, e790, c791, h792, h793⟩ := cg242 H781.1 t794
            obtain ⟨x795, e796, c797, h798, h799⟩ := cg243 H781.1 t794
            have z800 := congrArg Int32.toInt c791
            have z801 := congrArg Int32.toInt c797
            refine k_st (st' := [.inr (.inr (some a780)), .inr (.inr (some a573))]) rfl ?_
            have z802 := R771.1.1
            obtain ⟨x803, e804, c805, h806, h807⟩ := cg272 H781.1 h784
            rw [c805] at q786
            obtain ⟨x808, e809, c810, h811, h812⟩ := cg270 H781.1 h784
            rw [c810] at q787
            have R813 : RdC p0 none (-18) (174) (-998) σ0 σ778 := R771.tr ⟨R783.1, R783.2⟩ (by omega) (by omega) (by omega) (by omega)
            have z814 := R813.2.2.1
            have z815 := R813.2.2.2.1 rd_at
            have t821 := t734.x e755
            have t822 := t821.x e782
            refine k_p186 H781 t822 h784 (by rw [c810]; omega) (fun σ816 H817 e818 g819 c820 => ?_)
            refine k_return ?_
            have X823 : ExC [0, 1, 2, 60, 61, 62, 63, 64, 65, 66, 67, 68, 69, 70, 72, 73, 74, 75, 76, 180, 182, 183, 184, 185, 186, 242, 243, 244, 246, 270, 271, 272, 273, 275, 276, 277, 278, 279, 280, 330, 331, 332, 333, 334, 999] σ0 σ778 := X776.tr (e782.mo (by decide))
            have X824 : ExC [0, 1, 2, 60, 61, 62, 63, 64, 65, 66, 67, 68, 69, 70, 72, 73, 74, 75, 76, 180, 182, 183, 184, 185, 186, 242, 243, 244, 246, 270, 271, 272, 273, 275, 276, 277, 278, 279, 280, 330, 331, 332, 333, 334, 999] σ0 σ816 := X823.tr (e818.mo (by decide))
            have R825 : RdC p0 none (-18) (174) (-998) σ0 σ816 := R813.tr ⟨g819, (e818.cou (u := 0) H781.1 t794 (by decide) (by rw [e818.cn (by decide)]; omega))⟩ (by omega) (by omega) (by omega) (by omega)
            have c826 := (t794.mi e818 (by decide)).trans c797
            have c827 := (t794.mi e818 (by decide)).trans c791
            have S860 : ∀ s, ReC σ0 p0 s → ReC σ816 p0 (mthY s) := by
              intro s hs
              have f828 := q22 _ hs
              have f829 := q37 _ hs
              have f830 := q55 _ hs
              have y831 := q496 _ hs
              rw [h488] at y831
              have y833 := q516 _ y831
              have f835 := y833.nm c534 c538 q548
              have f836 := q559 _ y833
              have f837 := y833.ft c525
              have y838 := y833.x H512.1 t522 e577 (by decide)
              have f839 := y838.at_ c586
              have f840 := y838.at_ c586
              have f841 := y838.nv c598 c601 q611
              have y842 := y838.xt H576.1 t585 r578 e617 (by decide)
              have y843 := y842.adm (ty := (codY s - 50)) H616.1 t631 e656 q663 q662 c632 c635
              have f844 := y843.at_ c664
              have y845 := y843.x H655.1 t668 e685 (by decide)
              have y846 := q703 _ y845
              have y848 := y846.x H699.1 t709 e722 (by decide)
              have y849 := y848.x H721.1 t724 e727 (by decide)
              have y850 := q757 _ y849
              have y852 := q788 _ y850
              have y854 := y852.x H781.1 t794 e818 (by decide)
              have g855 := nrY f829 (q45 (by omega))
              have g856 := neY f830 h58 h57
              have g857 := ngY (k := 10) f835 (by omega)
              have g858 := f836.symm.trans (h562.trans h561)
              have g859 := f837.symm.trans (show x523.toInt = 0 from by omega)
              refine y854.eq ?_
              all_goals try simp only [mthY, me1Y, me2Y, me3Y, g855, g856, g857, g858, g859, or_false, false_or, or_true, true_or, and_false, false_and, and_true, true_and, not_true, not_false_iff, ↓reduceIte, Int.reduceEq, Int.reduceLE, Int.reduceLT, Int.reduceNeg]
              all_goals first | rfl | (exfalso; omega)
            exact ⟨rfl, H817, X824, (R825.mo (by omega) (by omega) (by omega)), S860⟩
          · refine k_nil ?_
            refine hB _ _ _ _ (kgoC (is := KX7_readMethod_70) rfl ?_)
            refine k_aload_n rfl ?_
            refine k_iconst (m := 3) rfl (fun x861 h862 => ?_)
            have R863 := R530.nf (-1000) (-1000) (by rw [c525]; omega)
            refine k_inv (P := P_X7_raise) (Q := Q_X7_raise) rfl rfl rfl rfl (Nat.le_of_ble_eq_true rfl) (t522.rc (by decide)) ⟨_, _, rfl, H512, t522, (by omega), (by omega), (rd_cd.st H0 h_0_0 X551 R863.1 (by decide)), (R863.2.2.2.1 rd_at), (rd_bg.stn H0 h_0_0 X551 R863 (by decide) (by rw [c525]; omega) (by omega))⟩ (fun w864 σ865 q866 => ?_)
            obtain ⟨rfl, H867, e868, R869, q870, q871⟩ := q866
            have c872 := (t522.mi e868 (by decide)).trans c519
            have t878 := t522.x e868
            obtain ⟨x873, e874, c875, h876, h877⟩ := cg243 H867.1 t878
            have z879 := congrArg Int32.toInt c872
            have z880 := congrArg Int32.toInt c875
            refine k_st (st' := []) rfl ?_
            have h881 : 1 ≤ x873.toInt := by have hq := q870; rw [c875] at hq; omega
            refine k_nil ?_
            refine hB _ _ _ _ (kgoC (is := KX7_readMethod_75) rfl ?_)
            refine k_aload_n rfl ?_
            refine k_get kg243 t878 (congrArg (Sum.inl : Int32 → AvC) c875) ?_
            refine k_if_eq (fun h882 => by exfalso; omega) (fun h882 => ?_)
            refine k_nil ?_
            refine hB _ _ _ _ (kgoC (is := KX7_readMethod_82) rfl ?_)
            refine k_return ?_
            have X883 : ExC [0, 1, 2, 60, 61, 62, 63, 64, 65, 66, 67, 68, 69, 70, 72, 73, 74, 75, 76, 180, 182, 183, 184, 185, 186, 242, 243, 244, 246, 270, 271, 272, 273, 275, 276, 277, 278, 279, 280, 330, 331, 332, 333, 334, 999] σ0 σ865 := X551.tr (e868.mo (by decide))
            have R884 : RdC p0 none (-8) (-8) (-1000) σ0 σ865 := R863.tr ⟨R869.1, R869.2⟩ (by omega) (by omega) (by omega) (by omega)
            have S902 : ∀ s, ReC σ0 p0 s → ReC σ865 p0 (mthY s) := by
              intro s hs
              have f885 := q22 _ hs
              have f886 := q37 _ hs
              have f887 := q55 _ hs
              have y888 := q496 _ hs
              rw [h488] at y888
              have y890 := q516 _ y888
              have f892 := y890.nm c534 c538 q548
              have f893 := q559 _ y890
              have y894 := q871 _ y890
              rw [h862] at y894
              have f896 := y894.ft c875
              have g897 := nrY f886 (q45 (by omega))
              have g898 := neY f887 h58 h57
              have g899 := lgY (k := 10) f892 (by omega)
              have g900 := f893.symm.trans (h562.trans h561)
              have g901 := nzY f896 (by omega)
              refine y894.eq ?_
              all_goals try simp only [mthY, me1Y, me2Y, me3Y, g897, g898, g899, g900, g901, or_false, false_or, or_true, true_or, and_false, false_and, and_true, true_and, not_true, not_false_iff, ↓reduceIte, Int.reduceEq, Int.reduceLE, Int.reduceLT, Int.reduceNeg]
              all_goals first | rfl | (exfalso; omega)
            exact ⟨rfl, H867, X883, ((R884.ft (0) (by rw [c875]; omega)).mo (by omega) (by omega) (by omega)), S902⟩
        · refine k_nil ?_
          refine hB _ _ _ _ (kgoC (is := KX7_readMethod_56) rfl ?_)
          refine k_aload_n rfl ?_
          refine k_iconst (m := 2) rfl (fun x903 h904 => ?_)
          refine k_inv (P := P_X7_raise) (Q := Q_X7_raise) rfl rfl rfl rfl (Nat.le_of_ble_eq_true rfl) (t522.rc (by decide)) ⟨_, _, rfl, H512, t522, (by omega), (by omega), (rd_cd.st H0 h_0_0 X551 R530.1 (by decide)), (R530.2.2.2.1 rd_at), (rd_bg.st H0 h_0_0 X551 R530 (by decide) (by omega) (by omega) (by omega))⟩ (fun w905 σ906 q907 => ?_)
          obtain ⟨rfl, H908, e909, R910, q911, q912⟩ := q907
          have c913 := (t522.mi e909 (by decide)).trans c519
          have t919 := t522.x e909
          obtain ⟨x914, e915, c916, h917, h918⟩ := cg243 H908.1 t919
          have z920 := congrArg Int32.toInt c913
          have z921 := congrArg Int32.toInt c916
          refine k_st (st' := []) rfl ?_
          have h922 : 1 ≤ x914.toInt := by have hq := q911; rw [c916] at hq; omega
          refine k_goto ?_
          refine hB _ _ _ _ (kgoC (is := KX7_readMethod_75) rfl ?_)
          refine k_aload_n rfl ?_
          refine k_get kg243 t919 (congrArg (Sum.inl : Int32 → AvC) c916) ?_
          refine k_if_eq (fun h923 => by exfalso; omega) (fun h923 => ?_)
          refine k_nil ?_
          refine hB _ _ _ _ (kgoC (is := KX7_readMethod_82) rfl ?_)
          refine k_return ?_
          have X924 : ExC [0, 1, 2, 60, 61, 62, 63, 64, 65, 66, 67, 68, 69, 70, 72, 73, 74, 75, 76, 180, 182, 183, 184, 185, 186, 242, 243, 244, 246, 270, 271, 272, 273, 275, 276, 277, 278, 279, 280, 330, 331, 332, 333, 334, 999] σ0 σ906 := X551.tr (e909.mo (by decide))
          have R925 : RdC p0 none (-8) (0) (-1000) σ0 σ906 := R530.tr ⟨R910.1, R910.2⟩ (by omega) (by omega) (by omega) (by omega)
          have S942 : ∀ s, ReC σ0 p0 s → ReC σ906 p0 (mthY s) := by
            intro s hs
            have f926 := q22 _ hs
            have f927 := q37 _ hs
            have f928 := q55 _ hs
            have y929 := q496 _ hs
            rw [h488] at y929
            have y931 := q516 _ y929
            have f933 := y931.nm c534 c538 q548
            have f934 := q559 _ y931
            have y935 := q912 _ y931
            rw [h904] at y935
            have f937 := y935.ft c916
            have g938 := nrY f927 (q45 (by omega))
            have g939 := neY f928 h58 h57
            have g940 := neY f934 h562 h561
            have g941 := nzY f937 (by omega)
            refine y935.eq ?_
            all_goals try simp only [mthY, me1Y, me2Y, me3Y, g938, g939, g940, g941, or_false, false_or, or_true, true_or, and_false, false_and, and_true, true_and, not_true, not_false_iff, ↓reduceIte, Int.reduceEq, Int.reduceLE, Int.reduceLT, Int.reduceNeg]
            all_goals first | rfl | (exfalso; omega)
          exact ⟨rfl, H908, X924, ((R925.ft (0) (by rw [c916]; omega)).mo (by omega) (by omega) (by omega)), S942⟩
    · have h943 := q44 (by omega)
      refine k_if_ne (fun h944 => ?_) (fun h944 => by exfalso; omega)
      refine hB _ _ _ _ (kgoC (is := KX7_readMethod_32) rfl ?_)
      refine k_aload_n rfl ?_
      refine k_inv (P := P_X7_accept) (Q := Q_X7_accept) rfl rfl rfl rfl (Nat.le_of_ble_eq_true rfl) (h_0_0.rc (by decide)) ⟨_, rfl, H0, h_0_0, (rd_cd.st H0 h_0_0 (ExC.rf : ExC [0, 1, 2, 60, 61, 62, 63, 64, 65, 66, 67, 68, 69, 70, 72, 73, 74, 75, 76, 180, 182, 183, 184, 185, 186, 242, 243, 244, 246, 270, 271, 272, 273, 275, 276, 277, 278, 279, 280, 330, 331, 332, 333, 334, 999] σ0 σ0) R14.1 (by decide)), (R14.2.2.2.1 rd_at), (rd_bg.stn H0 h_0_0 (ExC.rf : ExC [0, 1, 2, 60, 61, 62, 63, 64, 65, 66, 67, 68, 69, 70, 72, 73, 74, 75, 76, 180, 182, 183, 184, 185, 186, 242, 243, 244, 246, 270, 271, 272, 273, 275, 276, 277, 278, 279, 280, 330, 331, 332, 333, 334, 999] σ0 σ0) R14 (by decide) (by rw [c8]; omega) (by omega)), (by have ct := R14.2.2.1; rw [c8, c3, ct]; omega)⟩ (fun w945 σ946 q947 => ?_)
      obtain ⟨rfl, H948, e949, R950, q951, q952⟩ := q947
      have t958 := h_0_0.x e949
      obtain ⟨x953, e954, c955, h956, h957⟩ := cg242 H948.1 t958
      obtain ⟨x959, e960, c961, h962, h963⟩ := cg243 H948.1 t958
      have z964 := congrArg Int32.toInt c955
      have z965 := congrArg Int32.toInt c961
      refine k_st (st' := []) rfl ?_
      have R966 : RdC p0 none (-8) (0) (-1000) σ0 σ946 := R14.tr ⟨R950.1, R950.2⟩ (by omega) (by omega) (by omega) (by omega)
      have z967 := R966.2.2.1
      have z968 := R966.2.2.2.1 rd_at
      refine k_aload_n rfl ?_
      obtain ⟨a971, e969, c970, t972⟩ := cg240 H948.1 t958
      refine k_get kg240 t958 e969 ?_
      obtain ⟨a975, e973, c974, t976, l977⟩ := cg211 H948.1 t972
      refine k_get kg211 t972 e973 ?_
      refine k_inv (P := P_Jx4a65c_size_8abf5) (Q := Q_Jx4a65c_size_8abf5) rfl rfl rfl rfl (Nat.le_of_ble_eq_true rfl) (t976.rc (by decide)) ⟨_, rfl, H948, t976⟩ (fun w978 σ979 q980 => ?_)
      obtain ⟨x981, rfl, rfl, h982, h983, q984, q985⟩ := q980
      refine k_st (st' := [.inl x981]) rfl ?_
      have z986 := q985 l977
      refine k_istore_n (ls' := [(2, .inl x981), (1, .inl x27), (0, .inr (.inr (some p0)))]) rfl ?_
      refine k_aload_n rfl ?_
      have X987 : ExC [0, 1, 2, 60, 61, 62, 63, 64, 65, 66, 67, 68, 69, 70, 72, 73, 74, 75, 76, 180, 182, 183, 184, 185, 186, 242, 243, 244, 246, 270, 271, 272, 273, 275, 276, 277, 278, 279, 280, 330, 331, 332, 333, 334, 999] σ0 σ946 := ExC.rf.tr (e949.mo (by decide))
      refine k_inv (P := P_X7_code) (Q := Q_X7_code) rfl rfl rfl rfl (Nat.le_of_ble_eq_true rfl) (t958.rc (by decide)) ⟨_, rfl, H948, t958, (rd_cd.st H0 h_0_0 X987 R966.1 (by decide))⟩ (fun w988 σ989 q990 => ?_)
      obtain ⟨x991, rfl, rfl, q992, q993, q994, q995⟩ := q990
      refine k_st (st' := [.inl x991]) rfl ?_
      refine k_bipush (m := 80) rfl (fun x996 h997 => ?_)
      refine k_ic_eq (fun h998 => ?_) (fun h998 => ?_)
      · have h999 : x959.toInt = 0 := by omega
        refine hB _ _ _ _ (kgoC (is := KX7_readMethod_64) rfl ?_)
        refine k_iload_n rfl ?_
        refine k_bipush (m := 10) rfl (fun x1000 h1001 => ?_)
        refine k_ic_lt (fun h1002 => ?_) (fun h1002 => ?_)
        · refine hB _ _ _ _ (kgoC (is := KX7_readMethod_75) rfl ?_)
          refine k_aload_n rfl ?_
          refine k_get kg243 t958 (congrArg (Sum.inl : Int32 → AvC) c961) ?_
          refine k_if_eq (fun h1003 => ?_) (fun h1003 => by exfalso; omega)
          refine hB _ _ _ _ (kgoC (is := KX7_readMethod_83) rfl ?_)
          have R1004 := R966.nf (-1000) (-1000) (by rw [c961]; omega)
          have B1005 : BgC σ946 p0 3 3 := rd_bg.stn H0 h_0_0 X987 R1004 (by decide) (by rw [c961]; omega) (by omega)
          obtain ⟨h1006, h1007⟩ := B1005.new H948.1 t958 (u := 3) (by omega) (by omega)
          have z1008 := R1004.1.1
          refine k_new (c := 6) (g := 0) H948 (by decide) rfl (by omega) (by have hn : nfC 6 = 7 := rfl; omega) (fun a1009 σ1010 q1011 H1012 e1013 r1014 z1015 l1016 u1017 u1018 => ?_)
          rw [show nfC 6 = 7 from rfl] at u1018
          have u1019 : cpC σ1010 = cpC σ946 := congrArg Prod.fst e1013.2.1.1
          have u1020 : spC σ1010 = spC σ946 := congrArg Prod.snd e1013.2.1.1
          refine k_dupR ?_
          refine k_aload_n rfl ?_
          have t1021 := t958.x e1013
          have c1022 := (t958.mi e1013 (by decide)).trans c955
          refine k_get kg242 t1021 (congrArg (Sum.inl : Int32 → AvC) c1022) ?_
          refine k_aload_n rfl ?_
          obtain ⟨a1025, e1023, c1024, t1026⟩ := cg241 H1012.1 t1021
          refine k_get kg241 t1021 e1023 ?_
          obtain ⟨a1029, e1027, c1028, t1030, l1031, l1032⟩ := cg304 H1012.1 t1026
          refine k_get kg304 t1026 e1027 ?_
          refine k_aload_n rfl ?_
          refine k_get kg242 t1021 (congrArg (Sum.inl : Int32 → AvC) c1022) ?_
          refine k_laload t1030 (by omega) (by omega) (fun y1033 => ?_)
          refine k_iload_n rfl ?_
          refine k_aload_n rfl ?_
          have c1034 := (t958.mr e1013 (by decide)).trans c970
          refine k_get kg240 t1021 (congrArg (fun z : Option Nat => (Sum.inr (Sum.inr z) : AvC)) c1034) ?_
          have t1035 := t972.x e1013
          obtain ⟨a1038, e1036, c1037, t1039, l1040⟩ := cg212 H1012.1 t1035
          refine k_get kg212 t1035 e1036 ?_
          refine k_inv (P := P_Jx4a65c_size_8abf5) (Q := Q_Jx4a65c_size_8abf5) rfl rfl rfl rfl (Nat.le_of_ble_eq_true rfl) (t1039.rc (by decide)) ⟨_, rfl, H1012, t1039⟩ (fun w1041 σ1042 q1043 => ?_)
          obtain ⟨x1044, rfl, rfl, h1045, h1046, q1047, q1048⟩ := q1043
          refine k_st (st' := [.inl x1044, .inl x27, .inr (.inl y1033), .inl x953, .inr (.inr (some a1009)), .inr (.inr (some a1009))]) rfl ?_
          refine k_spec (P := P_X5_init) (Q := Q_X5_init) rfl rfl rfl rfl (Nat.le_of_ble_eq_true rfl) ⟨_, _, _, _, _, rfl, H1012, r1014, z1015, (by omega), (by omega), (by omega), (by omega)⟩ (fun w1049 σ1050 q1051 => ?_)
          obtain ⟨rfl, H1052, e1053, t1054, l1055, u1056, u1057, g1058, q1060, q1061⟩ := q1051
          have l1059 := l1055.trans l1016
          have c1062 := (t1021.mit r1014 (by decide) e1053 (by decide)).trans c1022
          have c1063 := (t958.mi e1013 (by decide)).trans c961
          have c1064 := (t1021.mit r1014 (by decide) e1053 (by decide)).trans c1063
          have z1065 := congrArg Int32.toInt c1062
          have z1066 := congrArg Int32.toInt c1064
          refine k_st (st' := [.inr (.inr (some a1009))]) rfl ?_
          refine k_astore_n (ls' := [(3, .inr (.inr (some a1009))), (2, .inl x981), (1, .inl x27), (0, .inr (.inr (some p0)))]) rfl ?_
          refine k_aload_n rfl ?_
          have t1067 := t1021.xt r1014 (by decide) e1053
          have c1068 := (t1021.mrt r1014 (by decide) e1053 (by decide)).trans c1034
          refine k_get kg240 t1067 (congrArg (fun z : Option Nat => (Sum.inr (Sum.inr z) : AvC)) c1068) ?_
          have t1069 := t1035.xt r1014 (by decide) e1053
          have c1070 := (t972.mr e1013 (by decide)).trans c974
          have c1071 := (t1035.mrt r1014 (by decide) e1053 (by decide)).trans c1070
          refine k_get kg211 t1069 (congrArg (fun z : Option Nat => (Sum.inr (Sum.inr z) : AvC)) c1071) ?_
          refine k_aload_n rfl ?_
          have t1072 := t976.x e1013
          have t1073 := t1072.xt r1014 (by decide) e1053
          have l1074 := (t976.gh e1013).trans l977
          have l1075 := (t1072.ght r1014 (by decide) e1053).trans l1074
          have R1076 : RdC p0 none (-7) (-7) (-999) σ0 σ1010 := R1004.tr ⟨(e1013.gwn H948.1 u1017 u1018 (by decide) (by rw [← q1011]; exact r1014.n0)), (e1013.cou (u := 1) H948.1 t958 (by decide) (by omega))⟩ (by omega) (by omega) (by omega) (by omega)
          have R1077 : RdC p0 none (-5) (-5) (-997) σ0 σ1050 := R1076.tr ⟨g1058, (e1053.co (u := 2) H1012.1 t1021 r1014 (by decide) (by omega))⟩ (by omega) (by omega) (by omega) (by omega)
          have R1078 := R1077.nf (-1000) (-1000) (by rw [c1064]; omega)
          have X1079 : ExC [0, 1, 2, 60, 61, 62, 63, 64, 65, 66, 67, 68, 69, 70, 72, 73, 74, 75, 76, 180, 182, 183, 184, 185, 186, 242, 243, 244, 246, 270, 271, 272, 273, 275, 276, 277, 278, 279, 280, 330, 331, 332, 333, 334, 999] σ946 σ1010 := ExC.rf.tr (e1013.mo (by decide))
          have X1080 : ExC [0, 1, 2, 60, 61, 62, 63, 64, 65, 66, 67, 68, 69, 70, 72, 73, 74, 75, 76, 180, 182, 183, 184, 185, 186, 242, 243, 244, 246, 270, 271, 272, 273, 275, 276, 277, 278, 279, 280, 330, 331, 332, 333, 334, 999] σ946 σ1050 := (X1079 : ExC [0, 1, 2, 60, 61, 62, 63, 64, 65, 66, 67, 68, 69, 70, 72, 73, 74, 75, 76, 180, 182, 183, 184, 185, 186, 242, 243, 244, 246, 270, 271, 272, 273, 275, 276, 277, 278, 279, 280, 330, 331, 332, 333, 334, 999] σ946 σ1010).nt (Nat.le_of_eq q1011.symm) (e1053.mo (by decide))
          have X1081 : ExC [0, 1, 2, 60, 61, 62, 63, 64, 65, 66, 67, 68, 69, 70, 72, 73, 74, 75, 76, 180, 182, 183, 184, 185, 186, 242, 243, 244, 246, 270, 271, 272, 273, 275, 276, 277, 278, 279, 280, 330, 331, 332, 333, 334, 999] σ0 σ1050 := X987.tr X1080
          have B1082 : BgC σ1050 p0 1 1 := rd_bg.stn H0 h_0_0 X1081 R1078 (by decide) (by rw [c1064]; omega) (by omega)
          obtain ⟨h1083, h1084⟩ := B1082.new H1052.1 t1067 (u := 1) (by omega) (by omega)
          have c1085 := (t976.mi e1013 (by decide)).trans q984
          have c1086 := (t1072.mit r1014 (by decide) e1053 (by decide)).trans c1085
          refine k_inv (P := P_Jx4a65c_add_9ea2d) (Q := Q_Jx4a65c_add_9ea2d) rfl rfl rfl rfl (Nat.le_of_ble_eq_true rfl) (t1073.rc (by decide)) ⟨_, _, rfl, H1052, t1073, (by rw [l1075]; exact ⟨t1054, by decide, fun hz => by rw [q1060]; omega⟩), (B1082.sz H1052.1 t1067 (by omega) (by omega) c1068 (by decide) c1071), h1083, (by omega), (fun _ => by rw [c1086] <;> omega)⟩ (fun w1087 σ1088 q1089 => ?_)
          obtain ⟨x1090, rfl, H1091, e1092, h1094, h1095, g1093, q1096, q1097, q1098, q1099⟩ := q1089
          have c1100 := (t1067.mi e1092 (by decide)).trans c1062
          have c1101 := (t1067.mi e1092 (by decide)).trans c1064
          have z1102 := congrArg Int32.toInt c1100
          have z1103 := congrArg Int32.toInt c1101
          refine k_st (st' := [.inl x1090]) rfl ?_
          refine k_popI ?_
          refine k_aload_n rfl ?_
          have t1104 := t1067.x e1092
          have c1105 := (t1021.mrt r1014 (by decide) e1053 (by decide)).trans c1024
          have c1106 := (t1067.mr e1092 (by decide)).trans c1105
          refine k_get kg241 t1104 (congrArg (fun z : Option Nat => (Sum.inr (Sum.inr z) : AvC)) c1106) ?_
          have t1107 := t1026.xt r1014 (by decide) e1053
          have t1108 := t1107.x e1092
          obtain ⟨a1111, e1109, c1110, t1112, l1113, l1114⟩ := cg303 H1091.1 t1108
          refine k_get kg303 t1108 e1109 ?_
          refine k_aload_n rfl ?_
          refine k_get kg242 t1104 (congrArg (Sum.inl : Int32 → AvC) c1100) ?_
          refine k_bipush (m := 100) rfl (fun x1115 h1116 => ?_)
          refine k_iload_n rfl ?_
          refine k_iadd (by omega) (by omega) (fun x1117 h1118 => ?_)
          refine k_iastore H1091 t1112 l1114 (by omega) (by omega) (fun σ1119 H1120 e1121 => ?_)
          refine k_aload_n rfl ?_
          have t1122 := t1104.x e1121
          have R1123 : RdC p0 none (-4) (-4) (-999) σ0 σ1088 := R1078.tr ⟨g1093, (e1092.cou2 (u := 1) H1052.1 t1067 (by decide) (by omega) q1097)⟩ (by omega) (by omega) (by omega) (by omega)
          have R1124 : RdC p0 none (-4) (-4) (-999) σ0 σ1119 := R1123.tr ⟨(e1121.gw H1091.1 (by decide)), (e1121.cou (u := 0) H1091.1 t1104 (by decide) (by rw [e1121.cn (by decide)]; omega))⟩ (by omega) (by omega) (by omega) (by omega)
          have c1125 := (t1104.mi e1121 (by decide)).trans c1101
          have R1126 := R1124.nf (-1000) (-1000) (by rw [c1125]; omega)
          have X1127 : ExC [0, 1, 2, 60, 61, 62, 63, 64, 65, 66, 67, 68, 69, 70, 72, 73, 74, 75, 76, 180, 182, 183, 184, 185, 186, 242, 243, 244, 246, 270, 271, 272, 273, 275, 276, 277, 278, 279, 280, 330, 331, 332, 333, 334, 999] σ0 σ1088 := X1081.tr (e1092.mo (by decide))
          have X1128 : ExC [0, 1, 2, 60, 61, 62, 63, 64, 65, 66, 67, 68, 69, 70, 72, 73, 74, 75, 76, 180, 182, 183, 184, 185, 186, 242, 243, 244, 246, 270, 271, 272, 273, 275, 276, 277, 278, 279, 280, 330, 331, 332, 333, 334, 999] σ0 σ1119 := X1127.tr (e1121.mo (by decide))
          have c1129 := (t1104.mi e1121 (by decide)).trans c1100
          have z1130 := congrArg Int32.toInt c1129
          have z1131 := congrArg Int32.toInt c1125
          refine k_inv (P := P_X7_accept) (Q := Q_X7_accept) rfl rfl rfl rfl (Nat.le_of_ble_eq_true rfl) (t1122.rc (by decide)) ⟨_, rfl, H1120, t1122, (rd_cd.st H0 h_0_0 X1128 R1126.1 (by decide)), (R1126.2.2.2.1 rd_at), (rd_bg.stn H0 h_0_0 X1128 R1126 (by decide) (by rw [c1125]; omega) (by omega)), (by have ct := R1126.2.2.1; rw [c1125, c1129, ct]; omega)⟩ (fun w1132 σ1133 q1134 => ?_)
          obtain ⟨rfl, H1135, e1136, R1137, q1138, q1139⟩ := q1134
          have t1145 := t1122.x e1136
          obtain ⟨x1140, e1141, c1142, h1143, h1144⟩ := cg242 H1135.1 t1145
          obtain ⟨x1146, e1147, c1148, h1149, h1150⟩ := cg243 H1135.1 t1145
          have z1151 := congrArg Int32.toInt c1142
          have z1152 := congrArg Int32.toInt c1148
          refine k_st (st' := []) rfl ?_
          have R1153 : RdC p0 none (-12) (-4) (-1000) σ0 σ1133 := R1126.tr ⟨R1137.1, R1137.2⟩ (by omega) (by omega) (by omega) (by omega)
          have z1154 := R1153.2.2.1
          have z1155 := R1153.2.2.2.1 rd_at
          refine k_aload_n rfl ?_
          refine k_lconst ?_
          refine k_putL kg245 H1135 t1145 fk245 (fun σ1156 H1157 e1158 c1159 => ?_)
          refine k_aload_n rfl ?_
          refine k_aconst_null ?_
          have t1160 := t1145.x e1158
          refine k_putR kp246 H1157 t1160 fk246 (rfo246 (OtC.n)) (fun σ1161 H1162 e1163 c1164 => ?_)
          refine k_aload_n rfl ?_
          refine k_aload_n rfl ?_
          have t1165 := t1160.x e1163
          have t1166 := t1054.x e1092
          have t1167 := t1166.x e1121
          have t1168 := t1167.x e1136
          have t1169 := t1168.x e1158
          have t1170 := t1169.x e1163
          have R1171 : RdC p0 none (-12) (-4) (-1000) σ0 σ1156 := R1153.tr ⟨(e1158.gw H1135.1 (by decide)), (e1158.cou (u := 0) H1135.1 t1145 (by decide) (by rw [e1158.cn (by decide)]; omega))⟩ (by omega) (by omega) (by omega) (by omega)
          have R1172 : RdC p0 none (-12) (-4) (-1000) σ0 σ1161 := R1171.tr ⟨(e1163.gw H1157.1 (by decide)), (e1163.cou (u := 0) H1157.1 t1160 (by decide) (by rw [e1163.cn (by decide)]; omega))⟩ (by omega) (by omega) (by omega) (by omega)
          have c1173 := (t1145.mi e1158 (by decide)).trans c1148
          have c1174 := (t1160.mi e1163 (by decide)).trans c1173
          have X1175 : ExC [0, 1, 2, 60, 61, 62, 63, 64, 65, 66, 67, 68, 69, 70, 72, 73, 74, 75, 76, 180, 182, 183, 184, 185, 186, 242, 243, 244, 246, 270, 271, 272, 273, 275, 276, 277, 278, 279, 280, 330, 331, 332, 333, 334, 999] σ0 σ1133 := X1128.tr (e1136.mo (by decide))
          have X1176 : ExC [0, 1, 2, 60, 61, 62, 63, 64, 65, 66, 67, 68, 69, 70, 72, 73, 74, 75, 76, 180, 182, 183, 184, 185, 186, 242, 243, 244, 246, 270, 271, 272, 273, 275, 276, 277, 278, 279, 280, 330, 331, 332, 333, 334, 999] σ0 σ1156 := X1175.tr (e1158.mo (by decide))
          have X1177 : ExC [0, 1, 2, 60, 61, 62, 63, 64, 65, 66, 67, 68, 69, 70, 72, 73, 74, 75, 76, 180, 182, 183, 184, 185, 186, 242, 243, 244, 246, 270, 271, 272, 273, 275, 276, 277, 278, 279, 280, 330, 331, 332, 333, 334, 999] σ0 σ1161 := X1176.tr (e1163.mo (by decide))
          have c1178 := (t1145.mi e1158 (by decide)).trans c1142
          have c1179 := (t1160.mi e1163 (by decide)).trans c1178
          have z1180 := congrArg Int32.toInt c1179
          have z1181 := congrArg Int32.toInt c1174
          have c1182 := (t1054.mi e1092 (by decide)).trans q1061
          have c1183 := (t1166.mi e1121 (by decide)).trans c1182
          have c1184 := (t1167.mi e1136 (by decide)).trans c1183
          have c1185 := (t1168.mi e1158 (by decide)).trans c1184
          have c1186 := (t1169.mi e1163 (by decide)).trans c1185
          refine k_inv (P := P_X7_readParams) (Q := Q_X7_readParams) rfl rfl rfl rfl (Nat.le_of_ble_eq_true rfl) (t1165.rc (by decide)) ⟨_, _, rfl, H1162, t1165, t1170, (rd_cd.st H0 h_0_0 X1177 R1172.1 (by decide)), (R1172.2.2.2.1 rd_at), (rd_bg.st H0 h_0_0 X1177 R1172 (by decide) (by omega) (by omega) (by omega)), (by rw [c1186]; decide)⟩ (fun w1187 σ1188 q1189 => ?_)
          obtain ⟨rfl, H1190, e1191, R1192, q1193⟩ := q1189
          have t1199 := t1165.x e1191
          obtain ⟨x1194, e1195, c1196, h1197, h1198⟩ := cg242 H1190.1 t1199
          obtain ⟨x1200, e1201, c1202, h1203, h1204⟩ := cg243 H1190.1 t1199
          have z1205 := congrArg Int32.toInt c1196
          have z1206 := congrArg Int32.toInt c1202
          refine k_st (st' := []) rfl ?_
          have R1207 : RdC p0 none (-12) (-2) (-1000) σ0 σ1188 := R1172.tr ⟨R1192.1, R1192.2⟩ (by omega) (by omega) (by omega) (by omega)
          have z1208 := R1207.2.2.1
          have z1209 := R1207.2.2.2.1 rd_at
          refine k_aload_n rfl ?_
          refine k_aload_n rfl ?_
          refine k_iconst (m := 0) rfl (fun x1210 h1211 => ?_)
          have X1212 : ExC [0, 1, 2, 60, 61, 62, 63, 64, 65, 66, 67, 68, 69, 70, 72, 73, 74, 75, 76, 180, 182, 183, 184, 185, 186, 242, 243, 244, 246, 270, 271, 272, 273, 275, 276, 277, 278, 279, 280, 330, 331, 332, 333, 334, 999] σ0 σ1188 := X1177.tr (e1191.mo (by decide))
          refine k_inv (P := (P_X7_readBody 21)) (Q := (Q_X7_readBody 21)) rfl rfl rfl rfl (Nat.le_of_ble_eq_true rfl) (t1199.rc (by decide)) ⟨_, _, rfl, H1190, t1199, (by omega), (by omega), (rd_cd.st H0 h_0_0 X1212 R1207.1 (by decide)), (R1207.2.2.2.1 rd_at), (rd_bg.st H0 h_0_0 X1212 R1207 (by decide) (by omega) (by omega) (by omega)), (by omega)⟩ (fun w1213 σ1214 q1215 => ?_)
          obtain ⟨a1216, rfl, H1217, e1218, h1220, R1219, q1221, q1222, q1223, q1224⟩ := q1215
          have t1230 := t1199.x e1218
          obtain ⟨x1225, e1226, c1227, h1228, h1229⟩ := cg242 H1217.1 t1230
          obtain ⟨x1231, e1232, c1233, h1234, h1235⟩ := cg243 H1217.1 t1230
          have z1236 := congrArg Int32.toInt c1227
          have z1237 := congrArg Int32.toInt c1233
          refine k_st (st' := [.inr (.inr (some a1216)), .inr (.inr (some a1009))]) rfl ?_
          have z1238 := R1207.1.1
          obtain ⟨x1239, e1240, c1241, h1242, h1243⟩ := cg272 H1217.1 h1220
          rw [c1241] at q1222
          obtain ⟨x1244, e1245, c1246, h1247, h1248⟩ := cg270 H1217.1 h1220
          rw [c1246] at q1223
          have R1249 : RdC p0 none (-18) (174) (-998) σ0 σ1214 := R1207.tr ⟨R1219.1, R1219.2⟩ (by omega) (by omega) (by omega) (by omega)
          have z1250 := R1249.2.2.1
          have z1251 := R1249.2.2.2.1 rd_at
          have t1257 := t1170.x e1191
          have t1258 := t1257.x e1218
          refine k_p186 H1217 t1258 h1220 (by rw [c1246]; omega) (fun σ1252 H1253 e1254 g1255 c1256 => ?_)
          refine k_return ?_
          have X1259 : ExC [0, 1, 2, 60, 61, 62, 63, 64, 65, 66, 67, 68, 69, 70, 72, 73, 74, 75, 76, 180, 182, 183, 184, 185, 186, 242, 243, 244, 246, 270, 271, 272, 273, 275, 276, 277, 278, 279, 280, 330, 331, 332, 333, 334, 999] σ0 σ1214 := X1212.tr (e1218.mo (by decide))
          have X1260 : ExC [0, 1, 2, 60, 61, 62, 63, 64, 65, 66, 67, 68, 69, 70, 72, 73, 74, 75, 76, 180, 182, 183, 184, 185, 186, 242, 243, 244, 246, 270, 271, 272, 273, 275, 276, 277, 278, 279, 280, 330, 331, 332, 333, 334, 999] σ0 σ1252 := X1259.tr (e1254.mo (by decide))
          have R1261 : RdC p0 none (-18) (174) (-998) σ0 σ1252 := R1249.tr ⟨g1255, (e1254.cou (u := 0) H1217.1 t1230 (by decide) (by rw [e1254.cn (by decide)]; omega))⟩ (by omega) (by omega) (by omega) (by omega)
          have c1262 := (t1230.mi e1254 (by decide)).trans c1233
          have c1263 := (t1230.mi e1254 (by decide)).trans c1227
          have S1292 : ∀ s, ReC σ0 p0 s → ReC σ1252 p0 (mthY s) := by
            intro s hs
            have f1264 := q22 _ hs
            have f1265 := q37 _ hs
            have y1266 := q952 _ hs
            have f1268 := y1266.nm c970 c974 q984
            have f1269 := q995 _ y1266
            have f1270 := y1266.ft c961
            have y1271 := y1266.x H948.1 t958 e1013 (by decide)
            have f1272 := y1271.at_ c1022
            have f1273 := y1271.at_ c1022
            have f1274 := y1271.nv c1034 c1037 q1047
            have y1275 := y1271.xt H1012.1 t1021 r1014 e1053 (by decide)
            have y1276 := y1275.adm (ty := (codY s - 50)) H1052.1 t1067 e1092 q1099 q1098 c1068 c1071
            have f1277 := y1276.at_ c1100
            have y1278 := y1276.x H1091.1 t1104 e1121 (by decide)
            have y1279 := q1139 _ y1278
            have y1281 := y1279.x H1135.1 t1145 e1158 (by decide)
            have y1282 := y1281.x H1157.1 t1160 e1163 (by decide)
            have y1283 := q1193 _ y1282
            have y1285 := q1224 _ y1283
            have y1287 := y1285.x H1217.1 t1230 e1254 (by decide)
            have g1288 := rgY f1265 (q44 (by omega))
            have g1289 := ngY (k := 10) f1268 (by omega)
            have g1290 := f1269.symm.trans (h998.trans h997)
            have g1291 := f1270.symm.trans (show x959.toInt = 0 from by omega)
            refine y1287.eq ?_
            all_goals try simp only [mthY, me1Y, me2Y, me3Y, g1288, g1289, g1290, g1291, or_false, false_or, or_true, true_or, and_false, false_and, and_true, true_and, not_true, not_false_iff, ↓reduceIte, Int.reduceEq, Int.reduceLE, Int.reduceLT, Int.reduceNeg]
            all_goals first | rfl | (exfalso; omega)
          exact ⟨rfl, H1253, X1260, (R1261.mo (by omega) (by omega) (by omega)), S1292⟩
        · refine k_nil ?_
          refine hB _ _ _ _ (kgoC (is := KX7_readMethod_70) rfl ?_)
          refine k_aload_n rfl ?_
          refine k_iconst (m := 3) rfl (fun x1293 h1294 => ?_)
          have R1295 := R966.nf (-1000) (-1000) (by rw [c961]; omega)
          refine k_inv (P := P_X7_raise) (Q := Q_X7_raise) rfl rfl rfl rfl (Nat.le_of_ble_eq_true rfl) (t958.rc (by decide)) ⟨_, _, rfl, H948, t958, (by omega), (by omega), (rd_cd.st H0 h_0_0 X987 R1295.1 (by decide)), (R1295.2.2.2.1 rd_at), (rd_bg.stn H0 h_0_0 X987 R1295 (by decide) (by rw [c961]; omega) (by omega))⟩ (fun w1296 σ1297 q1298 => ?_)
          obtain ⟨rfl, H1299, e1300, R1301, q1302, q1303⟩ := q1298
          have c1304 := (t958.mi e1300 (by decide)).trans c955
          have t1310 := t958.x e1300
          obtain ⟨x1305, e1306, c1307, h1308, h1309⟩ := cg243 H1299.1 t1310
          have z1311 := congrArg Int32.toInt c1304
          have z1312 := congrArg Int32.toInt c1307
          refine k_st (st' := []) rfl ?_
          have h1313 : 1 ≤ x1305.toInt := by have hq := q1302; rw [c1307] at hq; omega
          refine k_nil ?_
          refine hB _ _ _ _ (kgoC (is := KX7_readMethod_75) rfl ?_)
          refine k_aload_n rfl ?_
          refine k_get kg243 t1310 (congrArg (Sum.inl : Int32 → AvC) c1307) ?_
          refine k_if_eq (fun h1314 => by exfalso; omega) (fun h1314 => ?_)
          refine k_nil ?_
          refine hB _ _ _ _ (kgoC (is := KX7_readMethod_82) rfl ?_)
          refine k_return ?_
          have X1315 : ExC [0, 1, 2, 60, 61, 62, 63, 64, 65, 66, 67, 68, 69, 70, 72, 73, 74, 75, 76, 180, 182, 183, 184, 185, 186, 242, 243, 244, 246, 270, 271, 272, 273, 275, 276, 277, 278, 279, 280, 330, 331, 332, 333, 334, 999] σ0 σ1297 := X987.tr (e1300.mo (by decide))
          have R1316 : RdC p0 none (-8) (-8) (-1000) σ0 σ1297 := R1295.tr ⟨R1301.1, R1301.2⟩ (by omega) (by omega) (by omega) (by omega)
          have S1330 : ∀ s, ReC σ0 p0 s → ReC σ1297 p0 (mthY s) := by
            intro s hs
            have f1317 := q22 _ hs
            have f1318 := q37 _ hs
            have y1319 := q952 _ hs
            have f1321 := y1319.nm c970 c974 q984
            have f1322 := q995 _ y1319
            have y1323 := q1303 _ y1319
            rw [h1294] at y1323
            have f1325 := y1323.ft c1307
            have g1326 := rgY f1318 (q44 (by omega))
            have g1327 := lgY (k := 10) f1321 (by omega)
            have g1328 := f1322.symm.trans (h998.trans h997)
            have g1329 := nzY f1325 (by omega)
            refine y1323.eq ?_
            all_goals try simp only [mthY, me1Y, me2Y, me3Y, g1326, g1327, g1328, g1329, or_false, false_or, or_true, true_or, and_false, false_and, and_true, true_and, not_true, not_false_iff, ↓reduceIte, Int.reduceEq, Int.reduceLE, Int.reduceLT, Int.reduceNeg]
            all_goals first | rfl | (exfalso; omega)
          exact ⟨rfl, H1299, X1315, ((R1316.ft (0) (by rw [c1307]; omega)).mo (by omega) (by omega) (by omega)), S1330⟩
      · refine k_nil ?_
        refine hB _ _ _ _ (kgoC (is := KX7_readMethod_56) rfl ?_)
        refine k_aload_n rfl ?_
        refine k_iconst (m := 2) rfl (fun x1331 h1332 => ?_)
        refine k_inv (P := P_X7_raise) (Q := Q_X7_raise) rfl rfl rfl rfl (Nat.le_of_ble_eq_true rfl) (t958.rc (by decide)) ⟨_, _, rfl, H948, t958, (by omega), (by omega), (rd_cd.st H0 h_0_0 X987 R966.1 (by decide)), (R966.2.2.2.1 rd_at), (rd_bg.st H0 h_0_0 X987 R966 (by decide) (by omega) (by omega) (by omega))⟩ (fun w1333 σ1334 q1335 => ?_)
        obtain ⟨rfl, H1336, e1337, R1338, q1339, q1340⟩ := q1335
        have c1341 := (t958.mi e1337 (by decide)).trans c955
        have t1347 := t958.x e1337
        obtain ⟨x1342, e1343, c1344, h1345, h1346⟩ := cg243 H1336.1 t1347
        have z1348 := congrArg Int32.toInt c1341
        have z1349 := congrArg Int32.toInt c1344
        refine k_st (st' := []) rfl ?_
        have h1350 : 1 ≤ x1342.toInt := by have hq := q1339; rw [c1344] at hq; omega
        refine k_goto ?_
        refine hB _ _ _ _ (kgoC (is := KX7_readMethod_75) rfl ?_)
        refine k_aload_n rfl ?_
        refine k_get kg243 t1347 (congrArg (Sum.inl : Int32 → AvC) c1344) ?_
        refine k_if_eq (fun h1351 => by exfalso; omega) (fun h1351 => ?_)
        refine k_nil ?_
        refine hB _ _ _ _ (kgoC (is := KX7_readMethod_82) rfl ?_)
        refine k_return ?_
        have X1352 : ExC [0, 1, 2, 60, 61, 62, 63, 64, 65, 66, 67, 68, 69, 70, 72, 73, 74, 75, 76, 180, 182, 183, 184, 185, 186, 242, 243, 244, 246, 270, 271, 272, 273, 275, 276, 277, 278, 279, 280, 330, 331, 332, 333, 334, 999] σ0 σ1334 := X987.tr (e1337.mo (by decide))
        have R1353 : RdC p0 none (-8) (0) (-1000) σ0 σ1334 := R966.tr ⟨R1338.1, R1338.2⟩ (by omega) (by omega) (by omega) (by omega)
        have S1366 : ∀ s, ReC σ0 p0 s → ReC σ1334 p0 (mthY s) := by
          intro s hs
          have f1354 := q22 _ hs
          have f1355 := q37 _ hs
          have y1356 := q952 _ hs
          have f1358 := y1356.nm c970 c974 q984
          have f1359 := q995 _ y1356
          have y1360 := q1340 _ y1356
          rw [h1332] at y1360
          have f1362 := y1360.ft c1344
          have g1363 := rgY f1355 (q44 (by omega))
          have g1364 := neY f1359 h998 h997
          have g1365 := nzY f1362 (by omega)
          refine y1360.eq ?_
          all_goals try simp only [mthY, me1Y, me2Y, me3Y, g1363, g1364, g1365, or_false, false_or, or_true, true_or, and_false, false_and, and_true, true_and, not_true, not_false_iff, ↓reduceIte, Int.reduceEq, Int.reduceLE, Int.reduceLT, Int.reduceNeg]
          all_goals first | rfl | (exfalso; omega)
        exact ⟨rfl, H1336, X1352, ((R1353.ft (0) (by rw [c1344]; omega)).mo (by omega) (by omega) (by omega)), S1366⟩
theorem lg_X7_readMethod : ∀ (As : List AvC) (σ : CsC), P_X7_readMethod As σ → lgC As ≤ rX7_readMethod.2.2.1 := by
  rintro As σ ⟨p0, rfl, -⟩
  exact Nat.le_of_ble_eq_true rfl
theorem m_X7_readMethod (l : Launch) : CMetC l 312 134 P_X7_readMethod Q_X7_readMethod :=
  CMetC.of KX7_readMethod [(125, P_X7_code, Q_X7_code), (132, P_X7_isType, Q_X7_isType), (128, P_X7_accept, Q_X7_accept), (234, P_Jx4a65c_size_8abf5, Q_Jx4a65c_size_8abf5), (111, P_X5_init, Q_X5_init), (236, P_Jx4a65c_add_9ea2d, Q_Jx4a65c_add_9ea2d), (135, P_X7_readParams, Q_X7_readParams), (143, (P_X7_readBody 21), (Q_X7_readBody 21)), (127, P_X7_raise, Q_X7_raise)] hX7_readMethod (by decide) (by decide) okX7_readMethod (cc1C (m_X7_code l) (by decide) (cc1C (m_X7_isType l) (by decide) (cc1C (m_X7_accept l) (by decide) (cc1C (m_Jx4a65c_size_8abf5 l) (by decide) (cc1C (m_X5_init l) (by decide) (cc1C (m_Jx4a65c_add_9ea2d l) (by decide) (cc1C (m_X7_readParams l) (by decide) (cc1C (m_X7_readBody l 21) (by decide) (cc1C (m_X7_raise l) (by decide) cc0C))))))))) (lg_X7_readMethod) (b_X7_readMethod)
