abbrev P_X11_read : CpC := fun As σ => ∃ (p0 : Nat), As = [.inr (.inr (some p0))] ∧ HIC σ ∧ TyC σ p0 12 ∧ cnC σ + 4208 ≤ cpC σ ∧ slC σ + 4 * gsC σ (cnC σ) + 22 * 4208 + 20000 ≤ spC σ
abbrev Q_X11_read : CqC := fun As σ w τ => match As with
  | [.inr (.inr (some p0))] => ∃ r : Int32, w = some (.inl r) ∧ HIC τ ∧ ExC [0, 1, 2, 34, 35, 36, 60, 61, 62, 63, 64, 65, 66, 67, 68, 69, 70, 72, 73, 74, 75, 76, 77, 90, 94, 121, 180, 182, 183, 184, 185, 186, 217, 218, 240, 241, 242, 243, 244, 246, 270, 271, 272, 273, 275, 276, 277, 278, 279, 280, 281, 282, 283, 284, 289, 290, 305, 307, 308, 330, 331, 332, 333, 334, 335, 363, 364, 369, 371, 372, 995, 998, 999] σ τ ∧ ((cnC τ : Int) + 8 * (fIC τ p0 369).toInt ≤ cnC σ + 8 * (fIC σ p0 369).toInt + 200) ∧ (slC τ + 4 * gsC τ (cnC τ) ≤ slC σ + 4 * gsC σ (cnC σ) + 22 * (cnC τ - cnC σ)) ∧ ((fIC τ p0 369).toInt = 0) ∧ (∃ s, Z0Y s ∧ ((¬ zFt (prlY 11 s) = 0 ∧ r.toInt = -10 - zFt (prlY 11 s)) ∨ (zFt (prlY 11 s) = 0 ∧ r.toInt = (zMs (prlY 11 s)).length)))
  | _ => False
set_option maxRecDepth 100000 in
set_option maxHeartbeats 4000000 in
theorem b_X11_read : TbC KX11_read [(123, P_X7_readProgram, Q_X7_readProgram), (49, P_X3_judgeProgram, Q_X3_judgeProgram), (234, P_Jx4a65c_size_8abf5, Q_Jx4a65c_size_8abf5), (1, P_X0_lay, Q_X0_lay), (124, P_X7_faultPlace, Q_X7_faultPlace)] P_X11_read Q_X11_read := by
  · rintro As σ0 ⟨p0, rfl, H0, h_0_0, q_0, q_1⟩ hgr G hB hW
    change G 0 [(0, .inr (.inr (some p0)))] [] σ0
    obtain ⟨x1, e2, c3, h4, h5⟩ := cg369 H0.1 h_0_0
    have z6 := congrArg Int32.toInt c3
    refine hB _ _ _ _ (kgoC (is := KX11_read_0) rfl ?_)
    refine k_aload_n rfl ?_
    obtain ⟨a9, e7, c8, t10⟩ := cg365 H0.1 h_0_0
    refine k_get kg365 h_0_0 e7 ?_
    refine k_aload_n rfl ?_
    obtain ⟨a13, e11, c12, t14⟩ := cg364 H0.1 h_0_0
    refine k_get kg364 h_0_0 e11 ?_
    refine k_aload_n rfl ?_
    obtain ⟨a17, e15, c16, t18, l19⟩ := cg360 H0.1 h_0_0
    refine k_get kg360 h_0_0 e15 ?_
    refine k_aload_n rfl ?_
    refine k_get kg369 h_0_0 (congrArg (Sum.inl : Int32 → AvC) c3) ?_
    refine k_inv (P := P_X7_readProgram) (Q := Q_X7_readProgram) rfl rfl rfl rfl (Nat.le_of_ble_eq_true rfl) (t10.rc (by decide)) ⟨_, _, _, _, rfl, H0, t10, t14, t18, l19, (by omega), (by omega), q_0, q_1⟩ (fun w20 σ21 q22 => ?_)
    obtain ⟨x23, rfl, H24, e25, h26, h27, q28, q29, q30, q31⟩ := q22
    refine k_st (st' := [.inl x23]) rfl ?_
    have t37 := t14.x e25
    obtain ⟨a32, e33, c34, t35, l36⟩ := cg211 H24.1 t37
    obtain ⟨x38, e39, c40, h41, h42⟩ := cg2 H24.1 t35
    obtain ⟨s, hZ0, hRe, hFt⟩ := q31
    have hNm := hRe.nm q30 c34 c40
    refine k_istore_n (ls' := [(1, .inl x23), (0, .inr (.inr (some p0)))]) rfl ?_
    refine k_aload_n rfl ?_
    refine k_iconst (m := 0) rfl (fun x43 h44 => ?_)
    have t45 := h_0_0.x e25
    refine k_putI kp369 H24 t45 (Or.inl fk369) (by show 0 ≤ _; omega) (by show _ ≤ 2500; omega) (fun σ46 H47 e48 c49 => ?_)
    obtain ⟨u50, u51⟩ := e48.sg H24.1 (by decide)
    refine k_iload_n rfl ?_
    refine k_if_eq (fun h52 => ?_) (fun h52 => ?_)
    · refine hB _ _ _ _ (kgoC (is := KX11_read_45) rfl ?_)
      refine k_aload_n rfl ?_
      have t53 := t45.x e48
      obtain ⟨a56, e54, c55, t57⟩ := cg363 H47.1 t53
      refine k_get kg363 t53 e54 ?_
      refine k_astore_n (ls' := [(2, .inr (.inr (some a56))), (1, .inl x23), (0, .inr (.inr (some p0)))]) rfl ?_
      refine k_aload_n rfl ?_
      refine k_aload_n rfl ?_
      have c58 := (h_0_0.mr e25 (by decide)).trans c12
      have c59 := (t45.mr e48 (by decide)).trans c58
      refine k_get kg364 t53 (congrArg (fun z : Option Nat => (Sum.inr (Sum.inr z) : AvC)) c59) ?_
      have t64 := t37.x e48
      refine k_putR kp363 H47 t53 fk363 (rf363 t64) (fun σ60 H61 e62 c63 => ?_)
      obtain ⟨u65, u66⟩ := e62.sg H47.1 (by decide)
      refine k_aload_n rfl ?_
      refine k_aload_n rfl ?_
      have t67 := t53.x e62
      have t72 := t57.x e62
      refine k_putR kp364 H61 t67 fk364 (rf364 t72) (fun σ68 H69 e70 c71 => ?_)
      obtain ⟨u73, u74⟩ := e70.sg H61.1 (by decide)
      refine k_aload_n rfl ?_
      refine k_bipush (m := (-2)) rfl (fun x75 h76 => ?_)
      have t77 := t67.x e70
      refine k_putI kp371 H69 t77 (Or.inl fk371) (tiC x75).1 (tiC x75).2 (fun σ78 H79 e80 c81 => ?_)
      obtain ⟨u82, u83⟩ := e80.sg H69.1 (by decide)
      refine k_aload_n rfl ?_
      refine k_iconst (m := 0) rfl (fun x84 h85 => ?_)
      have t86 := t77.x e80
      refine k_putI kp372 H79 t86 (Or.inr ⟨fk372, b01C (by omega) (by omega)⟩) (by show 0 ≤ _; omega) (by show _ ≤ 1; omega) (fun σ87 H88 e89 c90 => ?_)
      obtain ⟨u91, u92⟩ := e89.sg H79.1 (by decide)
      refine k_aload_n rfl ?_
      have t93 := t86.x e89
      obtain ⟨a96, e94, c95, t97⟩ := cg366 H88.1 t93
      refine k_get kg366 t93 e94 ?_
      refine k_aload_n rfl ?_
      have c98 := (t67.mr e70 (by decide)).trans c63
      have c99 := (t77.mr e80 (by decide)).trans c98
      have c100 := (t86.mr e89 (by decide)).trans c99
      refine k_get kg363 t93 (congrArg (fun z : Option Nat => (Sum.inr (Sum.inr z) : AvC)) c100) ?_
      have t101 := t64.x e62
      have t102 := t101.x e70
      have t103 := t102.x e80
      have t104 := t103.x e89
      refine k_inv (P := P_X3_judgeProgram) (Q := Q_X3_judgeProgram) rfl rfl rfl rfl (Nat.le_of_ble_eq_true rfl) (t97.rc (by decide)) ⟨_, _, rfl, H88, t97, t104⟩ (fun w105 σ106 q107 => ?_)
      obtain ⟨rfl, H108, e109⟩ := q107
      obtain ⟨u110, u111⟩ := e109.sg H88.1 (by decide)
      refine k_st (st' := []) rfl ?_
      refine k_aload_n rfl ?_
      have t112 := t93.x e109
      have c113 := (t93.mr e109 (by decide)).trans c100
      refine k_get kg363 t112 (congrArg (fun z : Option Nat => (Sum.inr (Sum.inr z) : AvC)) c113) ?_
      have t114 := t104.x e109
      obtain ⟨x117, e115, c116, h118, h119⟩ := cg217 H108.1 t114
      refine k_get kg217 t114 e115 ?_
      refine k_if_ne (fun h120 => ?_) (fun h120 => ?_)
      · refine hB _ _ _ _ (kgoC (is := KX11_read_106) rfl ?_)
        refine k_aload_n rfl ?_
        refine k_get kg363 t112 (congrArg (fun z : Option Nat => (Sum.inr (Sum.inr z) : AvC)) c113) ?_
        have c121 := (t37.mr e48 (by decide)).trans c34
        have c122 := (t64.mr e62 (by decide)).trans c121
        have c123 := (t101.mr e70 (by decide)).trans c122
        have c124 := (t102.mr e80 (by decide)).trans c123
        have c125 := (t103.mr e89 (by decide)).trans c124
        have c126 := (t104.mr e109 (by decide)).trans c125
        refine k_get kg211 t114 (congrArg (fun z : Option Nat => (Sum.inr (Sum.inr z) : AvC)) c126) ?_
        have t127 := t35.x e48
        have t128 := t127.x e62
        have t129 := t128.x e70
        have t130 := t129.x e80
        have t131 := t130.x e89
        have t132 := t131.x e109
        refine k_inv (P := P_Jx4a65c_size_8abf5) (Q := Q_Jx4a65c_size_8abf5) rfl rfl rfl rfl (Nat.le_of_ble_eq_true rfl) (t132.rc (by decide)) ⟨_, rfl, H108, t132⟩ (fun w133 σ134 q135 => ?_)
        obtain ⟨x136, rfl, rfl, h137, h138, q139, q140⟩ := q135
        refine k_st (st' := [.inl x136]) rfl ?_
        have c141 := (t35.mi e48 (by decide)).trans c40
        have c142 := (t127.mi e62 (by decide)).trans c141
        have c143 := (t128.mi e70 (by decide)).trans c142
        have c144 := (t129.mi e80 (by decide)).trans c143
        have c145 := (t130.mi e89 (by decide)).trans c144
        have c146 := (t131.mi e109 (by decide)).trans c145
        have hSz := congrArg Int32.toInt (c146.symm.trans q139)
        have l148 := (t35.gh e48).trans l36
        have l149 := (t127.gh e62).trans l148
        have l150 := (t128.gh e70).trans l149
        have l151 := (t129.gh e80).trans l150
        have l152 := (t130.gh e89).trans l151
        have l153 := (t131.gh e109).trans l152
        have z147 := q140 l153
        refine k_ireturn (fun hz => absurd hz (by decide)) ?_
        have X154 : ExC [0, 1, 2, 34, 35, 36, 60, 61, 62, 63, 64, 65, 66, 67, 68, 69, 70, 72, 73, 74, 75, 76, 77, 90, 94, 121, 180, 182, 183, 184, 185, 186, 217, 218, 240, 241, 242, 243, 244, 246, 270, 271, 272, 273, 275, 276, 277, 278, 279, 280, 281, 282, 283, 284, 289, 290, 305, 307, 308, 330, 331, 332, 333, 334, 335, 363, 364, 369, 371, 372, 995, 998, 999] σ0 σ21 := ExC.rf.tr (e25.mo (by decide))
        have X155 : ExC [0, 1, 2, 34, 35, 36, 60, 61, 62, 63, 64, 65, 66, 67, 68, 69, 70, 72, 73, 74, 75, 76, 77, 90, 94, 121, 180, 182, 183, 184, 185, 186, 217, 218, 240, 241, 242, 243, 244, 246, 270, 271, 272, 273, 275, 276, 277, 278, 279, 280, 281, 282, 283, 284, 289, 290, 305, 307, 308, 330, 331, 332, 333, 334, 335, 363, 364, 369, 371, 372, 995, 998, 999] σ0 σ46 := X154.tr (e48.mo (by decide))
        have X156 : ExC [0, 1, 2, 34, 35, 36, 60, 61, 62, 63, 64, 65, 66, 67, 68, 69, 70, 72, 73, 74, 75, 76, 77, 90, 94, 121, 180, 182, 183, 184, 185, 186, 217, 218, 240, 241, 242, 243, 244, 246, 270, 271, 272, 273, 275, 276, 277, 278, 279, 280, 281, 282, 283, 284, 289, 290, 305, 307, 308, 330, 331, 332, 333, 334, 335, 363, 364, 369, 371, 372, 995, 998, 999] σ0 σ60 := X155.tr (e62.mo (by decide))
        have X157 : ExC [0, 1, 2, 34, 35, 36, 60, 61, 62, 63, 64, 65, 66, 67, 68, 69, 70, 72, 73, 74, 75, 76, 77, 90, 94, 121, 180, 182, 183, 184, 185, 186, 217, 218, 240, 241, 242, 243, 244, 246, 270, 271, 272, 273, 275, 276, 277, 278, 279, 280, 281, 282, 283, 284, 289, 290, 305, 307, 308, 330, 331, 332, 333, 334, 335, 363, 364, 369, 371, 372, 995, 998, 999] σ0 σ68 := X156.tr (e70.mo (by decide))
        have X158 : ExC [0, 1, 2, 34, 35, 36, 60, 61, 62, 63, 64, 65, 66, 67, 68, 69, 70, 72, 73, 74, 75, 76, 77, 90, 94, 121, 180, 182, 183, 184, 185, 186, 217, 218, 240, 241, 242, 243, 244, 246, 270, 271, 272, 273, 275, 276, 277, 278, 279, 280, 281, 282, 283, 284, 289, 290, 305, 307, 308, 330, 331, 332, 333, 334, 335, 363, 364, 369, 371, 372, 995, 998, 999] σ0 σ78 := X157.tr (e80.mo (by decide))
        have X159 : ExC [0, 1, 2, 34, 35, 36, 60, 61, 62, 63, 64, 65, 66, 67, 68, 69, 70, 72, 73, 74, 75, 76, 77, 90, 94, 121, 180, 182, 183, 184, 185, 186, 217, 218, 240, 241, 242, 243, 244, 246, 270, 271, 272, 273, 275, 276, 277, 278, 279, 280, 281, 282, 283, 284, 289, 290, 305, 307, 308, 330, 331, 332, 333, 334, 335, 363, 364, 369, 371, 372, 995, 998, 999] σ0 σ87 := X158.tr (e89.mo (by decide))
        have X160 : ExC [0, 1, 2, 34, 35, 36, 60, 61, 62, 63, 64, 65, 66, 67, 68, 69, 70, 72, 73, 74, 75, 76, 77, 90, 94, 121, 180, 182, 183, 184, 185, 186, 217, 218, 240, 241, 242, 243, 244, 246, 270, 271, 272, 273, 275, 276, 277, 278, 279, 280, 281, 282, 283, 284, 289, 290, 305, 307, 308, 330, 331, 332, 333, 334, 335, 363, 364, 369, 371, 372, 995, 998, 999] σ0 σ106 := X159.tr (e109.mo (by decide))
        have c161 := (t53.mi e62 (by decide)).trans c49
        have c162 := (t67.mi e70 (by decide)).trans c161
        have c163 := (t77.mi e80 (by decide)).trans c162
        have c164 := (t86.mi e89 (by decide)).trans c163
        have c165 := (t93.mi e109 (by decide)).trans c164
        exact ⟨_, rfl, H108, X160, (by rw [c165] <;> omega), (by omega), (by rw [c165] <;> omega), ⟨s, hZ0, by omega⟩⟩
      · refine k_nil ?_
        refine hB _ _ _ _ (kgoC (is := KX11_read_95) rfl ?_)
        refine k_aload_n rfl ?_
        obtain ⟨a168, e166, c167, t169⟩ := cg367 H108.1 t112
        refine k_get kg367 t112 e166 ?_
        refine k_aload_n rfl ?_
        refine k_get kg363 t112 (congrArg (fun z : Option Nat => (Sum.inr (Sum.inr z) : AvC)) c113) ?_
        refine k_inv (P := P_X0_lay) (Q := Q_X0_lay) rfl rfl rfl rfl (Nat.le_of_ble_eq_true rfl) (t169.rc (by decide)) ⟨_, _, rfl, H108, t169, t114⟩ (fun w170 σ171 q172 => ?_)
        obtain ⟨rfl, H173, e174⟩ := q172
        obtain ⟨u175, u176⟩ := e174.sg H108.1 (by decide)
        refine k_st (st' := []) rfl ?_
        refine k_nil ?_
        refine hB _ _ _ _ (kgoC (is := KX11_read_106) rfl ?_)
        refine k_aload_n rfl ?_
        have t177 := t112.x e174
        have c178 := (t112.mr e174 (by decide)).trans c113
        refine k_get kg363 t177 (congrArg (fun z : Option Nat => (Sum.inr (Sum.inr z) : AvC)) c178) ?_
        have t179 := t114.x e174
        have c180 := (t37.mr e48 (by decide)).trans c34
        have c181 := (t64.mr e62 (by decide)).trans c180
        have c182 := (t101.mr e70 (by decide)).trans c181
        have c183 := (t102.mr e80 (by decide)).trans c182
        have c184 := (t103.mr e89 (by decide)).trans c183
        have c185 := (t104.mr e109 (by decide)).trans c184
        have c186 := (t114.mr e174 (by decide)).trans c185
        refine k_get kg211 t179 (congrArg (fun z : Option Nat => (Sum.inr (Sum.inr z) : AvC)) c186) ?_
        have t187 := t35.x e48
        have t188 := t187.x e62
        have t189 := t188.x e70
        have t190 := t189.x e80
        have t191 := t190.x e89
        have t192 := t191.x e109
        have t193 := t192.x e174
        refine k_inv (P := P_Jx4a65c_size_8abf5) (Q := Q_Jx4a65c_size_8abf5) rfl rfl rfl rfl (Nat.le_of_ble_eq_true rfl) (t193.rc (by decide)) ⟨_, rfl, H173, t193⟩ (fun w194 σ195 q196 => ?_)
        obtain ⟨x197, rfl, rfl, h198, h199, q200, q201⟩ := q196
        refine k_st (st' := [.inl x197]) rfl ?_
        have c202 := (t35.mi e48 (by decide)).trans c40
        have c203 := (t187.mi e62 (by decide)).trans c202
        have c204 := (t188.mi e70 (by decide)).trans c203
        have c205 := (t189.mi e80 (by decide)).trans c204
        have c206 := (t190.mi e89 (by decide)).trans c205
        have c207 := (t191.mi e109 (by decide)).trans c206
        have c208 := (t192.mi e174 (by decide)).trans c207
        have hSz := congrArg Int32.toInt (c208.symm.trans q200)
        have l210 := (t35.gh e48).trans l36
        have l211 := (t187.gh e62).trans l210
        have l212 := (t188.gh e70).trans l211
        have l213 := (t189.gh e80).trans l212
        have l214 := (t190.gh e89).trans l213
        have l215 := (t191.gh e109).trans l214
        have l216 := (t192.gh e174).trans l215
        have z209 := q201 l216
        refine k_ireturn (fun hz => absurd hz (by decide)) ?_
        have X217 : ExC [0, 1, 2, 34, 35, 36, 60, 61, 62, 63, 64, 65, 66, 67, 68, 69, 70, 72, 73, 74, 75, 76, 77, 90, 94, 121, 180, 182, 183, 184, 185, 186, 217, 218, 240, 241, 242, 243, 244, 246, 270, 271, 272, 273, 275, 276, 277, 278, 279, 280, 281, 282, 283, 284, 289, 290, 305, 307, 308, 330, 331, 332, 333, 334, 335, 363, 364, 369, 371, 372, 995, 998, 999] σ0 σ21 := ExC.rf.tr (e25.mo (by decide))
        have X218 : ExC [0, 1, 2, 34, 35, 36, 60, 61, 62, 63, 64, 65, 66, 67, 68, 69, 70, 72, 73, 74, 75, 76, 77, 90, 94, 121, 180, 182, 183, 184, 185, 186, 217, 218, 240, 241, 242, 243, 244, 246, 270, 271, 272, 273, 275, 276, 277, 278, 279, 280, 281, 282, 283, 284, 289, 290, 305, 307, 308, 330, 331, 332, 333, 334, 335, 363, 364, 369, 371, 372, 995, 998, 999] σ0 σ46 := X217.tr (e48.mo (by decide))
        have X219 : ExC [0, 1, 2, 34, 35, 36, 60, 61, 62, 63, 64, 65, 66, 67, 68, 69, 70, 72, 73, 74, 75, 76, 77, 90, 94, 121, 180, 182, 183, 184, 185, 186, 217, 218, 240, 241, 242, 243, 244, 246, 270, 271, 272, 273, 275, 276, 277, 278, 279, 280, 281, 282, 283, 284, 289, 290, 305, 307, 308, 330, 331, 332, 333, 334, 335, 363, 364, 369, 371, 372, 995, 998, 999] σ0 σ60 := X218.tr (e62.mo (by decide))
        have X220 : ExC [0, 1, 2, 34, 35, 36, 60, 61, 62, 63, 64, 65, 66, 67, 68, 69, 70, 72, 73, 74, 75, 76, 77, 90, 94, 121, 180, 182, 183, 184, 185, 186, 217, 218, 240, 241, 242, 243, 244, 246, 270, 271, 272, 273, 275, 276, 277, 278, 279, 280, 281, 282, 283, 284, 289, 290, 305, 307, 308, 330, 331, 332, 333, 334, 335, 363, 364, 369, 371, 372, 995, 998, 999] σ0 σ68 := X219.tr (e70.mo (by decide))
        have X221 : ExC [0, 1, 2, 34, 35, 36, 60, 61, 62, 63, 64, 65, 66, 67, 68, 69, 70, 72, 73, 74, 75, 76, 77, 90, 94, 121, 180, 182, 183, 184, 185, 186, 217, 218, 240, 241, 242, 243, 244, 246, 270, 271, 272, 273, 275, 276, 277, 278, 279, 280, 281, 282, 283, 284, 289, 290, 305, 307, 308, 330, 331, 332, 333, 334, 335, 363, 364, 369, 371, 372, 995, 998, 999] σ0 σ78 := X220.tr (e80.mo (by decide))
        have X222 : ExC [0, 1, 2, 34, 35, 36, 60, 61, 62, 63, 64, 65, 66, 67, 68, 69, 70, 72, 73, 74, 75, 76, 77, 90, 94, 121, 180, 182, 183, 184, 185, 186, 217, 218, 240, 241, 242, 243, 244, 246, 270, 271, 272, 273, 275, 276, 277, 278, 279, 280, 281, 282, 283, 284, 289, 290, 305, 307, 308, 330, 331, 332, 333, 334, 335, 363, 364, 369, 371, 372, 995, 998, 999] σ0 σ87 := X221.tr (e89.mo (by decide))
        have X223 : ExC [0, 1, 2, 34, 35, 36, 60, 61, 62, 63, 64, 65, 66, 67, 68, 69, 70, 72, 73, 74, 75, 76, 77, 90, 94, 121, 180, 182, 183, 184, 185, 186, 217, 218, 240, 241, 242, 243, 244, 246, 270, 271, 272, 273, 275, 276, 277, 278, 279, 280, 281, 282, 283, 284, 289, 290, 305, 307, 308, 330, 331, 332, 333, 334, 335, 363, 364, 369, 371, 372, 995, 998, 999] σ0 σ106 := X222.tr (e109.mo (by decide))
        have X224 : ExC [0, 1, 2, 34, 35, 36, 60, 61, 62, 63, 64, 65, 66, 67, 68, 69, 70, 72, 73, 74, 75, 76, 77, 90, 94, 121, 180, 182, 183, 184, 185, 186, 217, 218, 240, 241, 242, 243, 244, 246, 270, 271, 272, 273, 275, 276, 277, 278, 279, 280, 281, 282, 283, 284, 289, 290, 305, 307, 308, 330, 331, 332, 333, 334, 335, 363, 364, 369, 371, 372, 995, 998, 999] σ0 σ171 := X223.tr (e174.mo (by decide))
        have c225 := (t53.mi e62 (by decide)).trans c49
        have c226 := (t67.mi e70 (by decide)).trans c225
        have c227 := (t77.mi e80 (by decide)).trans c226
        have c228 := (t86.mi e89 (by decide)).trans c227
        have c229 := (t93.mi e109 (by decide)).trans c228
        have c230 := (t112.mi e174 (by decide)).trans c229
        exact ⟨_, rfl, H173, X224, (by rw [c230] <;> omega), (by omega), (by rw [c230] <;> omega), ⟨s, hZ0, by omega⟩⟩
    · refine k_nil ?_
      refine hB _ _ _ _ (kgoC (is := KX11_read_29) rfl ?_)
      refine k_aload_n rfl ?_
      refine k_aload_n rfl ?_
      have t231 := t45.x e48
      have c232 := (h_0_0.mr e25 (by decide)).trans c8
      have c233 := (t45.mr e48 (by decide)).trans c232
      refine k_get kg365 t231 (congrArg (fun z : Option Nat => (Sum.inr (Sum.inr z) : AvC)) c233) ?_
      have t234 := t10.x e25
      have t235 := t234.x e48
      refine k_inv (P := P_X7_faultPlace) (Q := Q_X7_faultPlace) rfl rfl rfl rfl (Nat.le_of_ble_eq_true rfl) (t235.rc (by decide)) ⟨_, rfl, H47, t235⟩ (fun w236 σ237 q238 => ?_)
      obtain ⟨x239, rfl, rfl⟩ := q238
      refine k_st (st' := [.inl x239, .inr (.inr (some p0))]) rfl ?_
      refine k_putI kp371 H47 t231 (Or.inl fk371) (tiC x239).1 (tiC x239).2 (fun σ240 H241 e242 c243 => ?_)
      obtain ⟨u244, u245⟩ := e242.sg H47.1 (by decide)
      refine k_bipush (m := (-10)) rfl (fun x246 h247 => ?_)
      refine k_iload_n rfl ?_
      refine k_isub (by omega) (by omega) (fun x248 h249 => ?_)
      refine k_ireturn (fun hz => absurd hz (by decide)) ?_
      have X250 : ExC [0, 1, 2, 34, 35, 36, 60, 61, 62, 63, 64, 65, 66, 67, 68, 69, 70, 72, 73, 74, 75, 76, 77, 90, 94, 121, 180, 182, 183, 184, 185, 186, 217, 218, 240, 241, 242, 243, 244, 246, 270, 271, 272, 273, 275, 276, 277, 278, 279, 280, 281, 282, 283, 284, 289, 290, 305, 307, 308, 330, 331, 332, 333, 334, 335, 363, 364, 369, 371, 372, 995, 998, 999] σ0 σ21 := ExC.rf.tr (e25.mo (by decide))
      have X251 : ExC [0, 1, 2, 34, 35, 36, 60, 61, 62, 63, 64, 65, 66, 67, 68, 69, 70, 72, 73, 74, 75, 76, 77, 90, 94, 121, 180, 182, 183, 184, 185, 186, 217, 218, 240, 241, 242, 243, 244, 246, 270, 271, 272, 273, 275, 276, 277, 278, 279, 280, 281, 282, 283, 284, 289, 290, 305, 307, 308, 330, 331, 332, 333, 334, 335, 363, 364, 369, 371, 372, 995, 998, 999] σ0 σ46 := X250.tr (e48.mo (by decide))
      have X252 : ExC [0, 1, 2, 34, 35, 36, 60, 61, 62, 63, 64, 65, 66, 67, 68, 69, 70, 72, 73, 74, 75, 76, 77, 90, 94, 121, 180, 182, 183, 184, 185, 186, 217, 218, 240, 241, 242, 243, 244, 246, 270, 271, 272, 273, 275, 276, 277, 278, 279, 280, 281, 282, 283, 284, 289, 290, 305, 307, 308, 330, 331, 332, 333, 334, 335, 363, 364, 369, 371, 372, 995, 998, 999] σ0 σ240 := X251.tr (e242.mo (by decide))
      have c253 := (t231.mi e242 (by decide)).trans c49
      exact ⟨_, rfl, H241, X252, (by rw [c253] <;> omega), (by omega), (by rw [c253] <;> omega), ⟨s, hZ0, by omega⟩⟩
theorem lg_X11_read : ∀ (As : List AvC) (σ : CsC), P_X11_read As σ → lgC As ≤ rX11_read.2.2.1 := by
  rintro As σ ⟨p0, rfl, -⟩
  exact Nat.le_of_ble_eq_true rfl
theorem m_X11_read (l : Launch) : CMetC l 515 204 P_X11_read Q_X11_read :=
  CMetC.of KX11_read [(123, P_X7_readProgram, Q_X7_readProgram), (49, P_X3_judgeProgram, Q_X3_judgeProgram), (234, P_Jx4a65c_size_8abf5, Q_Jx4a65c_size_8abf5), (1, P_X0_lay, Q_X0_lay), (124, P_X7_faultPlace, Q_X7_faultPlace)] hX11_read (by decide) (by decide) okX11_read (cc1C (m_X7_readProgram l) (by decide) (cc1C (m_X3_judgeProgram l) (by decide) (cc1C (m_Jx4a65c_size_8abf5 l) (by decide) (cc1C (m_X0_lay l) (by decide) (cc1C (m_X7_faultPlace l) (by decide) cc0C))))) (lg_X11_read) (b_X11_read)
