abbrev P_X11_read : CpC := fun As σ => ∃ (p0 : Nat), As = [.inr (.inr (some p0))] ∧ HIC σ ∧ TyC σ p0 12 ∧ cnC σ + 4208 ≤ cpC σ ∧ slC σ + 4 * gsC σ (cnC σ) + 22 * 4208 + 20000 ≤ spC σ
abbrev Q_X11_read : CqC := fun As σ w τ => match As with
  | [.inr (.inr (some p0))] => ∃ r : Int32, w = some (.inl r) ∧ HIC τ ∧ ExC [0, 1, 2, 34, 35, 36, 60, 61, 62, 63, 64, 65, 66, 67, 68, 69, 70, 72, 73, 74, 75, 76, 77, 90, 94, 121, 180, 182, 183, 184, 185, 186, 217, 218, 240, 241, 242, 243, 244, 246, 270, 271, 272, 273, 275, 276, 277, 278, 279, 280, 281, 282, 283, 284, 289, 290, 305, 307, 308, 330, 331, 332, 333, 334, 335, 363, 364, 369, 371, 372, 998, 999] σ τ ∧ ((cnC τ : Int) + 8 * (fIC τ p0 369).toInt ≤ cnC σ + 8 * (fIC σ p0 369).toInt + 200) ∧ (slC τ + 4 * gsC τ (cnC τ) ≤ slC σ + 4 * gsC σ (cnC σ) + 22 * (cnC τ - cnC σ)) ∧ ((fIC τ p0 369).toInt = 0)
  | _ => False
set_option maxRecDepth 100000 in
set_option maxHeartbeats 4000000 in
theorem m_X11_read (l : Launch) : CMetC l 515 204 P_X11_read Q_X11_read := by
  refine CMetC.of KX11_read [(123, P_X7_readProgram, Q_X7_readProgram), (49, P_X3_judgeProgram, Q_X3_judgeProgram), (234, P_Jx4a65c_size_8abf5, Q_Jx4a65c_size_8abf5), (1, P_X0_lay, Q_X0_lay), (124, P_X7_faultPlace, Q_X7_faultPlace)] hX11_read (by decide) (by decide) okX11_read (cc1C (m_X7_readProgram l) (by decide) (cc1C (m_X3_judgeProgram l) (by decide) (cc1C (m_Jx4a65c_size_8abf5 l) (by decide) (cc1C (m_X0_lay l) (by decide) (cc1C (m_X7_faultPlace l) (by decide) cc0C))))) ?_ ?_
  · rintro As σ ⟨p0, rfl, -⟩
    exact Nat.le_of_ble_eq_true rfl
  · rintro As σ0 ⟨p0, rfl, H0, h_0_0, q_0, q_1⟩ hgr G hB hW
    change G 0 [(0, .inr (.inr (some p0)))] [] σ0
    obtain ⟨x1, e2, c3, h4, h5⟩ := cg369 H0.1 h_0_0
    have z6 := congrArg Int32.toInt c3
    refine hB _ _ _ _ (kgoC (is := KX11_read_0) rfl ?_)
    refine k_aload_n rfl ?_
    obtain ⟨a9, e7, c8, t10⟩ := cg365 H0.1 h_0_0
    refine k_get kg365 h_0_0 e7 ?_
    refine k_aload_n rfl ?_
    obtain ⟨a13, e11, c12, t14⟩ := cg364 H0.1 h_0_0
    refine k_get kg364 h_0_0 e11 ?_
    refine k_aload_n rfl ?_
    obtain ⟨a17, e15, c16, t18, l19⟩ := cg360 H0.1 h_0_0
    refine k_get kg360 h_0_0 e15 ?_
    refine k_aload_n rfl ?_
    refine k_get kg369 h_0_0 (congrArg (Sum.inl : Int32 → AvC) c3) ?_
    refine k_inv (P := P_X7_readProgram) (Q := Q_X7_readProgram) rfl rfl rfl rfl (Nat.le_of_ble_eq_true rfl) (t10.rc (by decide)) ⟨_, _, _, _, rfl, H0, t10, t14, t18, l19, (by omega), (by omega), q_0, q_1⟩ (fun w20 σ21 q22 => ?_)
    obtain ⟨x23, rfl, H24, e25, h26, h27, q28, q29⟩ := q22
    refine k_st (st' := [.inl x23]) rfl ?_
    refine k_istore_n (ls' := [(1, .inl x23), (0, .inr (.inr (some p0)))]) rfl ?_
    refine k_aload_n rfl ?_
    refine k_iconst (m := 0) rfl (fun x30 h31 => ?_)
    have t32 := h_0_0.x e25
    refine k_putI kp369 H24 t32 (Or.inl fk369) (by show 0 ≤ _; omega) (by show _ ≤ 2500; omega) (fun σ33 H34 e35 c36 => ?_)
    obtain ⟨u37, u38⟩ := e35.sg H24.1 (by decide)
    refine k_iload_n rfl ?_
    refine k_if_eq (fun h39 => ?_) (fun h39 => ?_)
    · refine hB _ _ _ _ (kgoC (is := KX11_read_45) rfl ?_)
      refine k_aload_n rfl ?_
      have t40 := t32.x e35
      obtain ⟨a43, e41, c42, t44⟩ := cg363 H34.1 t40
      refine k_get kg363 t40 e41 ?_
      refine k_astore_n (ls' := [(2, .inr (.inr (some a43))), (1, .inl x23), (0, .inr (.inr (some p0)))]) rfl ?_
      refine k_aload_n rfl ?_
      refine k_aload_n rfl ?_
      have c45 := (h_0_0.mr e25 (by decide)).trans c12
      have c46 := (t32.mr e35 (by decide)).trans c45
      refine k_get kg364 t40 (congrArg (fun z : Option Nat => (Sum.inr (Sum.inr z) : AvC)) c46) ?_
      have t51 := t14.x e25
      have t52 := t51.x e35
      refine k_putR kp363 H34 t40 fk363 (rf363 t52) (fun σ47 H48 e49 c50 => ?_)
      obtain ⟨u53, u54⟩ := e49.sg H34.1 (by decide)
      refine k_aload_n rfl ?_
      refine k_aload_n rfl ?_
      have t55 := t40.x e49
      have t60 := t44.x e49
      refine k_putR kp364 H48 t55 fk364 (rf364 t60) (fun σ56 H57 e58 c59 => ?_)
      obtain ⟨u61, u62⟩ := e58.sg H48.1 (by decide)
      refine k_aload_n rfl ?_
      refine k_bipush (m := (-2)) rfl (fun x63 h64 => ?_)
      have t65 := t55.x e58
      refine k_putI kp371 H57 t65 (Or.inl fk371) (tiC x63).1 (tiC x63).2 (fun σ66 H67 e68 c69 => ?_)
      obtain ⟨u70, u71⟩ := e68.sg H57.1 (by decide)
      refine k_aload_n rfl ?_
      refine k_iconst (m := 0) rfl (fun x72 h73 => ?_)
      have t74 := t65.x e68
      refine k_putI kp372 H67 t74 (Or.inr ⟨fk372, b01C (by omega) (by omega)⟩) (by show 0 ≤ _; omega) (by show _ ≤ 1; omega) (fun σ75 H76 e77 c78 => ?_)
      obtain ⟨u79, u80⟩ := e77.sg H67.1 (by decide)
      refine k_aload_n rfl ?_
      have t81 := t74.x e77
      obtain ⟨a84, e82, c83, t85⟩ := cg366 H76.1 t81
      refine k_get kg366 t81 e82 ?_
      refine k_aload_n rfl ?_
      have c86 := (t55.mr e58 (by decide)).trans c50
      have c87 := (t65.mr e68 (by decide)).trans c86
      have c88 := (t74.mr e77 (by decide)).trans c87
      refine k_get kg363 t81 (congrArg (fun z : Option Nat => (Sum.inr (Sum.inr z) : AvC)) c88) ?_
      have t89 := t52.x e49
      have t90 := t89.x e58
      have t91 := t90.x e68
      have t92 := t91.x e77
      refine k_inv (P := P_X3_judgeProgram) (Q := Q_X3_judgeProgram) rfl rfl rfl rfl (Nat.le_of_ble_eq_true rfl) (t85.rc (by decide)) ⟨_, _, rfl, H76, t85, t92⟩ (fun w93 σ94 q95 => ?_)
      obtain ⟨rfl, H96, e97⟩ := q95
      obtain ⟨u98, u99⟩ := e97.sg H76.1 (by decide)
      refine k_st (st' := []) rfl ?_
      refine k_aload_n rfl ?_
      have t100 := t81.x e97
      have c101 := (t81.mr e97 (by decide)).trans c88
      refine k_get kg363 t100 (congrArg (fun z : Option Nat => (Sum.inr (Sum.inr z) : AvC)) c101) ?_
      have t102 := t92.x e97
      obtain ⟨x105, e103, c104, h106, h107⟩ := cg217 H96.1 t102
      refine k_get kg217 t102 e103 ?_
      refine k_if_ne (fun h108 => ?_) (fun h108 => ?_)
      · refine hB _ _ _ _ (kgoC (is := KX11_read_106) rfl ?_)
        refine k_aload_n rfl ?_
        refine k_get kg363 t100 (congrArg (fun z : Option Nat => (Sum.inr (Sum.inr z) : AvC)) c101) ?_
        obtain ⟨a111, e109, c110, t112, l113⟩ := cg211 H96.1 t102
        refine k_get kg211 t102 e109 ?_
        refine k_inv (P := P_Jx4a65c_size_8abf5) (Q := Q_Jx4a65c_size_8abf5) rfl rfl rfl rfl (Nat.le_of_ble_eq_true rfl) (t112.rc (by decide)) ⟨_, rfl, H96, t112⟩ (fun w114 σ115 q116 => ?_)
        obtain ⟨x117, rfl, rfl, h118, h119, q120, q121⟩ := q116
        refine k_st (st' := [.inl x117]) rfl ?_
        have z122 := q121 l113
        refine k_ireturn (fun hz => absurd hz (by decide)) ?_
        have X123 : ExC [0, 1, 2, 34, 35, 36, 60, 61, 62, 63, 64, 65, 66, 67, 68, 69, 70, 72, 73, 74, 75, 76, 77, 90, 94, 121, 180, 182, 183, 184, 185, 186, 217, 218, 240, 241, 242, 243, 244, 246, 270, 271, 272, 273, 275, 276, 277, 278, 279, 280, 281, 282, 283, 284, 289, 290, 305, 307, 308, 330, 331, 332, 333, 334, 335, 363, 364, 369, 371, 372, 998, 999] σ0 σ21 := ExC.rf.tr (e25.mo (by decide))
        have X124 : ExC [0, 1, 2, 34, 35, 36, 60, 61, 62, 63, 64, 65, 66, 67, 68, 69, 70, 72, 73, 74, 75, 76, 77, 90, 94, 121, 180, 182, 183, 184, 185, 186, 217, 218, 240, 241, 242, 243, 244, 246, 270, 271, 272, 273, 275, 276, 277, 278, 279, 280, 281, 282, 283, 284, 289, 290, 305, 307, 308, 330, 331, 332, 333, 334, 335, 363, 364, 369, 371, 372, 998, 999] σ0 σ33 := X123.tr (e35.mo (by decide))
        have X125 : ExC [0, 1, 2, 34, 35, 36, 60, 61, 62, 63, 64, 65, 66, 67, 68, 69, 70, 72, 73, 74, 75, 76, 77, 90, 94, 121, 180, 182, 183, 184, 185, 186, 217, 218, 240, 241, 242, 243, 244, 246, 270, 271, 272, 273, 275, 276, 277, 278, 279, 280, 281, 282, 283, 284, 289, 290, 305, 307, 308, 330, 331, 332, 333, 334, 335, 363, 364, 369, 371, 372, 998, 999] σ0 σ47 := X124.tr (e49.mo (by decide))
        have X126 : ExC [0, 1, 2, 34, 35, 36, 60, 61, 62, 63, 64, 65, 66, 67, 68, 69, 70, 72, 73, 74, 75, 76, 77, 90, 94, 121, 180, 182, 183, 184, 185, 186, 217, 218, 240, 241, 242, 243, 244, 246, 270, 271, 272, 273, 275, 276, 277, 278, 279, 280, 281, 282, 283, 284, 289, 290, 305, 307, 308, 330, 331, 332, 333, 334, 335, 363, 364, 369, 371, 372, 998, 999] σ0 σ56 := X125.tr (e58.mo (by decide))
        have X127 : ExC [0, 1, 2, 34, 35, 36, 60, 61, 62, 63, 64, 65, 66, 67, 68, 69, 70, 72, 73, 74, 75, 76, 77, 90, 94, 121, 180, 182, 183, 184, 185, 186, 217, 218, 240, 241, 242, 243, 244, 246, 270, 271, 272, 273, 275, 276, 277, 278, 279, 280, 281, 282, 283, 284, 289, 290, 305, 307, 308, 330, 331, 332, 333, 334, 335, 363, 364, 369, 371, 372, 998, 999] σ0 σ66 := X126.tr (e68.mo (by decide))
        have X128 : ExC [0, 1, 2, 34, 35, 36, 60, 61, 62, 63, 64, 65, 66, 67, 68, 69, 70, 72, 73, 74, 75, 76, 77, 90, 94, 121, 180, 182, 183, 184, 185, 186, 217, 218, 240, 241, 242, 243, 244, 246, 270, 271, 272, 273, 275, 276, 277, 278, 279, 280, 281, 282, 283, 284, 289, 290, 305, 307, 308, 330, 331, 332, 333, 334, 335, 363, 364, 369, 371, 372, 998, 999] σ0 σ75 := X127.tr (e77.mo (by decide))
        have X129 : ExC [0, 1, 2, 34, 35, 36, 60, 61, 62, 63, 64, 65, 66, 67, 68, 69, 70, 72, 73, 74, 75, 76, 77, 90, 94, 121, 180, 182, 183, 184, 185, 186, 217, 218, 240, 241, 242, 243, 244, 246, 270, 271, 272, 273, 275, 276, 277, 278, 279, 280, 281, 282, 283, 284, 289, 290, 305, 307, 308, 330, 331, 332, 333, 334, 335, 363, 364, 369, 371, 372, 998, 999] σ0 σ94 := X128.tr (e97.mo (by decide))
        have c130 := (t40.mi e49 (by decide)).trans c36
        have c131 := (t55.mi e58 (by decide)).trans c130
        have c132 := (t65.mi e68 (by decide)).trans c131
        have c133 := (t74.mi e77 (by decide)).trans c132
        have c134 := (t81.mi e97 (by decide)).trans c133
        exact ⟨_, rfl, H96, X129, (by rw [c134] <;> omega), (by omega), (by rw [c134] <;> omega)⟩
      · refine k_nil ?_
        refine hB _ _ _ _ (kgoC (is := KX11_read_95) rfl ?_)
        refine k_aload_n rfl ?_
        obtain ⟨a137, e135, c136, t138⟩ := cg367 H96.1 t100
        refine k_get kg367 t100 e135 ?_
        refine k_aload_n rfl ?_
        refine k_get kg363 t100 (congrArg (fun z : Option Nat => (Sum.inr (Sum.inr z) : AvC)) c101) ?_
        refine k_inv (P := P_X0_lay) (Q := Q_X0_lay) rfl rfl rfl rfl (Nat.le_of_ble_eq_true rfl) (t138.rc (by decide)) ⟨_, _, rfl, H96, t138, t102⟩ (fun w139 σ140 q141 => ?_)
        obtain ⟨rfl, H142, e143⟩ := q141
        obtain ⟨u144, u145⟩ := e143.sg H96.1 (by decide)
        refine k_st (st' := []) rfl ?_
        refine k_nil ?_
        refine hB _ _ _ _ (kgoC (is := KX11_read_106) rfl ?_)
        refine k_aload_n rfl ?_
        have t146 := t100.x e143
        have c147 := (t100.mr e143 (by decide)).trans c101
        refine k_get kg363 t146 (congrArg (fun z : Option Nat => (Sum.inr (Sum.inr z) : AvC)) c147) ?_
        have t148 := t102.x e143
        obtain ⟨a151, e149, c150, t152, l153⟩ := cg211 H142.1 t148
        refine k_get kg211 t148 e149 ?_
        refine k_inv (P := P_Jx4a65c_size_8abf5) (Q := Q_Jx4a65c_size_8abf5) rfl rfl rfl rfl (Nat.le_of_ble_eq_true rfl) (t152.rc (by decide)) ⟨_, rfl, H142, t152⟩ (fun w154 σ155 q156 => ?_)
        obtain ⟨x157, rfl, rfl, h158, h159, q160, q161⟩ := q156
        refine k_st (st' := [.inl x157]) rfl ?_
        have z162 := q161 l153
        refine k_ireturn (fun hz => absurd hz (by decide)) ?_
        have X163 : ExC [0, 1, 2, 34, 35, 36, 60, 61, 62, 63, 64, 65, 66, 67, 68, 69, 70, 72, 73, 74, 75, 76, 77, 90, 94, 121, 180, 182, 183, 184, 185, 186, 217, 218, 240, 241, 242, 243, 244, 246, 270, 271, 272, 273, 275, 276, 277, 278, 279, 280, 281, 282, 283, 284, 289, 290, 305, 307, 308, 330, 331, 332, 333, 334, 335, 363, 364, 369, 371, 372, 998, 999] σ0 σ21 := ExC.rf.tr (e25.mo (by decide))
        have X164 : ExC [0, 1, 2, 34, 35, 36, 60, 61, 62, 63, 64, 65, 66, 67, 68, 69, 70, 72, 73, 74, 75, 76, 77, 90, 94, 121, 180, 182, 183, 184, 185, 186, 217, 218, 240, 241, 242, 243, 244, 246, 270, 271, 272, 273, 275, 276, 277, 278, 279, 280, 281, 282, 283, 284, 289, 290, 305, 307, 308, 330, 331, 332, 333, 334, 335, 363, 364, 369, 371, 372, 998, 999] σ0 σ33 := X163.tr (e35.mo (by decide))
        have X165 : ExC [0, 1, 2, 34, 35, 36, 60, 61, 62, 63, 64, 65, 66, 67, 68, 69, 70, 72, 73, 74, 75, 76, 77, 90, 94, 121, 180, 182, 183, 184, 185, 186, 217, 218, 240, 241, 242, 243, 244, 246, 270, 271, 272, 273, 275, 276, 277, 278, 279, 280, 281, 282, 283, 284, 289, 290, 305, 307, 308, 330, 331, 332, 333, 334, 335, 363, 364, 369, 371, 372, 998, 999] σ0 σ47 := X164.tr (e49.mo (by decide))
        have X166 : ExC [0, 1, 2, 34, 35, 36, 60, 61, 62, 63, 64, 65, 66, 67, 68, 69, 70, 72, 73, 74, 75, 76, 77, 90, 94, 121, 180, 182, 183, 184, 185, 186, 217, 218, 240, 241, 242, 243, 244, 246, 270, 271, 272, 273, 275, 276, 277, 278, 279, 280, 281, 282, 283, 284, 289, 290, 305, 307, 308, 330, 331, 332, 333, 334, 335, 363, 364, 369, 371, 372, 998, 999] σ0 σ56 := X165.tr (e58.mo (by decide))
        have X167 : ExC [0, 1, 2, 34, 35, 36, 60, 61, 62, 63, 64, 65, 66, 67, 68, 69, 70, 72, 73, 74, 75, 76, 77, 90, 94, 121, 180, 182, 183, 184, 185, 186, 217, 218, 240, 241, 242, 243, 244, 246, 270, 271, 272, 273, 275, 276, 277, 278, 279, 280, 281, 282, 283, 284, 289, 290, 305, 307, 308, 330, 331, 332, 333, 334, 335, 363, 364, 369, 371, 372, 998, 999] σ0 σ66 := X166.tr (e68.mo (by decide))
        have X168 : ExC [0, 1, 2, 34, 35, 36, 60, 61, 62, 63, 64, 65, 66, 67, 68, 69, 70, 72, 73, 74, 75, 76, 77, 90, 94, 121, 180, 182, 183, 184, 185, 186, 217, 218, 240, 241, 242, 243, 244, 246, 270, 271, 272, 273, 275, 276, 277, 278, 279, 280, 281, 282, 283, 284, 289, 290, 305, 307, 308, 330, 331, 332, 333, 334, 335, 363, 364, 369, 371, 372, 998, 999] σ0 σ75 := X167.tr (e77.mo (by decide))
        have X169 : ExC [0, 1, 2, 34, 35, 36, 60, 61, 62, 63, 64, 65, 66, 67, 68, 69, 70, 72, 73, 74, 75, 76, 77, 90, 94, 121, 180, 182, 183, 184, 185, 186, 217, 218, 240, 241, 242, 243, 244, 246, 270, 271, 272, 273, 275, 276, 277, 278, 279, 280, 281, 282, 283, 284, 289, 290, 305, 307, 308, 330, 331, 332, 333, 334, 335, 363, 364, 369, 371, 372, 998, 999] σ0 σ94 := X168.tr (e97.mo (by decide))
        have X170 : ExC [0, 1, 2, 34, 35, 36, 60, 61, 62, 63, 64, 65, 66, 67, 68, 69, 70, 72, 73, 74, 75, 76, 77, 90, 94, 121, 180, 182, 183, 184, 185, 186, 217, 218, 240, 241, 242, 243, 244, 246, 270, 271, 272, 273, 275, 276, 277, 278, 279, 280, 281, 282, 283, 284, 289, 290, 305, 307, 308, 330, 331, 332, 333, 334, 335, 363, 364, 369, 371, 372, 998, 999] σ0 σ140 := X169.tr (e143.mo (by decide))
        have c171 := (t40.mi e49 (by decide)).trans c36
        have c172 := (t55.mi e58 (by decide)).trans c171
        have c173 := (t65.mi e68 (by decide)).trans c172
        have c174 := (t74.mi e77 (by decide)).trans c173
        have c175 := (t81.mi e97 (by decide)).trans c174
        have c176 := (t100.mi e143 (by decide)).trans c175
        exact ⟨_, rfl, H142, X170, (by rw [c176] <;> omega), (by omega), (by rw [c176] <;> omega)⟩
    · refine k_nil ?_
      refine hB _ _ _ _ (kgoC (is := KX11_read_29) rfl ?_)
      refine k_aload_n rfl ?_
      refine k_aload_n rfl ?_
      have t177 := t32.x e35
      have c178 := (h_0_0.mr e25 (by decide)).trans c8
      have c179 := (t32.mr e35 (by decide)).trans c178
      refine k_get kg365 t177 (congrArg (fun z : Option Nat => (Sum.inr (Sum.inr z) : AvC)) c179) ?_
      have t180 := t10.x e25
      have t181 := t180.x e35
      refine k_inv (P := P_X7_faultPlace) (Q := Q_X7_faultPlace) rfl rfl rfl rfl (Nat.le_of_ble_eq_true rfl) (t181.rc (by decide)) ⟨_, rfl, H34, t181⟩ (fun w182 σ183 q184 => ?_)
      obtain ⟨x185, rfl, rfl⟩ := q184
      refine k_st (st' := [.inl x185, .inr (.inr (some p0))]) rfl ?_
      refine k_putI kp371 H34 t177 (Or.inl fk371) (tiC x185).1 (tiC x185).2 (fun σ186 H187 e188 c189 => ?_)
      obtain ⟨u190, u191⟩ := e188.sg H34.1 (by decide)
      refine k_bipush (m := (-10)) rfl (fun x192 h193 => ?_)
      refine k_iload_n rfl ?_
      refine k_isub (by omega) (by omega) (fun x194 h195 => ?_)
      refine k_ireturn (fun hz => absurd hz (by decide)) ?_
      have X196 : ExC [0, 1, 2, 34, 35, 36, 60, 61, 62, 63, 64, 65, 66, 67, 68, 69, 70, 72, 73, 74, 75, 76, 77, 90, 94, 121, 180, 182, 183, 184, 185, 186, 217, 218, 240, 241, 242, 243, 244, 246, 270, 271, 272, 273, 275, 276, 277, 278, 279, 280, 281, 282, 283, 284, 289, 290, 305, 307, 308, 330, 331, 332, 333, 334, 335, 363, 364, 369, 371, 372, 998, 999] σ0 σ21 := ExC.rf.tr (e25.mo (by decide))
      have X197 : ExC [0, 1, 2, 34, 35, 36, 60, 61, 62, 63, 64, 65, 66, 67, 68, 69, 70, 72, 73, 74, 75, 76, 77, 90, 94, 121, 180, 182, 183, 184, 185, 186, 217, 218, 240, 241, 242, 243, 244, 246, 270, 271, 272, 273, 275, 276, 277, 278, 279, 280, 281, 282, 283, 284, 289, 290, 305, 307, 308, 330, 331, 332, 333, 334, 335, 363, 364, 369, 371, 372, 998, 999] σ0 σ33 := X196.tr (e35.mo (by decide))
      have X198 : ExC [0, 1, 2, 34, 35, 36, 60, 61, 62, 63, 64, 65, 66, 67, 68, 69, 70, 72, 73, 74, 75, 76, 77, 90, 94, 121, 180, 182, 183, 184, 185, 186, 217, 218, 240, 241, 242, 243, 244, 246, 270, 271, 272, 273, 275, 276, 277, 278, 279, 280, 281, 282, 283, 284, 289, 290, 305, 307, 308, 330, 331, 332, 333, 334, 335, 363, 364, 369, 371, 372, 998, 999] σ0 σ186 := X197.tr (e188.mo (by decide))
      have c199 := (t177.mi e188 (by decide)).trans c36
      exact ⟨_, rfl, H187, X198, (by rw [c199] <;> omega), (by omega), (by rw [c199] <;> omega)⟩
