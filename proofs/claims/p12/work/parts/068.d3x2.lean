abbrev P_X2_markTarget : CpC := fun As σ => ∃ (p0 : Nat), As = [.inr (.inr (some p0))] ∧ HIC σ ∧ TyC σ p0 9
abbrev Q_X2_markTarget : CqC := fun As σ w τ => match As with
  | [.inr (.inr (some p0))] => w = none ∧ HIC τ ∧ ExC [283, 284] σ τ
  | _ => False
set_option maxRecDepth 100000 in
set_option maxHeartbeats 4000000 in
theorem b_X2_markTarget : TbC KX2_markTarget [(181, P_X8_hasFinallyAhead, Q_X8_hasFinallyAhead)] P_X2_markTarget Q_X2_markTarget := by
  · rintro As σ0 ⟨p0, rfl, H0, h_0_0⟩ hgr G hB hW
    change G 0 [(0, .inr (.inr (some p0)))] [] σ0
    have L2 : ∀ (n2 : Nat), ∀ (σ1 : CsC) (v2_1 : Option Nat), msPC v2_1 = n2 → HIC σ1 → ExC [283, 284] σ0 σ1 → OtC σ1 v2_1 9 → G 2 [(0, .inr (.inr (some p0))), (1, .inr (.inr v2_1))] [] σ1 := by
      intro n2
      induction n2 using Nat.strongRecOn with
      | _ n2 ih2 =>
        intro σ1 v2_1 n2_ H2 e3 h4
        refine hB _ _ _ _ (kgoC (is := KX2_markTarget_2) rfl ?_)
        refine k_aload_n rfl ?_
        refine k_ifnull (fun h6 => ?_) (fun b5 h6 => ?_)
        · subst h6
          refine hB _ _ _ _ (kgoC (is := KX2_markTarget_43) rfl ?_)
          refine k_aload_n rfl ?_
          have t7 := h_0_0.x e3
          obtain ⟨o10, e8, c9, t11⟩ := cg281 H2.1 t7
          refine k_get kg281 t7 e8 ?_
          refine k_ifnull (fun h13 => ?_) (fun b12 h13 => ?_)
          · subst h13
            refine hB _ _ _ _ (kgoC (is := KX2_markTarget_70) rfl ?_)
            refine k_aload_n rfl ?_
            refine k_get kg281 t7 (congrArg (fun z : Option Nat => (Sum.inr (Sum.inr z) : AvC)) c9) ?_
            refine k_ifnull (fun _ => ?_) (fun _ hz => by cases hz)
            refine hB _ _ _ _ (kgoC (is := KX2_markTarget_85) rfl ?_)
            refine k_return ?_
            have X14 : ExC [283, 284] σ0 σ1 := ExC.rf.tr (e3.mo (by decide))
            exact ⟨rfl, H2, X14⟩
          · subst h13
            have t15 := t11 b12 rfl
            refine k_nil ?_
            refine hB _ _ _ _ (kgoC (is := KX2_markTarget_50) rfl ?_)
            refine k_aload_n rfl ?_
            obtain ⟨x18, e16, c17, h19, h20⟩ := cg270 H2.1 t7
            refine k_get kg270 t7 e16 ?_
            refine k_bipush (m := 64) rfl (fun x21 h22 => ?_)
            refine k_ic_ne (fun h23 => ?_) (fun h23 => ?_)
            · refine hB _ _ _ _ (kgoC (is := KX2_markTarget_70) rfl ?_)
              refine k_aload_n rfl ?_
              refine k_get kg281 t7 (congrArg (fun z : Option Nat => (Sum.inr (Sum.inr z) : AvC)) c9) ?_
              refine k_ifnull (fun hz => by cases hz) (fun _ _ => ?_)
              refine k_nil ?_
              refine hB _ _ _ _ (kgoC (is := KX2_markTarget_77) rfl ?_)
              refine k_aload_n rfl ?_
              refine k_get kg281 t7 (congrArg (fun z : Option Nat => (Sum.inr (Sum.inr z) : AvC)) c9) ?_
              refine k_iconst (m := 1) rfl (fun x24 h25 => ?_)
              refine k_putI kp284 H2 t15 (Or.inr ⟨fk284, b01C (by omega) (by omega)⟩) (by show 0 ≤ _; omega) (by show _ ≤ 1; omega) (fun σ26 H27 e28 c29 => ?_)
              refine k_nil ?_
              refine hB _ _ _ _ (kgoC (is := KX2_markTarget_85) rfl ?_)
              refine k_return ?_
              have X30 : ExC [283, 284] σ0 σ1 := ExC.rf.tr (e3.mo (by decide))
              have X31 : ExC [283, 284] σ0 σ26 := X30.tr (e28.mo (by decide))
              exact ⟨rfl, H27, X31⟩
            · refine k_nil ?_
              refine hB _ _ _ _ (kgoC (is := KX2_markTarget_59) rfl ?_)
              refine k_aload_n rfl ?_
              refine k_get kg281 t7 (congrArg (fun z : Option Nat => (Sum.inr (Sum.inr z) : AvC)) c9) ?_
              refine k_iconst (m := 1) rfl (fun x32 h33 => ?_)
              refine k_putI kp283 H2 t15 (Or.inr ⟨fk283, b01C (by omega) (by omega)⟩) (by show 0 ≤ _; omega) (by show _ ≤ 1; omega) (fun σ34 H35 e36 c37 => ?_)
              refine k_goto ?_
              refine hB _ _ _ _ (kgoC (is := KX2_markTarget_85) rfl ?_)
              refine k_return ?_
              have X38 : ExC [283, 284] σ0 σ1 := ExC.rf.tr (e3.mo (by decide))
              have X39 : ExC [283, 284] σ0 σ34 := X38.tr (e36.mo (by decide))
              exact ⟨rfl, H35, X39⟩
        · subst h6
          have t40 := h4 b5 rfl
          refine k_nil ?_
          refine hB _ _ _ _ (kgoC (is := KX2_markTarget_6) rfl ?_)
          refine k_aload_n rfl ?_
          refine k_aload_n rfl ?_
          have t41 := h_0_0.x e3
          obtain ⟨o44, e42, c43, t45⟩ := cg281 H2.1 t41
          refine k_get kg281 t41 e42 ?_
          refine k_acmp_eq (c := 9) (c' := 9) (t40.ot) (t45) (fun h46 => ?_) (fun h46 => ?_)
          · refine hB _ _ _ _ (kgoC (is := KX2_markTarget_43) rfl ?_)
            refine k_aload_n rfl ?_
            refine k_get kg281 t41 (congrArg (fun z : Option Nat => (Sum.inr (Sum.inr z) : AvC)) c43) ?_
            refine k_ifnull (fun h48 => ?_) (fun b47 h48 => ?_)
            · subst h48
              refine hB _ _ _ _ (kgoC (is := KX2_markTarget_70) rfl ?_)
              refine k_aload_n rfl ?_
              refine k_get kg281 t41 (congrArg (fun z : Option Nat => (Sum.inr (Sum.inr z) : AvC)) c43) ?_
              refine k_ifnull (fun _ => ?_) (fun _ hz => by cases hz)
              refine hB _ _ _ _ (kgoC (is := KX2_markTarget_85) rfl ?_)
              refine k_return ?_
              have X49 : ExC [283, 284] σ0 σ1 := ExC.rf.tr (e3.mo (by decide))
              exact ⟨rfl, H2, X49⟩
            · subst h48
              have t50 := t45 b47 rfl
              refine k_nil ?_
              refine hB _ _ _ _ (kgoC (is := KX2_markTarget_50) rfl ?_)
              refine k_aload_n rfl ?_
              obtain ⟨x53, e51, c52, h54, h55⟩ := cg270 H2.1 t41
              refine k_get kg270 t41 e51 ?_
              refine k_bipush (m := 64) rfl (fun x56 h57 => ?_)
              refine k_ic_ne (fun h58 => ?_) (fun h58 => ?_)
              · refine hB _ _ _ _ (kgoC (is := KX2_markTarget_70) rfl ?_)
                refine k_aload_n rfl ?_
                refine k_get kg281 t41 (congrArg (fun z : Option Nat => (Sum.inr (Sum.inr z) : AvC)) c43) ?_
                refine k_ifnull (fun hz => by cases hz) (fun _ _ => ?_)
                refine k_nil ?_
                refine hB _ _ _ _ (kgoC (is := KX2_markTarget_77) rfl ?_)
                refine k_aload_n rfl ?_
                refine k_get kg281 t41 (congrArg (fun z : Option Nat => (Sum.inr (Sum.inr z) : AvC)) c43) ?_
                refine k_iconst (m := 1) rfl (fun x59 h60 => ?_)
                refine k_putI kp284 H2 t50 (Or.inr ⟨fk284, b01C (by omega) (by omega)⟩) (by show 0 ≤ _; omega) (by show _ ≤ 1; omega) (fun σ61 H62 e63 c64 => ?_)
                refine k_nil ?_
                refine hB _ _ _ _ (kgoC (is := KX2_markTarget_85) rfl ?_)
                refine k_return ?_
                have X65 : ExC [283, 284] σ0 σ1 := ExC.rf.tr (e3.mo (by decide))
                have X66 : ExC [283, 284] σ0 σ61 := X65.tr (e63.mo (by decide))
                exact ⟨rfl, H62, X66⟩
              · refine k_nil ?_
                refine hB _ _ _ _ (kgoC (is := KX2_markTarget_59) rfl ?_)
                refine k_aload_n rfl ?_
                refine k_get kg281 t41 (congrArg (fun z : Option Nat => (Sum.inr (Sum.inr z) : AvC)) c43) ?_
                refine k_iconst (m := 1) rfl (fun x67 h68 => ?_)
                refine k_putI kp283 H2 t50 (Or.inr ⟨fk283, b01C (by omega) (by omega)⟩) (by show 0 ≤ _; omega) (by show _ ≤ 1; omega) (fun σ69 H70 e71 c72 => ?_)
                refine k_goto ?_
                refine hB _ _ _ _ (kgoC (is := KX2_markTarget_85) rfl ?_)
                refine k_return ?_
                have X73 : ExC [283, 284] σ0 σ1 := ExC.rf.tr (e3.mo (by decide))
                have X74 : ExC [283, 284] σ0 σ69 := X73.tr (e71.mo (by decide))
                exact ⟨rfl, H70, X74⟩
          · refine k_nil ?_
            refine hB _ _ _ _ (kgoC (is := KX2_markTarget_14) rfl ?_)
            refine k_aload_n rfl ?_
            refine k_inv (P := P_X8_hasFinallyAhead) (Q := Q_X8_hasFinallyAhead) rfl rfl rfl rfl (Nat.le_of_ble_eq_true rfl) (t40.rc (by decide)) ⟨_, rfl, H2, t40⟩ (fun w75 σ76 q77 => ?_)
            obtain ⟨x78, rfl, rfl, h79, h80, q81⟩ := q77
            refine k_st (st' := [.inl x78]) rfl ?_
            rcases (by omega : x78.toInt = 0 ∨ x78.toInt = 1) with g82 | g82
            · refine k_if_eq (fun h83 => ?_) (fun h83 => by exfalso; omega)
              refine hB _ _ _ _ (kgoC (is := KX2_markTarget_35) rfl ?_)
              refine k_aload_n rfl ?_
              obtain ⟨o86, e84, c85, t87, f88⟩ := cg273 H2.1 t40
              refine k_get kg273 t40 e84 ?_
              refine k_astore_n (ls' := [(1, .inr (.inr o86)), (0, .inr (.inr (some p0)))]) rfl ?_
              refine k_goto ?_
              have X89 : ExC [283, 284] σ0 σ1 := ExC.rf.tr (e3.mo (by decide))
              exact hW _ _ _ _ _ (List.forall_mem_cons.2 ⟨List.Mem.tail _ (List.Mem.head _), (List.forall_mem_cons.2 ⟨List.Mem.head _, fun _ h => absurd h List.not_mem_nil⟩)⟩) (ih2 (msPC o86) (by cases o86 with
                              | none => have qm := n2_; dsimp only [msPC] at qm ⊢; omega
                              | some bz => have qf := (f88 bz rfl).2; have qg := (show bz < _ from by first | exact qf | exact qf.1); have qm := n2_; dsimp only [msPC] at qm ⊢; omega) σ1 o86 rfl H2 X89 t87)
            · obtain ⟨b90, h91, b92, h93⟩ := q81 (by omega)
              obtain ⟨o94, e95, c96, t97, f98⟩ := cg273 H2.1 t40
              have h99 : o94 = some b90 := c96.symm.trans h91
              subst h99
              have t100 := t97 b90 rfl
              have f101 := (f98 b90 rfl).2
              obtain ⟨o102, e103, c104, t105, f106⟩ := cg278 H2.1 t100
              have h107 : o102 = some b92 := c104.symm.trans h93
              subst h107
              have t108 := t105 b92 rfl
              have f109 := (f106 b92 rfl).2
              refine k_if_eq (fun h110 => by exfalso; omega) (fun h110 => ?_)
              refine k_nil ?_
              refine hB _ _ _ _ (kgoC (is := KX2_markTarget_21) rfl ?_)
              refine k_aload_n rfl ?_
              refine k_get kg273 t40 (congrArg (fun z : Option Nat => (Sum.inr (Sum.inr z) : AvC)) c96) ?_
              refine k_get kg278 t100 (congrArg (fun z : Option Nat => (Sum.inr (Sum.inr z) : AvC)) c104) ?_
              obtain ⟨x113, e111, c112, h114, h115⟩ := cg282 H2.1 t108
              refine k_get kg282 t108 e111 ?_
              refine k_if_ne (fun h116 => ?_) (fun h116 => ?_)
              · refine hB _ _ _ _ (kgoC (is := KX2_markTarget_35) rfl ?_)
                refine k_aload_n rfl ?_
                refine k_get kg273 t40 (congrArg (fun z : Option Nat => (Sum.inr (Sum.inr z) : AvC)) c96) ?_
                refine k_astore_n (ls' := [(1, .inr (.inr (some b90))), (0, .inr (.inr (some p0)))]) rfl ?_
                refine k_goto ?_
                have X117 : ExC [283, 284] σ0 σ1 := ExC.rf.tr (e3.mo (by decide))
                exact hW _ _ _ _ _ (List.forall_mem_cons.2 ⟨List.Mem.tail _ (List.Mem.head _), (List.forall_mem_cons.2 ⟨List.Mem.head _, fun _ h => absurd h List.not_mem_nil⟩)⟩) (ih2 (msPC (some b90)) (by have qm := n2_; dsimp only [msPC] at qm ⊢; omega) σ1 (some b90) rfl H2 X117 t100.ot)
              · refine k_nil ?_
                refine hB _ _ _ _ (kgoC (is := KX2_markTarget_34) rfl ?_)
                refine k_return ?_
                have X118 : ExC [283, 284] σ0 σ1 := ExC.rf.tr (e3.mo (by decide))
                exact ⟨rfl, H2, X118⟩
    refine hB _ _ _ _ (kgoC (is := KX2_markTarget_0) rfl ?_)
    refine k_aload_n rfl ?_
    refine k_astore_n (ls' := [(1, .inr (.inr (some p0))), (0, .inr (.inr (some p0)))]) rfl ?_
    refine k_nil ?_
    exact hW _ _ _ _ _ (List.forall_mem_cons.2 ⟨List.Mem.tail _ (List.Mem.head _), (List.forall_mem_cons.2 ⟨List.Mem.head _, fun _ h => absurd h List.not_mem_nil⟩)⟩) (L2 _ σ0 (some p0) rfl H0 ExC.rf h_0_0.ot)
theorem lg_X2_markTarget : ∀ (As : List AvC) (σ : CsC), P_X2_markTarget As σ → lgC As ≤ rX2_markTarget.2.2.1 := by
  rintro As σ ⟨p0, rfl, -⟩
  exact Nat.le_of_ble_eq_true rfl
theorem m_X2_markTarget (l : Launch) : CMetC l 2 27 P_X2_markTarget Q_X2_markTarget :=
  CMetC.of KX2_markTarget [(181, P_X8_hasFinallyAhead, Q_X8_hasFinallyAhead)] hX2_markTarget (by decide) (by decide) okX2_markTarget (cc1C (m_X8_hasFinallyAhead l) (by decide) cc0C) (lg_X2_markTarget) (b_X2_markTarget)

abbrev P_X2_toAside : CpC := fun As σ => ∃ (p0 : Nat) (p1 : Int64), As = [.inr (.inr (some p0)), .inr (.inl p1)] ∧ HIC σ ∧ TyC σ p0 3
abbrev Q_X2_toAside : CqC := fun As σ w τ => match As with
  | [.inr (.inr (some p0)), .inr (.inl p1)] => w = none ∧ HIC τ ∧ ExC [94] σ τ
  | _ => False
set_option maxRecDepth 100000 in
set_option maxHeartbeats 4000000 in
theorem b_X2_toAside : TbC KX2_toAside [] P_X2_toAside Q_X2_toAside := by
  · rintro As σ0 ⟨p0, p1, rfl, H0, h_0_0⟩ hgr G hB hW
    change G 0 [(0, .inr (.inr (some p0))), (1, .inr (.inl p1))] [] σ0
    refine hB _ _ _ _ (kgoC (is := KX2_toAside_0) rfl ?_)
    refine k_aload_n rfl ?_
    obtain ⟨x3, e1, c2, h4, h5⟩ := cg94 H0.1 h_0_0
    refine k_get kg94 h_0_0 e1 ?_
    refine k_aload_n rfl ?_
    obtain ⟨a8, e6, c7, t9, l10, l11⟩ := cg93 H0.1 h_0_0
    refine k_get kg93 h_0_0 e6 ?_
    refine k_alen t9 (by decide) (by decide) l10 (by decide) (fun x12 h13 => ?_)
    refine k_ic_ge (fun h14 => ?_) (fun h14 => ?_)
    · refine hB _ _ _ _ (kgoC (is := KX2_toAside_32) rfl ?_)
      refine k_return ?_
      exact ⟨rfl, H0, (ExC.rf : ExC [94] σ0 σ0)⟩
    · refine k_nil ?_
      refine hB _ _ _ _ (kgoC (is := KX2_toAside_12) rfl ?_)
      refine k_aload_n rfl ?_
      refine k_get kg93 h_0_0 (congrArg (fun z : Option Nat => (Sum.inr (Sum.inr z) : AvC)) c7) ?_
      refine k_aload_n rfl ?_
      refine k_get kg94 h_0_0 (congrArg (Sum.inl : Int32 → AvC) c2) ?_
      refine k_lload_n rfl ?_
      refine k_lastore H0 t9 l11 (by omega) (by omega) (fun σ15 H16 e17 => ?_)
      refine k_aload_n rfl ?_
      refine k_dupR ?_
      have t18 := h_0_0.x e17
      have c19 := (h_0_0.mi e17 (by decide)).trans c2
      refine k_get kg94 t18 (congrArg (Sum.inl : Int32 → AvC) c19) ?_
      refine k_iconst (m := 1) rfl (fun x20 h21 => ?_)
      refine k_iadd (by omega) (by omega) (fun x22 h23 => ?_)
      refine k_putI kp94 H16 t18 (Or.inl fk94) (by show 0 ≤ _; omega) (by show _ ≤ 500; omega) (fun σ24 H25 e26 c27 => ?_)
      refine k_nil ?_
      refine hB _ _ _ _ (kgoC (is := KX2_toAside_32) rfl ?_)
      refine k_return ?_
      have X28 : ExC [94] σ0 σ15 := ExC.rf.tr (e17.mo (by decide))
      have X29 : ExC [94] σ0 σ24 := X28.tr (e26.mo (by decide))
      exact ⟨rfl, H25, X29⟩
theorem lg_X2_toAside : ∀ (As : List AvC) (σ : CsC), P_X2_toAside As σ → lgC As ≤ rX2_toAside.2.2.1 := by
  rintro As σ ⟨p0, p1, rfl, -⟩
  exact Nat.le_of_ble_eq_true rfl
theorem m_X2_toAside (l : Launch) : CMetC l 1 46 P_X2_toAside Q_X2_toAside :=
  CMetC.of KX2_toAside [] hX2_toAside (by decide) (by decide) okX2_toAside cc0C (lg_X2_toAside) (b_X2_toAside)

abbrev P_X2_fromAside : CpC := fun As σ => ∃ (p0 : Nat), As = [.inr (.inr (some p0))] ∧ HIC σ ∧ TyC σ p0 3
abbrev Q_X2_fromAside : CqC := fun As σ w τ => match As with
  | [.inr (.inr (some p0))] => ∃ r : Int64, w = some (.inr (.inl r)) ∧ HIC τ ∧ ExC [94] σ τ
  | _ => False
set_option maxRecDepth 100000 in
set_option maxHeartbeats 4000000 in
theorem b_X2_fromAside : TbC KX2_fromAside [] P_X2_fromAside Q_X2_fromAside := by
  · rintro As σ0 ⟨p0, rfl, H0, h_0_0⟩ hgr G hB hW
    change G 0 [(0, .inr (.inr (some p0)))] [] σ0
    refine hB _ _ _ _ (kgoC (is := KX2_fromAside_0) rfl ?_)
    refine k_aload_n rfl ?_
    obtain ⟨x3, e1, c2, h4, h5⟩ := cg94 H0.1 h_0_0
    refine k_get kg94 h_0_0 e1 ?_
    refine k_if_ne (fun h6 => ?_) (fun h6 => ?_)
    · refine hB _ _ _ _ (kgoC (is := KX2_fromAside_11) rfl ?_)
      refine k_aload_n rfl ?_
      refine k_dupR ?_
      refine k_get kg94 h_0_0 (congrArg (Sum.inl : Int32 → AvC) c2) ?_
      refine k_iconst (m := 1) rfl (fun x7 h8 => ?_)
      refine k_isub (by omega) (by omega) (fun x9 h10 => ?_)
      refine k_putI kp94 H0 h_0_0 (Or.inl fk94) (by show 0 ≤ _; omega) (by show _ ≤ 500; omega) (fun σ11 H12 e13 c14 => ?_)
      refine k_aload_n rfl ?_
      have t15 := h_0_0.x e13
      obtain ⟨a18, e16, c17, t19, l20, l21⟩ := cg93 H12.1 t15
      refine k_get kg93 t15 e16 ?_
      refine k_aload_n rfl ?_
      refine k_get kg94 t15 (congrArg (Sum.inl : Int32 → AvC) c14) ?_
      refine k_laload t19 (by omega) (by omega) (fun y22 => ?_)
      refine k_lreturn ?_
      have X23 : ExC [94] σ0 σ11 := ExC.rf.tr (e13.mo (by decide))
      exact ⟨_, rfl, H12, X23⟩
    · refine k_nil ?_
      refine hB _ _ _ _ (kgoC (is := KX2_fromAside_7) rfl ?_)
      refine k_ldc2_w ?_
      refine k_lreturn ?_
      exact ⟨_, rfl, H0, (ExC.rf : ExC [94] σ0 σ0)⟩
theorem lg_X2_fromAside : ∀ (As : List AvC) (σ : CsC), P_X2_fromAside As σ → lgC As ≤ rX2_fromAside.2.2.1 := by
  rintro As σ ⟨p0, rfl, -⟩
  exact Nat.le_of_ble_eq_true rfl
theorem m_X2_fromAside (l : Launch) : CMetC l 1 47 P_X2_fromAside Q_X2_fromAside :=
  CMetC.of KX2_fromAside [] hX2_fromAside (by decide) (by decide) okX2_fromAside cc0C (lg_X2_fromAside) (b_X2_fromAside)

abbrev P_X2_fork : CpC := fun As σ => ∃ (p0 : Nat) (p1 : Int64) (p2 : Int64), As = [.inr (.inr (some p0)), .inr (.inl p1), .inr (.inl p2)] ∧ HIC σ ∧ TyC σ p0 3
abbrev Q_X2_fork : CqC := fun As σ w τ => match As with
  | [.inr (.inr (some p0)), .inr (.inl p1), .inr (.inl p2)] => w = none ∧ HIC τ ∧ ExC [94] σ τ
  | _ => False
set_option maxRecDepth 100000 in
set_option maxHeartbeats 4000000 in
theorem b_X2_fork : TbC KX2_fork [(46, P_X2_toAside, Q_X2_toAside)] P_X2_fork Q_X2_fork := by
  · rintro As σ0 ⟨p0, p1, p2, rfl, H0, h_0_0⟩ hgr G hB hW
    change G 0 [(0, .inr (.inr (some p0))), (1, .inr (.inl p1)), (3, .inr (.inl p2))] [] σ0
    refine hB _ _ _ _ (kgoC (is := KX2_fork_0) rfl ?_)
    refine k_aload_n rfl ?_
    refine k_lload_n rfl ?_
    refine k_inv (P := P_X2_toAside) (Q := Q_X2_toAside) rfl rfl rfl rfl (Nat.le_of_ble_eq_true rfl) (h_0_0.rc (by decide)) ⟨_, _, rfl, H0, h_0_0⟩ (fun w1 σ2 q3 => ?_)
    obtain ⟨rfl, H4, e5⟩ := q3
    refine k_st (st' := []) rfl ?_
    refine k_aload_n rfl ?_
    refine k_lload_n rfl ?_
    have t6 := h_0_0.x e5
    refine k_putL kg91 H4 t6 fk91 (fun σ7 H8 e9 c10 => ?_)
    refine k_aload_n rfl ?_
    refine k_lload_n rfl ?_
    have t11 := t6.x e9
    refine k_putL kg92 H8 t11 fk92 (fun σ12 H13 e14 c15 => ?_)
    refine k_return ?_
    have X16 : ExC [94] σ0 σ2 := ExC.rf.tr (e5.mo (by decide))
    have X17 : ExC [94] σ0 σ7 := X16.tr (e9.mo (by decide))
    have X18 : ExC [94] σ0 σ12 := X17.tr (e14.mo (by decide))
    exact ⟨rfl, H13, X18⟩
theorem lg_X2_fork : ∀ (As : List AvC) (σ : CsC), P_X2_fork As σ → lgC As ≤ rX2_fork.2.2.1 := by
  rintro As σ ⟨p0, p1, p2, rfl, -⟩
  exact Nat.le_of_ble_eq_true rfl
theorem m_X2_fork (l : Launch) : CMetC l 2 41 P_X2_fork Q_X2_fork :=
  CMetC.of KX2_fork [(46, P_X2_toAside, Q_X2_toAside)] hX2_fork (by decide) (by decide) okX2_fork (cc1C (m_X2_toAside l) (by decide) cc0C) (lg_X2_fork) (b_X2_fork)

abbrev P_X2_passElse : CpC := fun As σ => ∃ (p0 : Nat), As = [.inr (.inr (some p0))] ∧ HIC σ ∧ TyC σ p0 3
abbrev Q_X2_passElse : CqC := fun As σ w τ => match As with
  | [.inr (.inr (some p0))] => w = none ∧ HIC τ ∧ ExC [94] σ τ
  | _ => False
set_option maxRecDepth 100000 in
set_option maxHeartbeats 4000000 in
theorem b_X2_passElse : TbC KX2_passElse [(47, P_X2_fromAside, Q_X2_fromAside), (46, P_X2_toAside, Q_X2_toAside)] P_X2_passElse Q_X2_passElse := by
  · rintro As σ0 ⟨p0, rfl, H0, h_0_0⟩ hgr G hB hW
    change G 0 [(0, .inr (.inr (some p0)))] [] σ0
    refine hB _ _ _ _ (kgoC (is := KX2_passElse_0) rfl ?_)
    refine k_aload_n rfl ?_
    refine k_inv (P := P_X2_fromAside) (Q := Q_X2_fromAside) rfl rfl rfl rfl (Nat.le_of_ble_eq_true rfl) (h_0_0.rc (by decide)) ⟨_, rfl, H0, h_0_0⟩ (fun w1 σ2 q3 => ?_)
    obtain ⟨y4, rfl, H5, e6⟩ := q3
    refine k_st (st' := [.inr (.inl y4)]) rfl ?_
    refine k_lstore_n (ls' := [(1, .inr (.inl y4)), (0, .inr (.inr (some p0)))]) rfl ?_
    refine k_aload_n rfl ?_
    refine k_aload_n rfl ?_
    have t7 := h_0_0.x e6
    obtain ⟨y10, e8, c9⟩ := cg91 (σ := σ2) (a := p0)
    refine k_get kg91 t7 e8 ?_
    refine k_inv (P := P_X2_toAside) (Q := Q_X2_toAside) rfl rfl rfl rfl (Nat.le_of_ble_eq_true rfl) (t7.rc (by decide)) ⟨_, _, rfl, H5, t7⟩ (fun w11 σ12 q13 => ?_)
    obtain ⟨rfl, H14, e15⟩ := q13
    refine k_st (st' := []) rfl ?_
    refine k_aload_n rfl ?_
    refine k_aload_n rfl ?_
    have t16 := t7.x e15
    obtain ⟨y19, e17, c18⟩ := cg92 (σ := σ12) (a := p0)
    refine k_get kg92 t16 e17 ?_
    refine k_inv (P := P_X2_toAside) (Q := Q_X2_toAside) rfl rfl rfl rfl (Nat.le_of_ble_eq_true rfl) (t16.rc (by decide)) ⟨_, _, rfl, H14, t16⟩ (fun w20 σ21 q22 => ?_)
    obtain ⟨rfl, H23, e24⟩ := q22
    refine k_st (st' := []) rfl ?_
    refine k_aload_n rfl ?_
    refine k_lload_n rfl ?_
    have t25 := t16.x e24
    refine k_putL kg91 H23 t25 fk91 (fun σ26 H27 e28 c29 => ?_)
    refine k_aload_n rfl ?_
    refine k_lload_n rfl ?_
    have t30 := t25.x e28
    refine k_putL kg92 H27 t30 fk92 (fun σ31 H32 e33 c34 => ?_)
    refine k_return ?_
    have X35 : ExC [94] σ0 σ2 := ExC.rf.tr (e6.mo (by decide))
    have X36 : ExC [94] σ0 σ12 := X35.tr (e15.mo (by decide))
    have X37 : ExC [94] σ0 σ21 := X36.tr (e24.mo (by decide))
    have X38 : ExC [94] σ0 σ26 := X37.tr (e28.mo (by decide))
    have X39 : ExC [94] σ0 σ31 := X38.tr (e33.mo (by decide))
    exact ⟨rfl, H32, X39⟩
theorem lg_X2_passElse : ∀ (As : List AvC) (σ : CsC), P_X2_passElse As σ → lgC As ≤ rX2_passElse.2.2.1 := by
  rintro As σ ⟨p0, rfl, -⟩
  exact Nat.le_of_ble_eq_true rfl
theorem m_X2_passElse (l : Launch) : CMetC l 2 42 P_X2_passElse Q_X2_passElse :=
  CMetC.of KX2_passElse [(47, P_X2_fromAside, Q_X2_fromAside), (46, P_X2_toAside, Q_X2_toAside)] hX2_passElse (by decide) (by decide) okX2_passElse (cc1C (m_X2_fromAside l) (by decide) (cc1C (m_X2_toAside l) (by decide) cc0C)) (lg_X2_passElse) (b_X2_passElse)

abbrev P_X2_join : CpC := fun As σ => ∃ (p0 : Nat) (p1 : Nat) (p2 : Int64), As = [.inr (.inr (some p0)), .inr (.inr (some p1)), .inr (.inl p2)] ∧ HIC σ ∧ TyC σ p0 3 ∧ TyC σ p1 2
abbrev Q_X2_join : CqC := fun As σ w τ => match As with
  | [.inr (.inr (some p0)), .inr (.inr (some p1)), .inr (.inl p2)] => w = none ∧ HIC τ ∧ ExC [] σ τ
  | _ => False
set_option maxRecDepth 100000 in
set_option maxHeartbeats 4000000 in
theorem b_X2_join : TbC KX2_join [] P_X2_join Q_X2_join := by
  · rintro As σ0 ⟨p0, p1, p2, rfl, H0, h_0_0, h_1_0⟩ hgr G hB hW
    change G 0 [(0, .inr (.inr (some p0))), (1, .inr (.inr (some p1))), (2, .inr (.inl p2))] [] σ0
    refine hB _ _ _ _ (kgoC (is := KX2_join_0) rfl ?_)
    refine k_aload_n rfl ?_
    obtain ⟨y3, e1, c2⟩ := cg91 (σ := σ0) (a := p0)
    refine k_get kg91 h_0_0 e1 ?_
    refine k_aload_n rfl ?_
    obtain ⟨y6, e4, c5⟩ := cg92 (σ := σ0) (a := p0)
    refine k_get kg92 h_0_0 e4 ?_
    refine k_land (fun y7 => ?_)
    refine k_lload_n rfl ?_
    refine k_lor (fun y8 => ?_)
    refine k_lstore (ls' := [(4, .inr (.inl y8)), (0, .inr (.inr (some p0))), (1, .inr (.inr (some p1))), (2, .inr (.inl p2))]) rfl ?_
    refine k_aload_n rfl ?_
    obtain ⟨x11, e9, c10, h12, h13⟩ := cg70 H0.1 h_1_0
    refine k_get kg70 h_1_0 e9 ?_
    refine k_if_eq (fun h14 => ?_) (fun h14 => ?_)
    · refine hB _ _ _ _ (kgoC (is := KX2_join_31) rfl ?_)
      refine k_iconst (m := 0) rfl (fun x15 h16 => ?_)
      refine k_nil ?_
      refine hB _ _ _ _ (kgoC (is := KX2_join_32) rfl ?_)
      refine k_istore (ls' := [(6, .inl x15), (4, .inr (.inl y8)), (0, .inr (.inr (some p0))), (1, .inr (.inr (some p1))), (2, .inr (.inl p2))]) rfl ?_
      refine k_aload_n rfl ?_
      refine k_iload rfl ?_
      refine k_if_eq (fun h17 => ?_) (fun h17 => by exfalso; omega)
      refine hB _ _ _ _ (kgoC (is := KX2_join_55) rfl ?_)
      refine k_lload rfl ?_
      refine k_nil ?_
      refine hB _ _ _ _ (kgoC (is := KX2_join_57) rfl ?_)
      refine k_putL kg91 H0 h_0_0 fk91 (fun σ18 H19 e20 c21 => ?_)
      refine k_aload_n rfl ?_
      refine k_iload rfl ?_
      refine k_if_eq (fun h22 => ?_) (fun h22 => by exfalso; omega)
      refine hB _ _ _ _ (kgoC (is := KX2_join_81) rfl ?_)
      refine k_lload rfl ?_
      refine k_nil ?_
      refine hB _ _ _ _ (kgoC (is := KX2_join_83) rfl ?_)
      have t23 := h_0_0.x e20
      refine k_putL kg92 H19 t23 fk92 (fun σ24 H25 e26 c27 => ?_)
      refine k_return ?_
      have X28 : ExC [] σ0 σ18 := ExC.rf.tr (e20.mo (by decide))
      have X29 : ExC [] σ0 σ24 := X28.tr (e26.mo (by decide))
      exact ⟨rfl, H25, X29⟩
    · refine k_nil ?_
      refine hB _ _ _ _ (kgoC (is := KX2_join_20) rfl ?_)
      refine k_aload_n rfl ?_
      obtain ⟨x32, e30, c31, h33, h34⟩ := cg68 H0.1 h_1_0
      refine k_get kg68 h_1_0 e30 ?_
      refine k_if_ne (fun h35 => ?_) (fun h35 => ?_)
      · refine hB _ _ _ _ (kgoC (is := KX2_join_31) rfl ?_)
        refine k_iconst (m := 0) rfl (fun x36 h37 => ?_)
        refine k_nil ?_
        refine hB _ _ _ _ (kgoC (is := KX2_join_32) rfl ?_)
        refine k_istore (ls' := [(6, .inl x36), (4, .inr (.inl y8)), (0, .inr (.inr (some p0))), (1, .inr (.inr (some p1))), (2, .inr (.inl p2))]) rfl ?_
        refine k_aload_n rfl ?_
        refine k_iload rfl ?_
        refine k_if_eq (fun h38 => ?_) (fun h38 => by exfalso; omega)
        refine hB _ _ _ _ (kgoC (is := KX2_join_55) rfl ?_)
        refine k_lload rfl ?_
        refine k_nil ?_
        refine hB _ _ _ _ (kgoC (is := KX2_join_57) rfl ?_)
        refine k_putL kg91 H0 h_0_0 fk91 (fun σ39 H40 e41 c42 => ?_)
        refine k_aload_n rfl ?_
        refine k_iload rfl ?_
        refine k_if_eq (fun h43 => ?_) (fun h43 => by exfalso; omega)
        refine hB _ _ _ _ (kgoC (is := KX2_join_81) rfl ?_)
        refine k_lload rfl ?_
        refine k_nil ?_
        refine hB _ _ _ _ (kgoC (is := KX2_join_83) rfl ?_)
        have t44 := h_0_0.x e41
        refine k_putL kg92 H40 t44 fk92 (fun σ45 H46 e47 c48 => ?_)
        refine k_return ?_
        have X49 : ExC [] σ0 σ39 := ExC.rf.tr (e41.mo (by decide))
        have X50 : ExC [] σ0 σ45 := X49.tr (e47.mo (by decide))
        exact ⟨rfl, H46, X50⟩
      · refine k_nil ?_
        refine hB _ _ _ _ (kgoC (is := KX2_join_27) rfl ?_)
        refine k_iconst (m := 1) rfl (fun x51 h52 => ?_)
        refine k_goto ?_
        refine hB _ _ _ _ (kgoC (is := KX2_join_32) rfl ?_)
        refine k_istore (ls' := [(6, .inl x51), (4, .inr (.inl y8)), (0, .inr (.inr (some p0))), (1, .inr (.inr (some p1))), (2, .inr (.inl p2))]) rfl ?_
        refine k_aload_n rfl ?_
        refine k_iload rfl ?_
        refine k_if_eq (fun h53 => by exfalso; omega) (fun h53 => ?_)
        refine k_nil ?_
        refine hB _ _ _ _ (kgoC (is := KX2_join_40) rfl ?_)
        refine k_aload_n rfl ?_
        obtain ⟨y56, e54, c55⟩ := cg71 (σ := σ0) (a := p1)
        refine k_get kg71 h_1_0 e54 ?_
        refine k_lconst ?_
        refine k_lcmp (fun x57 h58 g59 => ?_)
        refine k_if_ne (fun h60 => ?_) (fun h60 => ?_)
        · refine hB _ _ _ _ (kgoC (is := KX2_join_55) rfl ?_)
          refine k_lload rfl ?_
          refine k_nil ?_
          refine hB _ _ _ _ (kgoC (is := KX2_join_57) rfl ?_)
          refine k_putL kg91 H0 h_0_0 fk91 (fun σ61 H62 e63 c64 => ?_)
          refine k_aload_n rfl ?_
          refine k_iload rfl ?_
          refine k_if_eq (fun h65 => by exfalso; omega) (fun h65 => ?_)
          refine k_nil ?_
          refine hB _ _ _ _ (kgoC (is := KX2_join_66) rfl ?_)
          refine k_aload_n rfl ?_
          have t66 := h_1_0.x e63
          obtain ⟨y69, e67, c68⟩ := cg71 (σ := σ61) (a := p1)
          refine k_get kg71 t66 e67 ?_
          refine k_lconst ?_
          refine k_lcmp (fun x70 h71 g72 => ?_)
          refine k_if_ne (fun h73 => ?_) (fun h73 => ?_)
          · refine hB _ _ _ _ (kgoC (is := KX2_join_81) rfl ?_)
            refine k_lload rfl ?_
            refine k_nil ?_
            refine hB _ _ _ _ (kgoC (is := KX2_join_83) rfl ?_)
            have t74 := h_0_0.x e63
            refine k_putL kg92 H62 t74 fk92 (fun σ75 H76 e77 c78 => ?_)
            refine k_return ?_
            have X79 : ExC [] σ0 σ61 := ExC.rf.tr (e63.mo (by decide))
            have X80 : ExC [] σ0 σ75 := X79.tr (e77.mo (by decide))
            exact ⟨rfl, H76, X80⟩
          · refine k_nil ?_
            refine hB _ _ _ _ (kgoC (is := KX2_join_75) rfl ?_)
            refine k_ldc2_w ?_
            refine k_goto ?_
            refine hB _ _ _ _ (kgoC (is := KX2_join_83) rfl ?_)
            have t81 := h_0_0.x e63
            refine k_putL kg92 H62 t81 fk92 (fun σ82 H83 e84 c85 => ?_)
            refine k_return ?_
            have X86 : ExC [] σ0 σ61 := ExC.rf.tr (e63.mo (by decide))
            have X87 : ExC [] σ0 σ82 := X86.tr (e84.mo (by decide))
            exact ⟨rfl, H83, X87⟩
        · refine k_nil ?_
          refine hB _ _ _ _ (kgoC (is := KX2_join_49) rfl ?_)
          refine k_ldc2_w ?_
          refine k_goto ?_
          refine hB _ _ _ _ (kgoC (is := KX2_join_57) rfl ?_)
          refine k_putL kg91 H0 h_0_0 fk91 (fun σ88 H89 e90 c91 => ?_)
          refine k_aload_n rfl ?_
          refine k_iload rfl ?_
          refine k_if_eq (fun h92 => by exfalso; omega) (fun h92 => ?_)
          refine k_nil ?_
          refine hB _ _ _ _ (kgoC (is := KX2_join_66) rfl ?_)
          refine k_aload_n rfl ?_
          have t93 := h_1_0.x e90
          obtain ⟨y96, e94, c95⟩ := cg71 (σ := σ88) (a := p1)
          refine k_get kg71 t93 e94 ?_
          refine k_lconst ?_
          refine k_lcmp (fun x97 h98 g99 => ?_)
          refine k_if_ne (fun h100 => ?_) (fun h100 => ?_)
          · refine hB _ _ _ _ (kgoC (is := KX2_join_81) rfl ?_)
            refine k_lload rfl ?_
            refine k_nil ?_
            refine hB _ _ _ _ (kgoC (is := KX2_join_83) rfl ?_)
            have t101 := h_0_0.x e90
            refine k_putL kg92 H89 t101 fk92 (fun σ102 H103 e104 c105 => ?_)
            refine k_return ?_
            have X106 : ExC [] σ0 σ88 := ExC.rf.tr (e90.mo (by decide))
            have X107 : ExC [] σ0 σ102 := X106.tr (e104.mo (by decide))
            exact ⟨rfl, H103, X107⟩
          · refine k_nil ?_
            refine hB _ _ _ _ (kgoC (is := KX2_join_75) rfl ?_)
            refine k_ldc2_w ?_
            refine k_goto ?_
            refine hB _ _ _ _ (kgoC (is := KX2_join_83) rfl ?_)
            have t108 := h_0_0.x e90
            refine k_putL kg92 H89 t108 fk92 (fun σ109 H110 e111 c112 => ?_)
            refine k_return ?_
            have X113 : ExC [] σ0 σ88 := ExC.rf.tr (e90.mo (by decide))
            have X114 : ExC [] σ0 σ109 := X113.tr (e111.mo (by decide))
            exact ⟨rfl, H110, X114⟩
theorem lg_X2_join : ∀ (As : List AvC) (σ : CsC), P_X2_join As σ → lgC As ≤ rX2_join.2.2.1 := by
  rintro As σ ⟨p0, p1, p2, rfl, -⟩
  exact Nat.le_of_ble_eq_true rfl
theorem m_X2_join (l : Launch) : CMetC l 1 45 P_X2_join Q_X2_join :=
  CMetC.of KX2_join [] hX2_join (by decide) (by decide) okX2_join cc0C (lg_X2_join) (b_X2_join)

abbrev P_X2_takeValue : CpC := fun As σ => ∃ (p0 : Nat) (p1 : Nat), As = [.inr (.inr (some p0)), .inr (.inr (some p1))] ∧ HIC σ ∧ TyC σ p0 3 ∧ TyC σ p1 2
abbrev Q_X2_takeValue : CqC := fun As σ w τ => match As with
  | [.inr (.inr (some p0)), .inr (.inr (some p1))] => w = none ∧ HIC τ ∧ ExC [217, 218] σ τ
  | _ => False
set_option maxRecDepth 100000 in
set_option maxHeartbeats 4000000 in
theorem b_X2_takeValue : TbC KX2_takeValue [(45, P_X2_join, Q_X2_join), (221, P_X11_has, Q_X11_has), (118, P_X6_tell, Q_X6_tell)] P_X2_takeValue Q_X2_takeValue := by
  · rintro As σ0 ⟨p0, p1, rfl, H0, h_0_0, h_1_0⟩ hgr G hB hW
    change G 0 [(0, .inr (.inr (some p0))), (1, .inr (.inr (some p1)))] [] σ0
    refine hB _ _ _ _ (kgoC (is := KX2_takeValue_0) rfl ?_)
    refine k_aload_n rfl ?_
    obtain ⟨x3, e1, c2, h4, h5⟩ := cg70 H0.1 h_1_0
    refine k_get kg70 h_1_0 e1 ?_
    refine k_if_ne (fun h6 => ?_) (fun h6 => ?_)
    · refine hB _ _ _ _ (kgoC (is := KX2_takeValue_46) rfl ?_)
      refine k_aload_n rfl ?_
      refine k_aload_n rfl ?_
      refine k_lconst ?_
      refine k_inv (P := P_X2_join) (Q := Q_X2_join) rfl rfl rfl rfl (Nat.le_of_ble_eq_true rfl) (h_0_0.rc (by decide)) ⟨_, _, _, rfl, H0, h_0_0, h_1_0⟩ (fun w7 σ8 q9 => ?_)
      obtain ⟨rfl, H10, e11⟩ := q9
      refine k_st (st' := []) rfl ?_
      refine k_return ?_
      have X12 : ExC [217, 218] σ0 σ8 := ExC.rf.tr (e11.mo (by decide))
      exact ⟨rfl, H10, X12⟩
    · refine k_nil ?_
      refine hB _ _ _ _ (kgoC (is := KX2_takeValue_7) rfl ?_)
      refine k_aload_n rfl ?_
      obtain ⟨x15, e13, c14, h16, h17⟩ := cg67 H0.1 h_1_0
      refine k_get kg67 h_1_0 e13 ?_
      refine k_if_lt (fun h18 => ?_) (fun h18 => ?_)
      · refine hB _ _ _ _ (kgoC (is := KX2_takeValue_46) rfl ?_)
        refine k_aload_n rfl ?_
        refine k_aload_n rfl ?_
        refine k_lconst ?_
        refine k_inv (P := P_X2_join) (Q := Q_X2_join) rfl rfl rfl rfl (Nat.le_of_ble_eq_true rfl) (h_0_0.rc (by decide)) ⟨_, _, _, rfl, H0, h_0_0, h_1_0⟩ (fun w19 σ20 q21 => ?_)
        obtain ⟨rfl, H22, e23⟩ := q21
        refine k_st (st' := []) rfl ?_
        refine k_return ?_
        have X24 : ExC [217, 218] σ0 σ20 := ExC.rf.tr (e23.mo (by decide))
        exact ⟨rfl, H22, X24⟩
      · refine k_nil ?_
        refine hB _ _ _ _ (kgoC (is := KX2_takeValue_14) rfl ?_)
        refine k_aload_n rfl ?_
        obtain ⟨y27, e25, c26⟩ := cg91 (σ := σ0) (a := p0)
        refine k_get kg91 h_0_0 e25 ?_
        refine k_aload_n rfl ?_
        obtain ⟨y30, e28, c29⟩ := cg92 (σ := σ0) (a := p0)
        refine k_get kg92 h_0_0 e28 ?_
        refine k_land (fun y31 => ?_)
        refine k_aload_n rfl ?_
        refine k_get kg67 h_1_0 (congrArg (Sum.inl : Int32 → AvC) c14) ?_
        refine k_stat (P := P_X11_has) (Q := Q_X11_has) rfl rfl (Nat.le_of_ble_eq_true rfl) rfl rfl (Nat.le_of_ble_eq_true rfl) ⟨_, _, rfl, H0⟩ (fun w32 σ33 q34 => ?_)
        obtain ⟨x35, rfl, rfl, h36, h37⟩ := q34
        refine k_st (st' := [.inl x35]) rfl ?_
        refine k_if_ne (fun h38 => ?_) (fun h38 => ?_)
        · refine hB _ _ _ _ (kgoC (is := KX2_takeValue_46) rfl ?_)
          refine k_aload_n rfl ?_
          refine k_aload_n rfl ?_
          refine k_lconst ?_
          refine k_inv (P := P_X2_join) (Q := Q_X2_join) rfl rfl rfl rfl (Nat.le_of_ble_eq_true rfl) (h_0_0.rc (by decide)) ⟨_, _, _, rfl, H0, h_0_0, h_1_0⟩ (fun w39 σ40 q41 => ?_)
          obtain ⟨rfl, H42, e43⟩ := q41
          refine k_st (st' := []) rfl ?_
          refine k_return ?_
          have X44 : ExC [217, 218] σ0 σ40 := ExC.rf.tr (e43.mo (by decide))
          exact ⟨rfl, H42, X44⟩
        · refine k_nil ?_
          refine hB _ _ _ _ (kgoC (is := KX2_takeValue_33) rfl ?_)
          refine k_aload_n rfl ?_
          obtain ⟨a47, e45, c46, t48⟩ := cg90 H0.1 h_0_0
          refine k_get kg90 h_0_0 e45 ?_
          refine k_bipush (m := 15) rfl (fun x49 h50 => ?_)
          refine k_aload_n rfl ?_
          obtain ⟨x53, e51, c52, h54, h55⟩ := cg66 H0.1 h_1_0
          refine k_get kg66 h_1_0 e51 ?_
          refine k_inv (P := P_X6_tell) (Q := Q_X6_tell) rfl rfl rfl rfl (Nat.le_of_ble_eq_true rfl) (t48.rc (by decide)) ⟨_, _, _, rfl, H0, t48, (by omega), (by omega), (by omega), (by omega)⟩ (fun w56 σ57 q58 => ?_)
          obtain ⟨rfl, H59, e60⟩ := q58
          refine k_st (st' := []) rfl ?_
          refine k_nil ?_
          refine hB _ _ _ _ (kgoC (is := KX2_takeValue_46) rfl ?_)
          refine k_aload_n rfl ?_
          refine k_aload_n rfl ?_
          refine k_lconst ?_
          have t61 := h_0_0.x e60
          have t62 := h_1_0.x e60
          refine k_inv (P := P_X2_join) (Q := Q_X2_join) rfl rfl rfl rfl (Nat.le_of_ble_eq_true rfl) (t61.rc (by decide)) ⟨_, _, _, rfl, H59, t61, t62⟩ (fun w63 σ64 q65 => ?_)
          obtain ⟨rfl, H66, e67⟩ := q65
          refine k_st (st' := []) rfl ?_
          refine k_return ?_
          have X68 : ExC [217, 218] σ0 σ57 := ExC.rf.tr (e60.mo (by decide))
          have X69 : ExC [217, 218] σ0 σ64 := X68.tr (e67.mo (by decide))
          exact ⟨rfl, H66, X69⟩
theorem lg_X2_takeValue : ∀ (As : List AvC) (σ : CsC), P_X2_takeValue As σ → lgC As ≤ rX2_takeValue.2.2.1 := by
  rintro As σ ⟨p0, p1, rfl, -⟩
  exact Nat.le_of_ble_eq_true rfl
theorem m_X2_takeValue (l : Launch) : CMetC l 2 44 P_X2_takeValue Q_X2_takeValue :=
  CMetC.of KX2_takeValue [(45, P_X2_join, Q_X2_join), (221, P_X11_has, Q_X11_has), (118, P_X6_tell, Q_X6_tell)] hX2_takeValue (by decide) (by decide) okX2_takeValue (cc1C (m_X2_join l) (by decide) (cc1C (m_X11_has l) (by decide) (cc1C (m_X6_tell l) (by decide) cc0C))) (lg_X2_takeValue) (b_X2_takeValue)

abbrev P_X2_passChain : CpC := fun As σ => ∃ (p0 : Nat) (p1 : Nat), As = [.inr (.inr (some p0)), .inr (.inr (some p1))] ∧ HIC σ ∧ TyC σ p0 3 ∧ TyC σ p1 2
abbrev Q_X2_passChain : CqC := fun As σ w τ => match As with
  | [.inr (.inr (some p0)), .inr (.inr (some p1))] => w = none ∧ HIC τ ∧ ExC [94] σ τ
  | _ => False
set_option maxRecDepth 100000 in
set_option maxHeartbeats 4000000 in
theorem b_X2_passChain : TbC KX2_passChain [(45, P_X2_join, Q_X2_join), (47, P_X2_fromAside, Q_X2_fromAside)] P_X2_passChain Q_X2_passChain := by
  · rintro As σ0 ⟨p0, p1, rfl, H0, h_0_0, h_1_0⟩ hgr G hB hW
    change G 0 [(0, .inr (.inr (some p0))), (1, .inr (.inr (some p1)))] [] σ0
    refine hB _ _ _ _ (kgoC (is := KX2_passChain_0) rfl ?_)
    refine k_aload_n rfl ?_
    obtain ⟨x3, e1, c2, h4, h5⟩ := cg61 H0.1 h_1_0
    refine k_get kg61 h_1_0 e1 ?_
    refine k_bipush (m := 21) rfl (fun x6 h7 => ?_)
    refine k_ic_ne (fun h8 => ?_) (fun h8 => ?_)
    · refine hB _ _ _ _ (kgoC (is := KX2_passChain_25) rfl ?_)
      refine k_aload_n rfl ?_
      refine k_get kg61 h_1_0 (congrArg (Sum.inl : Int32 → AvC) c2) ?_
      refine k_bipush (m := 20) rfl (fun x9 h10 => ?_)
      refine k_ic_ne (fun h11 => ?_) (fun h11 => ?_)
      · refine hB _ _ _ _ (kgoC (is := KX2_passChain_50) rfl ?_)
        refine k_aload_n rfl ?_
        refine k_aload_n rfl ?_
        refine k_lconst ?_
        refine k_inv (P := P_X2_join) (Q := Q_X2_join) rfl rfl rfl rfl (Nat.le_of_ble_eq_true rfl) (h_0_0.rc (by decide)) ⟨_, _, _, rfl, H0, h_0_0, h_1_0⟩ (fun w12 σ13 q14 => ?_)
        obtain ⟨rfl, H15, e16⟩ := q14
        refine k_st (st' := []) rfl ?_
        refine k_nil ?_
        refine hB _ _ _ _ (kgoC (is := KX2_passChain_56) rfl ?_)
        refine k_return ?_
        have X17 : ExC [94] σ0 σ13 := ExC.rf.tr (e16.mo (by decide))
        exact ⟨rfl, H15, X17⟩
      · refine k_nil ?_
        refine hB _ _ _ _ (kgoC (is := KX2_passChain_34) rfl ?_)
        refine k_aload_n rfl ?_
        refine k_dupR ?_
        obtain ⟨y20, e18, c19⟩ := cg91 (σ := σ0) (a := p0)
        refine k_get kg91 h_0_0 e18 ?_
        refine k_aload_n rfl ?_
        refine k_inv (P := P_X2_fromAside) (Q := Q_X2_fromAside) rfl rfl rfl rfl (Nat.le_of_ble_eq_true rfl) (h_0_0.rc (by decide)) ⟨_, rfl, H0, h_0_0⟩ (fun w21 σ22 q23 => ?_)
        obtain ⟨y24, rfl, H25, e26⟩ := q23
        refine k_st (st' := [.inr (.inl y24), .inr (.inl y20), .inr (.inr (some p0))]) rfl ?_
        refine k_land (fun y27 => ?_)
        have t28 := h_0_0.x e26
        refine k_putL kg91 H25 t28 fk91 (fun σ29 H30 e31 c32 => ?_)
        refine k_goto ?_
        refine hB _ _ _ _ (kgoC (is := KX2_passChain_56) rfl ?_)
        refine k_return ?_
        have X33 : ExC [94] σ0 σ22 := ExC.rf.tr (e26.mo (by decide))
        have X34 : ExC [94] σ0 σ29 := X33.tr (e31.mo (by decide))
        exact ⟨rfl, H30, X34⟩
    · refine k_nil ?_
      refine hB _ _ _ _ (kgoC (is := KX2_passChain_9) rfl ?_)
      refine k_aload_n rfl ?_
      refine k_dupR ?_
      obtain ⟨y37, e35, c36⟩ := cg92 (σ := σ0) (a := p0)
      refine k_get kg92 h_0_0 e35 ?_
      refine k_aload_n rfl ?_
      refine k_inv (P := P_X2_fromAside) (Q := Q_X2_fromAside) rfl rfl rfl rfl (Nat.le_of_ble_eq_true rfl) (h_0_0.rc (by decide)) ⟨_, rfl, H0, h_0_0⟩ (fun w38 σ39 q40 => ?_)
      obtain ⟨y41, rfl, H42, e43⟩ := q40
      refine k_st (st' := [.inr (.inl y41), .inr (.inl y37), .inr (.inr (some p0))]) rfl ?_
      refine k_land (fun y44 => ?_)
      have t45 := h_0_0.x e43
      refine k_putL kg92 H42 t45 fk92 (fun σ46 H47 e48 c49 => ?_)
      refine k_goto ?_
      refine hB _ _ _ _ (kgoC (is := KX2_passChain_56) rfl ?_)
      refine k_return ?_
      have X50 : ExC [94] σ0 σ39 := ExC.rf.tr (e43.mo (by decide))
      have X51 : ExC [94] σ0 σ46 := X50.tr (e48.mo (by decide))
      exact ⟨rfl, H47, X51⟩
theorem lg_X2_passChain : ∀ (As : List AvC) (σ : CsC), P_X2_passChain As σ → lgC As ≤ rX2_passChain.2.2.1 := by
  rintro As σ ⟨p0, p1, rfl, -⟩
  exact Nat.le_of_ble_eq_true rfl
theorem m_X2_passChain (l : Launch) : CMetC l 2 43 P_X2_passChain Q_X2_passChain :=
  CMetC.of KX2_passChain [(45, P_X2_join, Q_X2_join), (47, P_X2_fromAside, Q_X2_fromAside)] hX2_passChain (by decide) (by decide) okX2_passChain (cc1C (m_X2_join l) (by decide) (cc1C (m_X2_fromAside l) (by decide) cc0C)) (lg_X2_passChain) (b_X2_passChain)

abbrev P_X2_pass : CpC := fun As σ => ∃ (p0 : Nat) (p1 : Nat), As = [.inr (.inr (some p0)), .inr (.inr (some p1))] ∧ HIC σ ∧ TyC σ p0 3 ∧ TyC σ p1 2
abbrev Q_X2_pass : CqC := fun As σ w τ => match As with
  | [.inr (.inr (some p0)), .inr (.inr (some p1))] => w = none ∧ HIC τ ∧ ExC [94, 217, 218] σ τ
  | _ => False
set_option maxRecDepth 100000 in
set_option maxHeartbeats 4000000 in
theorem b_X2_pass : TbC KX2_pass [(44, P_X2_takeValue, Q_X2_takeValue), (45, P_X2_join, Q_X2_join), (43, P_X2_passChain, Q_X2_passChain), (47, P_X2_fromAside, Q_X2_fromAside), (222, P_X11_bit, Q_X11_bit), (41, P_X2_fork, Q_X2_fork), (42, P_X2_passElse, Q_X2_passElse)] P_X2_pass Q_X2_pass := by
  · rintro As σ0 ⟨p0, p1, rfl, H0, h_0_0, h_1_0⟩ hgr G hB hW
    change G 0 [(0, .inr (.inr (some p0))), (1, .inr (.inr (some p1)))] [] σ0
    refine hB _ _ _ _ (kgoC (is := KX2_pass_0) rfl ?_)
    refine k_aload_n rfl ?_
    obtain ⟨x3, e1, c2, h4, h5⟩ := cg60 H0.1 h_1_0
    refine k_get kg60 h_1_0 e1 ?_
    refine k_tsw ?_
    refine k_swc (fun h6 => ?_) (fun h6 => ?_)
    · refine hB _ _ _ _ (kgoC (is := KX2_pass_203) rfl ?_)
      refine k_aload_n rfl ?_
      refine k_aload_n rfl ?_
      refine k_inv (P := P_X2_takeValue) (Q := Q_X2_takeValue) rfl rfl rfl rfl (Nat.le_of_ble_eq_true rfl) (h_0_0.rc (by decide)) ⟨_, _, rfl, H0, h_0_0, h_1_0⟩ (fun w7 σ8 q9 => ?_)
      obtain ⟨rfl, H10, e11⟩ := q9
      refine k_st (st' := []) rfl ?_
      refine k_goto ?_
      refine hB _ _ _ _ (kgoC (is := KX2_pass_243) rfl ?_)
      refine k_return ?_
      have X12 : ExC [94, 217, 218] σ0 σ8 := ExC.rf.tr (e11.mo (by decide))
      exact ⟨rfl, H10, X12⟩
    refine k_swc (fun h13 => ?_) (fun h13 => ?_)
    · refine hB _ _ _ _ (kgoC (is := KX2_pass_72) rfl ?_)
      refine k_goto ?_
      refine hB _ _ _ _ (kgoC (is := KX2_pass_243) rfl ?_)
      refine k_return ?_
      exact ⟨rfl, H0, (ExC.rf : ExC [94, 217, 218] σ0 σ0)⟩
    refine k_swc (fun h14 => ?_) (fun h14 => ?_)
    · refine hB _ _ _ _ (kgoC (is := KX2_pass_173) rfl ?_)
      refine k_aload_n rfl ?_
      obtain ⟨x17, e15, c16, h18, h19⟩ := cg61 H0.1 h_1_0
      refine k_get kg61 h_1_0 e15 ?_
      refine k_bipush (m := 39) rfl (fun x20 h21 => ?_)
      refine k_ic_ne (fun h22 => ?_) (fun h22 => ?_)
      · refine hB _ _ _ _ (kgoC (is := KX2_pass_243) rfl ?_)
        refine k_return ?_
        exact ⟨rfl, H0, (ExC.rf : ExC [94, 217, 218] σ0 σ0)⟩
      · refine k_nil ?_
        refine hB _ _ _ _ (kgoC (is := KX2_pass_182) rfl ?_)
        refine k_aload_n rfl ?_
        obtain ⟨y25, e23, c24⟩ := cg91 (σ := σ0) (a := p0)
        refine k_get kg91 h_0_0 e23 ?_
        refine k_lstore_n (ls' := [(2, .inr (.inl y25)), (0, .inr (.inr (some p0))), (1, .inr (.inr (some p1)))]) rfl ?_
        refine k_aload_n rfl ?_
        refine k_aload_n rfl ?_
        obtain ⟨y28, e26, c27⟩ := cg92 (σ := σ0) (a := p0)
        refine k_get kg92 h_0_0 e26 ?_
        refine k_putL kg91 H0 h_0_0 fk91 (fun σ29 H30 e31 c32 => ?_)
        refine k_aload_n rfl ?_
        refine k_lload_n rfl ?_
        have t33 := h_0_0.x e31
        refine k_putL kg92 H30 t33 fk92 (fun σ34 H35 e36 c37 => ?_)
        refine k_goto ?_
        refine hB _ _ _ _ (kgoC (is := KX2_pass_243) rfl ?_)
        refine k_return ?_
        have X38 : ExC [94, 217, 218] σ0 σ29 := ExC.rf.tr (e31.mo (by decide))
        have X39 : ExC [94, 217, 218] σ0 σ34 := X38.tr (e36.mo (by decide))
        exact ⟨rfl, H35, X39⟩
    refine k_swc (fun h40 => ?_) (fun h40 => ?_)
    · refine hB _ _ _ _ (kgoC (is := KX2_pass_237) rfl ?_)
      refine k_aload_n rfl ?_
      refine k_aload_n rfl ?_
      refine k_lconst ?_
      refine k_inv (P := P_X2_join) (Q := Q_X2_join) rfl rfl rfl rfl (Nat.le_of_ble_eq_true rfl) (h_0_0.rc (by decide)) ⟨_, _, _, rfl, H0, h_0_0, h_1_0⟩ (fun w41 σ42 q43 => ?_)
      obtain ⟨rfl, H44, e45⟩ := q43
      refine k_st (st' := []) rfl ?_
      refine k_nil ?_
      refine hB _ _ _ _ (kgoC (is := KX2_pass_243) rfl ?_)
      refine k_return ?_
      have X46 : ExC [94, 217, 218] σ0 σ42 := ExC.rf.tr (e45.mo (by decide))
      exact ⟨rfl, H44, X46⟩
    refine k_swc (fun h47 => ?_) (fun h47 => ?_)
    · refine hB _ _ _ _ (kgoC (is := KX2_pass_203) rfl ?_)
      refine k_aload_n rfl ?_
      refine k_aload_n rfl ?_
      refine k_inv (P := P_X2_takeValue) (Q := Q_X2_takeValue) rfl rfl rfl rfl (Nat.le_of_ble_eq_true rfl) (h_0_0.rc (by decide)) ⟨_, _, rfl, H0, h_0_0, h_1_0⟩ (fun w48 σ49 q50 => ?_)
      obtain ⟨rfl, H51, e52⟩ := q50
      refine k_st (st' := []) rfl ?_
      refine k_goto ?_
      refine hB _ _ _ _ (kgoC (is := KX2_pass_243) rfl ?_)
      refine k_return ?_
      have X53 : ExC [94, 217, 218] σ0 σ49 := ExC.rf.tr (e52.mo (by decide))
      exact ⟨rfl, H51, X53⟩
    refine k_swc (fun h54 => ?_) (fun h54 => ?_)
    · refine hB _ _ _ _ (kgoC (is := KX2_pass_165) rfl ?_)
      refine k_aload_n rfl ?_
      refine k_aload_n rfl ?_
      refine k_inv (P := P_X2_passChain) (Q := Q_X2_passChain) rfl rfl rfl rfl (Nat.le_of_ble_eq_true rfl) (h_0_0.rc (by decide)) ⟨_, _, rfl, H0, h_0_0, h_1_0⟩ (fun w55 σ56 q57 => ?_)
      obtain ⟨rfl, H58, e59⟩ := q57
      refine k_st (st' := []) rfl ?_
      refine k_goto ?_
      refine hB _ _ _ _ (kgoC (is := KX2_pass_243) rfl ?_)
      refine k_return ?_
      have X60 : ExC [94, 217, 218] σ0 σ56 := ExC.rf.tr (e59.mo (by decide))
      exact ⟨rfl, H58, X60⟩
    refine k_swc (fun h61 => ?_) (fun h61 => ?_)
    · refine hB _ _ _ _ (kgoC (is := KX2_pass_136) rfl ?_)
      refine k_aload_n rfl ?_
      refine k_dupR ?_
      obtain ⟨y64, e62, c63⟩ := cg92 (σ := σ0) (a := p0)
      refine k_get kg92 h_0_0 e62 ?_
      refine k_aload_n rfl ?_
      refine k_inv (P := P_X2_fromAside) (Q := Q_X2_fromAside) rfl rfl rfl rfl (Nat.le_of_ble_eq_true rfl) (h_0_0.rc (by decide)) ⟨_, rfl, H0, h_0_0⟩ (fun w65 σ66 q67 => ?_)
      obtain ⟨y68, rfl, H69, e70⟩ := q67
      refine k_st (st' := [.inr (.inl y68), .inr (.inl y64), .inr (.inr (some p0))]) rfl ?_
      refine k_land (fun y71 => ?_)
      have t72 := h_0_0.x e70
      refine k_putL kg92 H69 t72 fk92 (fun σ73 H74 e75 c76 => ?_)
      refine k_aload_n rfl ?_
      refine k_dupR ?_
      have t77 := t72.x e75
      obtain ⟨y80, e78, c79⟩ := cg91 (σ := σ73) (a := p0)
      refine k_get kg91 t77 e78 ?_
      refine k_aload_n rfl ?_
      refine k_inv (P := P_X2_fromAside) (Q := Q_X2_fromAside) rfl rfl rfl rfl (Nat.le_of_ble_eq_true rfl) (t77.rc (by decide)) ⟨_, rfl, H74, t77⟩ (fun w81 σ82 q83 => ?_)
      obtain ⟨y84, rfl, H85, e86⟩ := q83
      refine k_st (st' := [.inr (.inl y84), .inr (.inl y80), .inr (.inr (some p0))]) rfl ?_
      refine k_land (fun y87 => ?_)
      have t88 := t77.x e86
      refine k_putL kg91 H85 t88 fk91 (fun σ89 H90 e91 c92 => ?_)
      refine k_goto ?_
      refine hB _ _ _ _ (kgoC (is := KX2_pass_243) rfl ?_)
      refine k_return ?_
      have X93 : ExC [94, 217, 218] σ0 σ66 := ExC.rf.tr (e70.mo (by decide))
      have X94 : ExC [94, 217, 218] σ0 σ73 := X93.tr (e75.mo (by decide))
      have X95 : ExC [94, 217, 218] σ0 σ82 := X94.tr (e86.mo (by decide))
      have X96 : ExC [94, 217, 218] σ0 σ89 := X95.tr (e91.mo (by decide))
      exact ⟨rfl, H90, X96⟩
    refine k_swc (fun h97 => ?_) (fun h97 => ?_)
    · refine hB _ _ _ _ (kgoC (is := KX2_pass_211) rfl ?_)
      refine k_aload_n rfl ?_
      refine k_aload_n rfl ?_
      refine k_aload_n rfl ?_
      obtain ⟨x100, e98, c99, h101, h102⟩ := cg67 H0.1 h_1_0
      refine k_get kg67 h_1_0 e98 ?_
      refine k_if_lt (fun h103 => ?_) (fun h103 => ?_)
      · refine hB _ _ _ _ (kgoC (is := KX2_pass_230) rfl ?_)
        refine k_lconst ?_
        refine k_nil ?_
        refine hB _ _ _ _ (kgoC (is := KX2_pass_231) rfl ?_)
        refine k_inv (P := P_X2_join) (Q := Q_X2_join) rfl rfl rfl rfl (Nat.le_of_ble_eq_true rfl) (h_0_0.rc (by decide)) ⟨_, _, _, rfl, H0, h_0_0, h_1_0⟩ (fun w104 σ105 q106 => ?_)
        obtain ⟨rfl, H107, e108⟩ := q106
        refine k_st (st' := []) rfl ?_
        refine k_goto ?_
        refine hB _ _ _ _ (kgoC (is := KX2_pass_243) rfl ?_)
        refine k_return ?_
        have X109 : ExC [94, 217, 218] σ0 σ105 := ExC.rf.tr (e108.mo (by decide))
        exact ⟨rfl, H107, X109⟩
      · refine k_nil ?_
        refine hB _ _ _ _ (kgoC (is := KX2_pass_220) rfl ?_)
        refine k_aload_n rfl ?_
        refine k_get kg67 h_1_0 (congrArg (Sum.inl : Int32 → AvC) c99) ?_
        refine k_stat (P := P_X11_bit) (Q := Q_X11_bit) rfl rfl (Nat.le_of_ble_eq_true rfl) rfl rfl (Nat.le_of_ble_eq_true rfl) ⟨_, rfl, H0⟩ (fun w110 σ111 q112 => ?_)
        obtain ⟨y113, rfl, rfl⟩ := q112
        refine k_st (st' := [.inr (.inl y113), .inr (.inr (some p1)), .inr (.inr (some p0))]) rfl ?_
        refine k_goto ?_
        refine hB _ _ _ _ (kgoC (is := KX2_pass_231) rfl ?_)
        refine k_inv (P := P_X2_join) (Q := Q_X2_join) rfl rfl rfl rfl (Nat.le_of_ble_eq_true rfl) (h_0_0.rc (by decide)) ⟨_, _, _, rfl, H0, h_0_0, h_1_0⟩ (fun w114 σ115 q116 => ?_)
        obtain ⟨rfl, H117, e118⟩ := q116
        refine k_st (st' := []) rfl ?_
        refine k_goto ?_
        refine hB _ _ _ _ (kgoC (is := KX2_pass_243) rfl ?_)
        refine k_return ?_
        have X119 : ExC [94, 217, 218] σ0 σ115 := ExC.rf.tr (e118.mo (by decide))
        exact ⟨rfl, H117, X119⟩
    refine k_swc (fun h120 => ?_) (fun h120 => ?_)
    · refine hB _ _ _ _ (kgoC (is := KX2_pass_237) rfl ?_)
      refine k_aload_n rfl ?_
      refine k_aload_n rfl ?_
      refine k_lconst ?_
      refine k_inv (P := P_X2_join) (Q := Q_X2_join) rfl rfl rfl rfl (Nat.le_of_ble_eq_true rfl) (h_0_0.rc (by decide)) ⟨_, _, _, rfl, H0, h_0_0, h_1_0⟩ (fun w121 σ122 q123 => ?_)
      obtain ⟨rfl, H124, e125⟩ := q123
      refine k_st (st' := []) rfl ?_
      refine k_nil ?_
      refine hB _ _ _ _ (kgoC (is := KX2_pass_243) rfl ?_)
      refine k_return ?_
      have X126 : ExC [94, 217, 218] σ0 σ122 := ExC.rf.tr (e125.mo (by decide))
      exact ⟨rfl, H124, X126⟩
    refine k_swc (fun h127 => ?_) (fun h127 => ?_)
    · refine hB _ _ _ _ (kgoC (is := KX2_pass_75) rfl ?_)
      refine k_aload_n rfl ?_
      obtain ⟨x130, e128, c129, h131, h132⟩ := cg61 H0.1 h_1_0
      refine k_get kg61 h_1_0 e128 ?_
      refine k_bipush (m := 21) rfl (fun x133 h134 => ?_)
      refine k_ic_ne (fun h135 => ?_) (fun h135 => ?_)
      · refine hB _ _ _ _ (kgoC (is := KX2_pass_99) rfl ?_)
        refine k_aload_n rfl ?_
        refine k_aload_n rfl ?_
        obtain ⟨y138, e136, c137⟩ := cg91 (σ := σ0) (a := p0)
        refine k_get kg91 h_0_0 e136 ?_
        refine k_aload_n rfl ?_
        obtain ⟨y141, e139, c140⟩ := cg92 (σ := σ0) (a := p0)
        refine k_get kg92 h_0_0 e139 ?_
        refine k_inv (P := P_X2_fork) (Q := Q_X2_fork) rfl rfl rfl rfl (Nat.le_of_ble_eq_true rfl) (h_0_0.rc (by decide)) ⟨_, _, _, rfl, H0, h_0_0⟩ (fun w142 σ143 q144 => ?_)
        obtain ⟨rfl, H145, e146⟩ := q144
        refine k_st (st' := []) rfl ?_
        refine k_goto ?_
        refine hB _ _ _ _ (kgoC (is := KX2_pass_243) rfl ?_)
        refine k_return ?_
        have X147 : ExC [94, 217, 218] σ0 σ143 := ExC.rf.tr (e146.mo (by decide))
        exact ⟨rfl, H145, X147⟩
      · refine k_nil ?_
        refine hB _ _ _ _ (kgoC (is := KX2_pass_84) rfl ?_)
        refine k_aload_n rfl ?_
        refine k_aload_n rfl ?_
        obtain ⟨y150, e148, c149⟩ := cg92 (σ := σ0) (a := p0)
        refine k_get kg92 h_0_0 e148 ?_
        refine k_aload_n rfl ?_
        obtain ⟨y153, e151, c152⟩ := cg91 (σ := σ0) (a := p0)
        refine k_get kg91 h_0_0 e151 ?_
        refine k_inv (P := P_X2_fork) (Q := Q_X2_fork) rfl rfl rfl rfl (Nat.le_of_ble_eq_true rfl) (h_0_0.rc (by decide)) ⟨_, _, _, rfl, H0, h_0_0⟩ (fun w154 σ155 q156 => ?_)
        obtain ⟨rfl, H157, e158⟩ := q156
        refine k_st (st' := []) rfl ?_
        refine k_goto ?_
        refine hB _ _ _ _ (kgoC (is := KX2_pass_243) rfl ?_)
        refine k_return ?_
        have X159 : ExC [94, 217, 218] σ0 σ155 := ExC.rf.tr (e158.mo (by decide))
        exact ⟨rfl, H157, X159⟩
    refine k_swc (fun h160 => ?_) (fun h160 => ?_)
    · refine hB _ _ _ _ (kgoC (is := KX2_pass_114) rfl ?_)
      refine k_aload_n rfl ?_
      refine k_aload_n rfl ?_
      obtain ⟨y163, e161, c162⟩ := cg92 (σ := σ0) (a := p0)
      refine k_get kg92 h_0_0 e161 ?_
      refine k_aload_n rfl ?_
      obtain ⟨y166, e164, c165⟩ := cg91 (σ := σ0) (a := p0)
      refine k_get kg91 h_0_0 e164 ?_
      refine k_inv (P := P_X2_fork) (Q := Q_X2_fork) rfl rfl rfl rfl (Nat.le_of_ble_eq_true rfl) (h_0_0.rc (by decide)) ⟨_, _, _, rfl, H0, h_0_0⟩ (fun w167 σ168 q169 => ?_)
      obtain ⟨rfl, H170, e171⟩ := q169
      refine k_st (st' := []) rfl ?_
      refine k_goto ?_
      refine hB _ _ _ _ (kgoC (is := KX2_pass_243) rfl ?_)
      refine k_return ?_
      have X172 : ExC [94, 217, 218] σ0 σ168 := ExC.rf.tr (e171.mo (by decide))
      exact ⟨rfl, H170, X172⟩
    refine k_swc (fun h173 => ?_) (fun h173 => ?_)
    · refine hB _ _ _ _ (kgoC (is := KX2_pass_129) rfl ?_)
      refine k_aload_n rfl ?_
      refine k_inv (P := P_X2_passElse) (Q := Q_X2_passElse) rfl rfl rfl rfl (Nat.le_of_ble_eq_true rfl) (h_0_0.rc (by decide)) ⟨_, rfl, H0, h_0_0⟩ (fun w174 σ175 q176 => ?_)
      obtain ⟨rfl, H177, e178⟩ := q176
      refine k_st (st' := []) rfl ?_
      refine k_goto ?_
      refine hB _ _ _ _ (kgoC (is := KX2_pass_243) rfl ?_)
      refine k_return ?_
      have X179 : ExC [94, 217, 218] σ0 σ175 := ExC.rf.tr (e178.mo (by decide))
      exact ⟨rfl, H177, X179⟩
    refine k_swc (fun h180 => ?_) (fun h180 => ?_)
    · refine hB _ _ _ _ (kgoC (is := KX2_pass_203) rfl ?_)
      refine k_aload_n rfl ?_
      refine k_aload_n rfl ?_
      refine k_inv (P := P_X2_takeValue) (Q := Q_X2_takeValue) rfl rfl rfl rfl (Nat.le_of_ble_eq_true rfl) (h_0_0.rc (by decide)) ⟨_, _, rfl, H0, h_0_0, h_1_0⟩ (fun w181 σ182 q183 => ?_)
      obtain ⟨rfl, H184, e185⟩ := q183
      refine k_st (st' := []) rfl ?_
      refine k_goto ?_
      refine hB _ _ _ _ (kgoC (is := KX2_pass_243) rfl ?_)
      refine k_return ?_
      have X186 : ExC [94, 217, 218] σ0 σ182 := ExC.rf.tr (e185.mo (by decide))
      exact ⟨rfl, H184, X186⟩
    refine k_swn ?_
    refine hB _ _ _ _ (kgoC (is := KX2_pass_237) rfl ?_)
    refine k_aload_n rfl ?_
    refine k_aload_n rfl ?_
    refine k_lconst ?_
    refine k_inv (P := P_X2_join) (Q := Q_X2_join) rfl rfl rfl rfl (Nat.le_of_ble_eq_true rfl) (h_0_0.rc (by decide)) ⟨_, _, _, rfl, H0, h_0_0, h_1_0⟩ (fun w187 σ188 q189 => ?_)
    obtain ⟨rfl, H190, e191⟩ := q189
    refine k_st (st' := []) rfl ?_
    refine k_nil ?_
    refine hB _ _ _ _ (kgoC (is := KX2_pass_243) rfl ?_)
    refine k_return ?_
    have X192 : ExC [94, 217, 218] σ0 σ188 := ExC.rf.tr (e191.mo (by decide))
    exact ⟨rfl, H190, X192⟩
theorem lg_X2_pass : ∀ (As : List AvC) (σ : CsC), P_X2_pass As σ → lgC As ≤ rX2_pass.2.2.1 := by
  rintro As σ ⟨p0, p1, rfl, -⟩
  exact Nat.le_of_ble_eq_true rfl
theorem m_X2_pass (l : Launch) : CMetC l 3 40 P_X2_pass Q_X2_pass :=
  CMetC.of KX2_pass [(44, P_X2_takeValue, Q_X2_takeValue), (45, P_X2_join, Q_X2_join), (43, P_X2_passChain, Q_X2_passChain), (47, P_X2_fromAside, Q_X2_fromAside), (222, P_X11_bit, Q_X11_bit), (41, P_X2_fork, Q_X2_fork), (42, P_X2_passElse, Q_X2_passElse)] hX2_pass (by decide) (by decide) okX2_pass (cc1C (m_X2_takeValue l) (by decide) (cc1C (m_X2_join l) (by decide) (cc1C (m_X2_passChain l) (by decide) (cc1C (m_X2_fromAside l) (by decide) (cc1C (m_X11_bit l) (by decide) (cc1C (m_X2_fork l) (by decide) (cc1C (m_X2_passElse l) (by decide) cc0C))))))) (lg_X2_pass) (b_X2_pass)

abbrev P_X2_behindExp : CpC := fun As σ => ∃ (p0 : Nat) (p1 : Option Nat) (p2 : Int64), As = [.inr (.inr (some p0)), .inr (.inr p1), .inr (.inl p2)] ∧ HIC σ ∧ TyC σ p0 3 ∧ OtC σ p1 2
abbrev Q_X2_behindExp : CqC := fun As σ w τ => match As with
  | [.inr (.inr (some p0)), .inr (.inr p1), .inr (.inl p2)] => ∃ r : Int64, w = some (.inr (.inl r)) ∧ HIC τ ∧ ExC [94, 217, 218] σ τ
  | _ => False
set_option maxRecDepth 100000 in
set_option maxHeartbeats 4000000 in
theorem b_X2_behindExp : TbC KX2_behindExp [(234, P_Jx4a65c_size_8abf5, Q_Jx4a65c_size_8abf5), (235, P_Jx4a65c_get_915e3, Q_Jx4a65c_get_915e3), (40, P_X2_pass, Q_X2_pass)] P_X2_behindExp Q_X2_behindExp := by
  · rintro As σ0 ⟨p0, p1, p2, rfl, H0, h_0_0, h_1_0⟩ hgr G hB hW
    change G 0 [(0, .inr (.inr (some p0))), (1, .inr (.inr p1)), (2, .inr (.inl p2))] [] σ0
    have L25 : ∀ (n25 : Nat), ∀ (σ1 : CsC) (v25_1 : Nat) (v25_4 : Int32), (2147483647 - v25_4.toInt).toNat = n25 → HIC σ1 → ExC [94, 217, 218] σ0 σ1 → TyC σ1 v25_1 2 → 0 ≤ v25_4.toInt → G 25 [(0, .inr (.inr (some p0))), (1, .inr (.inr (some v25_1))), (4, .inl v25_4)] [] σ1 := by
      intro n25
      induction n25 using Nat.strongRecOn with
      | _ n25 ih25 =>
        intro σ1 v25_1 v25_4 n25_ H2 e3 h4 h5
        refine hB _ _ _ _ (kgoC (is := KX2_behindExp_25) rfl ?_)
        refine k_iload rfl ?_
        refine k_aload_n rfl ?_
        obtain ⟨x8, e6, c7, h9, h10⟩ := cg65 H2.1 h4
        refine k_get kg65 h4 e6 ?_
        refine k_ic_gt (fun h11 => ?_) (fun h11 => ?_)
        · refine hB _ _ _ _ (kgoC (is := KX2_behindExp_74) rfl ?_)
          refine k_aload_n rfl ?_
          have t12 := h_0_0.x e3
          obtain ⟨y15, e13, c14⟩ := cg91 (σ := σ1) (a := p0)
          refine k_get kg91 t12 e13 ?_
          refine k_aload_n rfl ?_
          obtain ⟨y18, e16, c17⟩ := cg92 (σ := σ1) (a := p0)
          refine k_get kg92 t12 e16 ?_
          refine k_land (fun y19 => ?_)
          refine k_lreturn ?_
          have X20 : ExC [94, 217, 218] σ0 σ1 := ExC.rf.tr (e3.mo (by decide))
          exact ⟨_, rfl, H2, X20⟩
        · refine k_nil ?_
          refine hB _ _ _ _ (kgoC (is := KX2_behindExp_34) rfl ?_)
          refine k_iload rfl ?_
          refine k_aload_n rfl ?_
          have t21 := h_0_0.x e3
          obtain ⟨a24, e22, c23, t25⟩ := cg90 H2.1 t21
          refine k_get kg90 t21 e22 ?_
          obtain ⟨a28, e26, c27, t29, l30⟩ := cg213 H2.1 t25
          refine k_get kg213 t25 e26 ?_
          refine k_inv (P := P_Jx4a65c_size_8abf5) (Q := Q_Jx4a65c_size_8abf5) rfl rfl rfl rfl (Nat.le_of_ble_eq_true rfl) (t29.rc (by decide)) ⟨_, rfl, H2, t29⟩ (fun w31 σ32 q33 => ?_)
          obtain ⟨x34, rfl, rfl, h35, h36, q37, q38⟩ := q33
          refine k_st (st' := [.inl x34, .inl v25_4]) rfl ?_
          refine k_ic_ge (fun h39 => ?_) (fun h39 => ?_)
          · refine hB _ _ _ _ (kgoC (is := KX2_behindExp_74) rfl ?_)
            refine k_aload_n rfl ?_
            obtain ⟨y42, e40, c41⟩ := cg91 (σ := σ1) (a := p0)
            refine k_get kg91 t21 e40 ?_
            refine k_aload_n rfl ?_
            obtain ⟨y45, e43, c44⟩ := cg92 (σ := σ1) (a := p0)
            refine k_get kg92 t21 e43 ?_
            refine k_land (fun y46 => ?_)
            refine k_lreturn ?_
            have X47 : ExC [94, 217, 218] σ0 σ1 := ExC.rf.tr (e3.mo (by decide))
            exact ⟨_, rfl, H2, X47⟩
          · refine k_nil ?_
            refine hB _ _ _ _ (kgoC (is := KX2_behindExp_49) rfl ?_)
            refine k_aload_n rfl ?_
            refine k_aload_n rfl ?_
            refine k_get kg90 t21 (congrArg (fun z : Option Nat => (Sum.inr (Sum.inr z) : AvC)) c23) ?_
            refine k_get kg213 t25 (congrArg (fun z : Option Nat => (Sum.inr (Sum.inr z) : AvC)) c27) ?_
            refine k_iload rfl ?_
            have z48 := congrArg Int32.toInt q37
            refine k_inv (P := P_Jx4a65c_get_915e3) (Q := Q_Jx4a65c_get_915e3) rfl rfl rfl rfl (Nat.le_of_ble_eq_true rfl) (t29.rc (by decide)) ⟨_, _, rfl, H2, t29, (by omega), (by omega)⟩ (fun w49 σ50 q51 => ?_)
            obtain ⟨a52, rfl, rfl, h53⟩ := q51
            rw [l30] at h53
            have t54 := h53.1
            refine k_st (st' := [.inr (.inr (some a52)), .inr (.inr (some p0))]) rfl ?_
            refine k_castS (t54.ob (by decide)) ?_
            refine k_inv (P := P_X2_pass) (Q := Q_X2_pass) rfl rfl rfl rfl (Nat.le_of_ble_eq_true rfl) (t21.rc (by decide)) ⟨_, _, rfl, H2, t21, t54⟩ (fun w55 σ56 q57 => ?_)
            obtain ⟨rfl, H58, e59⟩ := q57
            refine k_st (st' := []) rfl ?_
            obtain ⟨x60, e62, h61⟩ := iincC (n := 1) (m := 1) (v := v25_4) rfl (by omega) (by omega)
            refine k_iinc (ls' := [(4, .inl x60), (0, .inr (.inr (some p0))), (1, .inr (.inr (some v25_1)))]) rfl e62 rfl ?_
            refine k_goto ?_
            have t63 := h4.x e59
            have X64 : ExC [94, 217, 218] σ0 σ1 := ExC.rf.tr (e3.mo (by decide))
            have X65 : ExC [94, 217, 218] σ0 σ56 := X64.tr (e59.mo (by decide))
            exact hW _ _ _ _ _ (List.forall_mem_cons.2 ⟨List.Mem.tail _ (List.Mem.head _), (List.forall_mem_cons.2 ⟨List.Mem.tail _ (List.Mem.tail _ (List.Mem.head _)), (List.forall_mem_cons.2 ⟨List.Mem.head _, fun _ h => absurd h List.not_mem_nil⟩)⟩)⟩) (ih25 ((2147483647 - x60.toInt).toNat) (by omega) σ56 v25_1 x60 rfl H58 X65 t63 (by omega))
    refine hB _ _ _ _ (kgoC (is := KX2_behindExp_0) rfl ?_)
    refine k_aload_n rfl ?_
    refine k_lload_n rfl ?_
    refine k_putL kg91 H0 h_0_0 fk91 (fun σ66 H67 e68 c69 => ?_)
    refine k_aload_n rfl ?_
    refine k_lload_n rfl ?_
    have t70 := h_0_0.x e68
    refine k_putL kg92 H67 t70 fk92 (fun σ71 H72 e73 c74 => ?_)
    refine k_aload_n rfl ?_
    refine k_iconst (m := 0) rfl (fun x75 h76 => ?_)
    have t77 := t70.x e73
    refine k_putI kp94 H72 t77 (Or.inl fk94) (by show 0 ≤ _; omega) (by show _ ≤ 500; omega) (fun σ78 H79 e80 c81 => ?_)
    refine k_aload_n rfl ?_
    have t84 := h_1_0.x e68
    have t85 := t84.x e73
    have t86 := t85.x e80
    refine k_ifnull (fun h83 => ?_) (fun b82 h83 => ?_)
    · subst h83
      refine hB _ _ _ _ (kgoC (is := KX2_behindExp_74) rfl ?_)
      refine k_aload_n rfl ?_
      have t87 := t77.x e80
      obtain ⟨y90, e88, c89⟩ := cg91 (σ := σ78) (a := p0)
      refine k_get kg91 t87 e88 ?_
      refine k_aload_n rfl ?_
      obtain ⟨y93, e91, c92⟩ := cg92 (σ := σ78) (a := p0)
      refine k_get kg92 t87 e91 ?_
      refine k_land (fun y94 => ?_)
      refine k_lreturn ?_
      have X95 : ExC [94, 217, 218] σ0 σ66 := ExC.rf.tr (e68.mo (by decide))
      have X96 : ExC [94, 217, 218] σ0 σ71 := X95.tr (e73.mo (by decide))
      have X97 : ExC [94, 217, 218] σ0 σ78 := X96.tr (e80.mo (by decide))
      exact ⟨_, rfl, H79, X97⟩
    · subst h83
      have t98 := h_1_0 b82 rfl
      have t99 := t84 b82 rfl
      have t100 := t85 b82 rfl
      have t101 := t86 b82 rfl
      refine k_nil ?_
      refine hB _ _ _ _ (kgoC (is := KX2_behindExp_19) rfl ?_)
      refine k_aload_n rfl ?_
      obtain ⟨x104, e102, c103, h105, h106⟩ := cg63 H79.1 t101
      refine k_get kg63 t101 e102 ?_
      refine k_istore (ls' := [(4, .inl x104), (0, .inr (.inr (some p0))), (1, .inr (.inr (some b82))), (2, .inr (.inl p2))]) rfl ?_
      refine k_nil ?_
      have X107 : ExC [94, 217, 218] σ0 σ66 := ExC.rf.tr (e68.mo (by decide))
      have X108 : ExC [94, 217, 218] σ0 σ71 := X107.tr (e73.mo (by decide))
      have X109 : ExC [94, 217, 218] σ0 σ78 := X108.tr (e80.mo (by decide))
      exact hW _ _ _ _ _ (List.forall_mem_cons.2 ⟨List.Mem.tail _ (List.Mem.head _), (List.forall_mem_cons.2 ⟨List.Mem.tail _ (List.Mem.tail _ (List.Mem.head _)), (List.forall_mem_cons.2 ⟨List.Mem.head _, fun _ h => absurd h List.not_mem_nil⟩)⟩)⟩) (L25 _ σ78 b82 x104 rfl H79 X109 t101 (by omega))
theorem lg_X2_behindExp : ∀ (As : List AvC) (σ : CsC), P_X2_behindExp As σ → lgC As ≤ rX2_behindExp.2.2.1 := by
  rintro As σ ⟨p0, p1, p2, rfl, -⟩
  exact Nat.le_of_ble_eq_true rfl
theorem m_X2_behindExp (l : Launch) : CMetC l 11 39 P_X2_behindExp Q_X2_behindExp :=
  CMetC.of KX2_behindExp [(234, P_Jx4a65c_size_8abf5, Q_Jx4a65c_size_8abf5), (235, P_Jx4a65c_get_915e3, Q_Jx4a65c_get_915e3), (40, P_X2_pass, Q_X2_pass)] hX2_behindExp (by decide) (by decide) okX2_behindExp (cc1C (m_Jx4a65c_size_8abf5 l) (by decide) (cc1C (m_Jx4a65c_get_915e3 l) (by decide) (cc1C (m_X2_pass l) (by decide) cc0C))) (lg_X2_behindExp) (b_X2_behindExp)

abbrev P_X2_behindTold : CpC := fun As σ => ∃ (p0 : Nat) (p1 : Nat) (p2 : Int64), As = [.inr (.inr (some p0)), .inr (.inr (some p1)), .inr (.inl p2)] ∧ HIC σ ∧ TyC σ p0 3 ∧ TyC σ p1 9
abbrev Q_X2_behindTold : CqC := fun As σ w τ => match As with
  | [.inr (.inr (some p0)), .inr (.inr (some p1)), .inr (.inl p2)] => ∃ r : Int64, w = some (.inr (.inl r)) ∧ HIC τ ∧ ExC [94, 217, 218] σ τ
  | _ => False
set_option maxRecDepth 100000 in
set_option maxHeartbeats 4000000 in
theorem b_X2_behindTold : TbC KX2_behindTold [(39, P_X2_behindExp, Q_X2_behindExp), (222, P_X11_bit, Q_X11_bit)] P_X2_behindTold Q_X2_behindTold := by
  · rintro As σ0 ⟨p0, p1, p2, rfl, H0, h_0_0, h_1_0⟩ hgr G hB hW
    change G 0 [(0, .inr (.inr (some p0))), (1, .inr (.inr (some p1))), (2, .inr (.inl p2))] [] σ0
    refine hB _ _ _ _ (kgoC (is := KX2_behindTold_0) rfl ?_)
    refine k_aload_n rfl ?_
    obtain ⟨x3, e1, c2, h4, h5⟩ := cg280 H0.1 h_1_0
    refine k_get kg280 h_1_0 e1 ?_
    refine k_if_lt (fun h6 => ?_) (fun h6 => ?_)
    · refine hB _ _ _ _ (kgoC (is := KX2_behindTold_17) rfl ?_)
      refine k_lconst ?_
      refine k_nil ?_
      refine hB _ _ _ _ (kgoC (is := KX2_behindTold_18) rfl ?_)
      refine k_lstore (ls' := [(4, .inr (.inl (Int64.ofNat ((0 : Fin 2) : Nat)))), (0, .inr (.inr (some p0))), (1, .inr (.inr (some p1))), (2, .inr (.inl p2))]) rfl ?_
      refine k_aload_n rfl ?_
      obtain ⟨o9, e7, c8, t10⟩ := cg279 H0.1 h_1_0
      refine k_get kg279 h_1_0 e7 ?_
      refine k_ifnonnull (fun b11 h12 => ?_) (fun h12 => ?_)
      · subst h12
        have t13 := t10 b11 rfl
        refine hB _ _ _ _ (kgoC (is := KX2_behindTold_36) rfl ?_)
        refine k_aload_n rfl ?_
        refine k_aload_n rfl ?_
        refine k_get kg279 h_1_0 (congrArg (fun z : Option Nat => (Sum.inr (Sum.inr z) : AvC)) c8) ?_
        refine k_lload_n rfl ?_
        refine k_lload rfl ?_
        refine k_ldc2_w ?_
        refine k_lxor (fun y14 => ?_)
        refine k_land (fun y15 => ?_)
        refine k_inv (P := P_X2_behindExp) (Q := Q_X2_behindExp) rfl rfl rfl rfl (Nat.le_of_ble_eq_true rfl) (h_0_0.rc (by decide)) ⟨_, (some b11), _, rfl, H0, h_0_0, t13.ot⟩ (fun w16 σ17 q18 => ?_)
        obtain ⟨y19, rfl, H20, e21⟩ := q18
        refine k_st (st' := [.inr (.inl y19)]) rfl ?_
        refine k_lload rfl ?_
        refine k_lor (fun y22 => ?_)
        refine k_lreturn ?_
        have X23 : ExC [94, 217, 218] σ0 σ17 := ExC.rf.tr (e21.mo (by decide))
        exact ⟨_, rfl, H20, X23⟩
      · subst h12
        refine k_nil ?_
        refine hB _ _ _ _ (kgoC (is := KX2_behindTold_27) rfl ?_)
        refine k_lload_n rfl ?_
        refine k_lload rfl ?_
        refine k_ldc2_w ?_
        refine k_lxor (fun y24 => ?_)
        refine k_land (fun y25 => ?_)
        refine k_lreturn ?_
        exact ⟨_, rfl, H0, (ExC.rf : ExC [94, 217, 218] σ0 σ0)⟩
    · refine k_nil ?_
      refine hB _ _ _ _ (kgoC (is := KX2_behindTold_7) rfl ?_)
      refine k_aload_n rfl ?_
      refine k_get kg280 h_1_0 (congrArg (Sum.inl : Int32 → AvC) c2) ?_
      refine k_stat (P := P_X11_bit) (Q := Q_X11_bit) rfl rfl (Nat.le_of_ble_eq_true rfl) rfl rfl (Nat.le_of_ble_eq_true rfl) ⟨_, rfl, H0⟩ (fun w26 σ27 q28 => ?_)
      obtain ⟨y29, rfl, rfl⟩ := q28
      refine k_st (st' := [.inr (.inl y29)]) rfl ?_
      refine k_goto ?_
      refine hB _ _ _ _ (kgoC (is := KX2_behindTold_18) rfl ?_)
      refine k_lstore (ls' := [(4, .inr (.inl y29)), (0, .inr (.inr (some p0))), (1, .inr (.inr (some p1))), (2, .inr (.inl p2))]) rfl ?_
      refine k_aload_n rfl ?_
      obtain ⟨o32, e30, c31, t33⟩ := cg279 H0.1 h_1_0
      refine k_get kg279 h_1_0 e30 ?_
      refine k_ifnonnull (fun b34 h35 => ?_) (fun h35 => ?_)
      · subst h35
        have t36 := t33 b34 rfl
        refine hB _ _ _ _ (kgoC (is := KX2_behindTold_36) rfl ?_)
        refine k_aload_n rfl ?_
        refine k_aload_n rfl ?_
        refine k_get kg279 h_1_0 (congrArg (fun z : Option Nat => (Sum.inr (Sum.inr z) : AvC)) c31) ?_
        refine k_lload_n rfl ?_
        refine k_lload rfl ?_
        refine k_ldc2_w ?_
        refine k_lxor (fun y37 => ?_)
        refine k_land (fun y38 => ?_)
        refine k_inv (P := P_X2_behindExp) (Q := Q_X2_behindExp) rfl rfl rfl rfl (Nat.le_of_ble_eq_true rfl) (h_0_0.rc (by decide)) ⟨_, (some b34), _, rfl, H0, h_0_0, t36.ot⟩ (fun w39 σ40 q41 => ?_)
        obtain ⟨y42, rfl, H43, e44⟩ := q41
        refine k_st (st' := [.inr (.inl y42)]) rfl ?_
        refine k_lload rfl ?_
        refine k_lor (fun y45 => ?_)
        refine k_lreturn ?_
        have X46 : ExC [94, 217, 218] σ0 σ40 := ExC.rf.tr (e44.mo (by decide))
        exact ⟨_, rfl, H43, X46⟩
      · subst h35
        refine k_nil ?_
        refine hB _ _ _ _ (kgoC (is := KX2_behindTold_27) rfl ?_)
        refine k_lload_n rfl ?_
        refine k_lload rfl ?_
        refine k_ldc2_w ?_
        refine k_lxor (fun y47 => ?_)
        refine k_land (fun y48 => ?_)
        refine k_lreturn ?_
        exact ⟨_, rfl, H0, (ExC.rf : ExC [94, 217, 218] σ0 σ0)⟩
theorem lg_X2_behindTold : ∀ (As : List AvC) (σ : CsC), P_X2_behindTold As σ → lgC As ≤ rX2_behindTold.2.2.1 := by
  rintro As σ ⟨p0, p1, p2, rfl, -⟩
  exact Nat.le_of_ble_eq_true rfl
theorem m_X2_behindTold (l : Launch) : CMetC l 12 33 P_X2_behindTold Q_X2_behindTold :=
  CMetC.of KX2_behindTold [(39, P_X2_behindExp, Q_X2_behindExp), (222, P_X11_bit, Q_X11_bit)] hX2_behindTold (by decide) (by decide) okX2_behindTold (cc1C (m_X2_behindExp l) (by decide) (cc1C (m_X11_bit l) (by decide) cc0C)) (lg_X2_behindTold) (b_X2_behindTold)

abbrev P_X2_leadTo : CpC := fun As σ => ∃ (p0 : Nat) (p1 : Nat) (p2 : Int64), As = [.inr (.inr (some p0)), .inr (.inr (some p1)), .inr (.inl p2)] ∧ HIC σ ∧ TyC σ p0 3 ∧ TyC σ p1 9
abbrev Q_X2_leadTo : CqC := fun As σ w τ => match As with
  | [.inr (.inr (some p0)), .inr (.inr (some p1)), .inr (.inl p2)] => w = none ∧ HIC τ ∧ ExC [] σ τ
  | _ => False
set_option maxRecDepth 100000 in
set_option maxHeartbeats 4000000 in
theorem b_X2_leadTo : TbC KX2_leadTo [(181, P_X8_hasFinallyAhead, Q_X8_hasFinallyAhead)] P_X2_leadTo Q_X2_leadTo := by
  · rintro As σ0 ⟨p0, p1, p2, rfl, H0, h_0_0, h_1_0⟩ hgr G hB hW
    change G 0 [(0, .inr (.inr (some p0))), (1, .inr (.inr (some p1))), (2, .inr (.inl p2))] [] σ0
    have L6 : ∀ (n6 : Nat), ∀ (σ1 : CsC) (v6_4 : Int64) (v6_6 : Option Nat), msPC v6_6 = n6 → HIC σ1 → ExC [] σ0 σ1 → OtC σ1 v6_6 9 → G 6 [(1, .inr (.inr (some p1))), (4, .inr (.inl v6_4)), (6, .inr (.inr v6_6))] [] σ1 := by
      intro n6
      induction n6 using Nat.strongRecOn with
      | _ n6 ih6 =>
        intro σ1 v6_4 v6_6 n6_ H2 e3 h4
        refine hB _ _ _ _ (kgoC (is := KX2_leadTo_6) rfl ?_)
        refine k_aload rfl ?_
        refine k_ifnull (fun h6 => ?_) (fun b5 h6 => ?_)
        · subst h6
          refine hB _ _ _ _ (kgoC (is := KX2_leadTo_54) rfl ?_)
          refine k_aload_n rfl ?_
          have t7 := h_1_0.x e3
          obtain ⟨o10, e8, c9, t11⟩ := cg281 H2.1 t7
          refine k_get kg281 t7 e8 ?_
          refine k_ifnull (fun h13 => ?_) (fun b12 h13 => ?_)
          · subst h13
            refine hB _ _ _ _ (kgoC (is := KX2_leadTo_87) rfl ?_)
            refine k_aload_n rfl ?_
            refine k_get kg281 t7 (congrArg (fun z : Option Nat => (Sum.inr (Sum.inr z) : AvC)) c9) ?_
            refine k_ifnull (fun _ => ?_) (fun _ hz => by cases hz)
            refine hB _ _ _ _ (kgoC (is := KX2_leadTo_108) rfl ?_)
            refine k_return ?_
            have X14 : ExC [] σ0 σ1 := ExC.rf.tr (e3.mo (by decide))
            exact ⟨rfl, H2, X14⟩
          · subst h13
            have t15 := t11 b12 rfl
            refine k_nil ?_
            refine hB _ _ _ _ (kgoC (is := KX2_leadTo_61) rfl ?_)
            refine k_aload_n rfl ?_
            obtain ⟨x18, e16, c17, h19, h20⟩ := cg270 H2.1 t7
            refine k_get kg270 t7 e16 ?_
            refine k_bipush (m := 64) rfl (fun x21 h22 => ?_)
            refine k_ic_ne (fun h23 => ?_) (fun h23 => ?_)
            · refine hB _ _ _ _ (kgoC (is := KX2_leadTo_87) rfl ?_)
              refine k_aload_n rfl ?_
              refine k_get kg281 t7 (congrArg (fun z : Option Nat => (Sum.inr (Sum.inr z) : AvC)) c9) ?_
              refine k_ifnull (fun hz => by cases hz) (fun _ _ => ?_)
              refine k_nil ?_
              refine hB _ _ _ _ (kgoC (is := KX2_leadTo_94) rfl ?_)
              refine k_aload_n rfl ?_
              refine k_get kg281 t7 (congrArg (fun z : Option Nat => (Sum.inr (Sum.inr z) : AvC)) c9) ?_
              refine k_dupR ?_
              obtain ⟨y26, e24, c25⟩ := cg288 (σ := σ1) (a := b12)
              refine k_get kg288 t15 e24 ?_
              refine k_lload rfl ?_
              refine k_land (fun y27 => ?_)
              refine k_putL kg288 H2 t15 fk288 (fun σ28 H29 e30 c31 => ?_)
              refine k_nil ?_
              refine hB _ _ _ _ (kgoC (is := KX2_leadTo_108) rfl ?_)
              refine k_return ?_
              have X32 : ExC [] σ0 σ1 := ExC.rf.tr (e3.mo (by decide))
              have X33 : ExC [] σ0 σ28 := X32.tr (e30.mo (by decide))
              exact ⟨rfl, H29, X33⟩
            · refine k_nil ?_
              refine hB _ _ _ _ (kgoC (is := KX2_leadTo_70) rfl ?_)
              refine k_aload_n rfl ?_
              refine k_get kg281 t7 (congrArg (fun z : Option Nat => (Sum.inr (Sum.inr z) : AvC)) c9) ?_
              refine k_dupR ?_
              obtain ⟨y36, e34, c35⟩ := cg287 (σ := σ1) (a := b12)
              refine k_get kg287 t15 e34 ?_
              refine k_lload rfl ?_
              refine k_land (fun y37 => ?_)
              refine k_putL kg287 H2 t15 fk287 (fun σ38 H39 e40 c41 => ?_)
              refine k_goto ?_
              refine hB _ _ _ _ (kgoC (is := KX2_leadTo_108) rfl ?_)
              refine k_return ?_
              have X42 : ExC [] σ0 σ1 := ExC.rf.tr (e3.mo (by decide))
              have X43 : ExC [] σ0 σ38 := X42.tr (e40.mo (by decide))
              exact ⟨rfl, H39, X43⟩
        · subst h6
          have t44 := h4 b5 rfl
          refine k_nil ?_
          refine hB _ _ _ _ (kgoC (is := KX2_leadTo_11) rfl ?_)
          refine k_aload rfl ?_
          refine k_aload_n rfl ?_
          have t45 := h_1_0.x e3
          obtain ⟨o48, e46, c47, t49⟩ := cg281 H2.1 t45
          refine k_get kg281 t45 e46 ?_
          refine k_acmp_eq (c := 9) (c' := 9) (t44.ot) (t49) (fun h50 => ?_) (fun h50 => ?_)
          · refine hB _ _ _ _ (kgoC (is := KX2_leadTo_54) rfl ?_)
            refine k_aload_n rfl ?_
            refine k_get kg281 t45 (congrArg (fun z : Option Nat => (Sum.inr (Sum.inr z) : AvC)) c47) ?_
            refine k_ifnull (fun h52 => ?_) (fun b51 h52 => ?_)
            · subst h52
              refine hB _ _ _ _ (kgoC (is := KX2_leadTo_87) rfl ?_)
              refine k_aload_n rfl ?_
              refine k_get kg281 t45 (congrArg (fun z : Option Nat => (Sum.inr (Sum.inr z) : AvC)) c47) ?_
              refine k_ifnull (fun _ => ?_) (fun _ hz => by cases hz)
              refine hB _ _ _ _ (kgoC (is := KX2_leadTo_108) rfl ?_)
              refine k_return ?_
              have X53 : ExC [] σ0 σ1 := ExC.rf.tr (e3.mo (by decide))
              exact ⟨rfl, H2, X53⟩
            · subst h52
              have t54 := t49 b51 rfl
              refine k_nil ?_
              refine hB _ _ _ _ (kgoC (is := KX2_leadTo_61) rfl ?_)
              refine k_aload_n rfl ?_
              obtain ⟨x57, e55, c56, h58, h59⟩ := cg270 H2.1 t45
              refine k_get kg270 t45 e55 ?_
              refine k_bipush (m := 64) rfl (fun x60 h61 => ?_)
              refine k_ic_ne (fun h62 => ?_) (fun h62 => ?_)
              · refine hB _ _ _ _ (kgoC (is := KX2_leadTo_87) rfl ?_)
                refine k_aload_n rfl ?_
                refine k_get kg281 t45 (congrArg (fun z : Option Nat => (Sum.inr (Sum.inr z) : AvC)) c47) ?_
                refine k_ifnull (fun hz => by cases hz) (fun _ _ => ?_)
                refine k_nil ?_
                refine hB _ _ _ _ (kgoC (is := KX2_leadTo_94) rfl ?_)
                refine k_aload_n rfl ?_
                refine k_get kg281 t45 (congrArg (fun z : Option Nat => (Sum.inr (Sum.inr z) : AvC)) c47) ?_
                refine k_dupR ?_
                obtain ⟨y65, e63, c64⟩ := cg288 (σ := σ1) (a := b51)
                refine k_get kg288 t54 e63 ?_
                refine k_lload rfl ?_
                refine k_land (fun y66 => ?_)
                refine k_putL kg288 H2 t54 fk288 (fun σ67 H68 e69 c70 => ?_)
                refine k_nil ?_
                refine hB _ _ _ _ (kgoC (is := KX2_leadTo_108) rfl ?_)
                refine k_return ?_
                have X71 : ExC [] σ0 σ1 := ExC.rf.tr (e3.mo (by decide))
                have X72 : ExC [] σ0 σ67 := X71.tr (e69.mo (by decide))
                exact ⟨rfl, H68, X72⟩
              · refine k_nil ?_
                refine hB _ _ _ _ (kgoC (is := KX2_leadTo_70) rfl ?_)
                refine k_aload_n rfl ?_
                refine k_get kg281 t45 (congrArg (fun z : Option Nat => (Sum.inr (Sum.inr z) : AvC)) c47) ?_
                refine k_dupR ?_
                obtain ⟨y75, e73, c74⟩ := cg287 (σ := σ1) (a := b51)
                refine k_get kg287 t54 e73 ?_
                refine k_lload rfl ?_
                refine k_land (fun y76 => ?_)
                refine k_putL kg287 H2 t54 fk287 (fun σ77 H78 e79 c80 => ?_)
                refine k_goto ?_
                refine hB _ _ _ _ (kgoC (is := KX2_leadTo_108) rfl ?_)
                refine k_return ?_
                have X81 : ExC [] σ0 σ1 := ExC.rf.tr (e3.mo (by decide))
                have X82 : ExC [] σ0 σ77 := X81.tr (e79.mo (by decide))
                exact ⟨rfl, H78, X82⟩
          · refine k_nil ?_
            refine hB _ _ _ _ (kgoC (is := KX2_leadTo_20) rfl ?_)
            refine k_aload rfl ?_
            refine k_inv (P := P_X8_hasFinallyAhead) (Q := Q_X8_hasFinallyAhead) rfl rfl rfl rfl (Nat.le_of_ble_eq_true rfl) (t44.rc (by decide)) ⟨_, rfl, H2, t44⟩ (fun w83 σ84 q85 => ?_)
            obtain ⟨x86, rfl, rfl, h87, h88, q89⟩ := q85
            refine k_st (st' := [.inl x86]) rfl ?_
            rcases (by omega : x86.toInt = 0 ∨ x86.toInt = 1) with g90 | g90
            · refine k_if_eq (fun h91 => ?_) (fun h91 => by exfalso; omega)
              refine hB _ _ _ _ (kgoC (is := KX2_leadTo_44) rfl ?_)
              refine k_aload rfl ?_
              obtain ⟨o94, e92, c93, t95, f96⟩ := cg273 H2.1 t44
              refine k_get kg273 t44 e92 ?_
              refine k_astore (ls' := [(6, .inr (.inr o94)), (1, .inr (.inr (some p1))), (4, .inr (.inl v6_4))]) rfl ?_
              refine k_goto ?_
              have X97 : ExC [] σ0 σ1 := ExC.rf.tr (e3.mo (by decide))
              exact hW _ _ _ _ _ (List.forall_mem_cons.2 ⟨List.Mem.tail _ (List.Mem.head _), (List.forall_mem_cons.2 ⟨List.Mem.tail _ (List.Mem.tail _ (List.Mem.head _)), (List.forall_mem_cons.2 ⟨List.Mem.head _, fun _ h => absurd h List.not_mem_nil⟩)⟩)⟩) (ih6 (msPC o94) (by cases o94 with
                              | none => have qm := n6_; dsimp only [msPC] at qm ⊢; omega
                              | some bz => have qf := (f96 bz rfl).2; have qg := (show bz < _ from by first | exact qf | exact qf.1); have qm := n6_; dsimp only [msPC] at qm ⊢; omega) σ1 v6_4 o94 rfl H2 X97 t95)
            · obtain ⟨b98, h99, b100, h101⟩ := q89 (by omega)
              obtain ⟨o102, e103, c104, t105, f106⟩ := cg273 H2.1 t44
              have h107 : o102 = some b98 := c104.symm.trans h99
              subst h107
              have t108 := t105 b98 rfl
              have f109 := (f106 b98 rfl).2
              obtain ⟨o110, e111, c112, t113, f114⟩ := cg278 H2.1 t108
              have h115 : o110 = some b100 := c112.symm.trans h101
              subst h115
              have t116 := t113 b100 rfl
              have f117 := (f114 b100 rfl).2
              refine k_if_eq (fun h118 => by exfalso; omega) (fun h118 => ?_)
              refine k_nil ?_
              refine hB _ _ _ _ (kgoC (is := KX2_leadTo_28) rfl ?_)
              refine k_lload rfl ?_
              refine k_aload rfl ?_
              refine k_get kg273 t44 (congrArg (fun z : Option Nat => (Sum.inr (Sum.inr z) : AvC)) c104) ?_
              refine k_get kg278 t108 (congrArg (fun z : Option Nat => (Sum.inr (Sum.inr z) : AvC)) c112) ?_
              obtain ⟨y121, e119, c120⟩ := cg286 (σ := σ1) (a := b100)
              refine k_get kg286 t116 e119 ?_
              refine k_lor (fun y122 => ?_)
              refine k_lstore (ls' := [(4, .inr (.inl y122)), (1, .inr (.inr (some p1))), (6, .inr (.inr (some b5)))]) rfl ?_
              refine k_nil ?_
              refine hB _ _ _ _ (kgoC (is := KX2_leadTo_44) rfl ?_)
              refine k_aload rfl ?_
              refine k_get kg273 t44 (congrArg (fun z : Option Nat => (Sum.inr (Sum.inr z) : AvC)) c104) ?_
              refine k_astore (ls' := [(6, .inr (.inr (some b98))), (4, .inr (.inl y122)), (1, .inr (.inr (some p1)))]) rfl ?_
              refine k_goto ?_
              have X123 : ExC [] σ0 σ1 := ExC.rf.tr (e3.mo (by decide))
              exact hW _ _ _ _ _ (List.forall_mem_cons.2 ⟨List.Mem.tail _ (List.Mem.tail _ (List.Mem.head _)), (List.forall_mem_cons.2 ⟨List.Mem.tail _ (List.Mem.head _), (List.forall_mem_cons.2 ⟨List.Mem.head _, fun _ h => absurd h List.not_mem_nil⟩)⟩)⟩) (ih6 (msPC (some b98)) (by have qm := n6_; dsimp only [msPC] at qm ⊢; omega) σ1 y122 (some b98) rfl H2 X123 t108.ot)
    refine hB _ _ _ _ (kgoC (is := KX2_leadTo_0) rfl ?_)
    refine k_lload_n rfl ?_
    refine k_lstore (ls' := [(4, .inr (.inl p2)), (0, .inr (.inr (some p0))), (1, .inr (.inr (some p1))), (2, .inr (.inl p2))]) rfl ?_
    refine k_aload_n rfl ?_
    refine k_astore (ls' := [(6, .inr (.inr (some p1))), (4, .inr (.inl p2)), (0, .inr (.inr (some p0))), (1, .inr (.inr (some p1))), (2, .inr (.inl p2))]) rfl ?_
    refine k_nil ?_
    exact hW _ _ _ _ _ (List.forall_mem_cons.2 ⟨List.Mem.tail _ (List.Mem.tail _ (List.Mem.tail _ (List.Mem.head _))), (List.forall_mem_cons.2 ⟨List.Mem.tail _ (List.Mem.head _), (List.forall_mem_cons.2 ⟨List.Mem.head _, fun _ h => absurd h List.not_mem_nil⟩)⟩)⟩) (L6 _ σ0 p2 (some p1) rfl H0 ExC.rf h_1_0.ot)
theorem lg_X2_leadTo : ∀ (As : List AvC) (σ : CsC), P_X2_leadTo As σ → lgC As ≤ rX2_leadTo.2.2.1 := by
  rintro As σ ⟨p0, p1, p2, rfl, -⟩
  exact Nat.le_of_ble_eq_true rfl
theorem m_X2_leadTo (l : Launch) : CMetC l 2 34 P_X2_leadTo Q_X2_leadTo :=
  CMetC.of KX2_leadTo [(181, P_X8_hasFinallyAhead, Q_X8_hasFinallyAhead)] hX2_leadTo (by decide) (by decide) okX2_leadTo (cc1C (m_X8_hasFinallyAhead l) (by decide) cc0C) (lg_X2_leadTo) (b_X2_leadTo)
