abbrev P_X2_reachAll : CpC := fun As σ => ∃ (p0 : Nat) (p1 : Nat), As = [.inr (.inr (some p0)), .inr (.inr (some p1))] ∧ HIC σ ∧ TyC σ p0 3 ∧ TyC σ p1 7
abbrev Q_X2_reachAll : CqC := fun As σ w τ => match As with
  | [.inr (.inr (some p0)), .inr (.inr (some p1))] => w = none ∧ HIC τ ∧ ExC [90, 217, 218, 282, 283, 284] σ τ
  | _ => False
set_option maxRecDepth 100000 in
set_option maxHeartbeats 4000000 in
theorem b_X2_reachAll : TbC KX2_reachAll [(234, P_Jx4a65c_size_8abf5, Q_Jx4a65c_size_8abf5), (235, P_Jx4a65c_get_915e3, Q_Jx4a65c_get_915e3), (21, (P_X2_reachRow 61), Q_X2_reachRow), (118, P_X6_tell, Q_X6_tell)] P_X2_reachAll Q_X2_reachAll := by
  · rintro As σ0 ⟨p0, p1, rfl, H0, h_0_0, h_1_0⟩ hgr G hB hW
    change G 0 [(0, .inr (.inr (some p0))), (1, .inr (.inr (some p1)))] [] σ0
    have L7 : ∀ (n7 : Nat), ∀ (σ1 : CsC) (v7_2 : Int32), (2147483647 - v7_2.toInt).toNat = n7 → HIC σ1 → ExC [90, 217, 218, 282, 283, 284] σ0 σ1 → 0 ≤ v7_2.toInt → v7_2.toInt ≤ 502 → G 7 [(0, .inr (.inr (some p0))), (2, .inl v7_2)] [] σ1 := by
      intro n7
      induction n7 using Nat.strongRecOn with
      | _ n7 ih7 =>
        intro σ1 v7_2 n7_ H2 e3 h4 h5
        refine hB _ _ _ _ (kgoC (is := KX2_reachAll_7) rfl ?_)
        refine k_iload_n rfl ?_
        refine k_aload_n rfl ?_
        have t6 := h_0_0.x e3
        obtain ⟨a9, e7, c8, t10⟩ := cg90 H2.1 t6
        refine k_get kg90 t6 e7 ?_
        obtain ⟨a13, e11, c12, t14, l15⟩ := cg211 H2.1 t10
        refine k_get kg211 t10 e11 ?_
        refine k_inv (P := P_Jx4a65c_size_8abf5) (Q := Q_Jx4a65c_size_8abf5) rfl rfl rfl rfl (Nat.le_of_ble_eq_true rfl) (t14.rc (by decide)) ⟨_, rfl, H2, t14⟩ (fun w16 σ17 q18 => ?_)
        obtain ⟨x19, rfl, rfl, h20, h21, q22, q23⟩ := q18
        refine k_st (st' := [.inl x19, .inl v7_2]) rfl ?_
        have z24 := q23 l15
        refine k_ic_ge (fun h25 => ?_) (fun h25 => ?_)
        · refine hB _ _ _ _ (kgoC (is := KX2_reachAll_74) rfl ?_)
          refine k_return ?_
          have X26 : ExC [90, 217, 218, 282, 283, 284] σ0 σ1 := ExC.rf.tr (e3.mo (by decide))
          exact ⟨rfl, H2, X26⟩
        · refine k_nil ?_
          refine hB _ _ _ _ (kgoC (is := KX2_reachAll_21) rfl ?_)
          refine k_aload_n rfl ?_
          refine k_get kg90 t6 (congrArg (fun z : Option Nat => (Sum.inr (Sum.inr z) : AvC)) c8) ?_
          refine k_get kg211 t10 (congrArg (fun z : Option Nat => (Sum.inr (Sum.inr z) : AvC)) c12) ?_
          refine k_iload_n rfl ?_
          have z27 := congrArg Int32.toInt q22
          refine k_inv (P := P_Jx4a65c_get_915e3) (Q := Q_Jx4a65c_get_915e3) rfl rfl rfl rfl (Nat.le_of_ble_eq_true rfl) (t14.rc (by decide)) ⟨_, _, rfl, H2, t14, (by omega), (by omega)⟩ (fun w28 σ29 q30 => ?_)
          obtain ⟨a31, rfl, rfl, h32⟩ := q30
          rw [l15] at h32
          have t33 := h32.1
          obtain ⟨x34, e35, c36, h37, h38⟩ := cg180 H2.1 t33
          have h39 : 0 ≤ x34.toInt := by rw [← c36]; exact h32.2.2 rfl
          refine k_st (st' := [.inr (.inr (some a31))]) rfl ?_
          refine k_castS (t33.ob (by decide)) ?_
          refine k_astore_n (ls' := [(3, .inr (.inr (some a31))), (0, .inr (.inr (some p0))), (2, .inl v7_2)]) rfl ?_
          refine k_aload_n rfl ?_
          refine k_aload_n rfl ?_
          obtain ⟨a42, e40, c41, t43, k44⟩ := cg186 H2.1 t33
          refine k_get kg186 t33 e40 ?_
          refine k_inv (P := (P_X2_reachRow 61)) (Q := Q_X2_reachRow) rfl rfl rfl rfl (Nat.le_of_ble_eq_true rfl) (t6.rc (by decide)) ⟨_, _, rfl, H2, t6, t43, (RkC.top H2 t43), (by rw [k44]; decide)⟩ (fun w45 σ46 q47 => ?_)
          obtain ⟨x48, rfl, H49, e50, h51, h52⟩ := q47
          refine k_st (st' := [.inl x48]) rfl ?_
          refine k_if_eq (fun h53 => ?_) (fun h53 => ?_)
          · refine hB _ _ _ _ (kgoC (is := KX2_reachAll_68) rfl ?_)
            obtain ⟨x54, e56, h55⟩ := iincC (n := 1) (m := 1) (v := v7_2) rfl (by omega) (by omega)
            refine k_iinc (ls' := [(2, .inl x54), (3, .inr (.inr (some a31))), (0, .inr (.inr (some p0)))]) rfl e56 rfl ?_
            refine k_goto ?_
            have X57 : ExC [90, 217, 218, 282, 283, 284] σ0 σ1 := ExC.rf.tr (e3.mo (by decide))
            have X58 : ExC [90, 217, 218, 282, 283, 284] σ0 σ46 := X57.tr (e50.mo (by decide))
            exact hW _ _ _ _ _ (List.forall_mem_cons.2 ⟨List.Mem.tail _ (List.Mem.tail _ (List.Mem.head _)), (List.forall_mem_cons.2 ⟨List.Mem.head _, fun _ h => absurd h List.not_mem_nil⟩)⟩) (ih7 ((2147483647 - x54.toInt).toNat) (by omega) σ46 x54 rfl H49 X58 (by omega) (by omega))
          · refine k_nil ?_
            refine hB _ _ _ _ (kgoC (is := KX2_reachAll_47) rfl ?_)
            refine k_aload_n rfl ?_
            have t59 := t33.x e50
            obtain ⟨x62, e60, c61, h63, h64⟩ := cg182 H49.1 t59
            refine k_get kg182 t59 e60 ?_
            refine k_iconst (m := 5) rfl (fun x65 h66 => ?_)
            refine k_ic_eq (fun h67 => ?_) (fun h67 => ?_)
            · refine hB _ _ _ _ (kgoC (is := KX2_reachAll_68) rfl ?_)
              obtain ⟨x68, e70, h69⟩ := iincC (n := 1) (m := 1) (v := v7_2) rfl (by omega) (by omega)
              refine k_iinc (ls' := [(2, .inl x68), (3, .inr (.inr (some a31))), (0, .inr (.inr (some p0)))]) rfl e70 rfl ?_
              refine k_goto ?_
              have X71 : ExC [90, 217, 218, 282, 283, 284] σ0 σ1 := ExC.rf.tr (e3.mo (by decide))
              have X72 : ExC [90, 217, 218, 282, 283, 284] σ0 σ46 := X71.tr (e50.mo (by decide))
              exact hW _ _ _ _ _ (List.forall_mem_cons.2 ⟨List.Mem.tail _ (List.Mem.tail _ (List.Mem.head _)), (List.forall_mem_cons.2 ⟨List.Mem.head _, fun _ h => absurd h List.not_mem_nil⟩)⟩) (ih7 ((2147483647 - x68.toInt).toNat) (by omega) σ46 x68 rfl H49 X72 (by omega) (by omega))
            · refine k_nil ?_
              refine hB _ _ _ _ (kgoC (is := KX2_reachAll_55) rfl ?_)
              refine k_aload_n rfl ?_
              have t73 := t6.x e50
              have c74 := (t6.mr e50 (by decide)).trans c8
              refine k_get kg90 t73 (congrArg (fun z : Option Nat => (Sum.inr (Sum.inr z) : AvC)) c74) ?_
              refine k_bipush (m := 14) rfl (fun x75 h76 => ?_)
              refine k_aload_n rfl ?_
              have c77 := (t33.mi e50 (by decide)).trans c36
              refine k_get kg180 t59 (congrArg (Sum.inl : Int32 → AvC) c77) ?_
              have t78 := t10.x e50
              refine k_inv (P := P_X6_tell) (Q := Q_X6_tell) rfl rfl rfl rfl (Nat.le_of_ble_eq_true rfl) (t78.rc (by decide)) ⟨_, _, _, rfl, H49, t78, (by omega), (by omega), (by omega), (by omega)⟩ (fun w79 σ80 q81 => ?_)
              obtain ⟨rfl, H82, e83⟩ := q81
              refine k_st (st' := []) rfl ?_
              refine k_nil ?_
              refine hB _ _ _ _ (kgoC (is := KX2_reachAll_68) rfl ?_)
              obtain ⟨x84, e86, h85⟩ := iincC (n := 1) (m := 1) (v := v7_2) rfl (by omega) (by omega)
              refine k_iinc (ls' := [(2, .inl x84), (3, .inr (.inr (some a31))), (0, .inr (.inr (some p0)))]) rfl e86 rfl ?_
              refine k_goto ?_
              have X87 : ExC [90, 217, 218, 282, 283, 284] σ0 σ1 := ExC.rf.tr (e3.mo (by decide))
              have X88 : ExC [90, 217, 218, 282, 283, 284] σ0 σ46 := X87.tr (e50.mo (by decide))
              have X89 : ExC [90, 217, 218, 282, 283, 284] σ0 σ80 := X88.tr (e83.mo (by decide))
              exact hW _ _ _ _ _ (List.forall_mem_cons.2 ⟨List.Mem.tail _ (List.Mem.tail _ (List.Mem.head _)), (List.forall_mem_cons.2 ⟨List.Mem.head _, fun _ h => absurd h List.not_mem_nil⟩)⟩) (ih7 ((2147483647 - x84.toInt).toNat) (by omega) σ80 x84 rfl H82 X89 (by omega) (by omega))
    refine hB _ _ _ _ (kgoC (is := KX2_reachAll_0) rfl ?_)
    refine k_aload_n rfl ?_
    refine k_aload_n rfl ?_
    refine k_putR kp90 H0 h_0_0 fk90 (rf90 h_1_0) (fun σ90 H91 e92 c93 => ?_)
    refine k_iconst (m := 0) rfl (fun x94 h95 => ?_)
    refine k_istore_n (ls' := [(2, .inl x94), (0, .inr (.inr (some p0))), (1, .inr (.inr (some p1)))]) rfl ?_
    refine k_nil ?_
    have X96 : ExC [90, 217, 218, 282, 283, 284] σ0 σ90 := ExC.rf.tr (e92.mo (by decide))
    exact hW _ _ _ _ _ (List.forall_mem_cons.2 ⟨List.Mem.tail _ (List.Mem.head _), (List.forall_mem_cons.2 ⟨List.Mem.head _, fun _ h => absurd h List.not_mem_nil⟩)⟩) (L7 _ σ90 x94 rfl H91 X96 (by omega) (by omega))
theorem lg_X2_reachAll : ∀ (As : List AvC) (σ : CsC), P_X2_reachAll As σ → lgC As ≤ rX2_reachAll.2.2.1 := by
  rintro As σ ⟨p0, p1, rfl, -⟩
  exact Nat.le_of_ble_eq_true rfl
theorem m_X2_reachAll (l : Launch) : CMetC l 510 20 P_X2_reachAll Q_X2_reachAll :=
  CMetC.of KX2_reachAll [(234, P_Jx4a65c_size_8abf5, Q_Jx4a65c_size_8abf5), (235, P_Jx4a65c_get_915e3, Q_Jx4a65c_get_915e3), (21, (P_X2_reachRow 61), Q_X2_reachRow), (118, P_X6_tell, Q_X6_tell)] hX2_reachAll (by decide) (by decide) okX2_reachAll (cc1C (m_Jx4a65c_size_8abf5 l) (by decide) (cc1C (m_Jx4a65c_get_915e3 l) (by decide) (cc1C (m_X2_reachRow l 61) (by decide) (cc1C (m_X6_tell l) (by decide) cc0C)))) (lg_X2_reachAll) (b_X2_reachAll)

abbrev P_X2_assignAll : CpC := fun As σ => ∃ (p0 : Nat) (p1 : Nat), As = [.inr (.inr (some p0)), .inr (.inr (some p1))] ∧ HIC σ ∧ TyC σ p0 3 ∧ TyC σ p1 7
abbrev Q_X2_assignAll : CqC := fun As σ w τ => match As with
  | [.inr (.inr (some p0)), .inr (.inr (some p1))] => w = none ∧ HIC τ ∧ ExC [90, 94, 217, 218] σ τ
  | _ => False
set_option maxRecDepth 100000 in
set_option maxHeartbeats 4000000 in
theorem b_X2_assignAll : TbC KX2_assignAll [(234, P_Jx4a65c_size_8abf5, Q_Jx4a65c_size_8abf5), (235, P_Jx4a65c_get_915e3, Q_Jx4a65c_get_915e3), (29, (P_X2_assign 61), Q_X2_assign), (222, P_X11_bit, Q_X11_bit)] P_X2_assignAll Q_X2_assignAll := by
  · rintro As σ0 ⟨p0, p1, rfl, H0, h_0_0, h_1_0⟩ hgr G hB hW
    change G 0 [(0, .inr (.inr (some p0))), (1, .inr (.inr (some p1)))] [] σ0
    have L7 : ∀ (n7 : Nat), ∀ (σ1 : CsC) (v7_2 : Int32), (2147483647 - v7_2.toInt).toNat = n7 → HIC σ1 → ExC [90, 94, 217, 218] σ0 σ1 → 0 ≤ v7_2.toInt → G 7 [(0, .inr (.inr (some p0))), (2, .inl v7_2)] [] σ1 := by
      intro n7
      induction n7 using Nat.strongRecOn with
      | _ n7 ih7 =>
        intro σ1 v7_2 n7_ H2 e3 h4
        have L42 : ∀ (n42 : Nat), ∀ (σ5 : CsC) (v42_3 : Nat) (v42_4 : Int64) (v42_6 : Int32), (2147483647 - v42_6.toInt).toNat = n42 → HIC σ5 → ExC [90, 94, 217, 218] σ1 σ5 → TyC σ5 v42_3 6 → 0 ≤ v42_6.toInt → v42_6.toInt ≤ 10 → v7_2.toInt < 20000 → G 42 [(0, .inr (.inr (some p0))), (2, .inl v7_2), (3, .inr (.inr (some v42_3))), (4, .inr (.inl v42_4)), (6, .inl v42_6)] [] σ5 := by
          intro n42
          induction n42 using Nat.strongRecOn with
          | _ n42 ih42 =>
            intro σ5 v42_3 v42_4 v42_6 n42_ H6 e7 h8 h9 h10 h11
            refine hB _ _ _ _ (kgoC (is := KX2_assignAll_42) rfl ?_)
            refine k_iload rfl ?_
            refine k_aload_n rfl ?_
            obtain ⟨x14, e12, c13, h15, h16⟩ := cg185 H6.1 h8
            refine k_get kg185 h8 e12 ?_
            refine k_ic_ge (fun h17 => ?_) (fun h17 => ?_)
            · refine hB _ _ _ _ (kgoC (is := KX2_assignAll_72) rfl ?_)
              refine k_aload_n rfl ?_
              refine k_aload_n rfl ?_
              obtain ⟨a20, e18, c19, t21, k22⟩ := cg186 H6.1 h8
              refine k_get kg186 h8 e18 ?_
              refine k_lload rfl ?_
              have t23 := h_0_0.x e3
              have t24 := t23.x e7
              refine k_inv (P := (P_X2_assign 61)) (Q := Q_X2_assign) rfl rfl rfl rfl (Nat.le_of_ble_eq_true rfl) (t24.rc (by decide)) ⟨_, _, _, rfl, H6, t24, t21, (RkC.top H6 t21)⟩ (fun w25 σ26 q27 => ?_)
              obtain ⟨y28, rfl, H29, e30⟩ := q27
              refine k_st (st' := [.inr (.inl y28)]) rfl ?_
              refine k_pop2 ?_
              have z34 := tiC v7_2
              obtain ⟨x31, e33, h32⟩ := iincC (n := 1) (m := 1) (v := v7_2) rfl (by omega) (by omega)
              refine k_iinc (ls' := [(2, .inl x31), (0, .inr (.inr (some p0))), (3, .inr (.inr (some v42_3))), (4, .inr (.inl v42_4)), (6, .inl v42_6)]) rfl e33 rfl ?_
              refine k_goto ?_
              have X35 : ExC [90, 94, 217, 218] σ0 σ1 := ExC.rf.tr (e3.mo (by decide))
              have X36 : ExC [90, 94, 217, 218] σ0 σ5 := X35.tr (e7.mo (by decide))
              have X37 : ExC [90, 94, 217, 218] σ0 σ26 := X36.tr (e30.mo (by decide))
              exact hW _ _ _ _ _ (List.forall_mem_cons.2 ⟨List.Mem.tail _ (List.Mem.head _), (List.forall_mem_cons.2 ⟨List.Mem.head _, fun _ h => absurd h List.not_mem_nil⟩)⟩) (ih7 ((2147483647 - x31.toInt).toNat) (by omega) σ26 x31 rfl H29 X37 (by omega))
            · refine k_nil ?_
              refine hB _ _ _ _ (kgoC (is := KX2_assignAll_51) rfl ?_)
              refine k_lload rfl ?_
              refine k_aload_n rfl ?_
              obtain ⟨x40, e38, c39, h41, h42⟩ := cg184 H6.1 h8
              refine k_get kg184 h8 e38 ?_
              refine k_iload rfl ?_
              have z45 := tiC x40
              refine k_iadd_u (fun x43 => ?_)
              refine k_stat (P := P_X11_bit) (Q := Q_X11_bit) rfl rfl (Nat.le_of_ble_eq_true rfl) rfl rfl (Nat.le_of_ble_eq_true rfl) ⟨_, rfl, H6⟩ (fun w46 σ47 q48 => ?_)
              obtain ⟨y49, rfl, rfl⟩ := q48
              refine k_st (st' := [.inr (.inl y49), .inr (.inl v42_4)]) rfl ?_
              refine k_lor (fun y50 => ?_)
              refine k_lstore (ls' := [(4, .inr (.inl y50)), (0, .inr (.inr (some p0))), (2, .inl v7_2), (3, .inr (.inr (some v42_3))), (6, .inl v42_6)]) rfl ?_
              obtain ⟨x51, e53, h52⟩ := iincC (n := 1) (m := 1) (v := v42_6) rfl (by omega) (by omega)
              refine k_iinc (ls' := [(6, .inl x51), (4, .inr (.inl y50)), (0, .inr (.inr (some p0))), (2, .inl v7_2), (3, .inr (.inr (some v42_3)))]) rfl e53 rfl ?_
              refine k_goto ?_
              have X54 : ExC [90, 94, 217, 218] σ1 σ5 := ExC.rf.tr (e7.mo (by decide))
              exact hW _ _ _ _ _ (List.forall_mem_cons.2 ⟨List.Mem.tail _ (List.Mem.tail _ (List.Mem.head _)), (List.forall_mem_cons.2 ⟨List.Mem.tail _ (List.Mem.tail _ (List.Mem.tail _ (List.Mem.head _))), (List.forall_mem_cons.2 ⟨List.Mem.tail _ (List.Mem.tail _ (List.Mem.tail _ (List.Mem.tail _ (List.Mem.head _)))), (List.forall_mem_cons.2 ⟨List.Mem.tail _ (List.Mem.head _), (List.forall_mem_cons.2 ⟨List.Mem.head _, fun _ h => absurd h List.not_mem_nil⟩)⟩)⟩)⟩)⟩) (ih42 ((2147483647 - x51.toInt).toNat) (by omega) σ5 v42_3 y50 x51 rfl H6 X54 h8 (by omega) (by omega) (by omega))
        refine hB _ _ _ _ (kgoC (is := KX2_assignAll_7) rfl ?_)
        refine k_iload_n rfl ?_
        refine k_aload_n rfl ?_
        have t55 := h_0_0.x e3
        obtain ⟨a58, e56, c57, t59⟩ := cg90 H2.1 t55
        refine k_get kg90 t55 e56 ?_
        obtain ⟨a62, e60, c61, t63, l64⟩ := cg211 H2.1 t59
        refine k_get kg211 t59 e60 ?_
        refine k_inv (P := P_Jx4a65c_size_8abf5) (Q := Q_Jx4a65c_size_8abf5) rfl rfl rfl rfl (Nat.le_of_ble_eq_true rfl) (t63.rc (by decide)) ⟨_, rfl, H2, t63⟩ (fun w65 σ66 q67 => ?_)
        obtain ⟨x68, rfl, rfl, h69, h70, q71, q72⟩ := q67
        refine k_st (st' := [.inl x68, .inl v7_2]) rfl ?_
        have z73 := q72 l64
        refine k_ic_ge (fun h74 => ?_) (fun h74 => ?_)
        · refine hB _ _ _ _ (kgoC (is := KX2_assignAll_89) rfl ?_)
          refine k_return ?_
          have X75 : ExC [90, 94, 217, 218] σ0 σ1 := ExC.rf.tr (e3.mo (by decide))
          exact ⟨rfl, H2, X75⟩
        · refine k_nil ?_
          refine hB _ _ _ _ (kgoC (is := KX2_assignAll_21) rfl ?_)
          refine k_aload_n rfl ?_
          refine k_get kg90 t55 (congrArg (fun z : Option Nat => (Sum.inr (Sum.inr z) : AvC)) c57) ?_
          refine k_get kg211 t59 (congrArg (fun z : Option Nat => (Sum.inr (Sum.inr z) : AvC)) c61) ?_
          refine k_iload_n rfl ?_
          have z76 := congrArg Int32.toInt q71
          refine k_inv (P := P_Jx4a65c_get_915e3) (Q := Q_Jx4a65c_get_915e3) rfl rfl rfl rfl (Nat.le_of_ble_eq_true rfl) (t63.rc (by decide)) ⟨_, _, rfl, H2, t63, (by omega), (by omega)⟩ (fun w77 σ78 q79 => ?_)
          obtain ⟨a80, rfl, rfl, h81⟩ := q79
          rw [l64] at h81
          have t82 := h81.1
          obtain ⟨x83, e84, c85, h86, h87⟩ := cg180 H2.1 t82
          have h88 : 0 ≤ x83.toInt := by rw [← c85]; exact h81.2.2 rfl
          refine k_st (st' := [.inr (.inr (some a80))]) rfl ?_
          refine k_castS (t82.ob (by decide)) ?_
          refine k_astore_n (ls' := [(3, .inr (.inr (some a80))), (0, .inr (.inr (some p0))), (2, .inl v7_2)]) rfl ?_
          refine k_lconst ?_
          refine k_lstore (ls' := [(4, .inr (.inl (Int64.ofNat ((0 : Fin 2) : Nat)))), (3, .inr (.inr (some a80))), (0, .inr (.inr (some p0))), (2, .inl v7_2)]) rfl ?_
          refine k_iconst (m := 0) rfl (fun x89 h90 => ?_)
          refine k_istore (ls' := [(6, .inl x89), (4, .inr (.inl (Int64.ofNat ((0 : Fin 2) : Nat)))), (3, .inr (.inr (some a80))), (0, .inr (.inr (some p0))), (2, .inl v7_2)]) rfl ?_
          refine k_nil ?_
          exact hW _ _ _ _ _ (List.forall_mem_cons.2 ⟨List.Mem.tail _ (List.Mem.tail _ (List.Mem.tail _ (List.Mem.head _))), (List.forall_mem_cons.2 ⟨List.Mem.tail _ (List.Mem.tail _ (List.Mem.tail _ (List.Mem.tail _ (List.Mem.head _)))), (List.forall_mem_cons.2 ⟨List.Mem.tail _ (List.Mem.tail _ (List.Mem.head _)), (List.forall_mem_cons.2 ⟨List.Mem.tail _ (List.Mem.head _), (List.forall_mem_cons.2 ⟨List.Mem.head _, fun _ h => absurd h List.not_mem_nil⟩)⟩)⟩)⟩)⟩) (L42 _ σ1 a80 (Int64.ofNat ((0 : Fin 2) : Nat)) x89 rfl H2 ExC.rf t82 (by omega) (by omega) (by omega))
    refine hB _ _ _ _ (kgoC (is := KX2_assignAll_0) rfl ?_)
    refine k_aload_n rfl ?_
    refine k_aload_n rfl ?_
    refine k_putR kp90 H0 h_0_0 fk90 (rf90 h_1_0) (fun σ91 H92 e93 c94 => ?_)
    refine k_iconst (m := 0) rfl (fun x95 h96 => ?_)
    refine k_istore_n (ls' := [(2, .inl x95), (0, .inr (.inr (some p0))), (1, .inr (.inr (some p1)))]) rfl ?_
    refine k_nil ?_
    have X97 : ExC [90, 94, 217, 218] σ0 σ91 := ExC.rf.tr (e93.mo (by decide))
    exact hW _ _ _ _ _ (List.forall_mem_cons.2 ⟨List.Mem.tail _ (List.Mem.head _), (List.forall_mem_cons.2 ⟨List.Mem.head _, fun _ h => absurd h List.not_mem_nil⟩)⟩) (L7 _ σ91 x95 rfl H92 X97 (by omega))
theorem lg_X2_assignAll : ∀ (As : List AvC) (σ : CsC), P_X2_assignAll As σ → lgC As ≤ rX2_assignAll.2.2.1 := by
  rintro As σ ⟨p0, p1, rfl, -⟩
  exact Nat.le_of_ble_eq_true rfl
theorem m_X2_assignAll (l : Launch) : CMetC l 513 28 P_X2_assignAll Q_X2_assignAll :=
  CMetC.of KX2_assignAll [(234, P_Jx4a65c_size_8abf5, Q_Jx4a65c_size_8abf5), (235, P_Jx4a65c_get_915e3, Q_Jx4a65c_get_915e3), (29, (P_X2_assign 61), Q_X2_assign), (222, P_X11_bit, Q_X11_bit)] hX2_assignAll (by decide) (by decide) okX2_assignAll (cc1C (m_Jx4a65c_size_8abf5 l) (by decide) (cc1C (m_Jx4a65c_get_915e3 l) (by decide) (cc1C (m_X2_assign l 61) (by decide) (cc1C (m_X11_bit l) (by decide) cc0C)))) (lg_X2_assignAll) (b_X2_assignAll)

abbrev P_X0_lay : CpC := fun As σ => ∃ (p0 : Nat) (p1 : Nat), As = [.inr (.inr (some p0)), .inr (.inr (some p1))] ∧ HIC σ ∧ TyC σ p0 1 ∧ TyC σ p1 7
abbrev Q_X0_lay : CqC := fun As σ w τ => match As with
  | [.inr (.inr (some p0)), .inr (.inr (some p1))] => w = none ∧ HIC τ ∧ ExC [34, 35, 36, 77, 289, 290] σ τ
  | _ => False
set_option maxRecDepth 100000 in
set_option maxHeartbeats 4000000 in
theorem b_X0_lay : TbC KX0_lay [(234, P_Jx4a65c_size_8abf5, Q_Jx4a65c_size_8abf5), (235, P_Jx4a65c_get_915e3, Q_Jx4a65c_get_915e3), (4, (P_X0_layBody 61), Q_X0_layBody), (2, P_X0_put, Q_X0_put)] P_X0_lay Q_X0_lay := by
  · rintro As σ0 ⟨p0, p1, rfl, H0, h_0_0, h_1_0⟩ hgr G hB hW
    change G 0 [(0, .inr (.inr (some p0))), (1, .inr (.inr (some p1)))] [] σ0
    have L12 : ∀ (n12 : Nat), ∀ (σ1 : CsC) (v12_2 : Int32), (2147483647 - v12_2.toInt).toNat = n12 → HIC σ1 → ExC [34, 35, 36, 77, 289, 290] σ0 σ1 → 0 ≤ v12_2.toInt → v12_2.toInt ≤ 502 → G 12 [(0, .inr (.inr (some p0))), (2, .inl v12_2)] [] σ1 := by
      intro n12
      induction n12 using Nat.strongRecOn with
      | _ n12 ih12 =>
        intro σ1 v12_2 n12_ H2 e3 h4 h5
        refine hB _ _ _ _ (kgoC (is := KX0_lay_12) rfl ?_)
        refine k_iload_n rfl ?_
        refine k_aload_n rfl ?_
        have t6 := h_0_0.x e3
        obtain ⟨a9, e7, c8, t10⟩ := cg35 H2.1 t6
        refine k_get kg35 t6 e7 ?_
        obtain ⟨a13, e11, c12, t14, l15⟩ := cg211 H2.1 t10
        refine k_get kg211 t10 e11 ?_
        refine k_inv (P := P_Jx4a65c_size_8abf5) (Q := Q_Jx4a65c_size_8abf5) rfl rfl rfl rfl (Nat.le_of_ble_eq_true rfl) (t14.rc (by decide)) ⟨_, rfl, H2, t14⟩ (fun w16 σ17 q18 => ?_)
        obtain ⟨x19, rfl, rfl, h20, h21, q22, q23⟩ := q18
        refine k_st (st' := [.inl x19, .inl v12_2]) rfl ?_
        have z24 := q23 l15
        refine k_ic_ge (fun h25 => ?_) (fun h25 => ?_)
        · refine hB _ _ _ _ (kgoC (is := KX0_lay_71) rfl ?_)
          refine k_return ?_
          have X26 : ExC [34, 35, 36, 77, 289, 290] σ0 σ1 := ExC.rf.tr (e3.mo (by decide))
          exact ⟨rfl, H2, X26⟩
        · refine k_nil ?_
          refine hB _ _ _ _ (kgoC (is := KX0_lay_26) rfl ?_)
          refine k_aload_n rfl ?_
          refine k_get kg35 t6 (congrArg (fun z : Option Nat => (Sum.inr (Sum.inr z) : AvC)) c8) ?_
          refine k_get kg211 t10 (congrArg (fun z : Option Nat => (Sum.inr (Sum.inr z) : AvC)) c12) ?_
          refine k_iload_n rfl ?_
          have z27 := congrArg Int32.toInt q22
          refine k_inv (P := P_Jx4a65c_get_915e3) (Q := Q_Jx4a65c_get_915e3) rfl rfl rfl rfl (Nat.le_of_ble_eq_true rfl) (t14.rc (by decide)) ⟨_, _, rfl, H2, t14, (by omega), (by omega)⟩ (fun w28 σ29 q30 => ?_)
          obtain ⟨a31, rfl, rfl, h32⟩ := q30
          rw [l15] at h32
          have t33 := h32.1
          obtain ⟨x34, e35, c36, h37, h38⟩ := cg180 H2.1 t33
          have h39 : 0 ≤ x34.toInt := by rw [← c36]; exact h32.2.2 rfl
          refine k_st (st' := [.inr (.inr (some a31))]) rfl ?_
          refine k_castS (t33.ob (by decide)) ?_
          refine k_astore_n (ls' := [(3, .inr (.inr (some a31))), (0, .inr (.inr (some p0))), (2, .inl v12_2)]) rfl ?_
          refine k_aload_n rfl ?_
          refine k_aload_n rfl ?_
          obtain ⟨a42, e40, c41, t43, k44⟩ := cg186 H2.1 t33
          refine k_get kg186 t33 e40 ?_
          refine k_inv (P := (P_X0_layBody 61)) (Q := Q_X0_layBody) rfl rfl rfl rfl (Nat.le_of_ble_eq_true rfl) (t6.rc (by decide)) ⟨_, _, rfl, H2, t6, t43, (RkC.top H2 t43), (by rw [k44]; decide)⟩ (fun w45 σ46 q47 => ?_)
          obtain ⟨rfl, H48, e49⟩ := q47
          refine k_st (st' := []) rfl ?_
          refine k_aload_n rfl ?_
          refine k_aload_n rfl ?_
          have t50 := t33.x e49
          have c51 := (t33.mr e49 (by decide)).trans c41
          refine k_get kg186 t50 (congrArg (fun z : Option Nat => (Sum.inr (Sum.inr z) : AvC)) c51) ?_
          have t52 := t6.x e49
          have t57 := t43.x e49
          refine k_putR kp36 H48 t52 fk36 (rf36 t57) (fun σ53 H54 e55 c56 => ?_)
          refine k_aload_n rfl ?_
          refine k_bipush (m := 23) rfl (fun x58 h59 => ?_)
          refine k_aconst_null ?_
          have t60 := t52.x e55
          refine k_inv (P := P_X0_put) (Q := Q_X0_put) rfl rfl rfl rfl (Nat.le_of_ble_eq_true rfl) (t60.rc (by decide)) ⟨_, _, none, rfl, H54, t60, OtC.n⟩ (fun w61 σ62 q63 => ?_)
          obtain ⟨x64, rfl, H65, e66, h67, h68⟩ := q63
          refine k_st (st' := [.inl x64]) rfl ?_
          refine k_popI ?_
          obtain ⟨x69, e71, h70⟩ := iincC (n := 1) (m := 1) (v := v12_2) rfl (by omega) (by omega)
          refine k_iinc (ls' := [(2, .inl x69), (3, .inr (.inr (some a31))), (0, .inr (.inr (some p0)))]) rfl e71 rfl ?_
          refine k_goto ?_
          have X72 : ExC [34, 35, 36, 77, 289, 290] σ0 σ1 := ExC.rf.tr (e3.mo (by decide))
          have X73 : ExC [34, 35, 36, 77, 289, 290] σ0 σ46 := X72.tr (e49.mo (by decide))
          have X74 : ExC [34, 35, 36, 77, 289, 290] σ0 σ53 := X73.tr (e55.mo (by decide))
          have X75 : ExC [34, 35, 36, 77, 289, 290] σ0 σ62 := X74.tr (e66.mo (by decide))
          exact hW _ _ _ _ _ (List.forall_mem_cons.2 ⟨List.Mem.tail _ (List.Mem.tail _ (List.Mem.head _)), (List.forall_mem_cons.2 ⟨List.Mem.head _, fun _ h => absurd h List.not_mem_nil⟩)⟩) (ih12 ((2147483647 - x69.toInt).toNat) (by omega) σ62 x69 rfl H65 X75 (by omega) (by omega))
    refine hB _ _ _ _ (kgoC (is := KX0_lay_0) rfl ?_)
    refine k_aload_n rfl ?_
    refine k_aload_n rfl ?_
    refine k_putR kp35 H0 h_0_0 fk35 (rf35 h_1_0) (fun σ76 H77 e78 c79 => ?_)
    refine k_aload_n rfl ?_
    refine k_iconst (m := 0) rfl (fun x80 h81 => ?_)
    have t82 := h_0_0.x e78
    refine k_putI kp34 H77 t82 (Or.inl fk34) (by show 0 ≤ _; omega) (by show _ ≤ 1000; omega) (fun σ83 H84 e85 c86 => ?_)
    refine k_iconst (m := 0) rfl (fun x87 h88 => ?_)
    refine k_istore_n (ls' := [(2, .inl x87), (0, .inr (.inr (some p0))), (1, .inr (.inr (some p1)))]) rfl ?_
    refine k_nil ?_
    have X89 : ExC [34, 35, 36, 77, 289, 290] σ0 σ76 := ExC.rf.tr (e78.mo (by decide))
    have X90 : ExC [34, 35, 36, 77, 289, 290] σ0 σ83 := X89.tr (e85.mo (by decide))
    exact hW _ _ _ _ _ (List.forall_mem_cons.2 ⟨List.Mem.tail _ (List.Mem.head _), (List.forall_mem_cons.2 ⟨List.Mem.head _, fun _ h => absurd h List.not_mem_nil⟩)⟩) (L12 _ σ83 x87 rfl H84 X90 (by omega) (by omega))
theorem lg_X0_lay : ∀ (As : List AvC) (σ : CsC), P_X0_lay As σ → lgC As ≤ rX0_lay.2.2.1 := by
  rintro As σ ⟨p0, p1, rfl, -⟩
  exact Nat.le_of_ble_eq_true rfl
theorem m_X0_lay (l : Launch) : CMetC l 510 1 P_X0_lay Q_X0_lay :=
  CMetC.of KX0_lay [(234, P_Jx4a65c_size_8abf5, Q_Jx4a65c_size_8abf5), (235, P_Jx4a65c_get_915e3, Q_Jx4a65c_get_915e3), (4, (P_X0_layBody 61), Q_X0_layBody), (2, P_X0_put, Q_X0_put)] hX0_lay (by decide) (by decide) okX0_lay (cc1C (m_Jx4a65c_size_8abf5 l) (by decide) (cc1C (m_Jx4a65c_get_915e3 l) (by decide) (cc1C (m_X0_layBody l 61) (by decide) (cc1C (m_X0_put l) (by decide) cc0C)))) (lg_X0_lay) (b_X0_lay)

abbrev P_X3_judgeMethod : CpC := fun As σ => ∃ (p0 : Nat) (p1 : Int32), As = [.inr (.inr (some p0)), .inl p1] ∧ HIC σ ∧ TyC σ p0 4 ∧ 0 ≤ p1.toInt ∧ (∀ q m, fRC σ p0 121 = some q → fRC σ q 211 = some m → p1.toInt < (fIC σ m 2).toInt)
abbrev Q_X3_judgeMethod : CqC := fun As σ w τ => match As with
  | [.inr (.inr (some p0)), .inl p1] => w = none ∧ HIC τ ∧ ExC [217, 218] σ τ
  | _ => False
set_option maxRecDepth 100000 in
set_option maxHeartbeats 4000000 in
theorem b_X3_judgeMethod : TbC KX3_judgeMethod [(235, P_Jx4a65c_get_915e3, Q_Jx4a65c_get_915e3), (119, P_X6_methodOf, Q_X6_methodOf), (113, P_X5_hasSameParams, Q_X5_hasSameParams), (118, P_X6_tell, Q_X6_tell)] P_X3_judgeMethod Q_X3_judgeMethod := by
  · rintro As σ0 ⟨p0, p1, rfl, H0, h_0_0, q_0, q_1⟩ hgr G hB hW
    change G 0 [(0, .inr (.inr (some p0))), (1, .inl p1)] [] σ0
    have L17 : ∀ (n17 : Nat), ∀ (σ1 : CsC) (v17_2 : Nat) (v17_3 : Int32), (2147483647 - v17_3.toInt).toNat = n17 → HIC σ1 → ExC [217, 218] σ0 σ1 → TyC σ1 v17_2 6 → 0 ≤ v17_3.toInt → v17_3.toInt ≤ 24 → 0 ≤ (fIC σ1 v17_2 180).toInt → G 17 [(0, .inr (.inr (some p0))), (1, .inl p1), (2, .inr (.inr (some v17_2))), (3, .inl v17_3)] [] σ1 := by
      intro n17
      induction n17 using Nat.strongRecOn with
      | _ n17 ih17 =>
        intro σ1 v17_2 v17_3 n17_ H2 e3 h4 h5 h6 h7
        obtain ⟨x8, e9, c10, h11, h12⟩ := cg180 H2.1 h4
        rw [c10] at h7
        refine hB _ _ _ _ (kgoC (is := KX3_judgeMethod_17) rfl ?_)
        refine k_iload_n rfl ?_
        refine k_bipush (m := 11) rfl (fun x13 h14 => ?_)
        refine k_ic_gt (fun h15 => ?_) (fun h15 => ?_)
        · refine hB _ _ _ _ (kgoC (is := KX3_judgeMethod_93) rfl ?_)
          refine k_return ?_
          have X16 : ExC [217, 218] σ0 σ1 := ExC.rf.tr (e3.mo (by decide))
          exact ⟨rfl, H2, X16⟩
        · refine k_nil ?_
          refine hB _ _ _ _ (kgoC (is := KX3_judgeMethod_23) rfl ?_)
          refine k_iload_n rfl ?_
          refine k_iload_n rfl ?_
          refine k_ic_lt (fun h17 => ?_) (fun h17 => ?_)
          · refine hB _ _ _ _ (kgoC (is := KX3_judgeMethod_34) rfl ?_)
            refine k_aload_n rfl ?_
            have t18 := h_0_0.x e3
            obtain ⟨a21, e19, c20, t22⟩ := cg121 H2.1 t18
            refine k_get kg121 t18 e19 ?_
            refine k_iload_n rfl ?_
            refine k_inv (P := P_X6_methodOf) (Q := Q_X6_methodOf) rfl rfl rfl rfl (Nat.le_of_ble_eq_true rfl) (t22.rc (by decide)) ⟨_, _, rfl, H2, t22⟩ (fun w23 σ24 q25 => ?_)
            obtain ⟨o26, rfl, rfl, h27⟩ := q25
            refine k_st (st' := [.inr (.inr o26)]) rfl ?_
            refine k_goto ?_
            refine hB _ _ _ _ (kgoC (is := KX3_judgeMethod_46) rfl ?_)
            refine k_astore (ls' := [(4, .inr (.inr o26)), (0, .inr (.inr (some p0))), (1, .inl p1), (2, .inr (.inr (some v17_2))), (3, .inl v17_3)]) rfl ?_
            refine k_aload rfl ?_
            refine k_ifnull (fun h29 => ?_) (fun b28 h29 => ?_)
            · subst h29
              refine hB _ _ _ _ (kgoC (is := KX3_judgeMethod_87) rfl ?_)
              obtain ⟨x30, e32, h31⟩ := iincC (n := 1) (m := 1) (v := v17_3) rfl (by omega) (by omega)
              refine k_iinc (ls' := [(3, .inl x30), (4, .inr (.inr none)), (0, .inr (.inr (some p0))), (1, .inl p1), (2, .inr (.inr (some v17_2)))]) rfl e32 rfl ?_
              refine k_goto ?_
              have X33 : ExC [217, 218] σ0 σ1 := ExC.rf.tr (e3.mo (by decide))
              exact hW _ _ _ _ _ (List.forall_mem_cons.2 ⟨List.Mem.tail _ (List.Mem.tail _ (List.Mem.head _)), (List.forall_mem_cons.2 ⟨List.Mem.tail _ (List.Mem.tail _ (List.Mem.tail _ (List.Mem.head _))), (List.forall_mem_cons.2 ⟨List.Mem.tail _ (List.Mem.tail _ (List.Mem.tail _ (List.Mem.tail _ (List.Mem.head _)))), (List.forall_mem_cons.2 ⟨List.Mem.head _, fun _ h => absurd h List.not_mem_nil⟩)⟩)⟩)⟩) (ih17 ((2147483647 - x30.toInt).toNat) (by omega) σ1 v17_2 x30 rfl H2 X33 h4 (by omega) (by omega) (by rw [c10]; omega))
            · subst h29
              have t34 := h27 b28 rfl
              refine k_nil ?_
              refine hB _ _ _ _ (kgoC (is := KX3_judgeMethod_53) rfl ?_)
              refine k_aload rfl ?_
              obtain ⟨y37, e35, c36⟩ := cg181 (σ := σ1) (a := b28)
              refine k_get kg181 t34 e35 ?_
              refine k_aload_n rfl ?_
              obtain ⟨y40, e38, c39⟩ := cg181 (σ := σ1) (a := v17_2)
              refine k_get kg181 h4 e38 ?_
              refine k_lcmp (fun x41 h42 g43 => ?_)
              refine k_if_ne (fun h44 => ?_) (fun h44 => ?_)
              · refine hB _ _ _ _ (kgoC (is := KX3_judgeMethod_87) rfl ?_)
                obtain ⟨x45, e47, h46⟩ := iincC (n := 1) (m := 1) (v := v17_3) rfl (by omega) (by omega)
                refine k_iinc (ls' := [(3, .inl x45), (4, .inr (.inr (some b28))), (0, .inr (.inr (some p0))), (1, .inl p1), (2, .inr (.inr (some v17_2)))]) rfl e47 rfl ?_
                refine k_goto ?_
                have X48 : ExC [217, 218] σ0 σ1 := ExC.rf.tr (e3.mo (by decide))
                exact hW _ _ _ _ _ (List.forall_mem_cons.2 ⟨List.Mem.tail _ (List.Mem.tail _ (List.Mem.head _)), (List.forall_mem_cons.2 ⟨List.Mem.tail _ (List.Mem.tail _ (List.Mem.tail _ (List.Mem.head _))), (List.forall_mem_cons.2 ⟨List.Mem.tail _ (List.Mem.tail _ (List.Mem.tail _ (List.Mem.tail _ (List.Mem.head _)))), (List.forall_mem_cons.2 ⟨List.Mem.head _, fun _ h => absurd h List.not_mem_nil⟩)⟩)⟩)⟩) (ih17 ((2147483647 - x45.toInt).toNat) (by omega) σ1 v17_2 x45 rfl H2 X48 h4 (by omega) (by omega) (by rw [c10]; omega))
              · refine k_nil ?_
                refine hB _ _ _ _ (kgoC (is := KX3_judgeMethod_66) rfl ?_)
                refine k_aload rfl ?_
                refine k_aload_n rfl ?_
                refine k_inv (P := P_X5_hasSameParams) (Q := Q_X5_hasSameParams) rfl rfl rfl rfl (Nat.le_of_ble_eq_true rfl) (t34.rc (by decide)) ⟨_, _, rfl, H2, t34, h4⟩ (fun w49 σ50 q51 => ?_)
                obtain ⟨x52, rfl, rfl, h53, h54⟩ := q51
                refine k_st (st' := [.inl x52]) rfl ?_
                refine k_if_eq (fun h55 => ?_) (fun h55 => ?_)
                · refine hB _ _ _ _ (kgoC (is := KX3_judgeMethod_87) rfl ?_)
                  obtain ⟨x56, e58, h57⟩ := iincC (n := 1) (m := 1) (v := v17_3) rfl (by omega) (by omega)
                  refine k_iinc (ls' := [(3, .inl x56), (4, .inr (.inr (some b28))), (0, .inr (.inr (some p0))), (1, .inl p1), (2, .inr (.inr (some v17_2)))]) rfl e58 rfl ?_
                  refine k_goto ?_
                  have X59 : ExC [217, 218] σ0 σ1 := ExC.rf.tr (e3.mo (by decide))
                  exact hW _ _ _ _ _ (List.forall_mem_cons.2 ⟨List.Mem.tail _ (List.Mem.tail _ (List.Mem.head _)), (List.forall_mem_cons.2 ⟨List.Mem.tail _ (List.Mem.tail _ (List.Mem.tail _ (List.Mem.head _))), (List.forall_mem_cons.2 ⟨List.Mem.tail _ (List.Mem.tail _ (List.Mem.tail _ (List.Mem.tail _ (List.Mem.head _)))), (List.forall_mem_cons.2 ⟨List.Mem.head _, fun _ h => absurd h List.not_mem_nil⟩)⟩)⟩)⟩) (ih17 ((2147483647 - x56.toInt).toNat) (by omega) σ1 v17_2 x56 rfl H2 X59 h4 (by omega) (by omega) (by rw [c10]; omega))
                · refine k_nil ?_
                  refine hB _ _ _ _ (kgoC (is := KX3_judgeMethod_75) rfl ?_)
                  refine k_aload_n rfl ?_
                  refine k_get kg121 t18 (congrArg (fun z : Option Nat => (Sum.inr (Sum.inr z) : AvC)) c20) ?_
                  refine k_iconst (m := 1) rfl (fun x60 h61 => ?_)
                  refine k_aload_n rfl ?_
                  refine k_get kg180 h4 (congrArg (Sum.inl : Int32 → AvC) c10) ?_
                  refine k_inv (P := P_X6_tell) (Q := Q_X6_tell) rfl rfl rfl rfl (Nat.le_of_ble_eq_true rfl) (t22.rc (by decide)) ⟨_, _, _, rfl, H2, t22, (by omega), (by omega), (by omega), (by omega)⟩ (fun w62 σ63 q64 => ?_)
                  obtain ⟨rfl, H65, e66⟩ := q64
                  refine k_st (st' := []) rfl ?_
                  refine k_nil ?_
                  refine hB _ _ _ _ (kgoC (is := KX3_judgeMethod_87) rfl ?_)
                  obtain ⟨x67, e69, h68⟩ := iincC (n := 1) (m := 1) (v := v17_3) rfl (by omega) (by omega)
                  refine k_iinc (ls' := [(3, .inl x67), (4, .inr (.inr (some b28))), (0, .inr (.inr (some p0))), (1, .inl p1), (2, .inr (.inr (some v17_2)))]) rfl e69 rfl ?_
                  refine k_goto ?_
                  have t70 := h4.x e66
                  have c71 := (h4.mi e66 (by decide)).trans c10
                  have X72 : ExC [217, 218] σ0 σ1 := ExC.rf.tr (e3.mo (by decide))
                  have X73 : ExC [217, 218] σ0 σ63 := X72.tr (e66.mo (by decide))
                  exact hW _ _ _ _ _ (List.forall_mem_cons.2 ⟨List.Mem.tail _ (List.Mem.tail _ (List.Mem.head _)), (List.forall_mem_cons.2 ⟨List.Mem.tail _ (List.Mem.tail _ (List.Mem.tail _ (List.Mem.head _))), (List.forall_mem_cons.2 ⟨List.Mem.tail _ (List.Mem.tail _ (List.Mem.tail _ (List.Mem.tail _ (List.Mem.head _)))), (List.forall_mem_cons.2 ⟨List.Mem.head _, fun _ h => absurd h List.not_mem_nil⟩)⟩)⟩)⟩) (ih17 ((2147483647 - x67.toInt).toNat) (by omega) σ63 v17_2 x67 rfl H65 X73 t70 (by omega) (by omega) (by rw [c71]; omega))
          · refine k_nil ?_
            refine hB _ _ _ _ (kgoC (is := KX3_judgeMethod_28) rfl ?_)
            refine k_iload_n rfl ?_
            refine k_bipush (m := 10) rfl (fun x74 h75 => ?_)
            refine k_ic_lt (fun h76 => ?_) (fun h76 => ?_)
            · refine hB _ _ _ _ (kgoC (is := KX3_judgeMethod_45) rfl ?_)
              refine k_aconst_null ?_
              refine k_nil ?_
              refine hB _ _ _ _ (kgoC (is := KX3_judgeMethod_46) rfl ?_)
              refine k_astore (ls' := [(4, .inr (.inr none)), (0, .inr (.inr (some p0))), (1, .inl p1), (2, .inr (.inr (some v17_2))), (3, .inl v17_3)]) rfl ?_
              refine k_aload rfl ?_
              refine k_ifnull (fun _ => ?_) (fun _ hz => by cases hz)
              refine hB _ _ _ _ (kgoC (is := KX3_judgeMethod_87) rfl ?_)
              obtain ⟨x77, e79, h78⟩ := iincC (n := 1) (m := 1) (v := v17_3) rfl (by omega) (by omega)
              refine k_iinc (ls' := [(3, .inl x77), (4, .inr (.inr none)), (0, .inr (.inr (some p0))), (1, .inl p1), (2, .inr (.inr (some v17_2)))]) rfl e79 rfl ?_
              refine k_goto ?_
              have X80 : ExC [217, 218] σ0 σ1 := ExC.rf.tr (e3.mo (by decide))
              exact hW _ _ _ _ _ (List.forall_mem_cons.2 ⟨List.Mem.tail _ (List.Mem.tail _ (List.Mem.head _)), (List.forall_mem_cons.2 ⟨List.Mem.tail _ (List.Mem.tail _ (List.Mem.tail _ (List.Mem.head _))), (List.forall_mem_cons.2 ⟨List.Mem.tail _ (List.Mem.tail _ (List.Mem.tail _ (List.Mem.tail _ (List.Mem.head _)))), (List.forall_mem_cons.2 ⟨List.Mem.head _, fun _ h => absurd h List.not_mem_nil⟩)⟩)⟩)⟩) (ih17 ((2147483647 - x77.toInt).toNat) (by omega) σ1 v17_2 x77 rfl H2 X80 h4 (by omega) (by omega) (by rw [c10]; omega))
            · refine k_nil ?_
              refine hB _ _ _ _ (kgoC (is := KX3_judgeMethod_34) rfl ?_)
              refine k_aload_n rfl ?_
              have t81 := h_0_0.x e3
              obtain ⟨a84, e82, c83, t85⟩ := cg121 H2.1 t81
              refine k_get kg121 t81 e82 ?_
              refine k_iload_n rfl ?_
              refine k_inv (P := P_X6_methodOf) (Q := Q_X6_methodOf) rfl rfl rfl rfl (Nat.le_of_ble_eq_true rfl) (t85.rc (by decide)) ⟨_, _, rfl, H2, t85⟩ (fun w86 σ87 q88 => ?_)
              obtain ⟨o89, rfl, rfl, h90⟩ := q88
              refine k_st (st' := [.inr (.inr o89)]) rfl ?_
              refine k_goto ?_
              refine hB _ _ _ _ (kgoC (is := KX3_judgeMethod_46) rfl ?_)
              refine k_astore (ls' := [(4, .inr (.inr o89)), (0, .inr (.inr (some p0))), (1, .inl p1), (2, .inr (.inr (some v17_2))), (3, .inl v17_3)]) rfl ?_
              refine k_aload rfl ?_
              refine k_ifnull (fun h92 => ?_) (fun b91 h92 => ?_)
              · subst h92
                refine hB _ _ _ _ (kgoC (is := KX3_judgeMethod_87) rfl ?_)
                obtain ⟨x93, e95, h94⟩ := iincC (n := 1) (m := 1) (v := v17_3) rfl (by omega) (by omega)
                refine k_iinc (ls' := [(3, .inl x93), (4, .inr (.inr none)), (0, .inr (.inr (some p0))), (1, .inl p1), (2, .inr (.inr (some v17_2)))]) rfl e95 rfl ?_
                refine k_goto ?_
                have X96 : ExC [217, 218] σ0 σ1 := ExC.rf.tr (e3.mo (by decide))
                exact hW _ _ _ _ _ (List.forall_mem_cons.2 ⟨List.Mem.tail _ (List.Mem.tail _ (List.Mem.head _)), (List.forall_mem_cons.2 ⟨List.Mem.tail _ (List.Mem.tail _ (List.Mem.tail _ (List.Mem.head _))), (List.forall_mem_cons.2 ⟨List.Mem.tail _ (List.Mem.tail _ (List.Mem.tail _ (List.Mem.tail _ (List.Mem.head _)))), (List.forall_mem_cons.2 ⟨List.Mem.head _, fun _ h => absurd h List.not_mem_nil⟩)⟩)⟩)⟩) (ih17 ((2147483647 - x93.toInt).toNat) (by omega) σ1 v17_2 x93 rfl H2 X96 h4 (by omega) (by omega) (by rw [c10]; omega))
              · subst h92
                have t97 := h90 b91 rfl
                refine k_nil ?_
                refine hB _ _ _ _ (kgoC (is := KX3_judgeMethod_53) rfl ?_)
                refine k_aload rfl ?_
                obtain ⟨y100, e98, c99⟩ := cg181 (σ := σ1) (a := b91)
                refine k_get kg181 t97 e98 ?_
                refine k_aload_n rfl ?_
                obtain ⟨y103, e101, c102⟩ := cg181 (σ := σ1) (a := v17_2)
                refine k_get kg181 h4 e101 ?_
                refine k_lcmp (fun x104 h105 g106 => ?_)
                refine k_if_ne (fun h107 => ?_) (fun h107 => ?_)
                · refine hB _ _ _ _ (kgoC (is := KX3_judgeMethod_87) rfl ?_)
                  obtain ⟨x108, e110, h109⟩ := iincC (n := 1) (m := 1) (v := v17_3) rfl (by omega) (by omega)
                  refine k_iinc (ls' := [(3, .inl x108), (4, .inr (.inr (some b91))), (0, .inr (.inr (some p0))), (1, .inl p1), (2, .inr (.inr (some v17_2)))]) rfl e110 rfl ?_
                  refine k_goto ?_
                  have X111 : ExC [217, 218] σ0 σ1 := ExC.rf.tr (e3.mo (by decide))
                  exact hW _ _ _ _ _ (List.forall_mem_cons.2 ⟨List.Mem.tail _ (List.Mem.tail _ (List.Mem.head _)), (List.forall_mem_cons.2 ⟨List.Mem.tail _ (List.Mem.tail _ (List.Mem.tail _ (List.Mem.head _))), (List.forall_mem_cons.2 ⟨List.Mem.tail _ (List.Mem.tail _ (List.Mem.tail _ (List.Mem.tail _ (List.Mem.head _)))), (List.forall_mem_cons.2 ⟨List.Mem.head _, fun _ h => absurd h List.not_mem_nil⟩)⟩)⟩)⟩) (ih17 ((2147483647 - x108.toInt).toNat) (by omega) σ1 v17_2 x108 rfl H2 X111 h4 (by omega) (by omega) (by rw [c10]; omega))
                · refine k_nil ?_
                  refine hB _ _ _ _ (kgoC (is := KX3_judgeMethod_66) rfl ?_)
                  refine k_aload rfl ?_
                  refine k_aload_n rfl ?_
                  refine k_inv (P := P_X5_hasSameParams) (Q := Q_X5_hasSameParams) rfl rfl rfl rfl (Nat.le_of_ble_eq_true rfl) (t97.rc (by decide)) ⟨_, _, rfl, H2, t97, h4⟩ (fun w112 σ113 q114 => ?_)
                  obtain ⟨x115, rfl, rfl, h116, h117⟩ := q114
                  refine k_st (st' := [.inl x115]) rfl ?_
                  refine k_if_eq (fun h118 => ?_) (fun h118 => ?_)
                  · refine hB _ _ _ _ (kgoC (is := KX3_judgeMethod_87) rfl ?_)
                    obtain ⟨x119, e121, h120⟩ := iincC (n := 1) (m := 1) (v := v17_3) rfl (by omega) (by omega)
                    refine k_iinc (ls' := [(3, .inl x119), (4, .inr (.inr (some b91))), (0, .inr (.inr (some p0))), (1, .inl p1), (2, .inr (.inr (some v17_2)))]) rfl e121 rfl ?_
                    refine k_goto ?_
                    have X122 : ExC [217, 218] σ0 σ1 := ExC.rf.tr (e3.mo (by decide))
                    exact hW _ _ _ _ _ (List.forall_mem_cons.2 ⟨List.Mem.tail _ (List.Mem.tail _ (List.Mem.head _)), (List.forall_mem_cons.2 ⟨List.Mem.tail _ (List.Mem.tail _ (List.Mem.tail _ (List.Mem.head _))), (List.forall_mem_cons.2 ⟨List.Mem.tail _ (List.Mem.tail _ (List.Mem.tail _ (List.Mem.tail _ (List.Mem.head _)))), (List.forall_mem_cons.2 ⟨List.Mem.head _, fun _ h => absurd h List.not_mem_nil⟩)⟩)⟩)⟩) (ih17 ((2147483647 - x119.toInt).toNat) (by omega) σ1 v17_2 x119 rfl H2 X122 h4 (by omega) (by omega) (by rw [c10]; omega))
                  · refine k_nil ?_
                    refine hB _ _ _ _ (kgoC (is := KX3_judgeMethod_75) rfl ?_)
                    refine k_aload_n rfl ?_
                    refine k_get kg121 t81 (congrArg (fun z : Option Nat => (Sum.inr (Sum.inr z) : AvC)) c83) ?_
                    refine k_iconst (m := 1) rfl (fun x123 h124 => ?_)
                    refine k_aload_n rfl ?_
                    refine k_get kg180 h4 (congrArg (Sum.inl : Int32 → AvC) c10) ?_
                    refine k_inv (P := P_X6_tell) (Q := Q_X6_tell) rfl rfl rfl rfl (Nat.le_of_ble_eq_true rfl) (t85.rc (by decide)) ⟨_, _, _, rfl, H2, t85, (by omega), (by omega), (by omega), (by omega)⟩ (fun w125 σ126 q127 => ?_)
                    obtain ⟨rfl, H128, e129⟩ := q127
                    refine k_st (st' := []) rfl ?_
                    refine k_nil ?_
                    refine hB _ _ _ _ (kgoC (is := KX3_judgeMethod_87) rfl ?_)
                    obtain ⟨x130, e132, h131⟩ := iincC (n := 1) (m := 1) (v := v17_3) rfl (by omega) (by omega)
                    refine k_iinc (ls' := [(3, .inl x130), (4, .inr (.inr (some b91))), (0, .inr (.inr (some p0))), (1, .inl p1), (2, .inr (.inr (some v17_2)))]) rfl e132 rfl ?_
                    refine k_goto ?_
                    have t133 := h4.x e129
                    have c134 := (h4.mi e129 (by decide)).trans c10
                    have X135 : ExC [217, 218] σ0 σ1 := ExC.rf.tr (e3.mo (by decide))
                    have X136 : ExC [217, 218] σ0 σ126 := X135.tr (e129.mo (by decide))
                    exact hW _ _ _ _ _ (List.forall_mem_cons.2 ⟨List.Mem.tail _ (List.Mem.tail _ (List.Mem.head _)), (List.forall_mem_cons.2 ⟨List.Mem.tail _ (List.Mem.tail _ (List.Mem.tail _ (List.Mem.head _))), (List.forall_mem_cons.2 ⟨List.Mem.tail _ (List.Mem.tail _ (List.Mem.tail _ (List.Mem.tail _ (List.Mem.head _)))), (List.forall_mem_cons.2 ⟨List.Mem.head _, fun _ h => absurd h List.not_mem_nil⟩)⟩)⟩)⟩) (ih17 ((2147483647 - x130.toInt).toNat) (by omega) σ126 v17_2 x130 rfl H128 X136 t133 (by omega) (by omega) (by rw [c134]; omega))
    refine hB _ _ _ _ (kgoC (is := KX3_judgeMethod_0) rfl ?_)
    refine k_aload_n rfl ?_
    obtain ⟨a139, e137, c138, t140⟩ := cg121 H0.1 h_0_0
    refine k_get kg121 h_0_0 e137 ?_
    obtain ⟨a143, e141, c142, t144, l145⟩ := cg211 H0.1 t140
    refine k_get kg211 t140 e141 ?_
    refine k_iload_n rfl ?_
    refine k_inv (P := P_Jx4a65c_get_915e3) (Q := Q_Jx4a65c_get_915e3) rfl rfl rfl rfl (Nat.le_of_ble_eq_true rfl) (t144.rc (by decide)) ⟨_, _, rfl, H0, t144, (by omega), (q_1 _ _ c138 c142)⟩ (fun w146 σ147 q148 => ?_)
    obtain ⟨a149, rfl, rfl, h150⟩ := q148
    rw [l145] at h150
    have t151 := h150.1
    obtain ⟨x152, e153, c154, h155, h156⟩ := cg180 H0.1 t151
    have h157 : 0 ≤ x152.toInt := by rw [← c154]; exact h150.2.2 rfl
    refine k_st (st' := [.inr (.inr (some a149))]) rfl ?_
    refine k_castS (t151.ob (by decide)) ?_
    refine k_astore_n (ls' := [(2, .inr (.inr (some a149))), (0, .inr (.inr (some p0))), (1, .inl p1)]) rfl ?_
    refine k_iconst (m := 0) rfl (fun x158 h159 => ?_)
    refine k_istore_n (ls' := [(3, .inl x158), (2, .inr (.inr (some a149))), (0, .inr (.inr (some p0))), (1, .inl p1)]) rfl ?_
    refine k_nil ?_
    exact hW _ _ _ _ _ (List.forall_mem_cons.2 ⟨List.Mem.tail _ (List.Mem.tail _ (List.Mem.head _)), (List.forall_mem_cons.2 ⟨List.Mem.tail _ (List.Mem.tail _ (List.Mem.tail _ (List.Mem.head _))), (List.forall_mem_cons.2 ⟨List.Mem.tail _ (List.Mem.head _), (List.forall_mem_cons.2 ⟨List.Mem.head _, fun _ h => absurd h List.not_mem_nil⟩)⟩)⟩)⟩) (L17 _ σ0 a149 x158 rfl H0 ExC.rf t151 (by omega) (by omega) (by rw [c154]; omega))
theorem lg_X3_judgeMethod : ∀ (As : List AvC) (σ : CsC), P_X3_judgeMethod As σ → lgC As ≤ rX3_judgeMethod.2.2.1 := by
  rintro As σ ⟨p0, p1, rfl, -⟩
  exact Nat.le_of_ble_eq_true rfl
theorem m_X3_judgeMethod (l : Launch) : CMetC l 12 50 P_X3_judgeMethod Q_X3_judgeMethod :=
  CMetC.of KX3_judgeMethod [(235, P_Jx4a65c_get_915e3, Q_Jx4a65c_get_915e3), (119, P_X6_methodOf, Q_X6_methodOf), (113, P_X5_hasSameParams, Q_X5_hasSameParams), (118, P_X6_tell, Q_X6_tell)] hX3_judgeMethod (by decide) (by decide) okX3_judgeMethod (cc1C (m_Jx4a65c_get_915e3 l) (by decide) (cc1C (m_X6_methodOf l) (by decide) (cc1C (m_X5_hasSameParams l) (by decide) (cc1C (m_X6_tell l) (by decide) cc0C)))) (lg_X3_judgeMethod) (b_X3_judgeMethod)

abbrev P_X3_judgeProgram : CpC := fun As σ => ∃ (p0 : Nat) (p1 : Nat), As = [.inr (.inr (some p0)), .inr (.inr (some p1))] ∧ HIC σ ∧ TyC σ p0 4 ∧ TyC σ p1 7
abbrev Q_X3_judgeProgram : CqC := fun As σ w τ => match As with
  | [.inr (.inr (some p0)), .inr (.inr (some p1))] => w = none ∧ HIC τ ∧ ExC [67, 68, 69, 70, 90, 94, 121, 217, 218, 281, 282, 283, 284, 335] σ τ
  | _ => False
set_option maxRecDepth 100000 in
set_option maxHeartbeats 4000000 in
theorem b_X3_judgeProgram : TbC KX3_judgeProgram [(234, P_Jx4a65c_size_8abf5, Q_Jx4a65c_size_8abf5), (50, P_X3_judgeMethod, Q_X3_judgeMethod), (235, P_Jx4a65c_get_915e3, Q_Jx4a65c_get_915e3), (118, P_X6_tell, Q_X6_tell), (53, P_X3_judgeExp, Q_X3_judgeExp), (28, P_X2_assignAll, Q_X2_assignAll), (20, P_X2_reachAll, Q_X2_reachAll), (80, P_X3_judgeStatement, Q_X3_judgeStatement)] P_X3_judgeProgram Q_X3_judgeProgram := by
  · rintro As σ0 ⟨p0, p1, rfl, H0, h_0_0, h_1_0⟩ hgr G hB hW
    change G 0 [(0, .inr (.inr (some p0))), (1, .inr (.inr (some p1)))] [] σ0
    have L141 : ∀ (n141 : Nat), ∀ (σ1 : CsC) (v141_2 : Int32), (2147483647 - v141_2.toInt).toNat = n141 → HIC σ1 → ExC [67, 68, 69, 70, 90, 94, 121, 217, 218, 281, 282, 283, 284, 335] σ0 σ1 → 0 ≤ v141_2.toInt → v141_2.toInt ≤ 20000 → G 141 [(0, .inr (.inr (some p0))), (2, .inl v141_2)] [] σ1 := by
      intro n141
      induction n141 using Nat.strongRecOn with
      | _ n141 ih141 =>
        intro σ1 v141_2 n141_ H2 e3 h4 h5
        refine hB _ _ _ _ (kgoC (is := KX3_judgeProgram_141) rfl ?_)
        refine k_iload_n rfl ?_
        refine k_aload_n rfl ?_
        have t6 := h_0_0.x e3
        obtain ⟨a9, e7, c8, t10⟩ := cg121 H2.1 t6
        refine k_get kg121 t6 e7 ?_
        obtain ⟨a13, e11, c12, t14, l15⟩ := cg214 H2.1 t10
        refine k_get kg214 t10 e11 ?_
        refine k_inv (P := P_Jx4a65c_size_8abf5) (Q := Q_Jx4a65c_size_8abf5) rfl rfl rfl rfl (Nat.le_of_ble_eq_true rfl) (t14.rc (by decide)) ⟨_, rfl, H2, t14⟩ (fun w16 σ17 q18 => ?_)
        obtain ⟨x19, rfl, rfl, h20, h21, q22, q23⟩ := q18
        refine k_st (st' := [.inl x19, .inl v141_2]) rfl ?_
        refine k_ic_ge (fun h24 => ?_) (fun h24 => ?_)
        · refine hB _ _ _ _ (kgoC (is := KX3_judgeProgram_179) rfl ?_)
          refine k_aload_n rfl ?_
          refine k_get kg121 t6 (congrArg (fun z : Option Nat => (Sum.inr (Sum.inr z) : AvC)) c8) ?_
          obtain ⟨x27, e25, c26, h28, h29⟩ := cg217 H2.1 t10
          refine k_get kg217 t10 e25 ?_
          refine k_if_ne (fun h30 => ?_) (fun h30 => ?_)
          · refine hB _ _ _ _ (kgoC (is := KX3_judgeProgram_200) rfl ?_)
            refine k_aload_n rfl ?_
            refine k_get kg121 t6 (congrArg (fun z : Option Nat => (Sum.inr (Sum.inr z) : AvC)) c8) ?_
            refine k_get kg217 t10 (congrArg (Sum.inl : Int32 → AvC) c26) ?_
            refine k_if_ne (fun h31 => ?_) (fun h31 => ?_)
            · refine hB _ _ _ _ (kgoC (is := KX3_judgeProgram_221) rfl ?_)
              refine k_return ?_
              have X32 : ExC [67, 68, 69, 70, 90, 94, 121, 217, 218, 281, 282, 283, 284, 335] σ0 σ1 := ExC.rf.tr (e3.mo (by decide))
              exact ⟨rfl, H2, X32⟩
            · refine k_nil ?_
              refine hB _ _ _ _ (kgoC (is := KX3_judgeProgram_210) rfl ?_)
              refine k_aload_n rfl ?_
              obtain ⟨a35, e33, c34, t36⟩ := cg120 H2.1 t6
              refine k_get kg120 t6 e33 ?_
              refine k_aload_n rfl ?_
              refine k_get kg121 t6 (congrArg (fun z : Option Nat => (Sum.inr (Sum.inr z) : AvC)) c8) ?_
              refine k_inv (P := P_X2_assignAll) (Q := Q_X2_assignAll) rfl rfl rfl rfl (Nat.le_of_ble_eq_true rfl) (t36.rc (by decide)) ⟨_, _, rfl, H2, t36, t10⟩ (fun w37 σ38 q39 => ?_)
              obtain ⟨rfl, H40, e41⟩ := q39
              refine k_st (st' := []) rfl ?_
              refine k_nil ?_
              refine hB _ _ _ _ (kgoC (is := KX3_judgeProgram_221) rfl ?_)
              refine k_return ?_
              have X42 : ExC [67, 68, 69, 70, 90, 94, 121, 217, 218, 281, 282, 283, 284, 335] σ0 σ1 := ExC.rf.tr (e3.mo (by decide))
              have X43 : ExC [67, 68, 69, 70, 90, 94, 121, 217, 218, 281, 282, 283, 284, 335] σ0 σ38 := X42.tr (e41.mo (by decide))
              exact ⟨rfl, H40, X43⟩
          · refine k_nil ?_
            refine hB _ _ _ _ (kgoC (is := KX3_judgeProgram_189) rfl ?_)
            refine k_aload_n rfl ?_
            obtain ⟨a46, e44, c45, t47⟩ := cg120 H2.1 t6
            refine k_get kg120 t6 e44 ?_
            refine k_aload_n rfl ?_
            refine k_get kg121 t6 (congrArg (fun z : Option Nat => (Sum.inr (Sum.inr z) : AvC)) c8) ?_
            refine k_inv (P := P_X2_reachAll) (Q := Q_X2_reachAll) rfl rfl rfl rfl (Nat.le_of_ble_eq_true rfl) (t47.rc (by decide)) ⟨_, _, rfl, H2, t47, t10⟩ (fun w48 σ49 q50 => ?_)
            obtain ⟨rfl, H51, e52⟩ := q50
            refine k_st (st' := []) rfl ?_
            refine k_nil ?_
            refine hB _ _ _ _ (kgoC (is := KX3_judgeProgram_200) rfl ?_)
            refine k_aload_n rfl ?_
            have t53 := t6.x e52
            have c54 := (t6.mr e52 (by decide)).trans c8
            refine k_get kg121 t53 (congrArg (fun z : Option Nat => (Sum.inr (Sum.inr z) : AvC)) c54) ?_
            have t55 := t10.x e52
            obtain ⟨x58, e56, c57, h59, h60⟩ := cg217 H51.1 t55
            refine k_get kg217 t55 e56 ?_
            refine k_if_ne (fun h61 => ?_) (fun h61 => ?_)
            · refine hB _ _ _ _ (kgoC (is := KX3_judgeProgram_221) rfl ?_)
              refine k_return ?_
              have X62 : ExC [67, 68, 69, 70, 90, 94, 121, 217, 218, 281, 282, 283, 284, 335] σ0 σ1 := ExC.rf.tr (e3.mo (by decide))
              have X63 : ExC [67, 68, 69, 70, 90, 94, 121, 217, 218, 281, 282, 283, 284, 335] σ0 σ49 := X62.tr (e52.mo (by decide))
              exact ⟨rfl, H51, X63⟩
            · refine k_nil ?_
              refine hB _ _ _ _ (kgoC (is := KX3_judgeProgram_210) rfl ?_)
              refine k_aload_n rfl ?_
              have c64 := (t6.mr e52 (by decide)).trans c45
              refine k_get kg120 t53 (congrArg (fun z : Option Nat => (Sum.inr (Sum.inr z) : AvC)) c64) ?_
              refine k_aload_n rfl ?_
              refine k_get kg121 t53 (congrArg (fun z : Option Nat => (Sum.inr (Sum.inr z) : AvC)) c54) ?_
              have t65 := t47.x e52
              refine k_inv (P := P_X2_assignAll) (Q := Q_X2_assignAll) rfl rfl rfl rfl (Nat.le_of_ble_eq_true rfl) (t65.rc (by decide)) ⟨_, _, rfl, H51, t65, t55⟩ (fun w66 σ67 q68 => ?_)
              obtain ⟨rfl, H69, e70⟩ := q68
              refine k_st (st' := []) rfl ?_
              refine k_nil ?_
              refine hB _ _ _ _ (kgoC (is := KX3_judgeProgram_221) rfl ?_)
              refine k_return ?_
              have X71 : ExC [67, 68, 69, 70, 90, 94, 121, 217, 218, 281, 282, 283, 284, 335] σ0 σ1 := ExC.rf.tr (e3.mo (by decide))
              have X72 : ExC [67, 68, 69, 70, 90, 94, 121, 217, 218, 281, 282, 283, 284, 335] σ0 σ49 := X71.tr (e52.mo (by decide))
              have X73 : ExC [67, 68, 69, 70, 90, 94, 121, 217, 218, 281, 282, 283, 284, 335] σ0 σ67 := X72.tr (e70.mo (by decide))
              exact ⟨rfl, H69, X73⟩
        · refine k_nil ?_
          refine hB _ _ _ _ (kgoC (is := KX3_judgeProgram_155) rfl ?_)
          refine k_aload_n rfl ?_
          refine k_aload_n rfl ?_
          refine k_get kg121 t6 (congrArg (fun z : Option Nat => (Sum.inr (Sum.inr z) : AvC)) c8) ?_
          refine k_get kg214 t10 (congrArg (fun z : Option Nat => (Sum.inr (Sum.inr z) : AvC)) c12) ?_
          refine k_iload_n rfl ?_
          have z74 := congrArg Int32.toInt q22
          refine k_inv (P := P_Jx4a65c_get_915e3) (Q := Q_Jx4a65c_get_915e3) rfl rfl rfl rfl (Nat.le_of_ble_eq_true rfl) (t14.rc (by decide)) ⟨_, _, rfl, H2, t14, (by omega), (by omega)⟩ (fun w75 σ76 q77 => ?_)
          obtain ⟨a78, rfl, rfl, h79⟩ := q77
          rw [l15] at h79
          have t80 := h79.1
          refine k_st (st' := [.inr (.inr (some a78)), .inr (.inr (some p0))]) rfl ?_
          refine k_castS (t80.ob (by decide)) ?_
          refine k_inv (P := P_X3_judgeStatement) (Q := Q_X3_judgeStatement) rfl rfl rfl rfl (Nat.le_of_ble_eq_true rfl) (t6.rc (by decide)) ⟨_, _, rfl, H2, t6, t80⟩ (fun w81 σ82 q83 => ?_)
          obtain ⟨rfl, H84, e85⟩ := q83
          refine k_st (st' := []) rfl ?_
          obtain ⟨x86, e88, h87⟩ := iincC (n := 1) (m := 1) (v := v141_2) rfl (by omega) (by omega)
          refine k_iinc (ls' := [(2, .inl x86), (0, .inr (.inr (some p0)))]) rfl e88 rfl ?_
          refine k_goto ?_
          have X89 : ExC [67, 68, 69, 70, 90, 94, 121, 217, 218, 281, 282, 283, 284, 335] σ0 σ1 := ExC.rf.tr (e3.mo (by decide))
          have X90 : ExC [67, 68, 69, 70, 90, 94, 121, 217, 218, 281, 282, 283, 284, 335] σ0 σ82 := X89.tr (e85.mo (by decide))
          exact hW _ _ _ _ _ (List.forall_mem_cons.2 ⟨List.Mem.tail _ (List.Mem.head _), (List.forall_mem_cons.2 ⟨List.Mem.head _, fun _ h => absurd h List.not_mem_nil⟩)⟩) (ih141 ((2147483647 - x86.toInt).toNat) (by omega) σ82 x86 rfl H84 X90 (by omega) (by omega))
    have L101 : ∀ (n101 : Nat), ∀ (σ91 : CsC) (v101_2 : Int32), (2147483647 - v101_2.toInt).toNat = n101 → HIC σ91 → ExC [67, 68, 69, 70, 90, 94, 121, 217, 218, 281, 282, 283, 284, 335] σ0 σ91 → 0 ≤ v101_2.toInt → v101_2.toInt ≤ 20000 → G 101 [(0, .inr (.inr (some p0))), (2, .inl v101_2)] [] σ91 := by
      intro n101
      induction n101 using Nat.strongRecOn with
      | _ n101 ih101 =>
        intro σ91 v101_2 n101_ H92 e93 h94 h95
        refine hB _ _ _ _ (kgoC (is := KX3_judgeProgram_101) rfl ?_)
        refine k_iload_n rfl ?_
        refine k_aload_n rfl ?_
        have t96 := h_0_0.x e93
        obtain ⟨a99, e97, c98, t100⟩ := cg121 H92.1 t96
        refine k_get kg121 t96 e97 ?_
        obtain ⟨a103, e101, c102, t104, l105⟩ := cg213 H92.1 t100
        refine k_get kg213 t100 e101 ?_
        refine k_inv (P := P_Jx4a65c_size_8abf5) (Q := Q_Jx4a65c_size_8abf5) rfl rfl rfl rfl (Nat.le_of_ble_eq_true rfl) (t104.rc (by decide)) ⟨_, rfl, H92, t104⟩ (fun w106 σ107 q108 => ?_)
        obtain ⟨x109, rfl, rfl, h110, h111, q112, q113⟩ := q108
        refine k_st (st' := [.inl x109, .inl v101_2]) rfl ?_
        refine k_ic_ge (fun h114 => ?_) (fun h114 => ?_)
        · refine hB _ _ _ _ (kgoC (is := KX3_judgeProgram_139) rfl ?_)
          refine k_iconst (m := 0) rfl (fun x115 h116 => ?_)
          refine k_istore_n (ls' := [(2, .inl x115), (0, .inr (.inr (some p0)))]) rfl ?_
          refine k_nil ?_
          have X117 : ExC [67, 68, 69, 70, 90, 94, 121, 217, 218, 281, 282, 283, 284, 335] σ0 σ91 := ExC.rf.tr (e93.mo (by decide))
          exact hW _ _ _ _ _ (List.forall_mem_cons.2 ⟨List.Mem.tail _ (List.Mem.head _), (List.forall_mem_cons.2 ⟨List.Mem.head _, fun _ h => absurd h List.not_mem_nil⟩)⟩) (L141 _ σ91 x115 rfl H92 X117 (by omega) (by omega))
        · refine k_nil ?_
          refine hB _ _ _ _ (kgoC (is := KX3_judgeProgram_115) rfl ?_)
          refine k_aload_n rfl ?_
          refine k_aload_n rfl ?_
          refine k_get kg121 t96 (congrArg (fun z : Option Nat => (Sum.inr (Sum.inr z) : AvC)) c98) ?_
          refine k_get kg213 t100 (congrArg (fun z : Option Nat => (Sum.inr (Sum.inr z) : AvC)) c102) ?_
          refine k_iload_n rfl ?_
          have z118 := congrArg Int32.toInt q112
          refine k_inv (P := P_Jx4a65c_get_915e3) (Q := Q_Jx4a65c_get_915e3) rfl rfl rfl rfl (Nat.le_of_ble_eq_true rfl) (t104.rc (by decide)) ⟨_, _, rfl, H92, t104, (by omega), (by omega)⟩ (fun w119 σ120 q121 => ?_)
          obtain ⟨a122, rfl, rfl, h123⟩ := q121
          rw [l105] at h123
          have t124 := h123.1
          refine k_st (st' := [.inr (.inr (some a122)), .inr (.inr (some p0))]) rfl ?_
          refine k_castS (t124.ob (by decide)) ?_
          refine k_inv (P := P_X3_judgeExp) (Q := Q_X3_judgeExp) rfl rfl rfl rfl (Nat.le_of_ble_eq_true rfl) (t96.rc (by decide)) ⟨_, _, rfl, H92, t96, t124⟩ (fun w125 σ126 q127 => ?_)
          obtain ⟨rfl, H128, e129⟩ := q127
          refine k_st (st' := []) rfl ?_
          obtain ⟨x130, e132, h131⟩ := iincC (n := 1) (m := 1) (v := v101_2) rfl (by omega) (by omega)
          refine k_iinc (ls' := [(2, .inl x130), (0, .inr (.inr (some p0)))]) rfl e132 rfl ?_
          refine k_goto ?_
          have X133 : ExC [67, 68, 69, 70, 90, 94, 121, 217, 218, 281, 282, 283, 284, 335] σ0 σ91 := ExC.rf.tr (e93.mo (by decide))
          have X134 : ExC [67, 68, 69, 70, 90, 94, 121, 217, 218, 281, 282, 283, 284, 335] σ0 σ126 := X133.tr (e129.mo (by decide))
          exact hW _ _ _ _ _ (List.forall_mem_cons.2 ⟨List.Mem.tail _ (List.Mem.head _), (List.forall_mem_cons.2 ⟨List.Mem.head _, fun _ h => absurd h List.not_mem_nil⟩)⟩) (ih101 ((2147483647 - x130.toInt).toNat) (by omega) σ126 x130 rfl H128 X134 (by omega) (by omega))
    have L34 : ∀ (n34 : Nat), ∀ (σ135 : CsC) (v34_2 : Int32), (2147483647 - v34_2.toInt).toNat = n34 → HIC σ135 → ExC [67, 68, 69, 70, 90, 94, 121, 217, 218, 281, 282, 283, 284, 335] σ0 σ135 → 0 ≤ v34_2.toInt → v34_2.toInt ≤ 20000 → G 34 [(0, .inr (.inr (some p0))), (2, .inl v34_2)] [] σ135 := by
      intro n34
      induction n34 using Nat.strongRecOn with
      | _ n34 ih34 =>
        intro σ135 v34_2 n34_ H136 e137 h138 h139
        refine hB _ _ _ _ (kgoC (is := KX3_judgeProgram_34) rfl ?_)
        refine k_iload_n rfl ?_
        refine k_aload_n rfl ?_
        have t140 := h_0_0.x e137
        obtain ⟨a143, e141, c142, t144⟩ := cg121 H136.1 t140
        refine k_get kg121 t140 e141 ?_
        obtain ⟨a147, e145, c146, t148, l149⟩ := cg212 H136.1 t144
        refine k_get kg212 t144 e145 ?_
        refine k_inv (P := P_Jx4a65c_size_8abf5) (Q := Q_Jx4a65c_size_8abf5) rfl rfl rfl rfl (Nat.le_of_ble_eq_true rfl) (t148.rc (by decide)) ⟨_, rfl, H136, t148⟩ (fun w150 σ151 q152 => ?_)
        obtain ⟨x153, rfl, rfl, h154, h155, q156, q157⟩ := q152
        refine k_st (st' := [.inl x153, .inl v34_2]) rfl ?_
        refine k_ic_ge (fun h158 => ?_) (fun h158 => ?_)
        · refine hB _ _ _ _ (kgoC (is := KX3_judgeProgram_99) rfl ?_)
          refine k_iconst (m := 0) rfl (fun x159 h160 => ?_)
          refine k_istore_n (ls' := [(2, .inl x159), (0, .inr (.inr (some p0)))]) rfl ?_
          refine k_nil ?_
          have X161 : ExC [67, 68, 69, 70, 90, 94, 121, 217, 218, 281, 282, 283, 284, 335] σ0 σ135 := ExC.rf.tr (e137.mo (by decide))
          exact hW _ _ _ _ _ (List.forall_mem_cons.2 ⟨List.Mem.tail _ (List.Mem.head _), (List.forall_mem_cons.2 ⟨List.Mem.head _, fun _ h => absurd h List.not_mem_nil⟩)⟩) (L101 _ σ135 x159 rfl H136 X161 (by omega) (by omega))
        · refine k_nil ?_
          refine hB _ _ _ _ (kgoC (is := KX3_judgeProgram_48) rfl ?_)
          refine k_aload_n rfl ?_
          refine k_get kg121 t140 (congrArg (fun z : Option Nat => (Sum.inr (Sum.inr z) : AvC)) c142) ?_
          refine k_get kg212 t144 (congrArg (fun z : Option Nat => (Sum.inr (Sum.inr z) : AvC)) c146) ?_
          refine k_iload_n rfl ?_
          have z162 := congrArg Int32.toInt q156
          refine k_inv (P := P_Jx4a65c_get_915e3) (Q := Q_Jx4a65c_get_915e3) rfl rfl rfl rfl (Nat.le_of_ble_eq_true rfl) (t148.rc (by decide)) ⟨_, _, rfl, H136, t148, (by omega), (by omega)⟩ (fun w163 σ164 q165 => ?_)
          obtain ⟨a166, rfl, rfl, h167⟩ := q165
          rw [l149] at h167
          have t168 := h167.1
          refine k_st (st' := [.inr (.inr (some a166))]) rfl ?_
          refine k_castS (t168.ob (by decide)) ?_
          obtain ⟨x171, e169, c170, h172, h173⟩ := cg334 H136.1 t168
          refine k_get kg334 t168 e169 ?_
          refine k_if_eq (fun h174 => ?_) (fun h174 => ?_)
          · refine hB _ _ _ _ (kgoC (is := KX3_judgeProgram_93) rfl ?_)
            obtain ⟨x175, e177, h176⟩ := iincC (n := 1) (m := 1) (v := v34_2) rfl (by omega) (by omega)
            refine k_iinc (ls' := [(2, .inl x175), (0, .inr (.inr (some p0)))]) rfl e177 rfl ?_
            refine k_goto ?_
            have X178 : ExC [67, 68, 69, 70, 90, 94, 121, 217, 218, 281, 282, 283, 284, 335] σ0 σ135 := ExC.rf.tr (e137.mo (by decide))
            exact hW _ _ _ _ _ (List.forall_mem_cons.2 ⟨List.Mem.tail _ (List.Mem.head _), (List.forall_mem_cons.2 ⟨List.Mem.head _, fun _ h => absurd h List.not_mem_nil⟩)⟩) (ih34 ((2147483647 - x175.toInt).toNat) (by omega) σ135 x175 rfl H136 X178 (by omega) (by omega))
          · refine k_nil ?_
            refine hB _ _ _ _ (kgoC (is := KX3_judgeProgram_68) rfl ?_)
            refine k_aload_n rfl ?_
            refine k_get kg121 t140 (congrArg (fun z : Option Nat => (Sum.inr (Sum.inr z) : AvC)) c142) ?_
            refine k_iconst (m := 2) rfl (fun x179 h180 => ?_)
            refine k_aload_n rfl ?_
            refine k_get kg121 t140 (congrArg (fun z : Option Nat => (Sum.inr (Sum.inr z) : AvC)) c142) ?_
            refine k_get kg212 t144 (congrArg (fun z : Option Nat => (Sum.inr (Sum.inr z) : AvC)) c146) ?_
            refine k_iload_n rfl ?_
            have z181 := congrArg Int32.toInt q156
            refine k_inv (P := P_Jx4a65c_get_915e3) (Q := Q_Jx4a65c_get_915e3) rfl rfl rfl rfl (Nat.le_of_ble_eq_true rfl) (t148.rc (by decide)) ⟨_, _, rfl, H136, t148, (by omega), (by omega)⟩ (fun w182 σ183 q184 => ?_)
            obtain ⟨a185, rfl, rfl, h186⟩ := q184
            rw [l149] at h186
            have t187 := h186.1
            refine k_st (st' := [.inr (.inr (some a185)), .inl x179, .inr (.inr (some a143))]) rfl ?_
            refine k_castS (t187.ob (by decide)) ?_
            obtain ⟨x190, e188, c189, h191, h192⟩ := cg330 H136.1 t187
            refine k_get kg330 t187 e188 ?_
            refine k_inv (P := P_X6_tell) (Q := Q_X6_tell) rfl rfl rfl rfl (Nat.le_of_ble_eq_true rfl) (t144.rc (by decide)) ⟨_, _, _, rfl, H136, t144, (by omega), (by omega), (by omega), (by omega)⟩ (fun w193 σ194 q195 => ?_)
            obtain ⟨rfl, H196, e197⟩ := q195
            refine k_st (st' := []) rfl ?_
            refine k_nil ?_
            refine hB _ _ _ _ (kgoC (is := KX3_judgeProgram_93) rfl ?_)
            obtain ⟨x198, e200, h199⟩ := iincC (n := 1) (m := 1) (v := v34_2) rfl (by omega) (by omega)
            refine k_iinc (ls' := [(2, .inl x198), (0, .inr (.inr (some p0)))]) rfl e200 rfl ?_
            refine k_goto ?_
            have X201 : ExC [67, 68, 69, 70, 90, 94, 121, 217, 218, 281, 282, 283, 284, 335] σ0 σ135 := ExC.rf.tr (e137.mo (by decide))
            have X202 : ExC [67, 68, 69, 70, 90, 94, 121, 217, 218, 281, 282, 283, 284, 335] σ0 σ194 := X201.tr (e197.mo (by decide))
            exact hW _ _ _ _ _ (List.forall_mem_cons.2 ⟨List.Mem.tail _ (List.Mem.head _), (List.forall_mem_cons.2 ⟨List.Mem.head _, fun _ h => absurd h List.not_mem_nil⟩)⟩) (ih34 ((2147483647 - x198.toInt).toNat) (by omega) σ194 x198 rfl H196 X202 (by omega) (by omega))
    have L7 : ∀ (n7 : Nat), ∀ (σ203 : CsC) (v7_2 : Int32), (2147483647 - v7_2.toInt).toNat = n7 → HIC σ203 → ExC [67, 68, 69, 70, 90, 94, 121, 217, 218, 281, 282, 283, 284, 335] σ0 σ203 → 0 ≤ v7_2.toInt → v7_2.toInt ≤ 502 → G 7 [(0, .inr (.inr (some p0))), (2, .inl v7_2)] [] σ203 := by
      intro n7
      induction n7 using Nat.strongRecOn with
      | _ n7 ih7 =>
        intro σ203 v7_2 n7_ H204 e205 h206 h207
        refine hB _ _ _ _ (kgoC (is := KX3_judgeProgram_7) rfl ?_)
        refine k_iload_n rfl ?_
        refine k_aload_n rfl ?_
        have t208 := h_0_0.x e205
        obtain ⟨a211, e209, c210, t212⟩ := cg121 H204.1 t208
        refine k_get kg121 t208 e209 ?_
        obtain ⟨a215, e213, c214, t216, l217⟩ := cg211 H204.1 t212
        refine k_get kg211 t212 e213 ?_
        refine k_inv (P := P_Jx4a65c_size_8abf5) (Q := Q_Jx4a65c_size_8abf5) rfl rfl rfl rfl (Nat.le_of_ble_eq_true rfl) (t216.rc (by decide)) ⟨_, rfl, H204, t216⟩ (fun w218 σ219 q220 => ?_)
        obtain ⟨x221, rfl, rfl, h222, h223, q224, q225⟩ := q220
        refine k_st (st' := [.inl x221, .inl v7_2]) rfl ?_
        have z226 := q225 l217
        refine k_ic_ge (fun h227 => ?_) (fun h227 => ?_)
        · refine hB _ _ _ _ (kgoC (is := KX3_judgeProgram_32) rfl ?_)
          refine k_iconst (m := 0) rfl (fun x228 h229 => ?_)
          refine k_istore_n (ls' := [(2, .inl x228), (0, .inr (.inr (some p0)))]) rfl ?_
          refine k_nil ?_
          have X230 : ExC [67, 68, 69, 70, 90, 94, 121, 217, 218, 281, 282, 283, 284, 335] σ0 σ203 := ExC.rf.tr (e205.mo (by decide))
          exact hW _ _ _ _ _ (List.forall_mem_cons.2 ⟨List.Mem.tail _ (List.Mem.head _), (List.forall_mem_cons.2 ⟨List.Mem.head _, fun _ h => absurd h List.not_mem_nil⟩)⟩) (L34 _ σ203 x228 rfl H204 X230 (by omega) (by omega))
        · refine k_nil ?_
          refine hB _ _ _ _ (kgoC (is := KX3_judgeProgram_21) rfl ?_)
          refine k_aload_n rfl ?_
          refine k_iload_n rfl ?_
          refine k_inv (P := P_X3_judgeMethod) (Q := Q_X3_judgeMethod) rfl rfl rfl rfl (Nat.le_of_ble_eq_true rfl) (t208.rc (by decide)) ⟨_, _, rfl, H204, t208, (by omega), (fun q m hq hm => by cases c210.symm.trans hq; cases c214.symm.trans hm; have hz := congrArg Int32.toInt q224; omega)⟩ (fun w231 σ232 q233 => ?_)
          obtain ⟨rfl, H234, e235⟩ := q233
          refine k_st (st' := []) rfl ?_
          obtain ⟨x236, e238, h237⟩ := iincC (n := 1) (m := 1) (v := v7_2) rfl (by omega) (by omega)
          refine k_iinc (ls' := [(2, .inl x236), (0, .inr (.inr (some p0)))]) rfl e238 rfl ?_
          refine k_goto ?_
          have X239 : ExC [67, 68, 69, 70, 90, 94, 121, 217, 218, 281, 282, 283, 284, 335] σ0 σ203 := ExC.rf.tr (e205.mo (by decide))
          have X240 : ExC [67, 68, 69, 70, 90, 94, 121, 217, 218, 281, 282, 283, 284, 335] σ0 σ232 := X239.tr (e235.mo (by decide))
          exact hW _ _ _ _ _ (List.forall_mem_cons.2 ⟨List.Mem.tail _ (List.Mem.head _), (List.forall_mem_cons.2 ⟨List.Mem.head _, fun _ h => absurd h List.not_mem_nil⟩)⟩) (ih7 ((2147483647 - x236.toInt).toNat) (by omega) σ232 x236 rfl H234 X240 (by omega) (by omega))
    refine hB _ _ _ _ (kgoC (is := KX3_judgeProgram_0) rfl ?_)
    refine k_aload_n rfl ?_
    refine k_aload_n rfl ?_
    refine k_putR kp121 H0 h_0_0 fk121 (rf121 h_1_0) (fun σ241 H242 e243 c244 => ?_)
    refine k_iconst (m := 0) rfl (fun x245 h246 => ?_)
    refine k_istore_n (ls' := [(2, .inl x245), (0, .inr (.inr (some p0))), (1, .inr (.inr (some p1)))]) rfl ?_
    refine k_nil ?_
    have X247 : ExC [67, 68, 69, 70, 90, 94, 121, 217, 218, 281, 282, 283, 284, 335] σ0 σ241 := ExC.rf.tr (e243.mo (by decide))
    exact hW _ _ _ _ _ (List.forall_mem_cons.2 ⟨List.Mem.tail _ (List.Mem.head _), (List.forall_mem_cons.2 ⟨List.Mem.head _, fun _ h => absurd h List.not_mem_nil⟩)⟩) (L7 _ σ241 x245 rfl H242 X247 (by omega) (by omega))
theorem lg_X3_judgeProgram : ∀ (As : List AvC) (σ : CsC), P_X3_judgeProgram As σ → lgC As ≤ rX3_judgeProgram.2.2.1 := by
  rintro As σ ⟨p0, p1, rfl, -⟩
  exact Nat.le_of_ble_eq_true rfl
theorem m_X3_judgeProgram (l : Launch) : CMetC l 514 49 P_X3_judgeProgram Q_X3_judgeProgram :=
  CMetC.of KX3_judgeProgram [(234, P_Jx4a65c_size_8abf5, Q_Jx4a65c_size_8abf5), (50, P_X3_judgeMethod, Q_X3_judgeMethod), (235, P_Jx4a65c_get_915e3, Q_Jx4a65c_get_915e3), (118, P_X6_tell, Q_X6_tell), (53, P_X3_judgeExp, Q_X3_judgeExp), (28, P_X2_assignAll, Q_X2_assignAll), (20, P_X2_reachAll, Q_X2_reachAll), (80, P_X3_judgeStatement, Q_X3_judgeStatement)] hX3_judgeProgram (by decide) (by decide) okX3_judgeProgram (cc1C (m_Jx4a65c_size_8abf5 l) (by decide) (cc1C (m_X3_judgeMethod l) (by decide) (cc1C (m_Jx4a65c_get_915e3 l) (by decide) (cc1C (m_X6_tell l) (by decide) (cc1C (m_X3_judgeExp l) (by decide) (cc1C (m_X2_assignAll l) (by decide) (cc1C (m_X2_reachAll l) (by decide) (cc1C (m_X3_judgeStatement l) (by decide) cc0C)))))))) (lg_X3_judgeProgram) (b_X3_judgeProgram)

abbrev P_X11_append : CpC := fun As σ => ∃ (p0 : Nat) (p1 : Int32), As = [.inr (.inr (some p0)), .inl p1] ∧ HIC σ ∧ TyC σ p0 12
abbrev Q_X11_append : CqC := fun As σ w τ => match As with
  | [.inr (.inr (some p0)), .inl p1] => w = none ∧ HIC τ ∧ ExC [369, 997] σ τ ∧ ((fIC τ p0 369).toInt ≤ (fIC σ p0 369).toInt + 4) ∧ ((2500 < (fIC σ p0 369).toInt + 4 ∨ (fIC τ p0 369).toInt = (fIC σ p0 369).toInt + 4))
  | _ => False
set_option maxRecDepth 100000 in
set_option maxHeartbeats 4000000 in
theorem b_X11_append : TbC KX11_append [] P_X11_append Q_X11_append := by
  · rintro As σ0 ⟨p0, p1, rfl, H0, h_0_0⟩ hgr G hB hW
    change G 0 [(0, .inr (.inr (some p0))), (1, .inl p1)] [] σ0
    obtain ⟨x1, e2, c3, h4, h5⟩ := cg369 H0.1 h_0_0
    have z6 := congrArg Int32.toInt c3
    have L3 : ∀ (n3 : Nat), ∀ (σ7 : CsC) (v3_2 : Int32), (v3_2.toInt + 2147483648).toNat = n3 → HIC σ7 → ExC [369, 997] σ0 σ7 → v3_2.toInt ≤ 24 → (8 * ((fIC σ7 p0 369).toInt - (fIC σ0 p0 369).toInt) + v3_2.toInt = 24 ∧ -8 ≤ v3_2.toInt) → G 3 [(0, .inr (.inr (some p0))), (1, .inl p1), (2, .inl v3_2)] [] σ7 := by
      intro n3
      induction n3 using Nat.strongRecOn with
      | _ n3 ih3 =>
        intro σ7 v3_2 n3_ H8 e9 h10 h11
        have t17 := h_0_0.x e9
        obtain ⟨x12, e13, c14, h15, h16⟩ := cg369 H8.1 t17
        have z18 := congrArg Int32.toInt c14
        refine hB _ _ _ _ (kgoC (is := KX11_append_3) rfl ?_)
        refine k_iload_n rfl ?_
        refine k_if_lt (fun h19 => ?_) (fun h19 => ?_)
        · refine hB _ _ _ _ (kgoC (is := KX11_append_46) rfl ?_)
          refine k_return ?_
          have X20 : ExC [369, 997] σ0 σ7 := ExC.rf.tr (e9.mo (by decide))
          have z21 := congrArg Int32.toInt c14
          have z22 := congrArg Int32.toInt c14
          exact ⟨rfl, H8, X20, (by omega), (by omega)⟩
        · refine k_nil ?_
          refine hB _ _ _ _ (kgoC (is := KX11_append_7) rfl ?_)
          refine k_aload_n rfl ?_
          refine k_get kg369 t17 (congrArg (Sum.inl : Int32 → AvC) c14) ?_
          refine k_sipush (m := 2500) rfl (fun x23 h24 => ?_)
          refine k_ic_ge (fun h25 => ?_) (fun h25 => ?_)
          · refine hB _ _ _ _ (kgoC (is := KX11_append_46) rfl ?_)
            refine k_return ?_
            have X26 : ExC [369, 997] σ0 σ7 := ExC.rf.tr (e9.mo (by decide))
            have z27 := congrArg Int32.toInt c14
            have z28 := congrArg Int32.toInt c14
            exact ⟨rfl, H8, X26, (by omega), (by omega)⟩
          · refine k_nil ?_
            refine hB _ _ _ _ (kgoC (is := KX11_append_17) rfl ?_)
            refine k_aload_n rfl ?_
            obtain ⟨a31, e29, c30, t32, l33⟩ := cg360 H8.1 t17
            refine k_get kg360 t17 e29 ?_
            refine k_aload_n rfl ?_
            refine k_get kg369 t17 (congrArg (Sum.inl : Int32 → AvC) c14) ?_
            refine k_iload_n rfl ?_
            refine k_iload_n rfl ?_
            refine k_ishr_u (fun x34 => ?_)
            refine k_i2b (fun x35 => ?_)
            refine k_bastore H8 t32 (by omega) (by omega) (fun σ36 H37 e38 c39 => ?_)
            refine k_aload_n rfl ?_
            refine k_dupR ?_
            have t40 := t17.x e38
            have c41 := (t17.mi e38 (by decide)).trans c14
            refine k_get kg369 t40 (congrArg (Sum.inl : Int32 → AvC) c41) ?_
            refine k_iconst (m := 1) rfl (fun x42 h43 => ?_)
            refine k_iadd (by omega) (by omega) (fun x44 h45 => ?_)
            refine k_putI kp369 H37 t40 (Or.inl fk369) (by show 0 ≤ _; omega) (by show _ ≤ 2500; omega) (fun σ46 H47 e48 c49 => ?_)
            obtain ⟨x50, e52, h51⟩ := iincC (n := (-8)) (m := (-8)) (v := v3_2) rfl (by omega) (by omega)
            refine k_iinc (ls' := [(2, .inl x50), (0, .inr (.inr (some p0))), (1, .inl p1)]) rfl e52 rfl ?_
            refine k_goto ?_
            have X53 : ExC [369, 997] σ0 σ7 := ExC.rf.tr (e9.mo (by decide))
            have X54 : ExC [369, 997] σ0 σ36 := X53.tr (e38.mo (by decide))
            have X55 : ExC [369, 997] σ0 σ46 := X54.tr (e48.mo (by decide))
            exact hW _ _ _ _ _ (List.forall_mem_cons.2 ⟨List.Mem.tail _ (List.Mem.head _), (List.forall_mem_cons.2 ⟨List.Mem.tail _ (List.Mem.tail _ (List.Mem.head _)), (List.forall_mem_cons.2 ⟨List.Mem.head _, fun _ h => absurd h List.not_mem_nil⟩)⟩)⟩) (ih3 ((x50.toInt + 2147483648).toNat) (by omega) σ46 x50 rfl H47 X55 (by omega) (by rw [c49] <;> omega))
    refine hB _ _ _ _ (kgoC (is := KX11_append_0) rfl ?_)
    refine k_bipush (m := 24) rfl (fun x56 h57 => ?_)
    refine k_istore_n (ls' := [(2, .inl x56), (0, .inr (.inr (some p0))), (1, .inl p1)]) rfl ?_
    refine k_nil ?_
    exact hW _ _ _ _ _ (List.forall_mem_cons.2 ⟨List.Mem.tail _ (List.Mem.head _), (List.forall_mem_cons.2 ⟨List.Mem.tail _ (List.Mem.tail _ (List.Mem.head _)), (List.forall_mem_cons.2 ⟨List.Mem.head _, fun _ h => absurd h List.not_mem_nil⟩)⟩)⟩) (L3 _ σ0 x56 rfl H0 ExC.rf (by omega) (by rw [c3] <;> omega))
theorem lg_X11_append : ∀ (As : List AvC) (σ : CsC), P_X11_append As σ → lgC As ≤ rX11_append.2.2.1 := by
  rintro As σ ⟨p0, p1, rfl, -⟩
  exact Nat.le_of_ble_eq_true rfl
theorem m_X11_append (l : Launch) : CMetC l 1 202 P_X11_append Q_X11_append :=
  CMetC.of KX11_append [] hX11_append (by decide) (by decide) okX11_append cc0C (lg_X11_append) (b_X11_append)

abbrev P_X11_feed : CpC := fun As σ => ∃ (p0 : Nat) (p1 : Int32) (p2 : Int32) (p3 : Int32) (p4 : Int32) (p5 : Int32), As = [.inr (.inr (some p0)), .inl p1, .inl p2, .inl p3, .inl p4, .inl p5] ∧ HIC σ ∧ TyC σ p0 12
abbrev Q_X11_feed : CqC := fun As σ w τ => match As with
  | [.inr (.inr (some p0)), .inl p1, .inl p2, .inl p3, .inl p4, .inl p5] => ∃ r : Int32, w = some (.inl r) ∧ HIC τ ∧ ExC [369, 997] σ τ ∧ ((fIC τ p0 369).toInt ≤ (fIC σ p0 369).toInt + 20) ∧ (((2500 < (fIC σ p0 369).toInt + 20 ∧ r.toInt = -3 ∧ (fIC τ p0 369).toInt = (fIC σ p0 369).toInt) ∨ ((fIC σ p0 369).toInt + 20 ≤ 2500 ∧ r.toInt = (fIC τ p0 369).toInt ∧ (fIC τ p0 369).toInt = (fIC σ p0 369).toInt + 20)))
  | _ => False
set_option maxRecDepth 100000 in
set_option maxHeartbeats 4000000 in
theorem b_X11_feed : TbC KX11_feed [(202, P_X11_append, Q_X11_append)] P_X11_feed Q_X11_feed := by
  · rintro As σ0 ⟨p0, p1, p2, p3, p4, p5, rfl, H0, h_0_0⟩ hgr G hB hW
    change G 0 [(0, .inr (.inr (some p0))), (1, .inl p1), (2, .inl p2), (3, .inl p3), (4, .inl p4), (5, .inl p5)] [] σ0
    obtain ⟨x1, e2, c3, h4, h5⟩ := cg369 H0.1 h_0_0
    have z6 := congrArg Int32.toInt c3
    refine hB _ _ _ _ (kgoC (is := KX11_feed_0) rfl ?_)
    refine k_aload_n rfl ?_
    refine k_get kg369 h_0_0 (congrArg (Sum.inl : Int32 → AvC) c3) ?_
    refine k_bipush (m := 20) rfl (fun x7 h8 => ?_)
    refine k_iadd (by omega) (by omega) (fun x9 h10 => ?_)
    refine k_sipush (m := 2500) rfl (fun x11 h12 => ?_)
    refine k_ic_le (fun h13 => ?_) (fun h13 => ?_)
    · refine hB _ _ _ _ (kgoC (is := KX11_feed_16) rfl ?_)
      refine k_aload_n rfl ?_
      refine k_iload_n rfl ?_
      refine k_inv (P := P_X11_append) (Q := Q_X11_append) rfl rfl rfl rfl (Nat.le_of_ble_eq_true rfl) (h_0_0.rc (by decide)) ⟨_, _, rfl, H0, h_0_0⟩ (fun w14 σ15 q16 => ?_)
      obtain ⟨rfl, H17, e18, q19, q20⟩ := q16
      refine k_st (st' := []) rfl ?_
      have t26 := h_0_0.x e18
      obtain ⟨x21, e22, c23, h24, h25⟩ := cg369 H17.1 t26
      have z27 := congrArg Int32.toInt c23
      refine k_aload_n rfl ?_
      refine k_iload_n rfl ?_
      refine k_inv (P := P_X11_append) (Q := Q_X11_append) rfl rfl rfl rfl (Nat.le_of_ble_eq_true rfl) (t26.rc (by decide)) ⟨_, _, rfl, H17, t26⟩ (fun w28 σ29 q30 => ?_)
      obtain ⟨rfl, H31, e32, q33, q34⟩ := q30
      refine k_st (st' := []) rfl ?_
      have t40 := t26.x e32
      obtain ⟨x35, e36, c37, h38, h39⟩ := cg369 H31.1 t40
      have z41 := congrArg Int32.toInt c37
      refine k_aload_n rfl ?_
      refine k_iload_n rfl ?_
      refine k_inv (P := P_X11_append) (Q := Q_X11_append) rfl rfl rfl rfl (Nat.le_of_ble_eq_true rfl) (t40.rc (by decide)) ⟨_, _, rfl, H31, t40⟩ (fun w42 σ43 q44 => ?_)
      obtain ⟨rfl, H45, e46, q47, q48⟩ := q44
      refine k_st (st' := []) rfl ?_
      have t54 := t40.x e46
      obtain ⟨x49, e50, c51, h52, h53⟩ := cg369 H45.1 t54
      have z55 := congrArg Int32.toInt c51
      refine k_aload_n rfl ?_
      refine k_iload rfl ?_
      refine k_inv (P := P_X11_append) (Q := Q_X11_append) rfl rfl rfl rfl (Nat.le_of_ble_eq_true rfl) (t54.rc (by decide)) ⟨_, _, rfl, H45, t54⟩ (fun w56 σ57 q58 => ?_)
      obtain ⟨rfl, H59, e60, q61, q62⟩ := q58
      refine k_st (st' := []) rfl ?_
      have t68 := t54.x e60
      obtain ⟨x63, e64, c65, h66, h67⟩ := cg369 H59.1 t68
      have z69 := congrArg Int32.toInt c65
      refine k_aload_n rfl ?_
      refine k_iload rfl ?_
      refine k_inv (P := P_X11_append) (Q := Q_X11_append) rfl rfl rfl rfl (Nat.le_of_ble_eq_true rfl) (t68.rc (by decide)) ⟨_, _, rfl, H59, t68⟩ (fun w70 σ71 q72 => ?_)
      obtain ⟨rfl, H73, e74, q75, q76⟩ := q72
      refine k_st (st' := []) rfl ?_
      have t82 := t68.x e74
      obtain ⟨x77, e78, c79, h80, h81⟩ := cg369 H73.1 t82
      have z83 := congrArg Int32.toInt c79
      refine k_aload_n rfl ?_
      refine k_get kg369 t82 (congrArg (Sum.inl : Int32 → AvC) c79) ?_
      refine k_ireturn (fun hz => absurd hz (by decide)) ?_
      have X84 : ExC [369, 997] σ0 σ15 := ExC.rf.tr (e18.mo (by decide))
      have X85 : ExC [369, 997] σ0 σ29 := X84.tr (e32.mo (by decide))
      have X86 : ExC [369, 997] σ0 σ43 := X85.tr (e46.mo (by decide))
      have X87 : ExC [369, 997] σ0 σ57 := X86.tr (e60.mo (by decide))
      have X88 : ExC [369, 997] σ0 σ71 := X87.tr (e74.mo (by decide))
      have z89 := congrArg Int32.toInt c79
      have z90 := congrArg Int32.toInt c79
      exact ⟨_, rfl, H73, X88, (by omega), (by omega)⟩
    · refine k_nil ?_
      refine hB _ _ _ _ (kgoC (is := KX11_feed_13) rfl ?_)
      refine k_bipush (m := (-3)) rfl (fun x91 h92 => ?_)
      refine k_ireturn (fun hz => absurd hz (by decide)) ?_
      have z93 := congrArg Int32.toInt c3
      have z94 := congrArg Int32.toInt c3
      exact ⟨_, rfl, H0, (ExC.rf : ExC [369, 997] σ0 σ0), (by omega), (by omega)⟩
theorem lg_X11_feed : ∀ (As : List AvC) (σ : CsC), P_X11_feed As σ → lgC As ≤ rX11_feed.2.2.1 := by
  rintro As σ ⟨p0, p1, p2, p3, p4, p5, rfl, -⟩
  exact Nat.le_of_ble_eq_true rfl
theorem m_X11_feed (l : Launch) : CMetC l 2 201 P_X11_feed Q_X11_feed :=
  CMetC.of KX11_feed [(202, P_X11_append, Q_X11_append)] hX11_feed (by decide) (by decide) okX11_feed (cc1C (m_X11_append l) (by decide) cc0C) (lg_X11_feed) (b_X11_feed)

abbrev P_X11_cut : CpC := fun As σ => ∃ (p0 : Nat) (p1 : Int32), As = [.inr (.inr (some p0)), .inl p1] ∧ HIC σ ∧ TyC σ p0 12
abbrev Q_X11_cut : CqC := fun As σ w τ => match As with
  | [.inr (.inr (some p0)), .inl p1] => ∃ r : Int32, w = some (.inl r) ∧ HIC τ ∧ ExC [369] σ τ ∧ ((fIC τ p0 369).toInt ≤ (fIC σ p0 369).toInt) ∧ ((((p1.toInt < 0 ∨ (fIC σ p0 369).toInt < p1.toInt) ∧ r.toInt = -1 ∧ (fIC τ p0 369).toInt = (fIC σ p0 369).toInt) ∨ ((0 ≤ p1.toInt ∧ p1.toInt ≤ (fIC σ p0 369).toInt) ∧ r.toInt = (fIC τ p0 369).toInt ∧ (fIC τ p0 369).toInt = (fIC σ p0 369).toInt - p1.toInt)))
  | _ => False
set_option maxRecDepth 100000 in
set_option maxHeartbeats 4000000 in
theorem b_X11_cut : TbC KX11_cut [] P_X11_cut Q_X11_cut := by
  · rintro As σ0 ⟨p0, p1, rfl, H0, h_0_0⟩ hgr G hB hW
    change G 0 [(0, .inr (.inr (some p0))), (1, .inl p1)] [] σ0
    obtain ⟨x1, e2, c3, h4, h5⟩ := cg369 H0.1 h_0_0
    have z6 := congrArg Int32.toInt c3
    refine hB _ _ _ _ (kgoC (is := KX11_cut_0) rfl ?_)
    refine k_iload_n rfl ?_
    refine k_if_lt (fun h7 => ?_) (fun h7 => ?_)
    · refine hB _ _ _ _ (kgoC (is := KX11_cut_12) rfl ?_)
      refine k_iconst (m := (-1)) rfl (fun x8 h9 => ?_)
      refine k_ireturn (fun hz => absurd hz (by decide)) ?_
      have z10 := congrArg Int32.toInt c3
      have z11 := congrArg Int32.toInt c3
      exact ⟨_, rfl, H0, (ExC.rf : ExC [369] σ0 σ0), (by omega), (by omega)⟩
    · refine k_nil ?_
      refine hB _ _ _ _ (kgoC (is := KX11_cut_4) rfl ?_)
      refine k_iload_n rfl ?_
      refine k_aload_n rfl ?_
      refine k_get kg369 h_0_0 (congrArg (Sum.inl : Int32 → AvC) c3) ?_
      refine k_ic_le (fun h12 => ?_) (fun h12 => ?_)
      · refine hB _ _ _ _ (kgoC (is := KX11_cut_14) rfl ?_)
        refine k_aload_n rfl ?_
        refine k_dupR ?_
        refine k_get kg369 h_0_0 (congrArg (Sum.inl : Int32 → AvC) c3) ?_
        refine k_iload_n rfl ?_
        refine k_isub (by omega) (by omega) (fun x13 h14 => ?_)
        refine k_putI kp369 H0 h_0_0 (Or.inl fk369) (by show 0 ≤ _; omega) (by show _ ≤ 2500; omega) (fun σ15 H16 e17 c18 => ?_)
        refine k_aload_n rfl ?_
        have t19 := h_0_0.x e17
        refine k_get kg369 t19 (congrArg (Sum.inl : Int32 → AvC) c18) ?_
        refine k_ireturn (fun hz => absurd hz (by decide)) ?_
        have X20 : ExC [369] σ0 σ15 := ExC.rf.tr (e17.mo (by decide))
        have z21 := congrArg Int32.toInt c18
        have z22 := congrArg Int32.toInt c18
        exact ⟨_, rfl, H16, X20, (by omega), (by omega)⟩
      · refine k_nil ?_
        refine hB _ _ _ _ (kgoC (is := KX11_cut_12) rfl ?_)
        refine k_iconst (m := (-1)) rfl (fun x23 h24 => ?_)
        refine k_ireturn (fun hz => absurd hz (by decide)) ?_
        have z25 := congrArg Int32.toInt c3
        have z26 := congrArg Int32.toInt c3
        exact ⟨_, rfl, H0, (ExC.rf : ExC [369] σ0 σ0), (by omega), (by omega)⟩
theorem lg_X11_cut : ∀ (As : List AvC) (σ : CsC), P_X11_cut As σ → lgC As ≤ rX11_cut.2.2.1 := by
  rintro As σ ⟨p0, p1, rfl, -⟩
  exact Nat.le_of_ble_eq_true rfl
theorem m_X11_cut (l : Launch) : CMetC l 1 203 P_X11_cut Q_X11_cut :=
  CMetC.of KX11_cut [] hX11_cut (by decide) (by decide) okX11_cut cc0C (lg_X11_cut) (b_X11_cut)

abbrev P_X11_place : CpC := fun As σ => ∃ (p0 : Nat), As = [.inr (.inr (some p0))] ∧ HIC σ ∧ TyC σ p0 12
abbrev Q_X11_place : CqC := fun As σ w τ => match As with
  | [.inr (.inr (some p0))] => ∃ r : Int32, w = some (.inl r) ∧ σ = τ
  | _ => False
set_option maxRecDepth 100000 in
set_option maxHeartbeats 4000000 in
theorem b_X11_place : TbC KX11_place [] P_X11_place Q_X11_place := by
  · rintro As σ0 ⟨p0, rfl, H0, h_0_0⟩ hgr G hB hW
    change G 0 [(0, .inr (.inr (some p0)))] [] σ0
    refine hB _ _ _ _ (kgoC (is := KX11_place_0) rfl ?_)
    refine k_aload_n rfl ?_
    obtain ⟨x3, e1, c2, h4, h5⟩ := cg371 H0.1 h_0_0
    refine k_get kg371 h_0_0 e1 ?_
    refine k_ireturn (fun hz => absurd hz (by decide)) ?_
    exact ⟨_, rfl, rfl⟩
theorem lg_X11_place : ∀ (As : List AvC) (σ : CsC), P_X11_place As σ → lgC As ≤ rX11_place.2.2.1 := by
  rintro As σ ⟨p0, rfl, -⟩
  exact Nat.le_of_ble_eq_true rfl
theorem m_X11_place (l : Launch) : CMetC l 1 205 P_X11_place Q_X11_place :=
  CMetC.of KX11_place [] hX11_place (by decide) (by decide) okX11_place cc0C (lg_X11_place) (b_X11_place)

abbrev P_X11_judge : CpC := fun As σ => ∃ (p0 : Nat), As = [.inr (.inr (some p0))] ∧ HIC σ ∧ TyC σ p0 12
abbrev Q_X11_judge : CqC := fun As σ w τ => match As with
  | [.inr (.inr (some p0))] => ∃ r : Int32, w = some (.inl r) ∧ HIC τ ∧ ExC [371] σ τ
  | _ => False
set_option maxRecDepth 100000 in
set_option maxHeartbeats 4000000 in
theorem b_X11_judge : TbC KX11_judge [] P_X11_judge Q_X11_judge := by
  · rintro As σ0 ⟨p0, rfl, H0, h_0_0⟩ hgr G hB hW
    change G 0 [(0, .inr (.inr (some p0)))] [] σ0
    refine hB _ _ _ _ (kgoC (is := KX11_judge_0) rfl ?_)
    refine k_aload_n rfl ?_
    refine k_aload_n rfl ?_
    obtain ⟨a3, e1, c2, t4⟩ := cg363 H0.1 h_0_0
    refine k_get kg363 h_0_0 e1 ?_
    obtain ⟨x7, e5, c6, h8, h9⟩ := cg217 H0.1 t4
    refine k_get kg217 t4 e5 ?_
    refine k_if_ne (fun h10 => ?_) (fun h10 => ?_)
    · refine hB _ _ _ _ (kgoC (is := KX11_judge_16) rfl ?_)
      refine k_aload_n rfl ?_
      refine k_get kg363 h_0_0 (congrArg (fun z : Option Nat => (Sum.inr (Sum.inr z) : AvC)) c2) ?_
      obtain ⟨x13, e11, c12, h14, h15⟩ := cg218 H0.1 t4
      refine k_get kg218 t4 e11 ?_
      refine k_nil ?_
      refine hB _ _ _ _ (kgoC (is := KX11_judge_23) rfl ?_)
      refine k_putI kp371 H0 h_0_0 (Or.inl fk371) (tiC x13).1 (tiC x13).2 (fun σ16 H17 e18 c19 => ?_)
      refine k_aload_n rfl ?_
      have t20 := h_0_0.x e18
      have c21 := (h_0_0.mr e18 (by decide)).trans c2
      refine k_get kg363 t20 (congrArg (fun z : Option Nat => (Sum.inr (Sum.inr z) : AvC)) c21) ?_
      have t22 := t4.x e18
      have c23 := (t4.mi e18 (by decide)).trans c6
      refine k_get kg217 t22 (congrArg (Sum.inl : Int32 → AvC) c23) ?_
      refine k_ireturn (fun hz => absurd hz (by decide)) ?_
      have X24 : ExC [371] σ0 σ16 := ExC.rf.tr (e18.mo (by decide))
      exact ⟨_, rfl, H17, X24⟩
    · refine k_nil ?_
      refine hB _ _ _ _ (kgoC (is := KX11_judge_11) rfl ?_)
      refine k_bipush (m := (-2)) rfl (fun x25 h26 => ?_)
      refine k_goto ?_
      refine hB _ _ _ _ (kgoC (is := KX11_judge_23) rfl ?_)
      refine k_putI kp371 H0 h_0_0 (Or.inl fk371) (tiC x25).1 (tiC x25).2 (fun σ27 H28 e29 c30 => ?_)
      refine k_aload_n rfl ?_
      have t31 := h_0_0.x e29
      have c32 := (h_0_0.mr e29 (by decide)).trans c2
      refine k_get kg363 t31 (congrArg (fun z : Option Nat => (Sum.inr (Sum.inr z) : AvC)) c32) ?_
      have t33 := t4.x e29
      have c34 := (t4.mi e29 (by decide)).trans c6
      refine k_get kg217 t33 (congrArg (Sum.inl : Int32 → AvC) c34) ?_
      refine k_ireturn (fun hz => absurd hz (by decide)) ?_
      have X35 : ExC [371] σ0 σ27 := ExC.rf.tr (e29.mo (by decide))
      exact ⟨_, rfl, H28, X35⟩
theorem lg_X11_judge : ∀ (As : List AvC) (σ : CsC), P_X11_judge As σ → lgC As ≤ rX11_judge.2.2.1 := by
  rintro As σ ⟨p0, rfl, -⟩
  exact Nat.le_of_ble_eq_true rfl
theorem m_X11_judge (l : Launch) : CMetC l 1 206 P_X11_judge Q_X11_judge :=
  CMetC.of KX11_judge [] hX11_judge (by decide) (by decide) okX11_judge cc0C (lg_X11_judge) (b_X11_judge)

abbrev P_X11_told : CpC := fun As σ => ∃ (p0 : Nat) (p1 : Int32), As = [.inr (.inr (some p0)), .inl p1] ∧ HIC σ ∧ TyC σ p0 12
abbrev Q_X11_told : CqC := fun As σ w τ => match As with
  | [.inr (.inr (some p0)), .inl p1] => ∃ r : Int32, w = some (.inl r) ∧ σ = τ
  | _ => False
set_option maxRecDepth 100000 in
set_option maxHeartbeats 4000000 in
theorem b_X11_told : TbC KX11_told [(234, P_Jx4a65c_size_8abf5, Q_Jx4a65c_size_8abf5)] P_X11_told Q_X11_told := by
  · rintro As σ0 ⟨p0, p1, rfl, H0, h_0_0⟩ hgr G hB hW
    change G 0 [(0, .inr (.inr (some p0))), (1, .inl p1)] [] σ0
    refine hB _ _ _ _ (kgoC (is := KX11_told_0) rfl ?_)
    refine k_iload_n rfl ?_
    refine k_tsw ?_
    refine k_swc (fun h1 => ?_) (fun h1 => ?_)
    · refine hB _ _ _ _ (kgoC (is := KX11_told_32) rfl ?_)
      refine k_aload_n rfl ?_
      obtain ⟨a4, e2, c3, t5⟩ := cg363 H0.1 h_0_0
      refine k_get kg363 h_0_0 e2 ?_
      obtain ⟨a8, e6, c7, t9⟩ := cg210 H0.1 t5
      refine k_get kg210 t5 e6 ?_
      obtain ⟨x12, e10, c11, h13, h14⟩ := cg305 H0.1 t9
      refine k_get kg305 t9 e10 ?_
      refine k_ireturn (fun hz => absurd hz (by decide)) ?_
      exact ⟨_, rfl, rfl⟩
    refine k_swc (fun h15 => ?_) (fun h15 => ?_)
    · refine hB _ _ _ _ (kgoC (is := KX11_told_43) rfl ?_)
      refine k_aload_n rfl ?_
      obtain ⟨a18, e16, c17, t19⟩ := cg363 H0.1 h_0_0
      refine k_get kg363 h_0_0 e16 ?_
      obtain ⟨a22, e20, c21, t23, l24⟩ := cg211 H0.1 t19
      refine k_get kg211 t19 e20 ?_
      refine k_inv (P := P_Jx4a65c_size_8abf5) (Q := Q_Jx4a65c_size_8abf5) rfl rfl rfl rfl (Nat.le_of_ble_eq_true rfl) (t23.rc (by decide)) ⟨_, rfl, H0, t23⟩ (fun w25 σ26 q27 => ?_)
      obtain ⟨x28, rfl, rfl, h29, h30, q31, q32⟩ := q27
      refine k_st (st' := [.inl x28]) rfl ?_
      have z33 := q32 l24
      refine k_ireturn (fun hz => absurd hz (by decide)) ?_
      exact ⟨_, rfl, rfl⟩
    refine k_swc (fun h34 => ?_) (fun h34 => ?_)
    · refine hB _ _ _ _ (kgoC (is := KX11_told_54) rfl ?_)
      refine k_aload_n rfl ?_
      obtain ⟨a37, e35, c36, t38⟩ := cg363 H0.1 h_0_0
      refine k_get kg363 h_0_0 e35 ?_
      obtain ⟨a41, e39, c40, t42, l43⟩ := cg212 H0.1 t38
      refine k_get kg212 t38 e39 ?_
      refine k_inv (P := P_Jx4a65c_size_8abf5) (Q := Q_Jx4a65c_size_8abf5) rfl rfl rfl rfl (Nat.le_of_ble_eq_true rfl) (t42.rc (by decide)) ⟨_, rfl, H0, t42⟩ (fun w44 σ45 q46 => ?_)
      obtain ⟨x47, rfl, rfl, h48, h49, q50, q51⟩ := q46
      refine k_st (st' := [.inl x47]) rfl ?_
      refine k_ireturn (fun hz => absurd hz (by decide)) ?_
      exact ⟨_, rfl, rfl⟩
    refine k_swc (fun h52 => ?_) (fun h52 => ?_)
    · refine hB _ _ _ _ (kgoC (is := KX11_told_65) rfl ?_)
      refine k_aload_n rfl ?_
      obtain ⟨x55, e53, c54, h56, h57⟩ := cg370 H0.1 h_0_0
      refine k_get kg370 h_0_0 e53 ?_
      refine k_ireturn (fun hz => absurd hz (by decide)) ?_
      exact ⟨_, rfl, rfl⟩
    refine k_swn ?_
    refine hB _ _ _ _ (kgoC (is := KX11_told_70) rfl ?_)
    refine k_iconst (m := (-1)) rfl (fun x58 h59 => ?_)
    refine k_ireturn (fun hz => absurd hz (by decide)) ?_
    exact ⟨_, rfl, rfl⟩
theorem lg_X11_told : ∀ (As : List AvC) (σ : CsC), P_X11_told As σ → lgC As ≤ rX11_told.2.2.1 := by
  rintro As σ ⟨p0, p1, rfl, -⟩
  exact Nat.le_of_ble_eq_true rfl
theorem m_X11_told (l : Launch) : CMetC l 11 207 P_X11_told Q_X11_told :=
  CMetC.of KX11_told [(234, P_Jx4a65c_size_8abf5, Q_Jx4a65c_size_8abf5)] hX11_told (by decide) (by decide) okX11_told (cc1C (m_Jx4a65c_size_8abf5 l) (by decide) cc0C) (lg_X11_told) (b_X11_told)

abbrev P_X11_token : CpC := fun As σ => ∃ (p0 : Nat) (p1 : Int32) (p2 : Int32), As = [.inr (.inr (some p0)), .inl p1, .inl p2] ∧ HIC σ ∧ TyC σ p0 12
abbrev Q_X11_token : CqC := fun As σ w τ => match As with
  | [.inr (.inr (some p0)), .inl p1, .inl p2] => ∃ r : Int32, w = some (.inl r) ∧ σ = τ
  | _ => False
set_option maxRecDepth 100000 in
set_option maxHeartbeats 4000000 in
theorem b_X11_token : TbC KX11_token [(187, P_X9_sort, Q_X9_sort)] P_X11_token Q_X11_token := by
  · rintro As σ0 ⟨p0, p1, p2, rfl, H0, h_0_0⟩ hgr G hB hW
    change G 0 [(0, .inr (.inr (some p0))), (1, .inl p1), (2, .inl p2)] [] σ0
    refine hB _ _ _ _ (kgoC (is := KX11_token_0) rfl ?_)
    refine k_aload_n rfl ?_
    obtain ⟨a3, e1, c2, t4⟩ := cg363 H0.1 h_0_0
    refine k_get kg363 h_0_0 e1 ?_
    obtain ⟨a7, e5, c6, t8⟩ := cg210 H0.1 t4
    refine k_get kg210 t4 e5 ?_
    refine k_astore_n (ls' := [(3, .inr (.inr (some a7))), (0, .inr (.inr (some p0))), (1, .inl p1), (2, .inl p2)]) rfl ?_
    refine k_iload_n rfl ?_
    refine k_if_lt (fun h9 => ?_) (fun h9 => ?_)
    · refine hB _ _ _ _ (kgoC (is := KX11_token_20) rfl ?_)
      refine k_iconst (m := (-1)) rfl (fun x10 h11 => ?_)
      refine k_ireturn (fun hz => absurd hz (by decide)) ?_
      exact ⟨_, rfl, rfl⟩
    · refine k_nil ?_
      refine hB _ _ _ _ (kgoC (is := KX11_token_12) rfl ?_)
      refine k_iload_n rfl ?_
      refine k_aload_n rfl ?_
      obtain ⟨x14, e12, c13, h15, h16⟩ := cg305 H0.1 t8
      refine k_get kg305 t8 e12 ?_
      refine k_ic_lt (fun h17 => ?_) (fun h17 => ?_)
      · refine hB _ _ _ _ (kgoC (is := KX11_token_22) rfl ?_)
        refine k_iload_n rfl ?_
        refine k_tsw ?_
        refine k_swc (fun h18 => ?_) (fun h18 => ?_)
        · refine hB _ _ _ _ (kgoC (is := KX11_token_48) rfl ?_)
          refine k_aload_n rfl ?_
          obtain ⟨a21, e19, c20, t22, l23, l24⟩ := cg300 H0.1 t8
          refine k_get kg300 t8 e19 ?_
          refine k_iload_n rfl ?_
          refine k_iaload t22 (by omega) (by omega) (fun x25 => ?_)
          refine k_ireturn (fun hz => absurd hz (by decide)) ?_
          exact ⟨_, rfl, rfl⟩
        refine k_swc (fun h26 => ?_) (fun h26 => ?_)
        · refine hB _ _ _ _ (kgoC (is := KX11_token_55) rfl ?_)
          refine k_aload_n rfl ?_
          obtain ⟨a29, e27, c28, t30, l31, l32⟩ := cg301 H0.1 t8
          refine k_get kg301 t8 e27 ?_
          refine k_iload_n rfl ?_
          refine k_iaload t30 (by omega) (by omega) (fun x33 => ?_)
          refine k_ireturn (fun hz => absurd hz (by decide)) ?_
          exact ⟨_, rfl, rfl⟩
        refine k_swc (fun h34 => ?_) (fun h34 => ?_)
        · refine hB _ _ _ _ (kgoC (is := KX11_token_62) rfl ?_)
          refine k_aload_n rfl ?_
          refine k_iload_n rfl ?_
          refine k_inv (P := P_X9_sort) (Q := Q_X9_sort) rfl rfl rfl rfl (Nat.le_of_ble_eq_true rfl) (t8.rc (by decide)) ⟨_, _, rfl, H0, t8, (by omega), (by omega)⟩ (fun w35 σ36 q37 => ?_)
          obtain ⟨x38, rfl, rfl⟩ := q37
          refine k_st (st' := [.inl x38]) rfl ?_
          refine k_ireturn (fun hz => absurd hz (by decide)) ?_
          exact ⟨_, rfl, rfl⟩
        refine k_swn ?_
        refine hB _ _ _ _ (kgoC (is := KX11_token_68) rfl ?_)
        refine k_iconst (m := (-1)) rfl (fun x39 h40 => ?_)
        refine k_ireturn (fun hz => absurd hz (by decide)) ?_
        exact ⟨_, rfl, rfl⟩
      · refine k_nil ?_
        refine hB _ _ _ _ (kgoC (is := KX11_token_20) rfl ?_)
        refine k_iconst (m := (-1)) rfl (fun x41 h42 => ?_)
        refine k_ireturn (fun hz => absurd hz (by decide)) ?_
        exact ⟨_, rfl, rfl⟩
theorem lg_X11_token : ∀ (As : List AvC) (σ : CsC), P_X11_token As σ → lgC As ≤ rX11_token.2.2.1 := by
  rintro As σ ⟨p0, p1, p2, rfl, -⟩
  exact Nat.le_of_ble_eq_true rfl
theorem m_X11_token (l : Launch) : CMetC l 2 208 P_X11_token Q_X11_token :=
  CMetC.of KX11_token [(187, P_X9_sort, Q_X9_sort)] hX11_token (by decide) (by decide) okX11_token (cc1C (m_X9_sort l) (by decide) cc0C) (lg_X11_token) (b_X11_token)

abbrev P_X11_method : CpC := fun As σ => ∃ (p0 : Nat) (p1 : Int32) (p2 : Int32), As = [.inr (.inr (some p0)), .inl p1, .inl p2] ∧ HIC σ ∧ TyC σ p0 12
abbrev Q_X11_method : CqC := fun As σ w τ => match As with
  | [.inr (.inr (some p0)), .inl p1, .inl p2] => ∃ r : Int32, w = some (.inl r) ∧ σ = τ
  | _ => False
set_option maxRecDepth 100000 in
set_option maxHeartbeats 4000000 in
theorem b_X11_method : TbC KX11_method [(234, P_Jx4a65c_size_8abf5, Q_Jx4a65c_size_8abf5), (235, P_Jx4a65c_get_915e3, Q_Jx4a65c_get_915e3)] P_X11_method Q_X11_method := by
  · rintro As σ0 ⟨p0, p1, p2, rfl, H0, h_0_0⟩ hgr G hB hW
    change G 0 [(0, .inr (.inr (some p0))), (1, .inl p1), (2, .inl p2)] [] σ0
    refine hB _ _ _ _ (kgoC (is := KX11_method_0) rfl ?_)
    refine k_iload_n rfl ?_
    refine k_if_lt (fun h1 => ?_) (fun h1 => ?_)
    · refine hB _ _ _ _ (kgoC (is := KX11_method_18) rfl ?_)
      refine k_iconst (m := (-1)) rfl (fun x2 h3 => ?_)
      refine k_ireturn (fun hz => absurd hz (by decide)) ?_
      exact ⟨_, rfl, rfl⟩
    · refine k_nil ?_
      refine hB _ _ _ _ (kgoC (is := KX11_method_4) rfl ?_)
      refine k_iload_n rfl ?_
      refine k_aload_n rfl ?_
      obtain ⟨a6, e4, c5, t7⟩ := cg363 H0.1 h_0_0
      refine k_get kg363 h_0_0 e4 ?_
      obtain ⟨a10, e8, c9, t11, l12⟩ := cg211 H0.1 t7
      refine k_get kg211 t7 e8 ?_
      refine k_inv (P := P_Jx4a65c_size_8abf5) (Q := Q_Jx4a65c_size_8abf5) rfl rfl rfl rfl (Nat.le_of_ble_eq_true rfl) (t11.rc (by decide)) ⟨_, rfl, H0, t11⟩ (fun w13 σ14 q15 => ?_)
      obtain ⟨x16, rfl, rfl, h17, h18, q19, q20⟩ := q15
      refine k_st (st' := [.inl x16, .inl p1]) rfl ?_
      have z21 := q20 l12
      refine k_ic_lt (fun h22 => ?_) (fun h22 => ?_)
      · refine hB _ _ _ _ (kgoC (is := KX11_method_20) rfl ?_)
        refine k_aload_n rfl ?_
        refine k_get kg363 h_0_0 (congrArg (fun z : Option Nat => (Sum.inr (Sum.inr z) : AvC)) c5) ?_
        refine k_get kg211 t7 (congrArg (fun z : Option Nat => (Sum.inr (Sum.inr z) : AvC)) c9) ?_
        refine k_iload_n rfl ?_
        have z23 := congrArg Int32.toInt q19
        refine k_inv (P := P_Jx4a65c_get_915e3) (Q := Q_Jx4a65c_get_915e3) rfl rfl rfl rfl (Nat.le_of_ble_eq_true rfl) (t11.rc (by decide)) ⟨_, _, rfl, H0, t11, (by omega), (by omega)⟩ (fun w24 σ25 q26 => ?_)
        obtain ⟨a27, rfl, rfl, h28⟩ := q26
        rw [l12] at h28
        have t29 := h28.1
        obtain ⟨x30, e31, c32, h33, h34⟩ := cg180 H0.1 t29
        have h35 : 0 ≤ x30.toInt := by rw [← c32]; exact h28.2.2 rfl
        refine k_st (st' := [.inr (.inr (some a27))]) rfl ?_
        refine k_castS (t29.ob (by decide)) ?_
        refine k_astore_n (ls' := [(3, .inr (.inr (some a27))), (0, .inr (.inr (some p0))), (1, .inl p1), (2, .inl p2)]) rfl ?_
        refine k_iload_n rfl ?_
        refine k_tsw ?_
        refine k_swc (fun h36 => ?_) (fun h36 => ?_)
        · refine hB _ _ _ _ (kgoC (is := KX11_method_64) rfl ?_)
          refine k_aload_n rfl ?_
          refine k_get kg180 t29 (congrArg (Sum.inl : Int32 → AvC) c32) ?_
          refine k_ireturn (fun hz => absurd hz (by decide)) ?_
          exact ⟨_, rfl, rfl⟩
        refine k_swc (fun h37 => ?_) (fun h37 => ?_)
        · refine hB _ _ _ _ (kgoC (is := KX11_method_69) rfl ?_)
          refine k_aload_n rfl ?_
          obtain ⟨x40, e38, c39, h41, h42⟩ := cg182 H0.1 t29
          refine k_get kg182 t29 e38 ?_
          refine k_ireturn (fun hz => absurd hz (by decide)) ?_
          exact ⟨_, rfl, rfl⟩
        refine k_swc (fun h43 => ?_) (fun h43 => ?_)
        · refine hB _ _ _ _ (kgoC (is := KX11_method_74) rfl ?_)
          refine k_aload_n rfl ?_
          obtain ⟨x46, e44, c45, h47, h48⟩ := cg185 H0.1 t29
          refine k_get kg185 t29 e44 ?_
          refine k_ireturn (fun hz => absurd hz (by decide)) ?_
          exact ⟨_, rfl, rfl⟩
        refine k_swn ?_
        refine hB _ _ _ _ (kgoC (is := KX11_method_79) rfl ?_)
        refine k_iload_n rfl ?_
        refine k_bipush (m := 10) rfl (fun x49 h50 => ?_)
        refine k_ic_lt (fun h51 => ?_) (fun h51 => ?_)
        · refine hB _ _ _ _ (kgoC (is := KX11_method_108) rfl ?_)
          refine k_iconst (m := (-1)) rfl (fun x52 h53 => ?_)
          refine k_nil ?_
          refine hB _ _ _ _ (kgoC (is := KX11_method_109) rfl ?_)
          refine k_ireturn (fun hz => absurd hz (by decide)) ?_
          exact ⟨_, rfl, rfl⟩
        · refine k_nil ?_
          refine hB _ _ _ _ (kgoC (is := KX11_method_85) rfl ?_)
          refine k_iload_n rfl ?_
          refine k_bipush (m := 10) rfl (fun x54 h55 => ?_)
          have z58 := tiC p2
          refine k_isub (by omega) (by omega) (fun x56 h57 => ?_)
          refine k_aload_n rfl ?_
          obtain ⟨x61, e59, c60, h62, h63⟩ := cg185 H0.1 t29
          refine k_get kg185 t29 e59 ?_
          refine k_ic_ge (fun h64 => ?_) (fun h64 => ?_)
          · refine hB _ _ _ _ (kgoC (is := KX11_method_108) rfl ?_)
            refine k_iconst (m := (-1)) rfl (fun x65 h66 => ?_)
            refine k_nil ?_
            refine hB _ _ _ _ (kgoC (is := KX11_method_109) rfl ?_)
            refine k_ireturn (fun hz => absurd hz (by decide)) ?_
            exact ⟨_, rfl, rfl⟩
          · refine k_nil ?_
            refine hB _ _ _ _ (kgoC (is := KX11_method_96) rfl ?_)
            refine k_aload_n rfl ?_
            obtain ⟨a69, e67, c68, t70, l71, l72⟩ := cg183 H0.1 t29
            refine k_get kg183 t29 e67 ?_
            refine k_iload_n rfl ?_
            refine k_bipush (m := 10) rfl (fun x73 h74 => ?_)
            have z77 := tiC p2
            refine k_isub (by omega) (by omega) (fun x75 h76 => ?_)
            refine k_iaload t70 (by omega) (by omega) (fun x78 => ?_)
            refine k_goto ?_
            refine hB _ _ _ _ (kgoC (is := KX11_method_109) rfl ?_)
            refine k_ireturn (fun hz => absurd hz (by decide)) ?_
            exact ⟨_, rfl, rfl⟩
      · refine k_nil ?_
        refine hB _ _ _ _ (kgoC (is := KX11_method_18) rfl ?_)
        refine k_iconst (m := (-1)) rfl (fun x79 h80 => ?_)
        refine k_ireturn (fun hz => absurd hz (by decide)) ?_
        exact ⟨_, rfl, rfl⟩
theorem lg_X11_method : ∀ (As : List AvC) (σ : CsC), P_X11_method As σ → lgC As ≤ rX11_method.2.2.1 := by
  rintro As σ ⟨p0, p1, p2, rfl, -⟩
  exact Nat.le_of_ble_eq_true rfl
theorem m_X11_method (l : Launch) : CMetC l 11 209 P_X11_method Q_X11_method :=
  CMetC.of KX11_method [(234, P_Jx4a65c_size_8abf5, Q_Jx4a65c_size_8abf5), (235, P_Jx4a65c_get_915e3, Q_Jx4a65c_get_915e3)] hX11_method (by decide) (by decide) okX11_method (cc1C (m_Jx4a65c_size_8abf5 l) (by decide) (cc1C (m_Jx4a65c_get_915e3 l) (by decide) cc0C)) (lg_X11_method) (b_X11_method)

abbrev P_X11_variable : CpC := fun As σ => ∃ (p0 : Nat) (p1 : Int32) (p2 : Int32), As = [.inr (.inr (some p0)), .inl p1, .inl p2] ∧ HIC σ ∧ TyC σ p0 12
abbrev Q_X11_variable : CqC := fun As σ w τ => match As with
  | [.inr (.inr (some p0)), .inl p1, .inl p2] => ∃ r : Int32, w = some (.inl r) ∧ σ = τ
  | _ => False
set_option maxRecDepth 100000 in
set_option maxHeartbeats 4000000 in
theorem b_X11_variable : TbC KX11_variable [(234, P_Jx4a65c_size_8abf5, Q_Jx4a65c_size_8abf5), (235, P_Jx4a65c_get_915e3, Q_Jx4a65c_get_915e3)] P_X11_variable Q_X11_variable := by
  · rintro As σ0 ⟨p0, p1, p2, rfl, H0, h_0_0⟩ hgr G hB hW
    change G 0 [(0, .inr (.inr (some p0))), (1, .inl p1), (2, .inl p2)] [] σ0
    refine hB _ _ _ _ (kgoC (is := KX11_variable_0) rfl ?_)
    refine k_iload_n rfl ?_
    refine k_if_lt (fun h1 => ?_) (fun h1 => ?_)
    · refine hB _ _ _ _ (kgoC (is := KX11_variable_18) rfl ?_)
      refine k_iconst (m := (-1)) rfl (fun x2 h3 => ?_)
      refine k_ireturn (fun hz => absurd hz (by decide)) ?_
      exact ⟨_, rfl, rfl⟩
    · refine k_nil ?_
      refine hB _ _ _ _ (kgoC (is := KX11_variable_4) rfl ?_)
      refine k_iload_n rfl ?_
      refine k_aload_n rfl ?_
      obtain ⟨a6, e4, c5, t7⟩ := cg363 H0.1 h_0_0
      refine k_get kg363 h_0_0 e4 ?_
      obtain ⟨a10, e8, c9, t11, l12⟩ := cg212 H0.1 t7
      refine k_get kg212 t7 e8 ?_
      refine k_inv (P := P_Jx4a65c_size_8abf5) (Q := Q_Jx4a65c_size_8abf5) rfl rfl rfl rfl (Nat.le_of_ble_eq_true rfl) (t11.rc (by decide)) ⟨_, rfl, H0, t11⟩ (fun w13 σ14 q15 => ?_)
      obtain ⟨x16, rfl, rfl, h17, h18, q19, q20⟩ := q15
      refine k_st (st' := [.inl x16, .inl p1]) rfl ?_
      refine k_ic_lt (fun h21 => ?_) (fun h21 => ?_)
      · refine hB _ _ _ _ (kgoC (is := KX11_variable_20) rfl ?_)
        refine k_aload_n rfl ?_
        refine k_get kg363 h_0_0 (congrArg (fun z : Option Nat => (Sum.inr (Sum.inr z) : AvC)) c5) ?_
        refine k_get kg212 t7 (congrArg (fun z : Option Nat => (Sum.inr (Sum.inr z) : AvC)) c9) ?_
        refine k_iload_n rfl ?_
        have z22 := congrArg Int32.toInt q19
        refine k_inv (P := P_Jx4a65c_get_915e3) (Q := Q_Jx4a65c_get_915e3) rfl rfl rfl rfl (Nat.le_of_ble_eq_true rfl) (t11.rc (by decide)) ⟨_, _, rfl, H0, t11, (by omega), (by omega)⟩ (fun w23 σ24 q25 => ?_)
        obtain ⟨a26, rfl, rfl, h27⟩ := q25
        rw [l12] at h27
        have t28 := h27.1
        refine k_st (st' := [.inr (.inr (some a26))]) rfl ?_
        refine k_castS (t28.ob (by decide)) ?_
        refine k_astore_n (ls' := [(3, .inr (.inr (some a26))), (0, .inr (.inr (some p0))), (1, .inl p1), (2, .inl p2)]) rfl ?_
        refine k_iload_n rfl ?_
        refine k_tsw ?_
        refine k_swc (fun h29 => ?_) (fun h29 => ?_)
        · refine hB _ _ _ _ (kgoC (is := KX11_variable_68) rfl ?_)
          refine k_aload_n rfl ?_
          obtain ⟨x32, e30, c31, h33, h34⟩ := cg330 H0.1 t28
          refine k_get kg330 t28 e30 ?_
          refine k_ireturn (fun hz => absurd hz (by decide)) ?_
          exact ⟨_, rfl, rfl⟩
        refine k_swc (fun h35 => ?_) (fun h35 => ?_)
        · refine hB _ _ _ _ (kgoC (is := KX11_variable_73) rfl ?_)
          refine k_aload_n rfl ?_
          obtain ⟨x38, e36, c37, h39, h40⟩ := cg331 H0.1 t28
          refine k_get kg331 t28 e36 ?_
          refine k_ireturn (fun hz => absurd hz (by decide)) ?_
          exact ⟨_, rfl, rfl⟩
        refine k_swc (fun h41 => ?_) (fun h41 => ?_)
        · refine hB _ _ _ _ (kgoC (is := KX11_variable_78) rfl ?_)
          refine k_aload_n rfl ?_
          obtain ⟨x44, e42, c43, h45, h46⟩ := cg332 H0.1 t28
          refine k_get kg332 t28 e42 ?_
          refine k_if_eq (fun h47 => ?_) (fun h47 => ?_)
          · refine hB _ _ _ _ (kgoC (is := KX11_variable_89) rfl ?_)
            refine k_iconst (m := 0) rfl (fun x48 h49 => ?_)
            refine k_nil ?_
            refine hB _ _ _ _ (kgoC (is := KX11_variable_90) rfl ?_)
            refine k_ireturn (fun hz => absurd hz (by decide)) ?_
            exact ⟨_, rfl, rfl⟩
          · refine k_nil ?_
            refine hB _ _ _ _ (kgoC (is := KX11_variable_85) rfl ?_)
            refine k_iconst (m := 1) rfl (fun x50 h51 => ?_)
            refine k_goto ?_
            refine hB _ _ _ _ (kgoC (is := KX11_variable_90) rfl ?_)
            refine k_ireturn (fun hz => absurd hz (by decide)) ?_
            exact ⟨_, rfl, rfl⟩
        refine k_swc (fun h52 => ?_) (fun h52 => ?_)
        · refine hB _ _ _ _ (kgoC (is := KX11_variable_91) rfl ?_)
          refine k_aload_n rfl ?_
          obtain ⟨x55, e53, c54, h56, h57⟩ := cg333 H0.1 t28
          refine k_get kg333 t28 e53 ?_
          refine k_ireturn (fun hz => absurd hz (by decide)) ?_
          exact ⟨_, rfl, rfl⟩
        refine k_swn ?_
        refine hB _ _ _ _ (kgoC (is := KX11_variable_96) rfl ?_)
        refine k_iconst (m := (-1)) rfl (fun x58 h59 => ?_)
        refine k_ireturn (fun hz => absurd hz (by decide)) ?_
        exact ⟨_, rfl, rfl⟩
      · refine k_nil ?_
        refine hB _ _ _ _ (kgoC (is := KX11_variable_18) rfl ?_)
        refine k_iconst (m := (-1)) rfl (fun x60 h61 => ?_)
        refine k_ireturn (fun hz => absurd hz (by decide)) ?_
        exact ⟨_, rfl, rfl⟩
theorem lg_X11_variable : ∀ (As : List AvC) (σ : CsC), P_X11_variable As σ → lgC As ≤ rX11_variable.2.2.1 := by
  rintro As σ ⟨p0, p1, p2, rfl, -⟩
  exact Nat.le_of_ble_eq_true rfl
theorem m_X11_variable (l : Launch) : CMetC l 11 210 P_X11_variable Q_X11_variable :=
  CMetC.of KX11_variable [(234, P_Jx4a65c_size_8abf5, Q_Jx4a65c_size_8abf5), (235, P_Jx4a65c_get_915e3, Q_Jx4a65c_get_915e3)] hX11_variable (by decide) (by decide) okX11_variable (cc1C (m_Jx4a65c_size_8abf5 l) (by decide) (cc1C (m_Jx4a65c_get_915e3 l) (by decide) cc0C)) (lg_X11_variable) (b_X11_variable)

abbrev P_X11_means : CpC := fun As σ => ∃ (p0 : Nat) (p1 : Int32), As = [.inr (.inr (some p0)), .inl p1] ∧ HIC σ ∧ TyC σ p0 12
abbrev Q_X11_means : CqC := fun As σ w τ => match As with
  | [.inr (.inr (some p0)), .inl p1] => ∃ r : Int32, w = some (.inl r) ∧ σ = τ
  | _ => False
set_option maxRecDepth 100000 in
set_option maxHeartbeats 4000000 in
theorem b_X11_means : TbC KX11_means [] P_X11_means Q_X11_means := by
  · rintro As σ0 ⟨p0, p1, rfl, H0, h_0_0⟩ hgr G hB hW
    change G 0 [(0, .inr (.inr (some p0))), (1, .inl p1)] [] σ0
    refine hB _ _ _ _ (kgoC (is := KX11_means_0) rfl ?_)
    refine k_aload_n rfl ?_
    obtain ⟨a3, e1, c2, t4⟩ := cg363 H0.1 h_0_0
    refine k_get kg363 h_0_0 e1 ?_
    obtain ⟨a7, e5, c6, t8⟩ := cg210 H0.1 t4
    refine k_get kg210 t4 e5 ?_
    refine k_astore_n (ls' := [(2, .inr (.inr (some a7))), (0, .inr (.inr (some p0))), (1, .inl p1)]) rfl ?_
    refine k_iload_n rfl ?_
    refine k_if_lt (fun h9 => ?_) (fun h9 => ?_)
    · refine hB _ _ _ _ (kgoC (is := KX11_means_31) rfl ?_)
      refine k_iconst (m := (-1)) rfl (fun x10 h11 => ?_)
      refine k_ireturn (fun hz => absurd hz (by decide)) ?_
      exact ⟨_, rfl, rfl⟩
    · refine k_nil ?_
      refine hB _ _ _ _ (kgoC (is := KX11_means_12) rfl ?_)
      refine k_iload_n rfl ?_
      refine k_aload_n rfl ?_
      obtain ⟨x14, e12, c13, h15, h16⟩ := cg305 H0.1 t8
      refine k_get kg305 t8 e12 ?_
      refine k_ic_ge (fun h17 => ?_) (fun h17 => ?_)
      · refine hB _ _ _ _ (kgoC (is := KX11_means_31) rfl ?_)
        refine k_iconst (m := (-1)) rfl (fun x18 h19 => ?_)
        refine k_ireturn (fun hz => absurd hz (by decide)) ?_
        exact ⟨_, rfl, rfl⟩
      · refine k_nil ?_
        refine hB _ _ _ _ (kgoC (is := KX11_means_20) rfl ?_)
        refine k_aload_n rfl ?_
        obtain ⟨a22, e20, c21, t23, l24, l25⟩ := cg302 H0.1 t8
        refine k_get kg302 t8 e20 ?_
        refine k_iload_n rfl ?_
        refine k_iaload t23 (by omega) (by omega) (fun x26 => ?_)
        refine k_bipush (m := 80) rfl (fun x27 h28 => ?_)
        refine k_ic_eq (fun h29 => ?_) (fun h29 => ?_)
        · refine hB _ _ _ _ (kgoC (is := KX11_means_33) rfl ?_)
          refine k_aload_n rfl ?_
          refine k_get kg363 h_0_0 (congrArg (fun z : Option Nat => (Sum.inr (Sum.inr z) : AvC)) c2) ?_
          obtain ⟨x32, e30, c31, h33, h34⟩ := cg217 H0.1 t4
          refine k_get kg217 t4 e30 ?_
          refine k_if_eq (fun h35 => ?_) (fun h35 => ?_)
          · refine hB _ _ _ _ (kgoC (is := KX11_means_48) rfl ?_)
            refine k_aload_n rfl ?_
            obtain ⟨a38, e36, c37, t39, l40, l41⟩ := cg303 H0.1 t8
            refine k_get kg303 t8 e36 ?_
            refine k_iload_n rfl ?_
            refine k_iaload t39 (by omega) (by omega) (fun x42 => ?_)
            refine k_nil ?_
            refine hB _ _ _ _ (kgoC (is := KX11_means_54) rfl ?_)
            refine k_ireturn (fun hz => absurd hz (by decide)) ?_
            exact ⟨_, rfl, rfl⟩
          · refine k_nil ?_
            refine hB _ _ _ _ (kgoC (is := KX11_means_43) rfl ?_)
            refine k_bipush (m := (-2)) rfl (fun x43 h44 => ?_)
            refine k_goto ?_
            refine hB _ _ _ _ (kgoC (is := KX11_means_54) rfl ?_)
            refine k_ireturn (fun hz => absurd hz (by decide)) ?_
            exact ⟨_, rfl, rfl⟩
        · refine k_nil ?_
          refine hB _ _ _ _ (kgoC (is := KX11_means_31) rfl ?_)
          refine k_iconst (m := (-1)) rfl (fun x45 h46 => ?_)
          refine k_ireturn (fun hz => absurd hz (by decide)) ?_
          exact ⟨_, rfl, rfl⟩
theorem lg_X11_means : ∀ (As : List AvC) (σ : CsC), P_X11_means As σ → lgC As ≤ rX11_means.2.2.1 := by
  rintro As σ ⟨p0, p1, rfl, -⟩
  exact Nat.le_of_ble_eq_true rfl
theorem m_X11_means (l : Launch) : CMetC l 1 211 P_X11_means Q_X11_means :=
  CMetC.of KX11_means [] hX11_means (by decide) (by decide) okX11_means cc0C (lg_X11_means) (b_X11_means)

abbrev P_X11_type : CpC := fun As σ => ∃ (p0 : Nat) (p1 : Int32) (p2 : Int32), As = [.inr (.inr (some p0)), .inl p1, .inl p2] ∧ HIC σ ∧ TyC σ p0 12
abbrev Q_X11_type : CqC := fun As σ w τ => match As with
  | [.inr (.inr (some p0)), .inl p1, .inl p2] => ∃ r : Int32, w = some (.inl r) ∧ σ = τ
  | _ => False
set_option maxRecDepth 100000 in
set_option maxHeartbeats 4000000 in
theorem b_X11_type : TbC KX11_type [(120, P_X6_expAt, Q_X6_expAt)] P_X11_type Q_X11_type := by
  · rintro As σ0 ⟨p0, p1, p2, rfl, H0, h_0_0⟩ hgr G hB hW
    change G 0 [(0, .inr (.inr (some p0))), (1, .inl p1), (2, .inl p2)] [] σ0
    refine hB _ _ _ _ (kgoC (is := KX11_type_0) rfl ?_)
    refine k_aload_n rfl ?_
    obtain ⟨a3, e1, c2, t4⟩ := cg363 H0.1 h_0_0
    refine k_get kg363 h_0_0 e1 ?_
    obtain ⟨x7, e5, c6, h8, h9⟩ := cg217 H0.1 t4
    refine k_get kg217 t4 e5 ?_
    refine k_if_eq (fun h10 => ?_) (fun h10 => ?_)
    · refine hB _ _ _ _ (kgoC (is := KX11_type_13) rfl ?_)
      refine k_aload_n rfl ?_
      refine k_get kg363 h_0_0 (congrArg (fun z : Option Nat => (Sum.inr (Sum.inr z) : AvC)) c2) ?_
      refine k_iload_n rfl ?_
      refine k_iload_n rfl ?_
      refine k_inv (P := P_X6_expAt) (Q := Q_X6_expAt) rfl rfl rfl rfl (Nat.le_of_ble_eq_true rfl) (t4.rc (by decide)) ⟨_, _, _, rfl, H0, t4⟩ (fun w11 σ12 q13 => ?_)
      obtain ⟨o14, rfl, rfl, h15⟩ := q13
      refine k_st (st' := [.inr (.inr o14)]) rfl ?_
      refine k_astore_n (ls' := [(3, .inr (.inr o14)), (0, .inr (.inr (some p0))), (1, .inl p1), (2, .inl p2)]) rfl ?_
      refine k_aload_n rfl ?_
      refine k_ifnonnull (fun b16 h17 => ?_) (fun h17 => ?_)
      · subst h17
        have t18 := h15 b16 rfl
        refine hB _ _ _ _ (kgoC (is := KX11_type_31) rfl ?_)
        refine k_aload_n rfl ?_
        obtain ⟨x21, e19, c20, h22, h23⟩ := cg68 H0.1 t18
        refine k_get kg68 t18 e19 ?_
        refine k_nil ?_
        refine hB _ _ _ _ (kgoC (is := KX11_type_35) rfl ?_)
        refine k_ireturn (fun hz => absurd hz (by decide)) ?_
        exact ⟨_, rfl, rfl⟩
      · subst h17
        refine k_nil ?_
        refine hB _ _ _ _ (kgoC (is := KX11_type_27) rfl ?_)
        refine k_iconst (m := (-1)) rfl (fun x24 h25 => ?_)
        refine k_goto ?_
        refine hB _ _ _ _ (kgoC (is := KX11_type_35) rfl ?_)
        refine k_ireturn (fun hz => absurd hz (by decide)) ?_
        exact ⟨_, rfl, rfl⟩
    · refine k_nil ?_
      refine hB _ _ _ _ (kgoC (is := KX11_type_10) rfl ?_)
      refine k_bipush (m := (-2)) rfl (fun x26 h27 => ?_)
      refine k_ireturn (fun hz => absurd hz (by decide)) ?_
      exact ⟨_, rfl, rfl⟩
theorem lg_X11_type : ∀ (As : List AvC) (σ : CsC), P_X11_type As σ → lgC As ≤ rX11_type.2.2.1 := by
  rintro As σ ⟨p0, p1, p2, rfl, -⟩
  exact Nat.le_of_ble_eq_true rfl
theorem m_X11_type (l : Launch) : CMetC l 12 212 P_X11_type Q_X11_type :=
  CMetC.of KX11_type [(120, P_X6_expAt, Q_X6_expAt)] hX11_type (by decide) (by decide) okX11_type (cc1C (m_X6_expAt l) (by decide) cc0C) (lg_X11_type) (b_X11_type)

abbrev P_X11_constant : CpC := fun As σ => ∃ (p0 : Nat) (p1 : Int32) (p2 : Int32), As = [.inr (.inr (some p0)), .inl p1, .inl p2] ∧ HIC σ ∧ TyC σ p0 12
abbrev Q_X11_constant : CqC := fun As σ w τ => match As with
  | [.inr (.inr (some p0)), .inl p1, .inl p2] => ∃ r : Int64, w = some (.inr (.inl r)) ∧ σ = τ
  | _ => False
set_option maxRecDepth 100000 in
set_option maxHeartbeats 4000000 in
theorem b_X11_constant : TbC KX11_constant [(120, P_X6_expAt, Q_X6_expAt)] P_X11_constant Q_X11_constant := by
  · rintro As σ0 ⟨p0, p1, p2, rfl, H0, h_0_0⟩ hgr G hB hW
    change G 0 [(0, .inr (.inr (some p0))), (1, .inl p1), (2, .inl p2)] [] σ0
    refine hB _ _ _ _ (kgoC (is := KX11_constant_0) rfl ?_)
    refine k_aload_n rfl ?_
    obtain ⟨a3, e1, c2, t4⟩ := cg363 H0.1 h_0_0
    refine k_get kg363 h_0_0 e1 ?_
    obtain ⟨x7, e5, c6, h8, h9⟩ := cg217 H0.1 t4
    refine k_get kg217 t4 e5 ?_
    refine k_if_eq (fun h10 => ?_) (fun h10 => ?_)
    · refine hB _ _ _ _ (kgoC (is := KX11_constant_14) rfl ?_)
      refine k_aload_n rfl ?_
      refine k_get kg363 h_0_0 (congrArg (fun z : Option Nat => (Sum.inr (Sum.inr z) : AvC)) c2) ?_
      refine k_iload_n rfl ?_
      refine k_iload_n rfl ?_
      refine k_inv (P := P_X6_expAt) (Q := Q_X6_expAt) rfl rfl rfl rfl (Nat.le_of_ble_eq_true rfl) (t4.rc (by decide)) ⟨_, _, _, rfl, H0, t4⟩ (fun w11 σ12 q13 => ?_)
      obtain ⟨o14, rfl, rfl, h15⟩ := q13
      refine k_st (st' := [.inr (.inr o14)]) rfl ?_
      refine k_astore_n (ls' := [(3, .inr (.inr o14)), (0, .inr (.inr (some p0))), (1, .inl p1), (2, .inl p2)]) rfl ?_
      refine k_aload_n rfl ?_
      refine k_ifnull (fun h17 => ?_) (fun b16 h17 => ?_)
      · subst h17
        refine hB _ _ _ _ (kgoC (is := KX11_constant_35) rfl ?_)
        refine k_ldc2_w ?_
        refine k_goto ?_
        refine hB _ _ _ _ (kgoC (is := KX11_constant_45) rfl ?_)
        refine k_lreturn ?_
        exact ⟨_, rfl, rfl⟩
      · subst h17
        have t18 := h15 b16 rfl
        refine k_nil ?_
        refine hB _ _ _ _ (kgoC (is := KX11_constant_28) rfl ?_)
        refine k_aload_n rfl ?_
        obtain ⟨x21, e19, c20, h22, h23⟩ := cg70 H0.1 t18
        refine k_get kg70 t18 e19 ?_
        refine k_if_ne (fun h24 => ?_) (fun h24 => ?_)
        · refine hB _ _ _ _ (kgoC (is := KX11_constant_41) rfl ?_)
          refine k_aload_n rfl ?_
          obtain ⟨y27, e25, c26⟩ := cg71 (σ := σ0) (a := b16)
          refine k_get kg71 t18 e25 ?_
          refine k_nil ?_
          refine hB _ _ _ _ (kgoC (is := KX11_constant_45) rfl ?_)
          refine k_lreturn ?_
          exact ⟨_, rfl, rfl⟩
        · refine k_nil ?_
          refine hB _ _ _ _ (kgoC (is := KX11_constant_35) rfl ?_)
          refine k_ldc2_w ?_
          refine k_goto ?_
          refine hB _ _ _ _ (kgoC (is := KX11_constant_45) rfl ?_)
          refine k_lreturn ?_
          exact ⟨_, rfl, rfl⟩
    · refine k_nil ?_
      refine hB _ _ _ _ (kgoC (is := KX11_constant_10) rfl ?_)
      refine k_ldc2_w ?_
      refine k_lreturn ?_
      exact ⟨_, rfl, rfl⟩
theorem lg_X11_constant : ∀ (As : List AvC) (σ : CsC), P_X11_constant As σ → lgC As ≤ rX11_constant.2.2.1 := by
  rintro As σ ⟨p0, p1, p2, rfl, -⟩
  exact Nat.le_of_ble_eq_true rfl
theorem m_X11_constant (l : Launch) : CMetC l 12 213 P_X11_constant Q_X11_constant :=
  CMetC.of KX11_constant [(120, P_X6_expAt, Q_X6_expAt)] hX11_constant (by decide) (by decide) okX11_constant (cc1C (m_X6_expAt l) (by decide) cc0C) (lg_X11_constant) (b_X11_constant)

abbrev P_X11_ends : CpC := fun As σ => ∃ (p0 : Nat) (p1 : Int32), As = [.inr (.inr (some p0)), .inl p1] ∧ HIC σ ∧ TyC σ p0 12
abbrev Q_X11_ends : CqC := fun As σ w τ => match As with
  | [.inr (.inr (some p0)), .inl p1] => ∃ r : Int32, w = some (.inl r) ∧ σ = τ
  | _ => False
set_option maxRecDepth 100000 in
set_option maxHeartbeats 4000000 in
theorem b_X11_ends : TbC KX11_ends [(121, P_X6_statementAt, Q_X6_statementAt)] P_X11_ends Q_X11_ends := by
  · rintro As σ0 ⟨p0, p1, rfl, H0, h_0_0⟩ hgr G hB hW
    change G 0 [(0, .inr (.inr (some p0))), (1, .inl p1)] [] σ0
    refine hB _ _ _ _ (kgoC (is := KX11_ends_0) rfl ?_)
    refine k_aload_n rfl ?_
    obtain ⟨a3, e1, c2, t4⟩ := cg363 H0.1 h_0_0
    refine k_get kg363 h_0_0 e1 ?_
    obtain ⟨x7, e5, c6, h8, h9⟩ := cg217 H0.1 t4
    refine k_get kg217 t4 e5 ?_
    refine k_if_eq (fun h10 => ?_) (fun h10 => ?_)
    · refine hB _ _ _ _ (kgoC (is := KX11_ends_13) rfl ?_)
      refine k_aload_n rfl ?_
      refine k_get kg363 h_0_0 (congrArg (fun z : Option Nat => (Sum.inr (Sum.inr z) : AvC)) c2) ?_
      refine k_iload_n rfl ?_
      refine k_inv (P := P_X6_statementAt) (Q := Q_X6_statementAt) rfl rfl rfl rfl (Nat.le_of_ble_eq_true rfl) (t4.rc (by decide)) ⟨_, _, rfl, H0, t4⟩ (fun w11 σ12 q13 => ?_)
      obtain ⟨o14, rfl, rfl, h15⟩ := q13
      refine k_st (st' := [.inr (.inr o14)]) rfl ?_
      refine k_astore_n (ls' := [(2, .inr (.inr o14)), (0, .inr (.inr (some p0))), (1, .inl p1)]) rfl ?_
      refine k_aload_n rfl ?_
      refine k_ifnonnull (fun b16 h17 => ?_) (fun h17 => ?_)
      · subst h17
        have t18 := h15 b16 rfl
        refine hB _ _ _ _ (kgoC (is := KX11_ends_28) rfl ?_)
        refine k_aload_n rfl ?_
        obtain ⟨x21, e19, c20, h22, h23⟩ := cg282 H0.1 t18
        refine k_get kg282 t18 e19 ?_
        refine k_if_eq (fun h24 => ?_) (fun h24 => ?_)
        · refine hB _ _ _ _ (kgoC (is := KX11_ends_39) rfl ?_)
          refine k_iconst (m := 0) rfl (fun x25 h26 => ?_)
          refine k_nil ?_
          refine hB _ _ _ _ (kgoC (is := KX11_ends_40) rfl ?_)
          refine k_ireturn (fun hz => absurd hz (by decide)) ?_
          exact ⟨_, rfl, rfl⟩
        · refine k_nil ?_
          refine hB _ _ _ _ (kgoC (is := KX11_ends_35) rfl ?_)
          refine k_iconst (m := 1) rfl (fun x27 h28 => ?_)
          refine k_goto ?_
          refine hB _ _ _ _ (kgoC (is := KX11_ends_40) rfl ?_)
          refine k_ireturn (fun hz => absurd hz (by decide)) ?_
          exact ⟨_, rfl, rfl⟩
      · subst h17
        refine k_nil ?_
        refine hB _ _ _ _ (kgoC (is := KX11_ends_26) rfl ?_)
        refine k_iconst (m := (-1)) rfl (fun x29 h30 => ?_)
        refine k_ireturn (fun hz => absurd hz (by decide)) ?_
        exact ⟨_, rfl, rfl⟩
    · refine k_nil ?_
      refine hB _ _ _ _ (kgoC (is := KX11_ends_10) rfl ?_)
      refine k_bipush (m := (-2)) rfl (fun x31 h32 => ?_)
      refine k_ireturn (fun hz => absurd hz (by decide)) ?_
      exact ⟨_, rfl, rfl⟩
theorem lg_X11_ends : ∀ (As : List AvC) (σ : CsC), P_X11_ends As σ → lgC As ≤ rX11_ends.2.2.1 := by
  rintro As σ ⟨p0, p1, rfl, -⟩
  exact Nat.le_of_ble_eq_true rfl
theorem m_X11_ends (l : Launch) : CMetC l 12 214 P_X11_ends Q_X11_ends :=
  CMetC.of KX11_ends [(121, P_X6_statementAt, Q_X6_statementAt)] hX11_ends (by decide) (by decide) okX11_ends (cc1C (m_X6_statementAt l) (by decide) cc0C) (lg_X11_ends) (b_X11_ends)

abbrev P_X11_assigned : CpC := fun As σ => ∃ (p0 : Nat) (p1 : Int32) (p2 : Int32), As = [.inr (.inr (some p0)), .inl p1, .inl p2] ∧ HIC σ ∧ TyC σ p0 12
abbrev Q_X11_assigned : CqC := fun As σ w τ => match As with
  | [.inr (.inr (some p0)), .inl p1, .inl p2] => ∃ r : Int32, w = some (.inl r) ∧ σ = τ
  | _ => False
set_option maxRecDepth 100000 in
set_option maxHeartbeats 4000000 in
theorem b_X11_assigned : TbC KX11_assigned [(121, P_X6_statementAt, Q_X6_statementAt), (234, P_Jx4a65c_size_8abf5, Q_Jx4a65c_size_8abf5), (221, P_X11_has, Q_X11_has)] P_X11_assigned Q_X11_assigned := by
  · rintro As σ0 ⟨p0, p1, p2, rfl, H0, h_0_0⟩ hgr G hB hW
    change G 0 [(0, .inr (.inr (some p0))), (1, .inl p1), (2, .inl p2)] [] σ0
    refine hB _ _ _ _ (kgoC (is := KX11_assigned_0) rfl ?_)
    refine k_aload_n rfl ?_
    obtain ⟨a3, e1, c2, t4⟩ := cg363 H0.1 h_0_0
    refine k_get kg363 h_0_0 e1 ?_
    obtain ⟨x7, e5, c6, h8, h9⟩ := cg217 H0.1 t4
    refine k_get kg217 t4 e5 ?_
    refine k_if_eq (fun h10 => ?_) (fun h10 => ?_)
    · refine hB _ _ _ _ (kgoC (is := KX11_assigned_13) rfl ?_)
      refine k_aload_n rfl ?_
      refine k_get kg363 h_0_0 (congrArg (fun z : Option Nat => (Sum.inr (Sum.inr z) : AvC)) c2) ?_
      refine k_iload_n rfl ?_
      refine k_inv (P := P_X6_statementAt) (Q := Q_X6_statementAt) rfl rfl rfl rfl (Nat.le_of_ble_eq_true rfl) (t4.rc (by decide)) ⟨_, _, rfl, H0, t4⟩ (fun w11 σ12 q13 => ?_)
      obtain ⟨o14, rfl, rfl, h15⟩ := q13
      refine k_st (st' := [.inr (.inr o14)]) rfl ?_
      refine k_astore_n (ls' := [(3, .inr (.inr o14)), (0, .inr (.inr (some p0))), (1, .inl p1), (2, .inl p2)]) rfl ?_
      refine k_aload_n rfl ?_
      refine k_ifnull (fun h17 => ?_) (fun b16 h17 => ?_)
      · subst h17
        refine hB _ _ _ _ (kgoC (is := KX11_assigned_55) rfl ?_)
        refine k_iconst (m := (-1)) rfl (fun x18 h19 => ?_)
        refine k_ireturn (fun hz => absurd hz (by decide)) ?_
        exact ⟨_, rfl, rfl⟩
      · subst h17
        have t20 := h15 b16 rfl
        refine k_nil ?_
        refine hB _ _ _ _ (kgoC (is := KX11_assigned_26) rfl ?_)
        refine k_iload_n rfl ?_
        refine k_if_lt (fun h21 => ?_) (fun h21 => ?_)
        · refine hB _ _ _ _ (kgoC (is := KX11_assigned_55) rfl ?_)
          refine k_iconst (m := (-1)) rfl (fun x22 h23 => ?_)
          refine k_ireturn (fun hz => absurd hz (by decide)) ?_
          exact ⟨_, rfl, rfl⟩
        · refine k_nil ?_
          refine hB _ _ _ _ (kgoC (is := KX11_assigned_30) rfl ?_)
          refine k_iload_n rfl ?_
          refine k_aload_n rfl ?_
          refine k_get kg363 h_0_0 (congrArg (fun z : Option Nat => (Sum.inr (Sum.inr z) : AvC)) c2) ?_
          obtain ⟨a26, e24, c25, t27, l28⟩ := cg212 H0.1 t4
          refine k_get kg212 t4 e24 ?_
          refine k_inv (P := P_Jx4a65c_size_8abf5) (Q := Q_Jx4a65c_size_8abf5) rfl rfl rfl rfl (Nat.le_of_ble_eq_true rfl) (t27.rc (by decide)) ⟨_, rfl, H0, t27⟩ (fun w29 σ30 q31 => ?_)
          obtain ⟨x32, rfl, rfl, h33, h34, q35, q36⟩ := q31
          refine k_st (st' := [.inl x32, .inl p2]) rfl ?_
          refine k_ic_ge (fun h37 => ?_) (fun h37 => ?_)
          · refine hB _ _ _ _ (kgoC (is := KX11_assigned_55) rfl ?_)
            refine k_iconst (m := (-1)) rfl (fun x38 h39 => ?_)
            refine k_ireturn (fun hz => absurd hz (by decide)) ?_
            exact ⟨_, rfl, rfl⟩
          · refine k_nil ?_
            refine hB _ _ _ _ (kgoC (is := KX11_assigned_44) rfl ?_)
            refine k_aload_n rfl ?_
            obtain ⟨y42, e40, c41⟩ := cg274 (σ := σ0) (a := b16)
            refine k_get kg274 t20 e40 ?_
            refine k_iload_n rfl ?_
            refine k_stat (P := P_X11_has) (Q := Q_X11_has) rfl rfl (Nat.le_of_ble_eq_true rfl) rfl rfl (Nat.le_of_ble_eq_true rfl) ⟨_, _, rfl, H0⟩ (fun w43 σ44 q45 => ?_)
            obtain ⟨x46, rfl, rfl, h47, h48⟩ := q45
            refine k_st (st' := [.inl x46]) rfl ?_
            refine k_if_ne (fun h49 => ?_) (fun h49 => ?_)
            · refine hB _ _ _ _ (kgoC (is := KX11_assigned_57) rfl ?_)
              refine k_aload_n rfl ?_
              obtain ⟨y52, e50, c51⟩ := cg285 (σ := σ0) (a := b16)
              refine k_get kg285 t20 e50 ?_
              refine k_iload_n rfl ?_
              refine k_stat (P := P_X11_has) (Q := Q_X11_has) rfl rfl (Nat.le_of_ble_eq_true rfl) rfl rfl (Nat.le_of_ble_eq_true rfl) ⟨_, _, rfl, H0⟩ (fun w53 σ54 q55 => ?_)
              obtain ⟨x56, rfl, rfl, h57, h58⟩ := q55
              refine k_st (st' := [.inl x56]) rfl ?_
              refine k_if_eq (fun h59 => ?_) (fun h59 => ?_)
              · refine hB _ _ _ _ (kgoC (is := KX11_assigned_72) rfl ?_)
                refine k_iconst (m := 0) rfl (fun x60 h61 => ?_)
                refine k_nil ?_
                refine hB _ _ _ _ (kgoC (is := KX11_assigned_73) rfl ?_)
                refine k_ireturn (fun hz => absurd hz (by decide)) ?_
                exact ⟨_, rfl, rfl⟩
              · refine k_nil ?_
                refine hB _ _ _ _ (kgoC (is := KX11_assigned_68) rfl ?_)
                refine k_iconst (m := 1) rfl (fun x62 h63 => ?_)
                refine k_goto ?_
                refine hB _ _ _ _ (kgoC (is := KX11_assigned_73) rfl ?_)
                refine k_ireturn (fun hz => absurd hz (by decide)) ?_
                exact ⟨_, rfl, rfl⟩
            · refine k_nil ?_
              refine hB _ _ _ _ (kgoC (is := KX11_assigned_55) rfl ?_)
              refine k_iconst (m := (-1)) rfl (fun x64 h65 => ?_)
              refine k_ireturn (fun hz => absurd hz (by decide)) ?_
              exact ⟨_, rfl, rfl⟩
    · refine k_nil ?_
      refine hB _ _ _ _ (kgoC (is := KX11_assigned_10) rfl ?_)
      refine k_bipush (m := (-2)) rfl (fun x66 h67 => ?_)
      refine k_ireturn (fun hz => absurd hz (by decide)) ?_
      exact ⟨_, rfl, rfl⟩
theorem lg_X11_assigned : ∀ (As : List AvC) (σ : CsC), P_X11_assigned As σ → lgC As ≤ rX11_assigned.2.2.1 := by
  rintro As σ ⟨p0, p1, p2, rfl, -⟩
  exact Nat.le_of_ble_eq_true rfl
theorem m_X11_assigned (l : Launch) : CMetC l 12 215 P_X11_assigned Q_X11_assigned :=
  CMetC.of KX11_assigned [(121, P_X6_statementAt, Q_X6_statementAt), (234, P_Jx4a65c_size_8abf5, Q_Jx4a65c_size_8abf5), (221, P_X11_has, Q_X11_has)] hX11_assigned (by decide) (by decide) okX11_assigned (cc1C (m_X6_statementAt l) (by decide) (cc1C (m_Jx4a65c_size_8abf5 l) (by decide) (cc1C (m_X11_has l) (by decide) cc0C))) (lg_X11_assigned) (b_X11_assigned)

abbrev P_X11_argument : CpC := fun As σ => ∃ (p0 : Nat) (p1 : Int32) (p2 : Int64), As = [.inr (.inr (some p0)), .inl p1, .inr (.inl p2)] ∧ HIC σ ∧ TyC σ p0 12
abbrev Q_X11_argument : CqC := fun As σ w τ => match As with
  | [.inr (.inr (some p0)), .inl p1, .inr (.inl p2)] => ∃ r : Int32, w = some (.inl r) ∧ HIC τ ∧ ExC [] σ τ ∧ ((r.toInt = 1 ∧ 0 ≤ p1.toInt ∧ p1.toInt < 6) ∨ (r.toInt = -1 ∧ (p1.toInt < 0 ∨ 6 ≤ p1.toInt)))
  | _ => False
set_option maxRecDepth 100000 in
set_option maxHeartbeats 4000000 in
theorem b_X11_argument : TbC KX11_argument [] P_X11_argument Q_X11_argument := by
  · rintro As σ0 ⟨p0, p1, p2, rfl, H0, h_0_0⟩ hgr G hB hW
    change G 0 [(0, .inr (.inr (some p0))), (1, .inl p1), (2, .inr (.inl p2))] [] σ0
    refine hB _ _ _ _ (kgoC (is := KX11_argument_0) rfl ?_)
    refine k_iload_n rfl ?_
    refine k_if_lt (fun h1 => ?_) (fun h1 => ?_)
    · refine hB _ _ _ _ (kgoC (is := KX11_argument_10) rfl ?_)
      refine k_iconst (m := (-1)) rfl (fun x2 h3 => ?_)
      refine k_ireturn (fun hz => absurd hz (by decide)) ?_
      exact ⟨_, rfl, H0, (ExC.rf : ExC [] σ0 σ0), (by omega)⟩
    · refine k_nil ?_
      refine hB _ _ _ _ (kgoC (is := KX11_argument_4) rfl ?_)
      refine k_iload_n rfl ?_
      refine k_bipush (m := 6) rfl (fun x4 h5 => ?_)
      refine k_ic_lt (fun h6 => ?_) (fun h6 => ?_)
      · refine hB _ _ _ _ (kgoC (is := KX11_argument_12) rfl ?_)
        refine k_aload_n rfl ?_
        obtain ⟨a9, e7, c8, t10, l11, l12⟩ := cg362 H0.1 h_0_0
        refine k_get kg362 h_0_0 e7 ?_
        refine k_iload_n rfl ?_
        refine k_lload_n rfl ?_
        refine k_lastore H0 t10 l12 (by omega) (by omega) (fun σ13 H14 e15 => ?_)
        refine k_iconst (m := 1) rfl (fun x16 h17 => ?_)
        refine k_ireturn (fun hz => absurd hz (by decide)) ?_
        have X18 : ExC [] σ0 σ13 := ExC.rf.tr (e15.mo (by decide))
        exact ⟨_, rfl, H14, X18, (by omega)⟩
      · refine k_nil ?_
        refine hB _ _ _ _ (kgoC (is := KX11_argument_10) rfl ?_)
        refine k_iconst (m := (-1)) rfl (fun x19 h20 => ?_)
        refine k_ireturn (fun hz => absurd hz (by decide)) ?_
        exact ⟨_, rfl, H0, (ExC.rf : ExC [] σ0 σ0), (by omega)⟩
theorem lg_X11_argument : ∀ (As : List AvC) (σ : CsC), P_X11_argument As σ → lgC As ≤ rX11_argument.2.2.1 := by
  rintro As σ ⟨p0, p1, p2, rfl, -⟩
  exact Nat.le_of_ble_eq_true rfl
theorem m_X11_argument (l : Launch) : CMetC l 1 216 P_X11_argument Q_X11_argument :=
  CMetC.of KX11_argument [] hX11_argument (by decide) (by decide) okX11_argument cc0C (lg_X11_argument) (b_X11_argument)

abbrev P_X11_input : CpC := fun As σ => ∃ (p0 : Nat) (p1 : Int32), As = [.inr (.inr (some p0)), .inl p1] ∧ HIC σ ∧ TyC σ p0 12
abbrev Q_X11_input : CqC := fun As σ w τ => match As with
  | [.inr (.inr (some p0)), .inl p1] => ∃ r : Int32, w = some (.inl r) ∧ HIC τ ∧ ExC [370] σ τ ∧ ((((fIC σ p0 370).toInt = 40 ∧ r.toInt = -3 ∧ (fIC τ p0 370).toInt = (fIC σ p0 370).toInt) ∨ ((fIC σ p0 370).toInt < 40 ∧ r.toInt = (fIC τ p0 370).toInt ∧ (fIC τ p0 370).toInt = (fIC σ p0 370).toInt + 1)))
  | _ => False
set_option maxRecDepth 100000 in
set_option maxHeartbeats 4000000 in
theorem b_X11_input : TbC KX11_input [] P_X11_input Q_X11_input := by
  · rintro As σ0 ⟨p0, p1, rfl, H0, h_0_0⟩ hgr G hB hW
    change G 0 [(0, .inr (.inr (some p0))), (1, .inl p1)] [] σ0
    obtain ⟨x1, e2, c3, h4, h5⟩ := cg370 H0.1 h_0_0
    have z6 := congrArg Int32.toInt c3
    refine hB _ _ _ _ (kgoC (is := KX11_input_0) rfl ?_)
    refine k_aload_n rfl ?_
    refine k_get kg370 h_0_0 (congrArg (Sum.inl : Int32 → AvC) c3) ?_
    refine k_bipush (m := 40) rfl (fun x7 h8 => ?_)
    refine k_ic_lt (fun h9 => ?_) (fun h9 => ?_)
    · refine hB _ _ _ _ (kgoC (is := KX11_input_12) rfl ?_)
      refine k_aload_n rfl ?_
      obtain ⟨a12, e10, c11, t13, l14, l15⟩ := cg361 H0.1 h_0_0
      refine k_get kg361 h_0_0 e10 ?_
      refine k_aload_n rfl ?_
      refine k_get kg370 h_0_0 (congrArg (Sum.inl : Int32 → AvC) c3) ?_
      refine k_iload_n rfl ?_
      refine k_iastore H0 t13 l15 (by omega) (by omega) (fun σ16 H17 e18 => ?_)
      refine k_aload_n rfl ?_
      refine k_dupR ?_
      have t19 := h_0_0.x e18
      have c20 := (h_0_0.mi e18 (by decide)).trans c3
      refine k_get kg370 t19 (congrArg (Sum.inl : Int32 → AvC) c20) ?_
      refine k_iconst (m := 1) rfl (fun x21 h22 => ?_)
      refine k_iadd (by omega) (by omega) (fun x23 h24 => ?_)
      refine k_putI kp370 H17 t19 (Or.inl fk370) (by show 0 ≤ _; omega) (by show _ ≤ 40; omega) (fun σ25 H26 e27 c28 => ?_)
      refine k_aload_n rfl ?_
      have t29 := t19.x e27
      refine k_get kg370 t29 (congrArg (Sum.inl : Int32 → AvC) c28) ?_
      refine k_ireturn (fun hz => absurd hz (by decide)) ?_
      have X30 : ExC [370] σ0 σ16 := ExC.rf.tr (e18.mo (by decide))
      have X31 : ExC [370] σ0 σ25 := X30.tr (e27.mo (by decide))
      have z32 := congrArg Int32.toInt c28
      exact ⟨_, rfl, H26, X31, (by omega)⟩
    · refine k_nil ?_
      refine hB _ _ _ _ (kgoC (is := KX11_input_9) rfl ?_)
      refine k_bipush (m := (-3)) rfl (fun x33 h34 => ?_)
      refine k_ireturn (fun hz => absurd hz (by decide)) ?_
      have z35 := congrArg Int32.toInt c3
      exact ⟨_, rfl, H0, (ExC.rf : ExC [370] σ0 σ0), (by omega)⟩
theorem lg_X11_input : ∀ (As : List AvC) (σ : CsC), P_X11_input As σ → lgC As ≤ rX11_input.2.2.1 := by
  rintro As σ ⟨p0, p1, rfl, -⟩
  exact Nat.le_of_ble_eq_true rfl
theorem m_X11_input (l : Launch) : CMetC l 1 217 P_X11_input Q_X11_input :=
  CMetC.of KX11_input [] hX11_input (by decide) (by decide) okX11_input cc0C (lg_X11_input) (b_X11_input)

abbrev P_X11_drain : CpC := fun As σ => ∃ (p0 : Nat), As = [.inr (.inr (some p0))] ∧ HIC σ ∧ TyC σ p0 12
abbrev Q_X11_drain : CqC := fun As σ w τ => match As with
  | [.inr (.inr (some p0))] => ∃ r : Int32, w = some (.inl r) ∧ HIC τ ∧ ExC [370] σ τ ∧ ((r.toInt = (fIC σ p0 370).toInt ∧ (fIC τ p0 370).toInt = 0))
  | _ => False
set_option maxRecDepth 100000 in
set_option maxHeartbeats 4000000 in
theorem b_X11_drain : TbC KX11_drain [] P_X11_drain Q_X11_drain := by
  · rintro As σ0 ⟨p0, rfl, H0, h_0_0⟩ hgr G hB hW
    change G 0 [(0, .inr (.inr (some p0)))] [] σ0
    obtain ⟨x1, e2, c3, h4, h5⟩ := cg370 H0.1 h_0_0
    have z6 := congrArg Int32.toInt c3
    refine hB _ _ _ _ (kgoC (is := KX11_drain_0) rfl ?_)
    refine k_aload_n rfl ?_
    refine k_get kg370 h_0_0 (congrArg (Sum.inl : Int32 → AvC) c3) ?_
    refine k_istore_n (ls' := [(1, .inl x1), (0, .inr (.inr (some p0)))]) rfl ?_
    refine k_aload_n rfl ?_
    refine k_iconst (m := 0) rfl (fun x7 h8 => ?_)
    refine k_putI kp370 H0 h_0_0 (Or.inl fk370) (by show 0 ≤ _; omega) (by show _ ≤ 40; omega) (fun σ9 H10 e11 c12 => ?_)
    refine k_iload_n rfl ?_
    refine k_ireturn (fun hz => absurd hz (by decide)) ?_
    have X13 : ExC [370] σ0 σ9 := ExC.rf.tr (e11.mo (by decide))
    have z14 := congrArg Int32.toInt c12
    exact ⟨_, rfl, H10, X13, (by omega)⟩
theorem lg_X11_drain : ∀ (As : List AvC) (σ : CsC), P_X11_drain As σ → lgC As ≤ rX11_drain.2.2.1 := by
  rintro As σ ⟨p0, rfl, -⟩
  exact Nat.le_of_ble_eq_true rfl
theorem m_X11_drain (l : Launch) : CMetC l 1 218 P_X11_drain Q_X11_drain :=
  CMetC.of KX11_drain [] hX11_drain (by decide) (by decide) okX11_drain cc0C (lg_X11_drain) (b_X11_drain)

abbrev P_X11_run : CpC := fun As σ => ∃ (p0 : Nat) (p1 : Int32) (p2 : Int32), As = [.inr (.inr (some p0)), .inl p1, .inl p2] ∧ HIC σ ∧ TyC σ p0 12
abbrev Q_X11_run : CqC := fun As σ w τ => match As with
  | [.inr (.inr (some p0)), .inl p1, .inl p2] => ∃ r : Int32, w = some (.inl r) ∧ HIC τ ∧ ExC [159, 160, 161, 162, 163, 164, 165, 166, 167, 168, 169, 372] σ τ
  | _ => False
set_option maxRecDepth 100000 in
set_option maxHeartbeats 4000000 in
theorem b_X11_run : TbC KX11_run [(234, P_Jx4a65c_size_8abf5, Q_Jx4a65c_size_8abf5), (88, P_X4_prepare, Q_X4_prepare), (235, P_Jx4a65c_get_915e3, Q_Jx4a65c_get_915e3), (89, P_X4_perform, Q_X4_perform)] P_X11_run Q_X11_run := by
  · rintro As σ0 ⟨p0, p1, p2, rfl, H0, h_0_0⟩ hgr G hB hW
    change G 0 [(0, .inr (.inr (some p0))), (1, .inl p1), (2, .inl p2)] [] σ0
    refine hB _ _ _ _ (kgoC (is := KX11_run_0) rfl ?_)
    refine k_iload_n rfl ?_
    refine k_if_lt (fun h1 => ?_) (fun h1 => ?_)
    · refine hB _ _ _ _ (kgoC (is := KX11_run_30) rfl ?_)
      refine k_iconst (m := (-1)) rfl (fun x2 h3 => ?_)
      refine k_ireturn (fun hz => absurd hz (by decide)) ?_
      exact ⟨_, rfl, H0, (ExC.rf : ExC [159, 160, 161, 162, 163, 164, 165, 166, 167, 168, 169, 372] σ0 σ0)⟩
    · refine k_nil ?_
      refine hB _ _ _ _ (kgoC (is := KX11_run_4) rfl ?_)
      refine k_iload_n rfl ?_
      refine k_aload_n rfl ?_
      obtain ⟨a6, e4, c5, t7⟩ := cg363 H0.1 h_0_0
      refine k_get kg363 h_0_0 e4 ?_
      obtain ⟨a10, e8, c9, t11, l12⟩ := cg211 H0.1 t7
      refine k_get kg211 t7 e8 ?_
      refine k_inv (P := P_Jx4a65c_size_8abf5) (Q := Q_Jx4a65c_size_8abf5) rfl rfl rfl rfl (Nat.le_of_ble_eq_true rfl) (t11.rc (by decide)) ⟨_, rfl, H0, t11⟩ (fun w13 σ14 q15 => ?_)
      obtain ⟨x16, rfl, rfl, h17, h18, q19, q20⟩ := q15
      refine k_st (st' := [.inl x16, .inl p1]) rfl ?_
      have z21 := q20 l12
      refine k_ic_ge (fun h22 => ?_) (fun h22 => ?_)
      · refine hB _ _ _ _ (kgoC (is := KX11_run_30) rfl ?_)
        refine k_iconst (m := (-1)) rfl (fun x23 h24 => ?_)
        refine k_ireturn (fun hz => absurd hz (by decide)) ?_
        exact ⟨_, rfl, H0, (ExC.rf : ExC [159, 160, 161, 162, 163, 164, 165, 166, 167, 168, 169, 372] σ0 σ0)⟩
      · refine k_nil ?_
        refine hB _ _ _ _ (kgoC (is := KX11_run_18) rfl ?_)
        refine k_iload_n rfl ?_
        refine k_iconst (m := 1) rfl (fun x25 h26 => ?_)
        refine k_ic_lt (fun h27 => ?_) (fun h27 => ?_)
        · refine hB _ _ _ _ (kgoC (is := KX11_run_30) rfl ?_)
          refine k_iconst (m := (-1)) rfl (fun x28 h29 => ?_)
          refine k_ireturn (fun hz => absurd hz (by decide)) ?_
          exact ⟨_, rfl, H0, (ExC.rf : ExC [159, 160, 161, 162, 163, 164, 165, 166, 167, 168, 169, 372] σ0 σ0)⟩
        · refine k_nil ?_
          refine hB _ _ _ _ (kgoC (is := KX11_run_23) rfl ?_)
          refine k_iload_n rfl ?_
          refine k_sipush (m := 20000) rfl (fun x30 h31 => ?_)
          refine k_ic_le (fun h32 => ?_) (fun h32 => ?_)
          · refine hB _ _ _ _ (kgoC (is := KX11_run_32) rfl ?_)
            refine k_aload_n rfl ?_
            refine k_get kg363 h_0_0 (congrArg (fun z : Option Nat => (Sum.inr (Sum.inr z) : AvC)) c5) ?_
            obtain ⟨x35, e33, c34, h36, h37⟩ := cg217 H0.1 t7
            refine k_get kg217 t7 e33 ?_
            refine k_if_eq (fun h38 => ?_) (fun h38 => ?_)
            · refine hB _ _ _ _ (kgoC (is := KX11_run_45) rfl ?_)
              refine k_aload_n rfl ?_
              refine k_iconst (m := 1) rfl (fun x39 h40 => ?_)
              refine k_putI kp372 H0 h_0_0 (Or.inr ⟨fk372, b01C (by omega) (by omega)⟩) (by show 0 ≤ _; omega) (by show _ ≤ 1; omega) (fun σ41 H42 e43 c44 => ?_)
              refine k_aload_n rfl ?_
              have t45 := h_0_0.x e43
              obtain ⟨a48, e46, c47, t49⟩ := cg368 H42.1 t45
              refine k_get kg368 t45 e46 ?_
              refine k_aload_n rfl ?_
              obtain ⟨a52, e50, c51, t53, l54, l55⟩ := cg361 H42.1 t45
              refine k_get kg361 t45 e50 ?_
              refine k_aload_n rfl ?_
              obtain ⟨x58, e56, c57, h59, h60⟩ := cg370 H42.1 t45
              refine k_get kg370 t45 e56 ?_
              refine k_inv (P := P_X4_prepare) (Q := Q_X4_prepare) rfl rfl rfl rfl (Nat.le_of_ble_eq_true rfl) (t49.rc (by decide)) ⟨_, _, _, rfl, H42, t49, t53, l54, l55, (by omega), (by omega)⟩ (fun w61 σ62 q63 => ?_)
              obtain ⟨rfl, H64, e65⟩ := q63
              refine k_st (st' := []) rfl ?_
              refine k_aload_n rfl ?_
              have t66 := t45.x e65
              have c67 := (t45.mr e65 (by decide)).trans c47
              refine k_get kg368 t66 (congrArg (fun z : Option Nat => (Sum.inr (Sum.inr z) : AvC)) c67) ?_
              refine k_aload_n rfl ?_
              have c68 := (h_0_0.mr e43 (by decide)).trans c5
              have c69 := (t45.mr e65 (by decide)).trans c68
              refine k_get kg363 t66 (congrArg (fun z : Option Nat => (Sum.inr (Sum.inr z) : AvC)) c69) ?_
              have t70 := t7.x e43
              have t71 := t70.x e65
              have c72 := (t7.mr e43 (by decide)).trans c9
              have c73 := (t70.mr e65 (by decide)).trans c72
              refine k_get kg211 t71 (congrArg (fun z : Option Nat => (Sum.inr (Sum.inr z) : AvC)) c73) ?_
              refine k_iload_n rfl ?_
              have t74 := t11.x e43
              have t75 := t74.x e65
              have c76 := (t11.mi e43 (by decide)).trans q19
              have c77 := (t74.mi e65 (by decide)).trans c76
              have z78 := congrArg Int32.toInt c77
              refine k_inv (P := P_Jx4a65c_get_915e3) (Q := Q_Jx4a65c_get_915e3) rfl rfl rfl rfl (Nat.le_of_ble_eq_true rfl) (t75.rc (by decide)) ⟨_, _, rfl, H64, t75, (by omega), (by omega)⟩ (fun w79 σ80 q81 => ?_)
              obtain ⟨a82, rfl, rfl, h83⟩ := q81
              have l84 := (t11.gh e43).trans l12
              have l85 := (t74.gh e65).trans l84
              rw [l85] at h83
              have t86 := h83.1
              obtain ⟨x87, e88, c89, h90, h91⟩ := cg180 H64.1 t86
              have h92 : 0 ≤ x87.toInt := by rw [← c89]; exact h83.2.2 rfl
              refine k_st (st' := [.inr (.inr (some a82)), .inr (.inr (some a48))]) rfl ?_
              refine k_castS (t86.ob (by decide)) ?_
              refine k_aload_n rfl ?_
              obtain ⟨a95, e93, c94, t96, l97, l98⟩ := cg362 H64.1 t66
              refine k_get kg362 t66 e93 ?_
              refine k_iload_n rfl ?_
              have t99 := t49.x e65
              refine k_inv (P := P_X4_perform) (Q := Q_X4_perform) rfl rfl rfl rfl (Nat.le_of_ble_eq_true rfl) (t99.rc (by decide)) ⟨_, _, _, _, rfl, H64, t99, t86, t96, l97, (by omega), (by omega)⟩ (fun w100 σ101 q102 => ?_)
              obtain ⟨x103, rfl, H104, e105⟩ := q102
              refine k_st (st' := [.inl x103]) rfl ?_
              refine k_ireturn (fun hz => absurd hz (by decide)) ?_
              have X106 : ExC [159, 160, 161, 162, 163, 164, 165, 166, 167, 168, 169, 372] σ0 σ41 := ExC.rf.tr (e43.mo (by decide))
              have X107 : ExC [159, 160, 161, 162, 163, 164, 165, 166, 167, 168, 169, 372] σ0 σ62 := X106.tr (e65.mo (by decide))
              have X108 : ExC [159, 160, 161, 162, 163, 164, 165, 166, 167, 168, 169, 372] σ0 σ101 := X107.tr (e105.mo (by decide))
              exact ⟨_, rfl, H104, X108⟩
            · refine k_nil ?_
              refine hB _ _ _ _ (kgoC (is := KX11_run_42) rfl ?_)
              refine k_bipush (m := (-2)) rfl (fun x109 h110 => ?_)
              refine k_ireturn (fun hz => absurd hz (by decide)) ?_
              exact ⟨_, rfl, H0, (ExC.rf : ExC [159, 160, 161, 162, 163, 164, 165, 166, 167, 168, 169, 372] σ0 σ0)⟩
          · refine k_nil ?_
            refine hB _ _ _ _ (kgoC (is := KX11_run_30) rfl ?_)
            refine k_iconst (m := (-1)) rfl (fun x111 h112 => ?_)
            refine k_ireturn (fun hz => absurd hz (by decide)) ?_
            exact ⟨_, rfl, H0, (ExC.rf : ExC [159, 160, 161, 162, 163, 164, 165, 166, 167, 168, 169, 372] σ0 σ0)⟩
theorem lg_X11_run : ∀ (As : List AvC) (σ : CsC), P_X11_run As σ → lgC As ≤ rX11_run.2.2.1 := by
  rintro As σ ⟨p0, p1, p2, rfl, -⟩
  exact Nat.le_of_ble_eq_true rfl
theorem m_X11_run (l : Launch) : CMetC l 16 219 P_X11_run Q_X11_run :=
  CMetC.of KX11_run [(234, P_Jx4a65c_size_8abf5, Q_Jx4a65c_size_8abf5), (88, P_X4_prepare, Q_X4_prepare), (235, P_Jx4a65c_get_915e3, Q_Jx4a65c_get_915e3), (89, P_X4_perform, Q_X4_perform)] hX11_run (by decide) (by decide) okX11_run (cc1C (m_Jx4a65c_size_8abf5 l) (by decide) (cc1C (m_X4_prepare l) (by decide) (cc1C (m_Jx4a65c_get_915e3 l) (by decide) (cc1C (m_X4_perform l) (by decide) cc0C)))) (lg_X11_run) (b_X11_run)

abbrev P_X11_ran : CpC := fun As σ => ∃ (p0 : Nat) (p1 : Int32), As = [.inr (.inr (some p0)), .inl p1] ∧ HIC σ ∧ TyC σ p0 12
abbrev Q_X11_ran : CqC := fun As σ w τ => match As with
  | [.inr (.inr (some p0)), .inl p1] => ∃ r : Int64, w = some (.inr (.inl r)) ∧ σ = τ
  | _ => False
set_option maxRecDepth 100000 in
set_option maxHeartbeats 4000000 in
theorem b_X11_ran : TbC KX11_ran [(90, P_X4_report, Q_X4_report)] P_X11_ran Q_X11_ran := by
  · rintro As σ0 ⟨p0, p1, rfl, H0, h_0_0⟩ hgr G hB hW
    change G 0 [(0, .inr (.inr (some p0))), (1, .inl p1)] [] σ0
    refine hB _ _ _ _ (kgoC (is := KX11_ran_0) rfl ?_)
    refine k_aload_n rfl ?_
    obtain ⟨x3, e1, c2, h4, h5⟩ := cg372 H0.1 h_0_0
    refine k_get kg372 h_0_0 e1 ?_
    refine k_if_eq (fun h6 => ?_) (fun h6 => ?_)
    · refine hB _ _ _ _ (kgoC (is := KX11_ran_18) rfl ?_)
      refine k_ldc2_w ?_
      refine k_nil ?_
      refine hB _ _ _ _ (kgoC (is := KX11_ran_21) rfl ?_)
      refine k_lreturn ?_
      exact ⟨_, rfl, rfl⟩
    · refine k_nil ?_
      refine hB _ _ _ _ (kgoC (is := KX11_ran_7) rfl ?_)
      refine k_aload_n rfl ?_
      obtain ⟨a9, e7, c8, t10⟩ := cg368 H0.1 h_0_0
      refine k_get kg368 h_0_0 e7 ?_
      refine k_iload_n rfl ?_
      refine k_inv (P := P_X4_report) (Q := Q_X4_report) rfl rfl rfl rfl (Nat.le_of_ble_eq_true rfl) (t10.rc (by decide)) ⟨_, _, rfl, H0, t10⟩ (fun w11 σ12 q13 => ?_)
      obtain ⟨y14, rfl, rfl⟩ := q13
      refine k_st (st' := [.inr (.inl y14)]) rfl ?_
      refine k_goto ?_
      refine hB _ _ _ _ (kgoC (is := KX11_ran_21) rfl ?_)
      refine k_lreturn ?_
      exact ⟨_, rfl, rfl⟩
theorem lg_X11_ran : ∀ (As : List AvC) (σ : CsC), P_X11_ran As σ → lgC As ≤ rX11_ran.2.2.1 := by
  rintro As σ ⟨p0, p1, rfl, -⟩
  exact Nat.le_of_ble_eq_true rfl
theorem m_X11_ran (l : Launch) : CMetC l 2 220 P_X11_ran Q_X11_ran :=
  CMetC.of KX11_ran [(90, P_X4_report, Q_X4_report)] hX11_ran (by decide) (by decide) okX11_ran (cc1C (m_X4_report l) (by decide) cc0C) (lg_X11_ran) (b_X11_ran)
