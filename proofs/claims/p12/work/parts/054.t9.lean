abbrev P_X9_longerKey : CpC := fun As σ => ∃ (p0 : Int64) (p1 : Int32), As = [.inr (.inl p0), .inl p1] ∧ HIC σ
abbrev Q_X9_longerKey : CqC := fun As σ w τ => match As with
  | [.inr (.inl p0), .inl p1] => ∃ r : Int64, w = some (.inr (.inl r)) ∧ σ = τ
  | _ => False
set_option maxRecDepth 100000 in
set_option maxHeartbeats 4000000 in
theorem b_X9_longerKey : TbC KX9_longerKey [] P_X9_longerKey Q_X9_longerKey := by
  · rintro As σ0 ⟨p0, p1, rfl, H0⟩ hgr G hB hW
    change G 0 [(0, .inr (.inl p0)), (2, .inl p1)] [] σ0
    refine hB _ _ _ _ (kgoC (is := KX9_longerKey_0) rfl ?_)
    refine k_iload_n rfl ?_
    refine k_bipush (m := 97) rfl (fun x1 h2 => ?_)
    refine k_ic_lt (fun h3 => ?_) (fun h3 => ?_)
    · refine hB _ _ _ _ (kgoC (is := KX9_longerKey_16) rfl ?_)
      refine k_iload_n rfl ?_
      refine k_bipush (m := 65) rfl (fun x4 h5 => ?_)
      refine k_ic_lt (fun h6 => ?_) (fun h6 => ?_)
      · refine hB _ _ _ _ (kgoC (is := KX9_longerKey_32) rfl ?_)
        refine k_iload_n rfl ?_
        refine k_bipush (m := 48) rfl (fun x7 h8 => ?_)
        have z11 := tiC p1
        refine k_isub_u (fun x9 => ?_)
        refine k_iconst (m := 1) rfl (fun x12 h13 => ?_)
        have z16 := tiC x9
        refine k_iadd_u (fun x14 => ?_)
        refine k_nil ?_
        refine hB _ _ _ _ (kgoC (is := KX9_longerKey_38) rfl ?_)
        refine k_istore_n (ls' := [(3, .inl x14), (0, .inr (.inl p0)), (2, .inl p1)]) rfl ?_
        refine k_lload_n rfl ?_
        refine k_bipush (m := 6) rfl (fun x17 h18 => ?_)
        refine k_lshl (fun y19 => ?_)
        refine k_iload_n rfl ?_
        refine k_i2l (fun y20 => ?_)
        refine k_lor (fun y21 => ?_)
        refine k_lreturn ?_
        exact ⟨_, rfl, rfl⟩
      · refine k_nil ?_
        refine hB _ _ _ _ (kgoC (is := KX9_longerKey_22) rfl ?_)
        refine k_iload_n rfl ?_
        refine k_bipush (m := 65) rfl (fun x22 h23 => ?_)
        refine k_isub (by omega) (by omega) (fun x24 h25 => ?_)
        refine k_bipush (m := 11) rfl (fun x26 h27 => ?_)
        refine k_iadd (by omega) (by omega) (fun x28 h29 => ?_)
        refine k_goto ?_
        refine hB _ _ _ _ (kgoC (is := KX9_longerKey_38) rfl ?_)
        refine k_istore_n (ls' := [(3, .inl x28), (0, .inr (.inl p0)), (2, .inl p1)]) rfl ?_
        refine k_lload_n rfl ?_
        refine k_bipush (m := 6) rfl (fun x30 h31 => ?_)
        refine k_lshl (fun y32 => ?_)
        refine k_iload_n rfl ?_
        refine k_i2l (fun y33 => ?_)
        refine k_lor (fun y34 => ?_)
        refine k_lreturn ?_
        exact ⟨_, rfl, rfl⟩
    · refine k_nil ?_
      refine hB _ _ _ _ (kgoC (is := KX9_longerKey_6) rfl ?_)
      refine k_iload_n rfl ?_
      refine k_bipush (m := 97) rfl (fun x35 h36 => ?_)
      have z39 := tiC p1
      refine k_isub (by omega) (by omega) (fun x37 h38 => ?_)
      refine k_bipush (m := 37) rfl (fun x40 h41 => ?_)
      refine k_iadd (by omega) (by omega) (fun x42 h43 => ?_)
      refine k_goto ?_
      refine hB _ _ _ _ (kgoC (is := KX9_longerKey_38) rfl ?_)
      refine k_istore_n (ls' := [(3, .inl x42), (0, .inr (.inl p0)), (2, .inl p1)]) rfl ?_
      refine k_lload_n rfl ?_
      refine k_bipush (m := 6) rfl (fun x44 h45 => ?_)
      refine k_lshl (fun y46 => ?_)
      refine k_iload_n rfl ?_
      refine k_i2l (fun y47 => ?_)
      refine k_lor (fun y48 => ?_)
      refine k_lreturn ?_
      exact ⟨_, rfl, rfl⟩
theorem lg_X9_longerKey : ∀ (As : List AvC) (σ : CsC), P_X9_longerKey As σ → lgC As ≤ rX9_longerKey.2.2.1 := by
  rintro As σ ⟨p0, p1, rfl, -⟩
  exact Nat.le_of_ble_eq_true rfl
theorem m_X9_longerKey (l : Launch) : CMetC l 1 185 P_X9_longerKey Q_X9_longerKey :=
  CMetC.of KX9_longerKey [] hX9_longerKey (by decide) (by decide) okX9_longerKey cc0C (lg_X9_longerKey) (b_X9_longerKey)

abbrev P_X9_keyOf : CpC := fun As σ => ∃ (p0 : Nat), As = [.inr (.inr (some p0))] ∧ HIC σ ∧ (p0 = 1000003 ∨ p0 = 1000004 ∨ p0 = 1000005 ∨ p0 = 1000006)
abbrev Q_X9_keyOf : CqC := fun As σ w τ => match As with
  | [.inr (.inr (some p0))] => ∃ r : Int64, w = some (.inr (.inl r)) ∧ σ = τ
  | _ => False
set_option maxRecDepth 100000 in
set_option maxHeartbeats 4000000 in
theorem b_X9_keyOf : TbC KX9_keyOf [(239, P_J0_length_8abf5, Q_J0_length_8abf5), (238, P_J0_charAt_5068e, Q_J0_charAt_5068e), (185, P_X9_longerKey, Q_X9_longerKey)] P_X9_keyOf Q_X9_keyOf := by
  · rintro As σ0 ⟨p0, rfl, H0, h_0_0⟩ hgr G hB hW
    change G 0 [(0, .inr (.inr (some p0)))] [] σ0
    have L4 : ∀ (n4 : Nat), ∀ (v4_1 : Int64) (v4_3 : Int32), (2147483647 - v4_3.toInt).toNat = n4 → 0 ≤ v4_3.toInt → v4_3.toInt ≤ 1000 → G 4 [(0, .inr (.inr (some p0))), (1, .inr (.inl v4_1)), (3, .inl v4_3)] [] σ0 := by
      intro n4
      induction n4 using Nat.strongRecOn with
      | _ n4 ih4 =>
        intro v4_1 v4_3 n4_ h1 h2
        refine hB _ _ _ _ (kgoC (is := KX9_keyOf_4) rfl ?_)
        refine k_iload_n rfl ?_
        refine k_aload_n rfl ?_
        refine k_inv (P := P_J0_length_8abf5) (Q := Q_J0_length_8abf5) rfl rfl rfl rfl (Nat.le_of_ble_eq_true rfl) (Or.inr ⟨rfl, by omega, by omega⟩) ⟨_, rfl, H0, (by omega)⟩ (fun w3 σ4 q5 => ?_)
        obtain ⟨x6, rfl, rfl, h7, h8, q9⟩ := q5
        refine k_st (st' := [.inl x6, .inl v4_3]) rfl ?_
        refine k_ic_ge (fun h10 => ?_) (fun h10 => ?_)
        · refine hB _ _ _ _ (kgoC (is := KX9_keyOf_28) rfl ?_)
          refine k_lload_n rfl ?_
          refine k_lreturn ?_
          exact ⟨_, rfl, rfl⟩
        · refine k_nil ?_
          refine hB _ _ _ _ (kgoC (is := KX9_keyOf_12) rfl ?_)
          refine k_lload_n rfl ?_
          refine k_aload_n rfl ?_
          refine k_iload_n rfl ?_
          refine k_inv (P := P_J0_charAt_5068e) (Q := Q_J0_charAt_5068e) rfl rfl rfl rfl (Nat.le_of_ble_eq_true rfl) (Or.inr ⟨rfl, by omega, by omega⟩) ⟨_, _, rfl, H0, (by omega), (by omega), (by omega)⟩ (fun w11 σ12 q13 => ?_)
          obtain ⟨x14, rfl, rfl, q15⟩ := q13
          refine k_st (st' := [.inl x14, .inr (.inl v4_1)]) rfl ?_
          refine k_stat (P := P_X9_longerKey) (Q := Q_X9_longerKey) rfl rfl (Nat.le_of_ble_eq_true rfl) rfl rfl (Nat.le_of_ble_eq_true rfl) ⟨_, _, rfl, H0⟩ (fun w16 σ17 q18 => ?_)
          obtain ⟨y19, rfl, rfl⟩ := q18
          refine k_st (st' := [.inr (.inl y19)]) rfl ?_
          refine k_lstore_n (ls' := [(1, .inr (.inl y19)), (0, .inr (.inr (some p0))), (3, .inl v4_3)]) rfl ?_
          obtain ⟨x20, e22, h21⟩ := iincC (n := 1) (m := 1) (v := v4_3) rfl (by omega) (by omega)
          refine k_iinc (ls' := [(3, .inl x20), (1, .inr (.inl y19)), (0, .inr (.inr (some p0)))]) rfl e22 rfl ?_
          refine k_goto ?_
          exact hW _ _ _ _ _ (List.forall_mem_cons.2 ⟨List.Mem.tail _ (List.Mem.tail _ (List.Mem.head _)), (List.forall_mem_cons.2 ⟨List.Mem.tail _ (List.Mem.head _), (List.forall_mem_cons.2 ⟨List.Mem.head _, fun _ h => absurd h List.not_mem_nil⟩)⟩)⟩) (ih4 ((2147483647 - x20.toInt).toNat) (by omega) y19 x20 rfl (by omega) (by omega))
    refine hB _ _ _ _ (kgoC (is := KX9_keyOf_0) rfl ?_)
    refine k_lconst ?_
    refine k_lstore_n (ls' := [(1, .inr (.inl (Int64.ofNat ((0 : Fin 2) : Nat)))), (0, .inr (.inr (some p0)))]) rfl ?_
    refine k_iconst (m := 0) rfl (fun x23 h24 => ?_)
    refine k_istore_n (ls' := [(3, .inl x23), (1, .inr (.inl (Int64.ofNat ((0 : Fin 2) : Nat)))), (0, .inr (.inr (some p0)))]) rfl ?_
    refine k_nil ?_
    exact hW _ _ _ _ _ (List.forall_mem_cons.2 ⟨List.Mem.tail _ (List.Mem.tail _ (List.Mem.head _)), (List.forall_mem_cons.2 ⟨List.Mem.tail _ (List.Mem.head _), (List.forall_mem_cons.2 ⟨List.Mem.head _, fun _ h => absurd h List.not_mem_nil⟩)⟩)⟩) (L4 _ (Int64.ofNat ((0 : Fin 2) : Nat)) x23 rfl (by omega) (by omega))
theorem lg_X9_keyOf : ∀ (As : List AvC) (σ : CsC), P_X9_keyOf As σ → lgC As ≤ rX9_keyOf.2.2.1 := by
  rintro As σ ⟨p0, rfl, -⟩
  exact Nat.le_of_ble_eq_true rfl
theorem m_X9_keyOf (l : Launch) : CMetC l 11 186 P_X9_keyOf Q_X9_keyOf :=
  CMetC.of KX9_keyOf [(239, P_J0_length_8abf5, Q_J0_length_8abf5), (238, P_J0_charAt_5068e, Q_J0_charAt_5068e), (185, P_X9_longerKey, Q_X9_longerKey)] hX9_keyOf (by decide) (by decide) okX9_keyOf (cc1C (m_J0_length_8abf5 l) (by decide) (cc1C (m_J0_charAt_5068e l) (by decide) (cc1C (m_X9_longerKey l) (by decide) cc0C))) (lg_X9_keyOf) (b_X9_keyOf)

abbrev P_X9_sort : CpC := fun As σ => ∃ (p0 : Nat) (p1 : Int32), As = [.inr (.inr (some p0)), .inl p1] ∧ HIC σ ∧ TyC σ p0 10 ∧ 0 ≤ p1.toInt ∧ p1.toInt ≤ 502
abbrev Q_X9_sort : CqC := fun As σ w τ => match As with
  | [.inr (.inr (some p0)), .inl p1] => ∃ r : Int32, w = some (.inl r) ∧ σ = τ
  | _ => False
set_option maxRecDepth 100000 in
set_option maxHeartbeats 4000000 in
theorem b_X9_sort : TbC KX9_sort [] P_X9_sort Q_X9_sort := by
  · rintro As σ0 ⟨p0, p1, rfl, H0, h_0_0, h_1_0, h_1_1⟩ hgr G hB hW
    change G 0 [(0, .inr (.inr (some p0))), (1, .inl p1)] [] σ0
    refine hB _ _ _ _ (kgoC (is := KX9_sort_0) rfl ?_)
    refine k_aload_n rfl ?_
    obtain ⟨a3, e1, c2, t4, l5, l6⟩ := cg302 H0.1 h_0_0
    refine k_get kg302 h_0_0 e1 ?_
    refine k_iload_n rfl ?_
    refine k_iaload t4 (by omega) (by omega) (fun x7 => ?_)
    refine k_istore_n (ls' := [(2, .inl x7), (0, .inr (.inr (some p0))), (1, .inl p1)]) rfl ?_
    refine k_iload_n rfl ?_
    refine k_bipush (m := 80) rfl (fun x8 h9 => ?_)
    refine k_ic_ne (fun h10 => ?_) (fun h10 => ?_)
    · refine hB _ _ _ _ (kgoC (is := KX9_sort_15) rfl ?_)
      refine k_iload_n rfl ?_
      refine k_bipush (m := 81) rfl (fun x11 h12 => ?_)
      refine k_ic_eq (fun h13 => ?_) (fun h13 => ?_)
      · refine hB _ _ _ _ (kgoC (is := KX9_sort_27) rfl ?_)
        refine k_iconst (m := 2) rfl (fun x14 h15 => ?_)
        refine k_ireturn (fun hz => absurd hz (by decide)) ?_
        exact ⟨_, rfl, rfl⟩
      · refine k_nil ?_
        refine hB _ _ _ _ (kgoC (is := KX9_sort_21) rfl ?_)
        refine k_iload_n rfl ?_
        refine k_bipush (m := 82) rfl (fun x16 h17 => ?_)
        refine k_ic_ne (fun h18 => ?_) (fun h18 => ?_)
        · refine hB _ _ _ _ (kgoC (is := KX9_sort_29) rfl ?_)
          refine k_iload_n rfl ?_
          refine k_bipush (m := 83) rfl (fun x19 h20 => ?_)
          refine k_ic_ne (fun h21 => ?_) (fun h21 => ?_)
          · refine hB _ _ _ _ (kgoC (is := KX9_sort_37) rfl ?_)
            refine k_iload_n rfl ?_
            refine k_bipush (m := 50) rfl (fun x22 h23 => ?_)
            refine k_ic_lt (fun h24 => ?_) (fun h24 => ?_)
            · refine hB _ _ _ _ (kgoC (is := KX9_sort_47) rfl ?_)
              refine k_iconst (m := 5) rfl (fun x25 h26 => ?_)
              refine k_nil ?_
              refine hB _ _ _ _ (kgoC (is := KX9_sort_48) rfl ?_)
              refine k_ireturn (fun hz => absurd hz (by decide)) ?_
              exact ⟨_, rfl, rfl⟩
            · refine k_nil ?_
              refine hB _ _ _ _ (kgoC (is := KX9_sort_43) rfl ?_)
              refine k_iconst (m := 4) rfl (fun x27 h28 => ?_)
              refine k_goto ?_
              refine hB _ _ _ _ (kgoC (is := KX9_sort_48) rfl ?_)
              refine k_ireturn (fun hz => absurd hz (by decide)) ?_
              exact ⟨_, rfl, rfl⟩
          · refine k_nil ?_
            refine hB _ _ _ _ (kgoC (is := KX9_sort_35) rfl ?_)
            refine k_iconst (m := 3) rfl (fun x29 h30 => ?_)
            refine k_ireturn (fun hz => absurd hz (by decide)) ?_
            exact ⟨_, rfl, rfl⟩
        · refine k_nil ?_
          refine hB _ _ _ _ (kgoC (is := KX9_sort_27) rfl ?_)
          refine k_iconst (m := 2) rfl (fun x31 h32 => ?_)
          refine k_ireturn (fun hz => absurd hz (by decide)) ?_
          exact ⟨_, rfl, rfl⟩
    · refine k_nil ?_
      refine hB _ _ _ _ (kgoC (is := KX9_sort_13) rfl ?_)
      refine k_iconst (m := 1) rfl (fun x33 h34 => ?_)
      refine k_ireturn (fun hz => absurd hz (by decide)) ?_
      exact ⟨_, rfl, rfl⟩
theorem lg_X9_sort : ∀ (As : List AvC) (σ : CsC), P_X9_sort As σ → lgC As ≤ rX9_sort.2.2.1 := by
  rintro As σ ⟨p0, p1, rfl, -⟩
  exact Nat.le_of_ble_eq_true rfl
theorem m_X9_sort (l : Launch) : CMetC l 1 187 P_X9_sort Q_X9_sort :=
  CMetC.of KX9_sort [] hX9_sort (by decide) (by decide) okX9_sort cc0C (lg_X9_sort) (b_X9_sort)

abbrev P_X9_byteAt : CpC := fun As σ => ∃ (p0 : Nat) (p1 : Int32), As = [.inr (.inr (some p0)), .inl p1] ∧ HIC σ ∧ TyC σ p0 10
abbrev Q_X9_byteAt : CqC := fun As σ w τ => match As with
  | [.inr (.inr (some p0)), .inl p1] => ∃ r : Int32, w = some (.inl r) ∧ σ = τ
  | _ => False
set_option maxRecDepth 100000 in
set_option maxHeartbeats 4000000 in
theorem b_X9_byteAt : TbC KX9_byteAt [] P_X9_byteAt Q_X9_byteAt := by
  · rintro As σ0 ⟨p0, p1, rfl, H0, h_0_0⟩ hgr G hB hW
    change G 0 [(0, .inr (.inr (some p0))), (1, .inl p1)] [] σ0
    refine hB _ _ _ _ (kgoC (is := KX9_byteAt_0) rfl ?_)
    refine k_iload_n rfl ?_
    refine k_if_lt (fun h1 => ?_) (fun h1 => ?_)
    · refine hB _ _ _ _ (kgoC (is := KX9_byteAt_25) rfl ?_)
      refine k_iconst (m := (-1)) rfl (fun x2 h3 => ?_)
      refine k_nil ?_
      refine hB _ _ _ _ (kgoC (is := KX9_byteAt_26) rfl ?_)
      refine k_ireturn (fun hz => absurd hz (by decide)) ?_
      exact ⟨_, rfl, rfl⟩
    · refine k_nil ?_
      refine hB _ _ _ _ (kgoC (is := KX9_byteAt_4) rfl ?_)
      refine k_iload_n rfl ?_
      refine k_aload_n rfl ?_
      obtain ⟨x6, e4, c5, h7, h8⟩ := cg308 H0.1 h_0_0
      refine k_get kg308 h_0_0 e4 ?_
      refine k_ic_ge (fun h9 => ?_) (fun h9 => ?_)
      · refine hB _ _ _ _ (kgoC (is := KX9_byteAt_25) rfl ?_)
        refine k_iconst (m := (-1)) rfl (fun x10 h11 => ?_)
        refine k_nil ?_
        refine hB _ _ _ _ (kgoC (is := KX9_byteAt_26) rfl ?_)
        refine k_ireturn (fun hz => absurd hz (by decide)) ?_
        exact ⟨_, rfl, rfl⟩
      · refine k_nil ?_
        refine hB _ _ _ _ (kgoC (is := KX9_byteAt_12) rfl ?_)
        refine k_aload_n rfl ?_
        obtain ⟨a14, e12, c13, t15⟩ := cg307 H0.1 h_0_0
        refine k_get kg307 h_0_0 e12 ?_
        refine k_iload_n rfl ?_
        have z16 := H0.x10 h_0_0 c13 c5
        refine k_baload t15 (by omega) (by omega) (fun x17 => ?_)
        refine k_sipush (m := 255) rfl (fun x18 h19 => ?_)
        refine k_iand_u (fun x20 => ?_)
        refine k_goto ?_
        refine hB _ _ _ _ (kgoC (is := KX9_byteAt_26) rfl ?_)
        refine k_ireturn (fun hz => absurd hz (by decide)) ?_
        exact ⟨_, rfl, rfl⟩
theorem lg_X9_byteAt : ∀ (As : List AvC) (σ : CsC), P_X9_byteAt As σ → lgC As ≤ rX9_byteAt.2.2.1 := by
  rintro As σ ⟨p0, p1, rfl, -⟩
  exact Nat.le_of_ble_eq_true rfl
theorem m_X9_byteAt (l : Launch) : CMetC l 1 189 P_X9_byteAt Q_X9_byteAt :=
  CMetC.of KX9_byteAt [] hX9_byteAt (by decide) (by decide) okX9_byteAt cc0C (lg_X9_byteAt) (b_X9_byteAt)

abbrev P_X9_behindBlanks : CpC := fun As σ => ∃ (p0 : Nat) (p1 : Int32), As = [.inr (.inr (some p0)), .inl p1] ∧ HIC σ ∧ TyC σ p0 10 ∧ 0 ≤ p1.toInt
abbrev Q_X9_behindBlanks : CqC := fun As σ w τ => match As with
  | [.inr (.inr (some p0)), .inl p1] => ∃ r : Int32, w = some (.inl r) ∧ σ = τ ∧ 0 ≤ r.toInt ∧ (r.toInt ≤ (fIC σ p0 308).toInt) ∧ (p1.toInt ≤ r.toInt ∨ r.toInt = (fIC σ p0 308).toInt)
  | _ => False
set_option maxRecDepth 100000 in
set_option maxHeartbeats 4000000 in
theorem b_X9_behindBlanks : TbC KX9_behindBlanks [(189, P_X9_byteAt, Q_X9_byteAt)] P_X9_behindBlanks Q_X9_behindBlanks := by
  · rintro As σ0 ⟨p0, p1, rfl, H0, h_0_0, h_1_0⟩ hgr G hB hW
    change G 0 [(0, .inr (.inr (some p0))), (1, .inl p1)] [] σ0
    have L4 : ∀ (n4 : Nat), ∀ (v4_2 : Int32) (v4_3 : Int32), (2147483647 - v4_2.toInt).toNat = n4 → 0 ≤ v4_2.toInt → 0 ≤ v4_3.toInt → v4_3.toInt ≤ 1 → p1.toInt ≤ v4_2.toInt → G 4 [(0, .inr (.inr (some p0))), (2, .inl v4_2), (3, .inl v4_3)] [] σ0 := by
      intro n4
      induction n4 using Nat.strongRecOn with
      | _ n4 ih4 =>
        intro v4_2 v4_3 n4_ h1 h2 h3 h4
        refine hB _ _ _ _ (kgoC (is := KX9_behindBlanks_4) rfl ?_)
        refine k_iload_n rfl ?_
        refine k_aload_n rfl ?_
        obtain ⟨x7, e5, c6, h8, h9⟩ := cg308 H0.1 h_0_0
        refine k_get kg308 h_0_0 e5 ?_
        refine k_ic_ge (fun h10 => ?_) (fun h10 => ?_)
        · refine hB _ _ _ _ (kgoC (is := KX9_behindBlanks_92) rfl ?_)
          refine k_aload_n rfl ?_
          refine k_get kg308 h_0_0 (congrArg (Sum.inl : Int32 → AvC) c6) ?_
          refine k_ireturn (fun hz => absurd hz (by decide)) ?_
          exact ⟨_, rfl, rfl, (by omega), (by have z := congrArg Int32.toInt c6; omega), (by have z := congrArg Int32.toInt c6; omega)⟩
        · refine k_nil ?_
          refine hB _ _ _ _ (kgoC (is := KX9_behindBlanks_12) rfl ?_)
          refine k_aload_n rfl ?_
          refine k_iload_n rfl ?_
          refine k_inv (P := P_X9_byteAt) (Q := Q_X9_byteAt) rfl rfl rfl rfl (Nat.le_of_ble_eq_true rfl) (h_0_0.rc (by decide)) ⟨_, _, rfl, H0, h_0_0⟩ (fun w11 σ12 q13 => ?_)
          obtain ⟨x14, rfl, rfl⟩ := q13
          refine k_st (st' := [.inl x14]) rfl ?_
          refine k_istore (ls' := [(4, .inl x14), (0, .inr (.inr (some p0))), (2, .inl v4_2), (3, .inl v4_3)]) rfl ?_
          refine k_iload rfl ?_
          refine k_bipush (m := 10) rfl (fun x15 h16 => ?_)
          refine k_ic_ne (fun h17 => ?_) (fun h17 => ?_)
          · refine hB _ _ _ _ (kgoC (is := KX9_behindBlanks_31) rfl ?_)
            refine k_iload_n rfl ?_
            refine k_if_ne (fun h18 => ?_) (fun h18 => ?_)
            · refine hB _ _ _ _ (kgoC (is := KX9_behindBlanks_59) rfl ?_)
              refine k_iload_n rfl ?_
              refine k_if_ne (fun h19 => ?_) (fun h19 => by exfalso; omega)
              refine hB _ _ _ _ (kgoC (is := KX9_behindBlanks_86) rfl ?_)
              obtain ⟨x20, e22, h21⟩ := iincC (n := 1) (m := 1) (v := v4_2) rfl (by omega) (by omega)
              refine k_iinc (ls' := [(2, .inl x20), (4, .inl x14), (0, .inr (.inr (some p0))), (3, .inl v4_3)]) rfl e22 rfl ?_
              refine k_goto ?_
              exact hW _ _ _ _ _ (List.forall_mem_cons.2 ⟨List.Mem.tail _ (List.Mem.tail _ (List.Mem.head _)), (List.forall_mem_cons.2 ⟨List.Mem.head _, (List.forall_mem_cons.2 ⟨List.Mem.tail _ (List.Mem.tail _ (List.Mem.tail _ (List.Mem.head _))), fun _ h => absurd h List.not_mem_nil⟩)⟩)⟩) (ih4 ((2147483647 - x20.toInt).toNat) (by omega) x20 v4_3 rfl (by omega) (by omega) (by omega) (by omega))
            · refine k_nil ?_
              refine hB _ _ _ _ (kgoC (is := KX9_behindBlanks_35) rfl ?_)
              refine k_iload rfl ?_
              refine k_bipush (m := 47) rfl (fun x23 h24 => ?_)
              refine k_ic_ne (fun h25 => ?_) (fun h25 => ?_)
              · refine hB _ _ _ _ (kgoC (is := KX9_behindBlanks_59) rfl ?_)
                refine k_iload_n rfl ?_
                refine k_if_ne (fun h26 => by exfalso; omega) (fun h26 => ?_)
                refine k_nil ?_
                refine hB _ _ _ _ (kgoC (is := KX9_behindBlanks_63) rfl ?_)
                refine k_iload rfl ?_
                refine k_bipush (m := 32) rfl (fun x27 h28 => ?_)
                refine k_ic_eq (fun h29 => ?_) (fun h29 => ?_)
                · refine hB _ _ _ _ (kgoC (is := KX9_behindBlanks_86) rfl ?_)
                  obtain ⟨x30, e32, h31⟩ := iincC (n := 1) (m := 1) (v := v4_2) rfl (by omega) (by omega)
                  refine k_iinc (ls' := [(2, .inl x30), (4, .inl x14), (0, .inr (.inr (some p0))), (3, .inl v4_3)]) rfl e32 rfl ?_
                  refine k_goto ?_
                  exact hW _ _ _ _ _ (List.forall_mem_cons.2 ⟨List.Mem.tail _ (List.Mem.tail _ (List.Mem.head _)), (List.forall_mem_cons.2 ⟨List.Mem.head _, (List.forall_mem_cons.2 ⟨List.Mem.tail _ (List.Mem.tail _ (List.Mem.tail _ (List.Mem.head _))), fun _ h => absurd h List.not_mem_nil⟩)⟩)⟩) (ih4 ((2147483647 - x30.toInt).toNat) (by omega) x30 v4_3 rfl (by omega) (by omega) (by omega) (by omega))
                · refine k_nil ?_
                  refine hB _ _ _ _ (kgoC (is := KX9_behindBlanks_70) rfl ?_)
                  refine k_iload rfl ?_
                  refine k_bipush (m := 9) rfl (fun x33 h34 => ?_)
                  refine k_ic_eq (fun h35 => ?_) (fun h35 => ?_)
                  · refine hB _ _ _ _ (kgoC (is := KX9_behindBlanks_86) rfl ?_)
                    obtain ⟨x36, e38, h37⟩ := iincC (n := 1) (m := 1) (v := v4_2) rfl (by omega) (by omega)
                    refine k_iinc (ls' := [(2, .inl x36), (4, .inl x14), (0, .inr (.inr (some p0))), (3, .inl v4_3)]) rfl e38 rfl ?_
                    refine k_goto ?_
                    exact hW _ _ _ _ _ (List.forall_mem_cons.2 ⟨List.Mem.tail _ (List.Mem.tail _ (List.Mem.head _)), (List.forall_mem_cons.2 ⟨List.Mem.head _, (List.forall_mem_cons.2 ⟨List.Mem.tail _ (List.Mem.tail _ (List.Mem.tail _ (List.Mem.head _))), fun _ h => absurd h List.not_mem_nil⟩)⟩)⟩) (ih4 ((2147483647 - x36.toInt).toNat) (by omega) x36 v4_3 rfl (by omega) (by omega) (by omega) (by omega))
                  · refine k_nil ?_
                    refine hB _ _ _ _ (kgoC (is := KX9_behindBlanks_77) rfl ?_)
                    refine k_iload rfl ?_
                    refine k_bipush (m := 13) rfl (fun x39 h40 => ?_)
                    refine k_ic_eq (fun h41 => ?_) (fun h41 => ?_)
                    · refine hB _ _ _ _ (kgoC (is := KX9_behindBlanks_86) rfl ?_)
                      obtain ⟨x42, e44, h43⟩ := iincC (n := 1) (m := 1) (v := v4_2) rfl (by omega) (by omega)
                      refine k_iinc (ls' := [(2, .inl x42), (4, .inl x14), (0, .inr (.inr (some p0))), (3, .inl v4_3)]) rfl e44 rfl ?_
                      refine k_goto ?_
                      exact hW _ _ _ _ _ (List.forall_mem_cons.2 ⟨List.Mem.tail _ (List.Mem.tail _ (List.Mem.head _)), (List.forall_mem_cons.2 ⟨List.Mem.head _, (List.forall_mem_cons.2 ⟨List.Mem.tail _ (List.Mem.tail _ (List.Mem.tail _ (List.Mem.head _))), fun _ h => absurd h List.not_mem_nil⟩)⟩)⟩) (ih4 ((2147483647 - x42.toInt).toNat) (by omega) x42 v4_3 rfl (by omega) (by omega) (by omega) (by omega))
                    · refine k_nil ?_
                      refine hB _ _ _ _ (kgoC (is := KX9_behindBlanks_84) rfl ?_)
                      refine k_iload_n rfl ?_
                      refine k_ireturn (fun hz => absurd hz (by decide)) ?_
                      exact ⟨_, rfl, rfl, (by omega), (by have z := congrArg Int32.toInt c6; omega), (by have z := congrArg Int32.toInt c6; omega)⟩
              · refine k_nil ?_
                refine hB _ _ _ _ (kgoC (is := KX9_behindBlanks_42) rfl ?_)
                refine k_aload_n rfl ?_
                refine k_iload_n rfl ?_
                refine k_iconst (m := 1) rfl (fun x45 h46 => ?_)
                refine k_iadd (by omega) (by omega) (fun x47 h48 => ?_)
                refine k_inv (P := P_X9_byteAt) (Q := Q_X9_byteAt) rfl rfl rfl rfl (Nat.le_of_ble_eq_true rfl) (h_0_0.rc (by decide)) ⟨_, _, rfl, H0, h_0_0⟩ (fun w49 σ50 q51 => ?_)
                obtain ⟨x52, rfl, rfl⟩ := q51
                refine k_st (st' := [.inl x52]) rfl ?_
                refine k_bipush (m := 47) rfl (fun x53 h54 => ?_)
                refine k_ic_ne (fun h55 => ?_) (fun h55 => ?_)
                · refine hB _ _ _ _ (kgoC (is := KX9_behindBlanks_59) rfl ?_)
                  refine k_iload_n rfl ?_
                  refine k_if_ne (fun h56 => by exfalso; omega) (fun h56 => ?_)
                  refine k_nil ?_
                  refine hB _ _ _ _ (kgoC (is := KX9_behindBlanks_63) rfl ?_)
                  refine k_iload rfl ?_
                  refine k_bipush (m := 32) rfl (fun x57 h58 => ?_)
                  refine k_ic_eq (fun h59 => by exfalso; omega) (fun h59 => ?_)
                  refine k_nil ?_
                  refine hB _ _ _ _ (kgoC (is := KX9_behindBlanks_70) rfl ?_)
                  refine k_iload rfl ?_
                  refine k_bipush (m := 9) rfl (fun x60 h61 => ?_)
                  refine k_ic_eq (fun h62 => by exfalso; omega) (fun h62 => ?_)
                  refine k_nil ?_
                  refine hB _ _ _ _ (kgoC (is := KX9_behindBlanks_77) rfl ?_)
                  refine k_iload rfl ?_
                  refine k_bipush (m := 13) rfl (fun x63 h64 => ?_)
                  refine k_ic_eq (fun h65 => by exfalso; omega) (fun h65 => ?_)
                  refine k_nil ?_
                  refine hB _ _ _ _ (kgoC (is := KX9_behindBlanks_84) rfl ?_)
                  refine k_iload_n rfl ?_
                  refine k_ireturn (fun hz => absurd hz (by decide)) ?_
                  exact ⟨_, rfl, rfl, (by omega), (by have z := congrArg Int32.toInt c6; omega), (by have z := congrArg Int32.toInt c6; omega)⟩
                · refine k_nil ?_
                  refine hB _ _ _ _ (kgoC (is := KX9_behindBlanks_54) rfl ?_)
                  refine k_iconst (m := 1) rfl (fun x66 h67 => ?_)
                  refine k_istore_n (ls' := [(3, .inl x66), (4, .inl x14), (0, .inr (.inr (some p0))), (2, .inl v4_2)]) rfl ?_
                  refine k_goto ?_
                  refine hB _ _ _ _ (kgoC (is := KX9_behindBlanks_86) rfl ?_)
                  obtain ⟨x68, e70, h69⟩ := iincC (n := 1) (m := 1) (v := v4_2) rfl (by omega) (by omega)
                  refine k_iinc (ls' := [(2, .inl x68), (3, .inl x66), (4, .inl x14), (0, .inr (.inr (some p0)))]) rfl e70 rfl ?_
                  refine k_goto ?_
                  exact hW _ _ _ _ _ (List.forall_mem_cons.2 ⟨List.Mem.tail _ (List.Mem.tail _ (List.Mem.tail _ (List.Mem.head _))), (List.forall_mem_cons.2 ⟨List.Mem.head _, (List.forall_mem_cons.2 ⟨List.Mem.tail _ (List.Mem.head _), fun _ h => absurd h List.not_mem_nil⟩)⟩)⟩) (ih4 ((2147483647 - x68.toInt).toNat) (by omega) x68 x66 rfl (by omega) (by omega) (by omega) (by omega))
          · refine k_nil ?_
            refine hB _ _ _ _ (kgoC (is := KX9_behindBlanks_26) rfl ?_)
            refine k_iconst (m := 0) rfl (fun x71 h72 => ?_)
            refine k_istore_n (ls' := [(3, .inl x71), (4, .inl x14), (0, .inr (.inr (some p0))), (2, .inl v4_2)]) rfl ?_
            refine k_goto ?_
            refine hB _ _ _ _ (kgoC (is := KX9_behindBlanks_86) rfl ?_)
            obtain ⟨x73, e75, h74⟩ := iincC (n := 1) (m := 1) (v := v4_2) rfl (by omega) (by omega)
            refine k_iinc (ls' := [(2, .inl x73), (3, .inl x71), (4, .inl x14), (0, .inr (.inr (some p0)))]) rfl e75 rfl ?_
            refine k_goto ?_
            exact hW _ _ _ _ _ (List.forall_mem_cons.2 ⟨List.Mem.tail _ (List.Mem.tail _ (List.Mem.tail _ (List.Mem.head _))), (List.forall_mem_cons.2 ⟨List.Mem.head _, (List.forall_mem_cons.2 ⟨List.Mem.tail _ (List.Mem.head _), fun _ h => absurd h List.not_mem_nil⟩)⟩)⟩) (ih4 ((2147483647 - x73.toInt).toNat) (by omega) x73 x71 rfl (by omega) (by omega) (by omega) (by omega))
    refine hB _ _ _ _ (kgoC (is := KX9_behindBlanks_0) rfl ?_)
    refine k_iload_n rfl ?_
    refine k_istore_n (ls' := [(2, .inl p1), (0, .inr (.inr (some p0))), (1, .inl p1)]) rfl ?_
    refine k_iconst (m := 0) rfl (fun x76 h77 => ?_)
    refine k_istore_n (ls' := [(3, .inl x76), (2, .inl p1), (0, .inr (.inr (some p0))), (1, .inl p1)]) rfl ?_
    refine k_nil ?_
    exact hW _ _ _ _ _ (List.forall_mem_cons.2 ⟨List.Mem.tail _ (List.Mem.tail _ (List.Mem.head _)), (List.forall_mem_cons.2 ⟨List.Mem.tail _ (List.Mem.head _), (List.forall_mem_cons.2 ⟨List.Mem.head _, fun _ h => absurd h List.not_mem_nil⟩)⟩)⟩) (L4 _ p1 x76 rfl (by omega) (by omega) (by omega) (by omega))
theorem lg_X9_behindBlanks : ∀ (As : List AvC) (σ : CsC), P_X9_behindBlanks As σ → lgC As ≤ rX9_behindBlanks.2.2.1 := by
  rintro As σ ⟨p0, p1, rfl, -⟩
  exact Nat.le_of_ble_eq_true rfl
theorem m_X9_behindBlanks (l : Launch) : CMetC l 2 190 P_X9_behindBlanks Q_X9_behindBlanks :=
  CMetC.of KX9_behindBlanks [(189, P_X9_byteAt, Q_X9_byteAt)] hX9_behindBlanks (by decide) (by decide) okX9_behindBlanks (cc1C (m_X9_byteAt l) (by decide) cc0C) (lg_X9_behindBlanks) (b_X9_behindBlanks)

abbrev P_X9_isLetter : CpC := fun As σ => ∃ (p0 : Int32), As = [.inl p0] ∧ HIC σ
abbrev Q_X9_isLetter : CqC := fun As σ w τ => match As with
  | [.inl p0] => ∃ r : Int32, w = some (.inl r) ∧ σ = τ ∧ 0 ≤ r.toInt ∧ r.toInt ≤ 1
  | _ => False
set_option maxRecDepth 100000 in
set_option maxHeartbeats 4000000 in
theorem b_X9_isLetter : TbC KX9_isLetter [] P_X9_isLetter Q_X9_isLetter := by
  · rintro As σ0 ⟨p0, rfl, H0⟩ hgr G hB hW
    change G 0 [(0, .inl p0)] [] σ0
    refine hB _ _ _ _ (kgoC (is := KX9_isLetter_0) rfl ?_)
    refine k_iload_n rfl ?_
    refine k_bipush (m := 97) rfl (fun x1 h2 => ?_)
    refine k_ic_lt (fun h3 => ?_) (fun h3 => ?_)
    · refine hB _ _ _ _ (kgoC (is := KX9_isLetter_12) rfl ?_)
      refine k_iload_n rfl ?_
      refine k_bipush (m := 65) rfl (fun x4 h5 => ?_)
      refine k_ic_lt (fun h6 => ?_) (fun h6 => ?_)
      · refine hB _ _ _ _ (kgoC (is := KX9_isLetter_28) rfl ?_)
        refine k_iconst (m := 0) rfl (fun x7 h8 => ?_)
        refine k_nil ?_
        refine hB _ _ _ _ (kgoC (is := KX9_isLetter_29) rfl ?_)
        refine k_ireturn (fun _ => b01C (by omega) (by omega)) ?_
        exact ⟨_, rfl, rfl, (by omega), (by omega)⟩
      · refine k_nil ?_
        refine hB _ _ _ _ (kgoC (is := KX9_isLetter_18) rfl ?_)
        refine k_iload_n rfl ?_
        refine k_bipush (m := 90) rfl (fun x9 h10 => ?_)
        refine k_ic_gt (fun h11 => ?_) (fun h11 => ?_)
        · refine hB _ _ _ _ (kgoC (is := KX9_isLetter_28) rfl ?_)
          refine k_iconst (m := 0) rfl (fun x12 h13 => ?_)
          refine k_nil ?_
          refine hB _ _ _ _ (kgoC (is := KX9_isLetter_29) rfl ?_)
          refine k_ireturn (fun _ => b01C (by omega) (by omega)) ?_
          exact ⟨_, rfl, rfl, (by omega), (by omega)⟩
        · refine k_nil ?_
          refine hB _ _ _ _ (kgoC (is := KX9_isLetter_24) rfl ?_)
          refine k_iconst (m := 1) rfl (fun x14 h15 => ?_)
          refine k_goto ?_
          refine hB _ _ _ _ (kgoC (is := KX9_isLetter_29) rfl ?_)
          refine k_ireturn (fun _ => b01C (by omega) (by omega)) ?_
          exact ⟨_, rfl, rfl, (by omega), (by omega)⟩
    · refine k_nil ?_
      refine hB _ _ _ _ (kgoC (is := KX9_isLetter_6) rfl ?_)
      refine k_iload_n rfl ?_
      refine k_bipush (m := 122) rfl (fun x16 h17 => ?_)
      refine k_ic_le (fun h18 => ?_) (fun h18 => ?_)
      · refine hB _ _ _ _ (kgoC (is := KX9_isLetter_24) rfl ?_)
        refine k_iconst (m := 1) rfl (fun x19 h20 => ?_)
        refine k_goto ?_
        refine hB _ _ _ _ (kgoC (is := KX9_isLetter_29) rfl ?_)
        refine k_ireturn (fun _ => b01C (by omega) (by omega)) ?_
        exact ⟨_, rfl, rfl, (by omega), (by omega)⟩
      · refine k_nil ?_
        refine hB _ _ _ _ (kgoC (is := KX9_isLetter_12) rfl ?_)
        refine k_iload_n rfl ?_
        refine k_bipush (m := 65) rfl (fun x21 h22 => ?_)
        refine k_ic_lt (fun h23 => by exfalso; omega) (fun h23 => ?_)
        refine k_nil ?_
        refine hB _ _ _ _ (kgoC (is := KX9_isLetter_18) rfl ?_)
        refine k_iload_n rfl ?_
        refine k_bipush (m := 90) rfl (fun x24 h25 => ?_)
        refine k_ic_gt (fun h26 => ?_) (fun h26 => by exfalso; omega)
        refine hB _ _ _ _ (kgoC (is := KX9_isLetter_28) rfl ?_)
        refine k_iconst (m := 0) rfl (fun x27 h28 => ?_)
        refine k_nil ?_
        refine hB _ _ _ _ (kgoC (is := KX9_isLetter_29) rfl ?_)
        refine k_ireturn (fun _ => b01C (by omega) (by omega)) ?_
        exact ⟨_, rfl, rfl, (by omega), (by omega)⟩
theorem lg_X9_isLetter : ∀ (As : List AvC) (σ : CsC), P_X9_isLetter As σ → lgC As ≤ rX9_isLetter.2.2.1 := by
  rintro As σ ⟨p0, rfl, -⟩
  exact Nat.le_of_ble_eq_true rfl
theorem m_X9_isLetter (l : Launch) : CMetC l 1 192 P_X9_isLetter Q_X9_isLetter :=
  CMetC.of KX9_isLetter [] hX9_isLetter (by decide) (by decide) okX9_isLetter cc0C (lg_X9_isLetter) (b_X9_isLetter)

abbrev P_X9_isDigit : CpC := fun As σ => ∃ (p0 : Int32), As = [.inl p0] ∧ HIC σ
abbrev Q_X9_isDigit : CqC := fun As σ w τ => match As with
  | [.inl p0] => ∃ r : Int32, w = some (.inl r) ∧ σ = τ ∧ 0 ≤ r.toInt ∧ r.toInt ≤ 1
  | _ => False
set_option maxRecDepth 100000 in
set_option maxHeartbeats 4000000 in
theorem b_X9_isDigit : TbC KX9_isDigit [] P_X9_isDigit Q_X9_isDigit := by
  · rintro As σ0 ⟨p0, rfl, H0⟩ hgr G hB hW
    change G 0 [(0, .inl p0)] [] σ0
    refine hB _ _ _ _ (kgoC (is := KX9_isDigit_0) rfl ?_)
    refine k_iload_n rfl ?_
    refine k_bipush (m := 48) rfl (fun x1 h2 => ?_)
    refine k_ic_lt (fun h3 => ?_) (fun h3 => ?_)
    · refine hB _ _ _ _ (kgoC (is := KX9_isDigit_16) rfl ?_)
      refine k_iconst (m := 0) rfl (fun x4 h5 => ?_)
      refine k_nil ?_
      refine hB _ _ _ _ (kgoC (is := KX9_isDigit_17) rfl ?_)
      refine k_ireturn (fun _ => b01C (by omega) (by omega)) ?_
      exact ⟨_, rfl, rfl, (by omega), (by omega)⟩
    · refine k_nil ?_
      refine hB _ _ _ _ (kgoC (is := KX9_isDigit_6) rfl ?_)
      refine k_iload_n rfl ?_
      refine k_bipush (m := 57) rfl (fun x6 h7 => ?_)
      refine k_ic_gt (fun h8 => ?_) (fun h8 => ?_)
      · refine hB _ _ _ _ (kgoC (is := KX9_isDigit_16) rfl ?_)
        refine k_iconst (m := 0) rfl (fun x9 h10 => ?_)
        refine k_nil ?_
        refine hB _ _ _ _ (kgoC (is := KX9_isDigit_17) rfl ?_)
        refine k_ireturn (fun _ => b01C (by omega) (by omega)) ?_
        exact ⟨_, rfl, rfl, (by omega), (by omega)⟩
      · refine k_nil ?_
        refine hB _ _ _ _ (kgoC (is := KX9_isDigit_12) rfl ?_)
        refine k_iconst (m := 1) rfl (fun x11 h12 => ?_)
        refine k_goto ?_
        refine hB _ _ _ _ (kgoC (is := KX9_isDigit_17) rfl ?_)
        refine k_ireturn (fun _ => b01C (by omega) (by omega)) ?_
        exact ⟨_, rfl, rfl, (by omega), (by omega)⟩
theorem lg_X9_isDigit : ∀ (As : List AvC) (σ : CsC), P_X9_isDigit As σ → lgC As ≤ rX9_isDigit.2.2.1 := by
  rintro As σ ⟨p0, rfl, -⟩
  exact Nat.le_of_ble_eq_true rfl
theorem m_X9_isDigit (l : Launch) : CMetC l 1 193 P_X9_isDigit Q_X9_isDigit :=
  CMetC.of KX9_isDigit [] hX9_isDigit (by decide) (by decide) okX9_isDigit cc0C (lg_X9_isDigit) (b_X9_isDigit)

abbrev P_X9_cutName : CpC := fun As σ => ∃ (p0 : Nat) (p1 : Int32), As = [.inr (.inr (some p0)), .inl p1] ∧ HIC σ ∧ TyC σ p0 10 ∧ 0 ≤ p1.toInt ∧ p1.toInt ≤ 2500
abbrev Q_X9_cutName : CqC := fun As σ w τ => match As with
  | [.inr (.inr (some p0)), .inl p1] => ∃ r : Int32, w = some (.inl r) ∧ HIC τ ∧ ExC [998] σ τ ∧ r.toInt ≤ 20000
  | _ => False
set_option maxRecDepth 100000 in
set_option maxHeartbeats 4000000 in
theorem b_X9_cutName : TbC KX9_cutName [(189, P_X9_byteAt, Q_X9_byteAt), (192, P_X9_isLetter, Q_X9_isLetter), (185, P_X9_longerKey, Q_X9_longerKey), (193, P_X9_isDigit, Q_X9_isDigit)] P_X9_cutName Q_X9_cutName := by
  · rintro As σ0 ⟨p0, p1, rfl, H0, h_0_0, h_1_0, h_1_1⟩ hgr G hB hW
    change G 0 [(0, .inr (.inr (some p0))), (1, .inl p1)] [] σ0
    have L84 : ∀ (n84 : Nat), ∀ (σ1 : CsC) (v84_2 : Int32) (v84_3 : Int64) (v84_5 : Int32), (2147483647 - v84_5.toInt).toNat = n84 → HIC σ1 → ExC [998] σ0 σ1 → 0 ≤ v84_2.toInt → 0 ≤ v84_5.toInt → v84_5.toInt ≤ 24 → v84_2.toInt ≤ p1.toInt + 10 → G 84 [(0, .inr (.inr (some p0))), (1, .inl p1), (2, .inl v84_2), (3, .inr (.inl v84_3)), (5, .inl v84_5)] [] σ1 := by
      intro n84
      induction n84 using Nat.strongRecOn with
      | _ n84 ih84 =>
        intro σ1 v84_2 v84_3 v84_5 n84_ H2 e3 h4 h5 h6 h7
        refine hB _ _ _ _ (kgoC (is := KX9_cutName_84) rfl ?_)
        refine k_iload rfl ?_
        refine k_bipush (m := 24) rfl (fun x8 h9 => ?_)
        refine k_ic_ge (fun h10 => ?_) (fun h10 => ?_)
        · refine hB _ _ _ _ (kgoC (is := KX9_cutName_123) rfl ?_)
          refine k_iload_n rfl ?_
          refine k_iload_n rfl ?_
          have z13 := tiC v84_2
          refine k_isub (by omega) (by omega) (fun x11 h12 => ?_)
          refine k_ireturn (fun hz => absurd hz (by decide)) ?_
          have X14 : ExC [998] σ0 σ1 := ExC.rf.tr (e3.mo (by decide))
          exact ⟨_, rfl, H2, X14, (by omega)⟩
        · refine k_nil ?_
          refine hB _ _ _ _ (kgoC (is := KX9_cutName_91) rfl ?_)
          refine k_aload_n rfl ?_
          have t15 := h_0_0.x e3
          obtain ⟨a18, e16, c17, t19, l20, l21⟩ := cg306 H2.1 t15
          refine k_get kg306 t15 e16 ?_
          refine k_iload rfl ?_
          refine k_laload t19 (by omega) (by omega) (fun y22 => ?_)
          refine k_lload_n rfl ?_
          refine k_lcmp (fun x23 h24 g25 => ?_)
          refine k_if_ne (fun h26 => ?_) (fun h26 => ?_)
          · refine hB _ _ _ _ (kgoC (is := KX9_cutName_117) rfl ?_)
            obtain ⟨x27, e29, h28⟩ := iincC (n := 1) (m := 1) (v := v84_5) rfl (by omega) (by omega)
            refine k_iinc (ls' := [(5, .inl x27), (0, .inr (.inr (some p0))), (1, .inl p1), (2, .inl v84_2), (3, .inr (.inl v84_3))]) rfl e29 rfl ?_
            refine k_goto ?_
            have X30 : ExC [998] σ0 σ1 := ExC.rf.tr (e3.mo (by decide))
            exact hW _ _ _ _ _ (List.forall_mem_cons.2 ⟨List.Mem.tail _ (List.Mem.head _), (List.forall_mem_cons.2 ⟨List.Mem.tail _ (List.Mem.tail _ (List.Mem.head _)), (List.forall_mem_cons.2 ⟨List.Mem.tail _ (List.Mem.tail _ (List.Mem.tail _ (List.Mem.head _))), (List.forall_mem_cons.2 ⟨List.Mem.tail _ (List.Mem.tail _ (List.Mem.tail _ (List.Mem.tail _ (List.Mem.head _)))), (List.forall_mem_cons.2 ⟨List.Mem.head _, fun _ h => absurd h List.not_mem_nil⟩)⟩)⟩)⟩)⟩) (ih84 ((2147483647 - x27.toInt).toNat) (by omega) σ1 v84_2 v84_3 x27 rfl H2 X30 (by omega) (by omega) (by omega) (by omega))
          · refine k_nil ?_
            refine hB _ _ _ _ (kgoC (is := KX9_cutName_103) rfl ?_)
            refine k_aload_n rfl ?_
            obtain ⟨a33, e31, c32, t34, l35, l36⟩ := cg302 H2.1 t15
            refine k_get kg302 t15 e31 ?_
            refine k_aload_n rfl ?_
            obtain ⟨x39, e37, c38, h40, h41⟩ := cg305 H2.1 t15
            refine k_get kg305 t15 e37 ?_
            refine k_bipush (m := 50) rfl (fun x42 h43 => ?_)
            refine k_iload rfl ?_
            refine k_iadd (by omega) (by omega) (fun x44 h45 => ?_)
            refine k_iastore2 H2 t34 (by rw [l36]; decide) (by omega) (by omega) (fun σ46 H47 e48 c49 c49' => ?_)
            refine k_nil ?_
            refine hB _ _ _ _ (kgoC (is := KX9_cutName_117) rfl ?_)
            obtain ⟨x50, e52, h51⟩ := iincC (n := 1) (m := 1) (v := v84_5) rfl (by omega) (by omega)
            refine k_iinc (ls' := [(5, .inl x50), (0, .inr (.inr (some p0))), (1, .inl p1), (2, .inl v84_2), (3, .inr (.inl v84_3))]) rfl e52 rfl ?_
            refine k_goto ?_
            have X53 : ExC [998] σ0 σ1 := ExC.rf.tr (e3.mo (by decide))
            have X54 : ExC [998] σ0 σ46 := X53.tr (e48.mo (by decide))
            exact hW _ _ _ _ _ (List.forall_mem_cons.2 ⟨List.Mem.tail _ (List.Mem.head _), (List.forall_mem_cons.2 ⟨List.Mem.tail _ (List.Mem.tail _ (List.Mem.head _)), (List.forall_mem_cons.2 ⟨List.Mem.tail _ (List.Mem.tail _ (List.Mem.tail _ (List.Mem.head _))), (List.forall_mem_cons.2 ⟨List.Mem.tail _ (List.Mem.tail _ (List.Mem.tail _ (List.Mem.tail _ (List.Mem.head _)))), (List.forall_mem_cons.2 ⟨List.Mem.head _, fun _ h => absurd h List.not_mem_nil⟩)⟩)⟩)⟩)⟩) (ih84 ((2147483647 - x50.toInt).toNat) (by omega) σ46 v84_2 v84_3 x50 rfl H47 X54 (by omega) (by omega) (by omega) (by omega))
    have L4 : ∀ (n4 : Nat), ∀ (σ55 : CsC) (v4_2 : Int32) (v4_3 : Int64), (2147483647 - v4_2.toInt).toNat = n4 → HIC σ55 → ExC [998] σ0 σ55 → 0 ≤ v4_2.toInt → G 4 [(0, .inr (.inr (some p0))), (1, .inl p1), (2, .inl v4_2), (3, .inr (.inl v4_3))] [] σ55 := by
      intro n4
      induction n4 using Nat.strongRecOn with
      | _ n4 ih4 =>
        intro σ55 v4_2 v4_3 n4_ H56 e57 h58
        refine hB _ _ _ _ (kgoC (is := KX9_cutName_4) rfl ?_)
        refine k_iload_n rfl ?_
        refine k_aload_n rfl ?_
        have t59 := h_0_0.x e57
        obtain ⟨x62, e60, c61, h63, h64⟩ := cg308 H56.1 t59
        refine k_get kg308 t59 e60 ?_
        refine k_ic_ge (fun h65 => ?_) (fun h65 => ?_)
        · refine hB _ _ _ _ (kgoC (is := KX9_cutName_50) rfl ?_)
          refine k_iload_n rfl ?_
          refine k_iload_n rfl ?_
          have z68 := tiC v4_2
          refine k_isub (by omega) (by omega) (fun x66 h67 => ?_)
          refine k_bipush (m := 10) rfl (fun x69 h70 => ?_)
          refine k_ic_le (fun h71 => ?_) (fun h71 => ?_)
          · refine hB _ _ _ _ (kgoC (is := KX9_cutName_60) rfl ?_)
            refine k_aload_n rfl ?_
            obtain ⟨a74, e72, c73, t75, l76, l77⟩ := cg302 H56.1 t59
            refine k_get kg302 t59 e72 ?_
            refine k_aload_n rfl ?_
            obtain ⟨x80, e78, c79, h81, h82⟩ := cg305 H56.1 t59
            refine k_get kg305 t59 e78 ?_
            refine k_bipush (m := 80) rfl (fun x83 h84 => ?_)
            refine k_iastore2 H56 t75 (by rw [l77]; decide) (by omega) (by omega) (fun σ85 H86 e87 c88 c88' => ?_)
            refine k_aload_n rfl ?_
            have t89 := t59.x e87
            obtain ⟨a92, e90, c91, t93, l94, l95⟩ := cg304 H86.1 t89
            refine k_get kg304 t89 e90 ?_
            refine k_aload_n rfl ?_
            have c96 := (t59.mi e87 (by decide)).trans c79
            refine k_get kg305 t89 (congrArg (Sum.inl : Int32 → AvC) c96) ?_
            refine k_lload_n rfl ?_
            refine k_lastore H86 t93 l95 (by omega) (by omega) (fun σ97 H98 e99 => ?_)
            refine k_iconst (m := 0) rfl (fun x100 h101 => ?_)
            refine k_istore (ls' := [(5, .inl x100), (0, .inr (.inr (some p0))), (1, .inl p1), (2, .inl v4_2), (3, .inr (.inl v4_3))]) rfl ?_
            refine k_nil ?_
            have X102 : ExC [998] σ0 σ55 := ExC.rf.tr (e57.mo (by decide))
            have X103 : ExC [998] σ0 σ85 := X102.tr (e87.mo (by decide))
            have X104 : ExC [998] σ0 σ97 := X103.tr (e99.mo (by decide))
            exact hW _ _ _ _ _ (List.forall_mem_cons.2 ⟨List.Mem.tail _ (List.Mem.head _), (List.forall_mem_cons.2 ⟨List.Mem.tail _ (List.Mem.tail _ (List.Mem.head _)), (List.forall_mem_cons.2 ⟨List.Mem.tail _ (List.Mem.tail _ (List.Mem.tail _ (List.Mem.head _))), (List.forall_mem_cons.2 ⟨List.Mem.tail _ (List.Mem.tail _ (List.Mem.tail _ (List.Mem.tail _ (List.Mem.head _)))), (List.forall_mem_cons.2 ⟨List.Mem.head _, fun _ h => absurd h List.not_mem_nil⟩)⟩)⟩)⟩)⟩) (L84 _ σ97 v4_2 v4_3 x100 rfl H98 X104 (by omega) (by omega) (by omega) (by omega))
          · refine k_nil ?_
            refine hB _ _ _ _ (kgoC (is := KX9_cutName_58) rfl ?_)
            refine k_iconst (m := 0) rfl (fun x105 h106 => ?_)
            refine k_ireturn (fun hz => absurd hz (by decide)) ?_
            have X107 : ExC [998] σ0 σ55 := ExC.rf.tr (e57.mo (by decide))
            exact ⟨_, rfl, H56, X107, (by omega)⟩
        · refine k_nil ?_
          refine hB _ _ _ _ (kgoC (is := KX9_cutName_12) rfl ?_)
          refine k_aload_n rfl ?_
          refine k_iload_n rfl ?_
          refine k_inv (P := P_X9_byteAt) (Q := Q_X9_byteAt) rfl rfl rfl rfl (Nat.le_of_ble_eq_true rfl) (t59.rc (by decide)) ⟨_, _, rfl, H56, t59⟩ (fun w108 σ109 q110 => ?_)
          obtain ⟨x111, rfl, rfl⟩ := q110
          refine k_st (st' := [.inl x111]) rfl ?_
          refine k_stat (P := P_X9_isLetter) (Q := Q_X9_isLetter) rfl rfl (Nat.le_of_ble_eq_true rfl) rfl rfl (Nat.le_of_ble_eq_true rfl) ⟨_, rfl, H56⟩ (fun w112 σ113 q114 => ?_)
          obtain ⟨x115, rfl, rfl, h116, h117⟩ := q114
          refine k_st (st' := [.inl x115]) rfl ?_
          refine k_if_ne (fun h118 => ?_) (fun h118 => ?_)
          · refine hB _ _ _ _ (kgoC (is := KX9_cutName_34) rfl ?_)
            refine k_lload_n rfl ?_
            refine k_aload_n rfl ?_
            refine k_iload_n rfl ?_
            refine k_inv (P := P_X9_byteAt) (Q := Q_X9_byteAt) rfl rfl rfl rfl (Nat.le_of_ble_eq_true rfl) (t59.rc (by decide)) ⟨_, _, rfl, H56, t59⟩ (fun w119 σ120 q121 => ?_)
            obtain ⟨x122, rfl, rfl⟩ := q121
            refine k_st (st' := [.inl x122, .inr (.inl v4_3)]) rfl ?_
            refine k_stat (P := P_X9_longerKey) (Q := Q_X9_longerKey) rfl rfl (Nat.le_of_ble_eq_true rfl) rfl rfl (Nat.le_of_ble_eq_true rfl) ⟨_, _, rfl, H56⟩ (fun w123 σ124 q125 => ?_)
            obtain ⟨y126, rfl, rfl⟩ := q125
            refine k_st (st' := [.inr (.inl y126)]) rfl ?_
            refine k_lstore_n (ls' := [(3, .inr (.inl y126)), (0, .inr (.inr (some p0))), (1, .inl p1), (2, .inl v4_2)]) rfl ?_
            obtain ⟨x127, e129, h128⟩ := iincC (n := 1) (m := 1) (v := v4_2) rfl (by omega) (by omega)
            refine k_iinc (ls' := [(2, .inl x127), (3, .inr (.inl y126)), (0, .inr (.inr (some p0))), (1, .inl p1)]) rfl e129 rfl ?_
            refine k_goto ?_
            have X130 : ExC [998] σ0 σ55 := ExC.rf.tr (e57.mo (by decide))
            exact hW _ _ _ _ _ (List.forall_mem_cons.2 ⟨List.Mem.tail _ (List.Mem.tail _ (List.Mem.head _)), (List.forall_mem_cons.2 ⟨List.Mem.tail _ (List.Mem.tail _ (List.Mem.tail _ (List.Mem.head _))), (List.forall_mem_cons.2 ⟨List.Mem.head _, (List.forall_mem_cons.2 ⟨List.Mem.tail _ (List.Mem.head _), fun _ h => absurd h List.not_mem_nil⟩)⟩)⟩)⟩) (ih4 ((2147483647 - x127.toInt).toNat) (by omega) σ55 x127 y126 rfl H56 X130 (by omega))
          · refine k_nil ?_
            refine hB _ _ _ _ (kgoC (is := KX9_cutName_23) rfl ?_)
            refine k_aload_n rfl ?_
            refine k_iload_n rfl ?_
            refine k_inv (P := P_X9_byteAt) (Q := Q_X9_byteAt) rfl rfl rfl rfl (Nat.le_of_ble_eq_true rfl) (t59.rc (by decide)) ⟨_, _, rfl, H56, t59⟩ (fun w131 σ132 q133 => ?_)
            obtain ⟨x134, rfl, rfl⟩ := q133
            refine k_st (st' := [.inl x134]) rfl ?_
            refine k_stat (P := P_X9_isDigit) (Q := Q_X9_isDigit) rfl rfl (Nat.le_of_ble_eq_true rfl) rfl rfl (Nat.le_of_ble_eq_true rfl) ⟨_, rfl, H56⟩ (fun w135 σ136 q137 => ?_)
            obtain ⟨x138, rfl, rfl, h139, h140⟩ := q137
            refine k_st (st' := [.inl x138]) rfl ?_
            refine k_if_eq (fun h141 => ?_) (fun h141 => ?_)
            · refine hB _ _ _ _ (kgoC (is := KX9_cutName_50) rfl ?_)
              refine k_iload_n rfl ?_
              refine k_iload_n rfl ?_
              refine k_isub (by omega) (by omega) (fun x142 h143 => ?_)
              refine k_bipush (m := 10) rfl (fun x144 h145 => ?_)
              refine k_ic_le (fun h146 => ?_) (fun h146 => ?_)
              · refine hB _ _ _ _ (kgoC (is := KX9_cutName_60) rfl ?_)
                refine k_aload_n rfl ?_
                obtain ⟨a149, e147, c148, t150, l151, l152⟩ := cg302 H56.1 t59
                refine k_get kg302 t59 e147 ?_
                refine k_aload_n rfl ?_
                obtain ⟨x155, e153, c154, h156, h157⟩ := cg305 H56.1 t59
                refine k_get kg305 t59 e153 ?_
                refine k_bipush (m := 80) rfl (fun x158 h159 => ?_)
                refine k_iastore2 H56 t150 (by rw [l152]; decide) (by omega) (by omega) (fun σ160 H161 e162 c163 c163' => ?_)
                refine k_aload_n rfl ?_
                have t164 := t59.x e162
                obtain ⟨a167, e165, c166, t168, l169, l170⟩ := cg304 H161.1 t164
                refine k_get kg304 t164 e165 ?_
                refine k_aload_n rfl ?_
                have c171 := (t59.mi e162 (by decide)).trans c154
                refine k_get kg305 t164 (congrArg (Sum.inl : Int32 → AvC) c171) ?_
                refine k_lload_n rfl ?_
                refine k_lastore H161 t168 l170 (by omega) (by omega) (fun σ172 H173 e174 => ?_)
                refine k_iconst (m := 0) rfl (fun x175 h176 => ?_)
                refine k_istore (ls' := [(5, .inl x175), (0, .inr (.inr (some p0))), (1, .inl p1), (2, .inl v4_2), (3, .inr (.inl v4_3))]) rfl ?_
                refine k_nil ?_
                have X177 : ExC [998] σ0 σ55 := ExC.rf.tr (e57.mo (by decide))
                have X178 : ExC [998] σ0 σ160 := X177.tr (e162.mo (by decide))
                have X179 : ExC [998] σ0 σ172 := X178.tr (e174.mo (by decide))
                exact hW _ _ _ _ _ (List.forall_mem_cons.2 ⟨List.Mem.tail _ (List.Mem.head _), (List.forall_mem_cons.2 ⟨List.Mem.tail _ (List.Mem.tail _ (List.Mem.head _)), (List.forall_mem_cons.2 ⟨List.Mem.tail _ (List.Mem.tail _ (List.Mem.tail _ (List.Mem.head _))), (List.forall_mem_cons.2 ⟨List.Mem.tail _ (List.Mem.tail _ (List.Mem.tail _ (List.Mem.tail _ (List.Mem.head _)))), (List.forall_mem_cons.2 ⟨List.Mem.head _, fun _ h => absurd h List.not_mem_nil⟩)⟩)⟩)⟩)⟩) (L84 _ σ172 v4_2 v4_3 x175 rfl H173 X179 (by omega) (by omega) (by omega) (by omega))
              · refine k_nil ?_
                refine hB _ _ _ _ (kgoC (is := KX9_cutName_58) rfl ?_)
                refine k_iconst (m := 0) rfl (fun x180 h181 => ?_)
                refine k_ireturn (fun hz => absurd hz (by decide)) ?_
                have X182 : ExC [998] σ0 σ55 := ExC.rf.tr (e57.mo (by decide))
                exact ⟨_, rfl, H56, X182, (by omega)⟩
            · refine k_nil ?_
              refine hB _ _ _ _ (kgoC (is := KX9_cutName_34) rfl ?_)
              refine k_lload_n rfl ?_
              refine k_aload_n rfl ?_
              refine k_iload_n rfl ?_
              refine k_inv (P := P_X9_byteAt) (Q := Q_X9_byteAt) rfl rfl rfl rfl (Nat.le_of_ble_eq_true rfl) (t59.rc (by decide)) ⟨_, _, rfl, H56, t59⟩ (fun w183 σ184 q185 => ?_)
              obtain ⟨x186, rfl, rfl⟩ := q185
              refine k_st (st' := [.inl x186, .inr (.inl v4_3)]) rfl ?_
              refine k_stat (P := P_X9_longerKey) (Q := Q_X9_longerKey) rfl rfl (Nat.le_of_ble_eq_true rfl) rfl rfl (Nat.le_of_ble_eq_true rfl) ⟨_, _, rfl, H56⟩ (fun w187 σ188 q189 => ?_)
              obtain ⟨y190, rfl, rfl⟩ := q189
              refine k_st (st' := [.inr (.inl y190)]) rfl ?_
              refine k_lstore_n (ls' := [(3, .inr (.inl y190)), (0, .inr (.inr (some p0))), (1, .inl p1), (2, .inl v4_2)]) rfl ?_
              obtain ⟨x191, e193, h192⟩ := iincC (n := 1) (m := 1) (v := v4_2) rfl (by omega) (by omega)
              refine k_iinc (ls' := [(2, .inl x191), (3, .inr (.inl y190)), (0, .inr (.inr (some p0))), (1, .inl p1)]) rfl e193 rfl ?_
              refine k_goto ?_
              have X194 : ExC [998] σ0 σ55 := ExC.rf.tr (e57.mo (by decide))
              exact hW _ _ _ _ _ (List.forall_mem_cons.2 ⟨List.Mem.tail _ (List.Mem.tail _ (List.Mem.head _)), (List.forall_mem_cons.2 ⟨List.Mem.tail _ (List.Mem.tail _ (List.Mem.tail _ (List.Mem.head _))), (List.forall_mem_cons.2 ⟨List.Mem.head _, (List.forall_mem_cons.2 ⟨List.Mem.tail _ (List.Mem.head _), fun _ h => absurd h List.not_mem_nil⟩)⟩)⟩)⟩) (ih4 ((2147483647 - x191.toInt).toNat) (by omega) σ55 x191 y190 rfl H56 X194 (by omega))
    refine hB _ _ _ _ (kgoC (is := KX9_cutName_0) rfl ?_)
    refine k_iload_n rfl ?_
    refine k_istore_n (ls' := [(2, .inl p1), (0, .inr (.inr (some p0))), (1, .inl p1)]) rfl ?_
    refine k_lconst ?_
    refine k_lstore_n (ls' := [(3, .inr (.inl (Int64.ofNat ((0 : Fin 2) : Nat)))), (2, .inl p1), (0, .inr (.inr (some p0))), (1, .inl p1)]) rfl ?_
    refine k_nil ?_
    exact hW _ _ _ _ _ (List.forall_mem_cons.2 ⟨List.Mem.tail _ (List.Mem.tail _ (List.Mem.head _)), (List.forall_mem_cons.2 ⟨List.Mem.tail _ (List.Mem.tail _ (List.Mem.tail _ (List.Mem.head _))), (List.forall_mem_cons.2 ⟨List.Mem.tail _ (List.Mem.head _), (List.forall_mem_cons.2 ⟨List.Mem.head _, fun _ h => absurd h List.not_mem_nil⟩)⟩)⟩)⟩) (L4 _ σ0 p1 (Int64.ofNat ((0 : Fin 2) : Nat)) rfl H0 ExC.rf (by omega))
theorem lg_X9_cutName : ∀ (As : List AvC) (σ : CsC), P_X9_cutName As σ → lgC As ≤ rX9_cutName.2.2.1 := by
  rintro As σ ⟨p0, p1, rfl, -⟩
  exact Nat.le_of_ble_eq_true rfl
theorem m_X9_cutName (l : Launch) : CMetC l 2 194 P_X9_cutName Q_X9_cutName :=
  CMetC.of KX9_cutName [(189, P_X9_byteAt, Q_X9_byteAt), (192, P_X9_isLetter, Q_X9_isLetter), (185, P_X9_longerKey, Q_X9_longerKey), (193, P_X9_isDigit, Q_X9_isDigit)] hX9_cutName (by decide) (by decide) okX9_cutName (cc1C (m_X9_byteAt l) (by decide) (cc1C (m_X9_isLetter l) (by decide) (cc1C (m_X9_longerKey l) (by decide) (cc1C (m_X9_isDigit l) (by decide) cc0C)))) (lg_X9_cutName) (b_X9_cutName)

abbrev P_X9_cutNumber : CpC := fun As σ => ∃ (p0 : Nat) (p1 : Int32), As = [.inr (.inr (some p0)), .inl p1] ∧ HIC σ ∧ TyC σ p0 10 ∧ 0 ≤ p1.toInt ∧ p1.toInt ≤ 2500
abbrev Q_X9_cutNumber : CqC := fun As σ w τ => match As with
  | [.inr (.inr (some p0)), .inl p1] => ∃ r : Int32, w = some (.inl r) ∧ HIC τ ∧ ExC [998] σ τ ∧ r.toInt ≤ 20000
  | _ => False
set_option maxRecDepth 100000 in
set_option maxHeartbeats 4000000 in
theorem b_X9_cutNumber : TbC KX9_cutNumber [(189, P_X9_byteAt, Q_X9_byteAt), (193, P_X9_isDigit, Q_X9_isDigit)] P_X9_cutNumber Q_X9_cutNumber := by
  · rintro As σ0 ⟨p0, p1, rfl, H0, h_0_0, h_1_0, h_1_1⟩ hgr G hB hW
    change G 0 [(0, .inr (.inr (some p0))), (1, .inl p1)] [] σ0
    have L4 : ∀ (n4 : Nat), ∀ (σ1 : CsC) (v4_2 : Int32) (v4_3 : Int64), (2147483647 - v4_2.toInt).toNat = n4 → HIC σ1 → ExC [998] σ0 σ1 → 0 ≤ v4_2.toInt → G 4 [(0, .inr (.inr (some p0))), (1, .inl p1), (2, .inl v4_2), (3, .inr (.inl v4_3))] [] σ1 := by
      intro n4
      induction n4 using Nat.strongRecOn with
      | _ n4 ih4 =>
        intro σ1 v4_2 v4_3 n4_ H2 e3 h4
        refine hB _ _ _ _ (kgoC (is := KX9_cutNumber_4) rfl ?_)
        refine k_iload_n rfl ?_
        refine k_aload_n rfl ?_
        have t5 := h_0_0.x e3
        obtain ⟨x8, e6, c7, h9, h10⟩ := cg308 H2.1 t5
        refine k_get kg308 t5 e6 ?_
        refine k_ic_ge (fun h11 => ?_) (fun h11 => ?_)
        · refine hB _ _ _ _ (kgoC (is := KX9_cutNumber_45) rfl ?_)
          refine k_iload_n rfl ?_
          refine k_iload_n rfl ?_
          have z14 := tiC v4_2
          refine k_isub (by omega) (by omega) (fun x12 h13 => ?_)
          refine k_bipush (m := 19) rfl (fun x15 h16 => ?_)
          refine k_ic_le (fun h17 => ?_) (fun h17 => ?_)
          · refine hB _ _ _ _ (kgoC (is := KX9_cutNumber_55) rfl ?_)
            refine k_aload_n rfl ?_
            obtain ⟨a20, e18, c19, t21, l22, l23⟩ := cg304 H2.1 t5
            refine k_get kg304 t5 e18 ?_
            refine k_aload_n rfl ?_
            obtain ⟨x26, e24, c25, h27, h28⟩ := cg305 H2.1 t5
            refine k_get kg305 t5 e24 ?_
            refine k_lload_n rfl ?_
            refine k_lastore H2 t21 l23 (by omega) (by omega) (fun σ29 H30 e31 => ?_)
            refine k_aload_n rfl ?_
            have t32 := t5.x e31
            obtain ⟨a35, e33, c34, t36, l37, l38⟩ := cg302 H30.1 t32
            refine k_get kg302 t32 e33 ?_
            refine k_aload_n rfl ?_
            have c39 := (t5.mi e31 (by decide)).trans c25
            refine k_get kg305 t32 (congrArg (Sum.inl : Int32 → AvC) c39) ?_
            refine k_bipush (m := 81) rfl (fun x40 h41 => ?_)
            refine k_iastore2 H30 t36 (by rw [l38]; decide) (by omega) (by omega) (fun σ42 H43 e44 c45 c45' => ?_)
            refine k_aload_n rfl ?_
            refine k_iload_n rfl ?_
            have t46 := t32.x e44
            refine k_inv (P := P_X9_byteAt) (Q := Q_X9_byteAt) rfl rfl rfl rfl (Nat.le_of_ble_eq_true rfl) (t46.rc (by decide)) ⟨_, _, rfl, H43, t46⟩ (fun w47 σ48 q49 => ?_)
            obtain ⟨x50, rfl, rfl⟩ := q49
            refine k_st (st' := [.inl x50]) rfl ?_
            refine k_bipush (m := 76) rfl (fun x51 h52 => ?_)
            refine k_ic_ne (fun h53 => ?_) (fun h53 => ?_)
            · refine hB _ _ _ _ (kgoC (is := KX9_cutNumber_100) rfl ?_)
              refine k_iload_n rfl ?_
              refine k_iload_n rfl ?_
              have z56 := tiC v4_2
              refine k_isub (by omega) (by omega) (fun x54 h55 => ?_)
              refine k_ireturn (fun hz => absurd hz (by decide)) ?_
              have X57 : ExC [998] σ0 σ1 := ExC.rf.tr (e3.mo (by decide))
              have X58 : ExC [998] σ0 σ29 := X57.tr (e31.mo (by decide))
              have X59 : ExC [998] σ0 σ42 := X58.tr (e44.mo (by decide))
              exact ⟨_, rfl, H43, X59, (by omega)⟩
            · refine k_nil ?_
              refine hB _ _ _ _ (kgoC (is := KX9_cutNumber_86) rfl ?_)
              refine k_aload_n rfl ?_
              have c60 := (t32.mr e44 (by decide)).trans c34
              refine k_get kg302 t46 (congrArg (fun z : Option Nat => (Sum.inr (Sum.inr z) : AvC)) c60) ?_
              refine k_aload_n rfl ?_
              have c61 := (t32.mi e44 (by decide)).trans c39
              refine k_get kg305 t46 (congrArg (Sum.inl : Int32 → AvC) c61) ?_
              refine k_bipush (m := 82) rfl (fun x62 h63 => ?_)
              have t64 := t36.x e44
              have l65 := (t36.al e44).trans l37
              have l70 := (t36.gh e44).trans l38
              refine k_iastore2 H43 t64 (by rw [l70]; decide) (by omega) (by omega) (fun σ66 H67 e68 c69 c69' => ?_)
              have z74 := tiC v4_2
              obtain ⟨x71, e73, h72⟩ := iincC (n := 1) (m := 1) (v := v4_2) rfl (by omega) (by omega)
              refine k_iinc (ls' := [(2, .inl x71), (0, .inr (.inr (some p0))), (1, .inl p1), (3, .inr (.inl v4_3))]) rfl e73 rfl ?_
              refine k_nil ?_
              refine hB _ _ _ _ (kgoC (is := KX9_cutNumber_100) rfl ?_)
              refine k_iload_n rfl ?_
              refine k_iload_n rfl ?_
              have z77 := tiC x71
              refine k_isub (by omega) (by omega) (fun x75 h76 => ?_)
              refine k_ireturn (fun hz => absurd hz (by decide)) ?_
              have X78 : ExC [998] σ0 σ1 := ExC.rf.tr (e3.mo (by decide))
              have X79 : ExC [998] σ0 σ29 := X78.tr (e31.mo (by decide))
              have X80 : ExC [998] σ0 σ42 := X79.tr (e44.mo (by decide))
              have X81 : ExC [998] σ0 σ66 := X80.tr (e68.mo (by decide))
              exact ⟨_, rfl, H67, X81, (by omega)⟩
          · refine k_nil ?_
            refine hB _ _ _ _ (kgoC (is := KX9_cutNumber_53) rfl ?_)
            refine k_iconst (m := 0) rfl (fun x82 h83 => ?_)
            refine k_ireturn (fun hz => absurd hz (by decide)) ?_
            have X84 : ExC [998] σ0 σ1 := ExC.rf.tr (e3.mo (by decide))
            exact ⟨_, rfl, H2, X84, (by omega)⟩
        · refine k_nil ?_
          refine hB _ _ _ _ (kgoC (is := KX9_cutNumber_12) rfl ?_)
          refine k_aload_n rfl ?_
          refine k_iload_n rfl ?_
          refine k_inv (P := P_X9_byteAt) (Q := Q_X9_byteAt) rfl rfl rfl rfl (Nat.le_of_ble_eq_true rfl) (t5.rc (by decide)) ⟨_, _, rfl, H2, t5⟩ (fun w85 σ86 q87 => ?_)
          obtain ⟨x88, rfl, rfl⟩ := q87
          refine k_st (st' := [.inl x88]) rfl ?_
          refine k_stat (P := P_X9_isDigit) (Q := Q_X9_isDigit) rfl rfl (Nat.le_of_ble_eq_true rfl) rfl rfl (Nat.le_of_ble_eq_true rfl) ⟨_, rfl, H2⟩ (fun w89 σ90 q91 => ?_)
          obtain ⟨x92, rfl, rfl, h93, h94⟩ := q91
          refine k_st (st' := [.inl x92]) rfl ?_
          refine k_if_eq (fun h95 => ?_) (fun h95 => ?_)
          · refine hB _ _ _ _ (kgoC (is := KX9_cutNumber_45) rfl ?_)
            refine k_iload_n rfl ?_
            refine k_iload_n rfl ?_
            refine k_isub (by omega) (by omega) (fun x96 h97 => ?_)
            refine k_bipush (m := 19) rfl (fun x98 h99 => ?_)
            refine k_ic_le (fun h100 => ?_) (fun h100 => ?_)
            · refine hB _ _ _ _ (kgoC (is := KX9_cutNumber_55) rfl ?_)
              refine k_aload_n rfl ?_
              obtain ⟨a103, e101, c102, t104, l105, l106⟩ := cg304 H2.1 t5
              refine k_get kg304 t5 e101 ?_
              refine k_aload_n rfl ?_
              obtain ⟨x109, e107, c108, h110, h111⟩ := cg305 H2.1 t5
              refine k_get kg305 t5 e107 ?_
              refine k_lload_n rfl ?_
              refine k_lastore H2 t104 l106 (by omega) (by omega) (fun σ112 H113 e114 => ?_)
              refine k_aload_n rfl ?_
              have t115 := t5.x e114
              obtain ⟨a118, e116, c117, t119, l120, l121⟩ := cg302 H113.1 t115
              refine k_get kg302 t115 e116 ?_
              refine k_aload_n rfl ?_
              have c122 := (t5.mi e114 (by decide)).trans c108
              refine k_get kg305 t115 (congrArg (Sum.inl : Int32 → AvC) c122) ?_
              refine k_bipush (m := 81) rfl (fun x123 h124 => ?_)
              refine k_iastore2 H113 t119 (by rw [l121]; decide) (by omega) (by omega) (fun σ125 H126 e127 c128 c128' => ?_)
              refine k_aload_n rfl ?_
              refine k_iload_n rfl ?_
              have t129 := t115.x e127
              refine k_inv (P := P_X9_byteAt) (Q := Q_X9_byteAt) rfl rfl rfl rfl (Nat.le_of_ble_eq_true rfl) (t129.rc (by decide)) ⟨_, _, rfl, H126, t129⟩ (fun w130 σ131 q132 => ?_)
              obtain ⟨x133, rfl, rfl⟩ := q132
              refine k_st (st' := [.inl x133]) rfl ?_
              refine k_bipush (m := 76) rfl (fun x134 h135 => ?_)
              refine k_ic_ne (fun h136 => ?_) (fun h136 => ?_)
              · refine hB _ _ _ _ (kgoC (is := KX9_cutNumber_100) rfl ?_)
                refine k_iload_n rfl ?_
                refine k_iload_n rfl ?_
                refine k_isub (by omega) (by omega) (fun x137 h138 => ?_)
                refine k_ireturn (fun hz => absurd hz (by decide)) ?_
                have X139 : ExC [998] σ0 σ1 := ExC.rf.tr (e3.mo (by decide))
                have X140 : ExC [998] σ0 σ112 := X139.tr (e114.mo (by decide))
                have X141 : ExC [998] σ0 σ125 := X140.tr (e127.mo (by decide))
                exact ⟨_, rfl, H126, X141, (by omega)⟩
              · refine k_nil ?_
                refine hB _ _ _ _ (kgoC (is := KX9_cutNumber_86) rfl ?_)
                refine k_aload_n rfl ?_
                have c142 := (t115.mr e127 (by decide)).trans c117
                refine k_get kg302 t129 (congrArg (fun z : Option Nat => (Sum.inr (Sum.inr z) : AvC)) c142) ?_
                refine k_aload_n rfl ?_
                have c143 := (t115.mi e127 (by decide)).trans c122
                refine k_get kg305 t129 (congrArg (Sum.inl : Int32 → AvC) c143) ?_
                refine k_bipush (m := 82) rfl (fun x144 h145 => ?_)
                have t146 := t119.x e127
                have l147 := (t119.al e127).trans l120
                have l152 := (t119.gh e127).trans l121
                refine k_iastore2 H126 t146 (by rw [l152]; decide) (by omega) (by omega) (fun σ148 H149 e150 c151 c151' => ?_)
                obtain ⟨x153, e155, h154⟩ := iincC (n := 1) (m := 1) (v := v4_2) rfl (by omega) (by omega)
                refine k_iinc (ls' := [(2, .inl x153), (0, .inr (.inr (some p0))), (1, .inl p1), (3, .inr (.inl v4_3))]) rfl e155 rfl ?_
                refine k_nil ?_
                refine hB _ _ _ _ (kgoC (is := KX9_cutNumber_100) rfl ?_)
                refine k_iload_n rfl ?_
                refine k_iload_n rfl ?_
                have z158 := tiC x153
                refine k_isub (by omega) (by omega) (fun x156 h157 => ?_)
                refine k_ireturn (fun hz => absurd hz (by decide)) ?_
                have X159 : ExC [998] σ0 σ1 := ExC.rf.tr (e3.mo (by decide))
                have X160 : ExC [998] σ0 σ112 := X159.tr (e114.mo (by decide))
                have X161 : ExC [998] σ0 σ125 := X160.tr (e127.mo (by decide))
                have X162 : ExC [998] σ0 σ148 := X161.tr (e150.mo (by decide))
                exact ⟨_, rfl, H149, X162, (by omega)⟩
            · refine k_nil ?_
              refine hB _ _ _ _ (kgoC (is := KX9_cutNumber_53) rfl ?_)
              refine k_iconst (m := 0) rfl (fun x163 h164 => ?_)
              refine k_ireturn (fun hz => absurd hz (by decide)) ?_
              have X165 : ExC [998] σ0 σ1 := ExC.rf.tr (e3.mo (by decide))
              exact ⟨_, rfl, H2, X165, (by omega)⟩
          · refine k_nil ?_
            refine hB _ _ _ _ (kgoC (is := KX9_cutNumber_23) rfl ?_)
            refine k_lload_n rfl ?_
            refine k_ldc2_w ?_
            refine k_lmul (fun y166 => ?_)
            refine k_aload_n rfl ?_
            refine k_iload_n rfl ?_
            refine k_inv (P := P_X9_byteAt) (Q := Q_X9_byteAt) rfl rfl rfl rfl (Nat.le_of_ble_eq_true rfl) (t5.rc (by decide)) ⟨_, _, rfl, H2, t5⟩ (fun w167 σ168 q169 => ?_)
            obtain ⟨x170, rfl, rfl⟩ := q169
            refine k_st (st' := [.inl x170, .inr (.inl y166)]) rfl ?_
            refine k_bipush (m := 48) rfl (fun x171 h172 => ?_)
            have z175 := tiC x170
            refine k_isub_u (fun x173 => ?_)
            refine k_i2l (fun y176 => ?_)
            refine k_ladd (fun y177 => ?_)
            refine k_lstore_n (ls' := [(3, .inr (.inl y177)), (0, .inr (.inr (some p0))), (1, .inl p1), (2, .inl v4_2)]) rfl ?_
            obtain ⟨x178, e180, h179⟩ := iincC (n := 1) (m := 1) (v := v4_2) rfl (by omega) (by omega)
            refine k_iinc (ls' := [(2, .inl x178), (3, .inr (.inl y177)), (0, .inr (.inr (some p0))), (1, .inl p1)]) rfl e180 rfl ?_
            refine k_goto ?_
            have X181 : ExC [998] σ0 σ1 := ExC.rf.tr (e3.mo (by decide))
            exact hW _ _ _ _ _ (List.forall_mem_cons.2 ⟨List.Mem.tail _ (List.Mem.tail _ (List.Mem.head _)), (List.forall_mem_cons.2 ⟨List.Mem.tail _ (List.Mem.tail _ (List.Mem.tail _ (List.Mem.head _))), (List.forall_mem_cons.2 ⟨List.Mem.head _, (List.forall_mem_cons.2 ⟨List.Mem.tail _ (List.Mem.head _), fun _ h => absurd h List.not_mem_nil⟩)⟩)⟩)⟩) (ih4 ((2147483647 - x178.toInt).toNat) (by omega) σ1 x178 y177 rfl H2 X181 (by omega))
    refine hB _ _ _ _ (kgoC (is := KX9_cutNumber_0) rfl ?_)
    refine k_iload_n rfl ?_
    refine k_istore_n (ls' := [(2, .inl p1), (0, .inr (.inr (some p0))), (1, .inl p1)]) rfl ?_
    refine k_lconst ?_
    refine k_lstore_n (ls' := [(3, .inr (.inl (Int64.ofNat ((0 : Fin 2) : Nat)))), (2, .inl p1), (0, .inr (.inr (some p0))), (1, .inl p1)]) rfl ?_
    refine k_nil ?_
    exact hW _ _ _ _ _ (List.forall_mem_cons.2 ⟨List.Mem.tail _ (List.Mem.tail _ (List.Mem.head _)), (List.forall_mem_cons.2 ⟨List.Mem.tail _ (List.Mem.tail _ (List.Mem.tail _ (List.Mem.head _))), (List.forall_mem_cons.2 ⟨List.Mem.tail _ (List.Mem.head _), (List.forall_mem_cons.2 ⟨List.Mem.head _, fun _ h => absurd h List.not_mem_nil⟩)⟩)⟩)⟩) (L4 _ σ0 p1 (Int64.ofNat ((0 : Fin 2) : Nat)) rfl H0 ExC.rf (by omega))
theorem lg_X9_cutNumber : ∀ (As : List AvC) (σ : CsC), P_X9_cutNumber As σ → lgC As ≤ rX9_cutNumber.2.2.1 := by
  rintro As σ ⟨p0, p1, rfl, -⟩
  exact Nat.le_of_ble_eq_true rfl
theorem m_X9_cutNumber (l : Launch) : CMetC l 2 195 P_X9_cutNumber Q_X9_cutNumber :=
  CMetC.of KX9_cutNumber [(189, P_X9_byteAt, Q_X9_byteAt), (193, P_X9_isDigit, Q_X9_isDigit)] hX9_cutNumber (by decide) (by decide) okX9_cutNumber (cc1C (m_X9_byteAt l) (by decide) (cc1C (m_X9_isDigit l) (by decide) cc0C)) (lg_X9_cutNumber) (b_X9_cutNumber)

abbrev P_X9_cutCharacter : CpC := fun As σ => ∃ (p0 : Nat) (p1 : Int32), As = [.inr (.inr (some p0)), .inl p1] ∧ HIC σ ∧ TyC σ p0 10
abbrev Q_X9_cutCharacter : CqC := fun As σ w τ => match As with
  | [.inr (.inr (some p0)), .inl p1] => ∃ r : Int32, w = some (.inl r) ∧ HIC τ ∧ ExC [998] σ τ ∧ r.toInt ≤ 20000
  | _ => False
set_option maxRecDepth 100000 in
set_option maxHeartbeats 4000000 in
theorem b_X9_cutCharacter : TbC KX9_cutCharacter [(189, P_X9_byteAt, Q_X9_byteAt)] P_X9_cutCharacter Q_X9_cutCharacter := by
  · rintro As σ0 ⟨p0, p1, rfl, H0, h_0_0⟩ hgr G hB hW
    change G 0 [(0, .inr (.inr (some p0))), (1, .inl p1)] [] σ0
    refine hB _ _ _ _ (kgoC (is := KX9_cutCharacter_0) rfl ?_)
    refine k_aload_n rfl ?_
    refine k_iload_n rfl ?_
    refine k_iconst (m := 1) rfl (fun x1 h2 => ?_)
    have z5 := tiC p1
    refine k_iadd_u (fun x3 => ?_)
    refine k_inv (P := P_X9_byteAt) (Q := Q_X9_byteAt) rfl rfl rfl rfl (Nat.le_of_ble_eq_true rfl) (h_0_0.rc (by decide)) ⟨_, _, rfl, H0, h_0_0⟩ (fun w6 σ7 q8 => ?_)
    obtain ⟨x9, rfl, rfl⟩ := q8
    refine k_st (st' := [.inl x9]) rfl ?_
    refine k_istore_n (ls' := [(2, .inl x9), (0, .inr (.inr (some p0))), (1, .inl p1)]) rfl ?_
    refine k_iload_n rfl ?_
    refine k_bipush (m := 32) rfl (fun x10 h11 => ?_)
    refine k_ic_lt (fun h12 => ?_) (fun h12 => ?_)
    · refine hB _ _ _ _ (kgoC (is := KX9_cutCharacter_44) rfl ?_)
      refine k_iconst (m := 0) rfl (fun x13 h14 => ?_)
      refine k_ireturn (fun hz => absurd hz (by decide)) ?_
      exact ⟨_, rfl, H0, (ExC.rf : ExC [998] σ0 σ0), (by omega)⟩
    · refine k_nil ?_
      refine hB _ _ _ _ (kgoC (is := KX9_cutCharacter_14) rfl ?_)
      refine k_iload_n rfl ?_
      refine k_bipush (m := 126) rfl (fun x15 h16 => ?_)
      refine k_ic_gt (fun h17 => ?_) (fun h17 => ?_)
      · refine hB _ _ _ _ (kgoC (is := KX9_cutCharacter_44) rfl ?_)
        refine k_iconst (m := 0) rfl (fun x18 h19 => ?_)
        refine k_ireturn (fun hz => absurd hz (by decide)) ?_
        exact ⟨_, rfl, H0, (ExC.rf : ExC [998] σ0 σ0), (by omega)⟩
      · refine k_nil ?_
        refine hB _ _ _ _ (kgoC (is := KX9_cutCharacter_20) rfl ?_)
        refine k_iload_n rfl ?_
        refine k_bipush (m := 39) rfl (fun x20 h21 => ?_)
        refine k_ic_eq (fun h22 => ?_) (fun h22 => ?_)
        · refine hB _ _ _ _ (kgoC (is := KX9_cutCharacter_44) rfl ?_)
          refine k_iconst (m := 0) rfl (fun x23 h24 => ?_)
          refine k_ireturn (fun hz => absurd hz (by decide)) ?_
          exact ⟨_, rfl, H0, (ExC.rf : ExC [998] σ0 σ0), (by omega)⟩
        · refine k_nil ?_
          refine hB _ _ _ _ (kgoC (is := KX9_cutCharacter_26) rfl ?_)
          refine k_iload_n rfl ?_
          refine k_bipush (m := 92) rfl (fun x25 h26 => ?_)
          refine k_ic_eq (fun h27 => ?_) (fun h27 => ?_)
          · refine hB _ _ _ _ (kgoC (is := KX9_cutCharacter_44) rfl ?_)
            refine k_iconst (m := 0) rfl (fun x28 h29 => ?_)
            refine k_ireturn (fun hz => absurd hz (by decide)) ?_
            exact ⟨_, rfl, H0, (ExC.rf : ExC [998] σ0 σ0), (by omega)⟩
          · refine k_nil ?_
            refine hB _ _ _ _ (kgoC (is := KX9_cutCharacter_32) rfl ?_)
            refine k_aload_n rfl ?_
            refine k_iload_n rfl ?_
            refine k_iconst (m := 2) rfl (fun x30 h31 => ?_)
            have z34 := tiC p1
            refine k_iadd_u (fun x32 => ?_)
            refine k_inv (P := P_X9_byteAt) (Q := Q_X9_byteAt) rfl rfl rfl rfl (Nat.le_of_ble_eq_true rfl) (h_0_0.rc (by decide)) ⟨_, _, rfl, H0, h_0_0⟩ (fun w35 σ36 q37 => ?_)
            obtain ⟨x38, rfl, rfl⟩ := q37
            refine k_st (st' := [.inl x38]) rfl ?_
            refine k_bipush (m := 39) rfl (fun x39 h40 => ?_)
            refine k_ic_eq (fun h41 => ?_) (fun h41 => ?_)
            · refine hB _ _ _ _ (kgoC (is := KX9_cutCharacter_46) rfl ?_)
              refine k_aload_n rfl ?_
              obtain ⟨a44, e42, c43, t45, l46, l47⟩ := cg302 H0.1 h_0_0
              refine k_get kg302 h_0_0 e42 ?_
              refine k_aload_n rfl ?_
              obtain ⟨x50, e48, c49, h51, h52⟩ := cg305 H0.1 h_0_0
              refine k_get kg305 h_0_0 e48 ?_
              refine k_bipush (m := 83) rfl (fun x53 h54 => ?_)
              refine k_iastore2 H0 t45 (by rw [l47]; decide) (by omega) (by omega) (fun σ55 H56 e57 c58 c58' => ?_)
              refine k_aload_n rfl ?_
              have t59 := h_0_0.x e57
              obtain ⟨a62, e60, c61, t63, l64, l65⟩ := cg304 H56.1 t59
              refine k_get kg304 t59 e60 ?_
              refine k_aload_n rfl ?_
              have c66 := (h_0_0.mi e57 (by decide)).trans c49
              refine k_get kg305 t59 (congrArg (Sum.inl : Int32 → AvC) c66) ?_
              refine k_iload_n rfl ?_
              refine k_i2l (fun y67 => ?_)
              refine k_lastore H56 t63 l65 (by omega) (by omega) (fun σ68 H69 e70 => ?_)
              refine k_iconst (m := 3) rfl (fun x71 h72 => ?_)
              refine k_ireturn (fun hz => absurd hz (by decide)) ?_
              have X73 : ExC [998] σ0 σ55 := ExC.rf.tr (e57.mo (by decide))
              have X74 : ExC [998] σ0 σ68 := X73.tr (e70.mo (by decide))
              exact ⟨_, rfl, H69, X74, (by omega)⟩
            · refine k_nil ?_
              refine hB _ _ _ _ (kgoC (is := KX9_cutCharacter_44) rfl ?_)
              refine k_iconst (m := 0) rfl (fun x75 h76 => ?_)
              refine k_ireturn (fun hz => absurd hz (by decide)) ?_
              exact ⟨_, rfl, H0, (ExC.rf : ExC [998] σ0 σ0), (by omega)⟩
theorem lg_X9_cutCharacter : ∀ (As : List AvC) (σ : CsC), P_X9_cutCharacter As σ → lgC As ≤ rX9_cutCharacter.2.2.1 := by
  rintro As σ ⟨p0, p1, rfl, -⟩
  exact Nat.le_of_ble_eq_true rfl
theorem m_X9_cutCharacter (l : Launch) : CMetC l 2 196 P_X9_cutCharacter Q_X9_cutCharacter :=
  CMetC.of KX9_cutCharacter [(189, P_X9_byteAt, Q_X9_byteAt)] hX9_cutCharacter (by decide) (by decide) okX9_cutCharacter (cc1C (m_X9_byteAt l) (by decide) cc0C) (lg_X9_cutCharacter) (b_X9_cutCharacter)

abbrev P_X9_standsThere : CpC := fun As σ => ∃ (p0 : Nat) (p1 : Int32) (p2 : Int32) (p3 : Int32), As = [.inr (.inr (some p0)), .inl p1, .inl p2, .inl p3] ∧ HIC σ ∧ TyC σ p0 10 ∧ 0 ≤ p1.toInt ∧ p1.toInt ≤ 20000 ∧ 0 ≤ p2.toInt ∧ p2.toInt ≤ 112
abbrev Q_X9_standsThere : CqC := fun As σ w τ => match As with
  | [.inr (.inr (some p0)), .inl p1, .inl p2, .inl p3] => ∃ r : Int32, w = some (.inl r) ∧ σ = τ ∧ 0 ≤ r.toInt ∧ r.toInt ≤ 1
  | _ => False
set_option maxRecDepth 100000 in
set_option maxHeartbeats 4000000 in
theorem b_X9_standsThere : TbC KX9_standsThere [(238, P_J0_charAt_5068e, Q_J0_charAt_5068e), (189, P_X9_byteAt, Q_X9_byteAt)] P_X9_standsThere Q_X9_standsThere := by
  · rintro As σ0 ⟨p0, p1, p2, p3, rfl, H0, h_0_0, h_1_0, h_1_1, h_2_0, h_2_1⟩ hgr G hB hW
    change G 0 [(0, .inr (.inr (some p0))), (1, .inl p1), (2, .inl p2), (3, .inl p3)] [] σ0
    have L3 : ∀ (n3 : Nat), ∀ (v3_4 : Int32), (2147483647 - v3_4.toInt).toNat = n3 → 0 ≤ v3_4.toInt → v3_4.toInt ≤ 20000 → G 3 [(0, .inr (.inr (some p0))), (1, .inl p1), (2, .inl p2), (3, .inl p3), (4, .inl v3_4)] [] σ0 := by
      intro n3
      induction n3 using Nat.strongRecOn with
      | _ n3 ih3 =>
        intro v3_4 n3_ h1 h2
        refine hB _ _ _ _ (kgoC (is := KX9_standsThere_3) rfl ?_)
        refine k_iload rfl ?_
        refine k_iload_n rfl ?_
        refine k_ic_ge (fun h3 => ?_) (fun h3 => ?_)
        · refine hB _ _ _ _ (kgoC (is := KX9_standsThere_37) rfl ?_)
          refine k_iconst (m := 1) rfl (fun x4 h5 => ?_)
          refine k_ireturn (fun _ => b01C (by omega) (by omega)) ?_
          exact ⟨_, rfl, rfl, (by omega), (by omega)⟩
        · refine k_nil ?_
          refine hB _ _ _ _ (kgoC (is := KX9_standsThere_9) rfl ?_)
          refine k_ldcR rfl ?_
          refine k_iload rfl ?_
          have z6 : slnC 1000006 = 112 := rfl
          refine k_inv (P := P_J0_charAt_5068e) (Q := Q_J0_charAt_5068e) rfl rfl rfl rfl (Nat.le_of_ble_eq_true rfl) (Or.inr ⟨rfl, by omega, by omega⟩) ⟨_, _, rfl, H0, (by decide), (by omega), (by omega)⟩ (fun w7 σ8 q9 => ?_)
          obtain ⟨x10, rfl, rfl, q11⟩ := q9
          refine k_st (st' := [.inl x10]) rfl ?_
          refine k_aload_n rfl ?_
          refine k_iload_n rfl ?_
          refine k_iload rfl ?_
          have z14 := tiC p3
          refine k_iadd_u (fun x12 => ?_)
          refine k_iload_n rfl ?_
          have z17 := tiC x12
          refine k_isub_u (fun x15 => ?_)
          refine k_inv (P := P_X9_byteAt) (Q := Q_X9_byteAt) rfl rfl rfl rfl (Nat.le_of_ble_eq_true rfl) (h_0_0.rc (by decide)) ⟨_, _, rfl, H0, h_0_0⟩ (fun w18 σ19 q20 => ?_)
          obtain ⟨x21, rfl, rfl⟩ := q20
          refine k_st (st' := [.inl x21, .inl x10]) rfl ?_
          refine k_ic_eq (fun h22 => ?_) (fun h22 => ?_)
          · refine hB _ _ _ _ (kgoC (is := KX9_standsThere_31) rfl ?_)
            obtain ⟨x23, e25, h24⟩ := iincC (n := 1) (m := 1) (v := v3_4) rfl (by omega) (by omega)
            refine k_iinc (ls' := [(4, .inl x23), (0, .inr (.inr (some p0))), (1, .inl p1), (2, .inl p2), (3, .inl p3)]) rfl e25 rfl ?_
            refine k_goto ?_
            exact hW _ _ _ _ _ (List.forall_mem_cons.2 ⟨List.Mem.tail _ (List.Mem.head _), (List.forall_mem_cons.2 ⟨List.Mem.tail _ (List.Mem.tail _ (List.Mem.head _)), (List.forall_mem_cons.2 ⟨List.Mem.tail _ (List.Mem.tail _ (List.Mem.tail _ (List.Mem.head _))), (List.forall_mem_cons.2 ⟨List.Mem.tail _ (List.Mem.tail _ (List.Mem.tail _ (List.Mem.tail _ (List.Mem.head _)))), (List.forall_mem_cons.2 ⟨List.Mem.head _, fun _ h => absurd h List.not_mem_nil⟩)⟩)⟩)⟩)⟩) (ih3 ((2147483647 - x23.toInt).toNat) (by omega) x23 rfl (by omega) (by omega))
          · refine k_nil ?_
            refine hB _ _ _ _ (kgoC (is := KX9_standsThere_29) rfl ?_)
            refine k_iconst (m := 0) rfl (fun x26 h27 => ?_)
            refine k_ireturn (fun _ => b01C (by omega) (by omega)) ?_
            exact ⟨_, rfl, rfl, (by omega), (by omega)⟩
    refine hB _ _ _ _ (kgoC (is := KX9_standsThere_0) rfl ?_)
    refine k_iload_n rfl ?_
    refine k_istore (ls' := [(4, .inl p1), (0, .inr (.inr (some p0))), (1, .inl p1), (2, .inl p2), (3, .inl p3)]) rfl ?_
    refine k_nil ?_
    exact hW _ _ _ _ _ (List.forall_mem_cons.2 ⟨List.Mem.tail _ (List.Mem.head _), (List.forall_mem_cons.2 ⟨List.Mem.tail _ (List.Mem.tail _ (List.Mem.head _)), (List.forall_mem_cons.2 ⟨List.Mem.tail _ (List.Mem.tail _ (List.Mem.tail _ (List.Mem.head _))), (List.forall_mem_cons.2 ⟨List.Mem.tail _ (List.Mem.tail _ (List.Mem.tail _ (List.Mem.tail _ (List.Mem.head _)))), (List.forall_mem_cons.2 ⟨List.Mem.head _, fun _ h => absurd h List.not_mem_nil⟩)⟩)⟩)⟩)⟩) (L3 _ p1 rfl (by omega) (by omega))
theorem lg_X9_standsThere : ∀ (As : List AvC) (σ : CsC), P_X9_standsThere As σ → lgC As ≤ rX9_standsThere.2.2.1 := by
  rintro As σ ⟨p0, p1, p2, p3, rfl, -⟩
  exact Nat.le_of_ble_eq_true rfl
theorem m_X9_standsThere (l : Launch) : CMetC l 11 198 P_X9_standsThere Q_X9_standsThere :=
  CMetC.of KX9_standsThere [(238, P_J0_charAt_5068e, Q_J0_charAt_5068e), (189, P_X9_byteAt, Q_X9_byteAt)] hX9_standsThere (by decide) (by decide) okX9_standsThere (cc1C (m_J0_charAt_5068e l) (by decide) (cc1C (m_X9_byteAt l) (by decide) cc0C)) (lg_X9_standsThere) (b_X9_standsThere)

abbrev P_X9_cutSign : CpC := fun As σ => ∃ (p0 : Nat) (p1 : Int32), As = [.inr (.inr (some p0)), .inl p1] ∧ HIC σ ∧ TyC σ p0 10
abbrev Q_X9_cutSign : CqC := fun As σ w τ => match As with
  | [.inr (.inr (some p0)), .inl p1] => ∃ r : Int32, w = some (.inl r) ∧ HIC τ ∧ ExC [998] σ τ ∧ r.toInt ≤ 20000
  | _ => False
set_option maxRecDepth 100000 in
set_option maxHeartbeats 4000000 in
theorem b_X9_cutSign : TbC KX9_cutSign [(239, P_J0_length_8abf5, Q_J0_length_8abf5), (238, P_J0_charAt_5068e, Q_J0_charAt_5068e), (198, P_X9_standsThere, Q_X9_standsThere)] P_X9_cutSign Q_X9_cutSign := by
  · rintro As σ0 ⟨p0, p1, rfl, H0, h_0_0⟩ hgr G hB hW
    change G 0 [(0, .inr (.inr (some p0))), (1, .inl p1)] [] σ0
    have L10 : ∀ (n10 : Nat), ∀ (σ1 : CsC) (v10_2 : Int32) (v10_3 : Int32) (v10_4 : Int32) (v10_5 : Int32), (2147483647 - v10_5.toInt).toNat = n10 → HIC σ1 → ExC [998] σ0 σ1 → v10_2.toInt ≤ 502 → 0 ≤ v10_4.toInt → v10_4.toInt ≤ 502 → 0 ≤ v10_5.toInt → v10_5.toInt ≤ 502 → G 10 [(0, .inr (.inr (some p0))), (1, .inl p1), (2, .inl v10_2), (3, .inl v10_3), (4, .inl v10_4), (5, .inl v10_5)] [] σ1 := by
      intro n10
      induction n10 using Nat.strongRecOn with
      | _ n10 ih10 =>
        intro σ1 v10_2 v10_3 v10_4 v10_5 n10_ H2 e3 h4 h5 h6 h7 h8
        refine hB _ _ _ _ (kgoC (is := KX9_cutSign_10) rfl ?_)
        refine k_iload rfl ?_
        refine k_ldcR rfl ?_
        refine k_inv (P := P_J0_length_8abf5) (Q := Q_J0_length_8abf5) rfl rfl rfl rfl (Nat.le_of_ble_eq_true rfl) (Or.inr ⟨rfl, by omega, by omega⟩) ⟨_, rfl, H2, (by decide)⟩ (fun w9 σ10 q11 => ?_)
        obtain ⟨x12, rfl, rfl, h13, h14, q15⟩ := q11
        refine k_st (st' := [.inl x12, .inl v10_5]) rfl ?_
        have z16 : slnC 1000006 = 112 := rfl
        refine k_ic_gt (fun h17 => ?_) (fun h17 => ?_)
        · refine hB _ _ _ _ (kgoC (is := KX9_cutSign_94) rfl ?_)
          refine k_iload_n rfl ?_
          refine k_ireturn (fun hz => absurd hz (by decide)) ?_
          have X18 : ExC [998] σ0 σ1 := ExC.rf.tr (e3.mo (by decide))
          exact ⟨_, rfl, H2, X18, (by omega)⟩
        · refine k_nil ?_
          refine hB _ _ _ _ (kgoC (is := KX9_cutSign_20) rfl ?_)
          refine k_iload rfl ?_
          refine k_ldcR rfl ?_
          refine k_inv (P := P_J0_length_8abf5) (Q := Q_J0_length_8abf5) rfl rfl rfl rfl (Nat.le_of_ble_eq_true rfl) (Or.inr ⟨rfl, by omega, by omega⟩) ⟨_, rfl, H2, (by decide)⟩ (fun w19 σ20 q21 => ?_)
          obtain ⟨x22, rfl, rfl, h23, h24, q25⟩ := q21
          refine k_st (st' := [.inl x22, .inl v10_5]) rfl ?_
          have z26 : slnC 1000006 = 112 := rfl
          refine k_ic_eq (fun h27 => ?_) (fun h27 => ?_)
          · refine hB _ _ _ _ (kgoC (is := KX9_cutSign_42) rfl ?_)
            refine k_iload rfl ?_
            refine k_iload rfl ?_
            refine k_isub (by omega) (by omega) (fun x28 h29 => ?_)
            refine k_iload_n rfl ?_
            refine k_ic_le (fun h30 => ?_) (fun h30 => ?_)
            · refine hB _ _ _ _ (kgoC (is := KX9_cutSign_79) rfl ?_)
              refine k_iload rfl ?_
              refine k_iconst (m := 1) rfl (fun x31 h32 => ?_)
              refine k_iadd (by omega) (by omega) (fun x33 h34 => ?_)
              refine k_istore (ls' := [(4, .inl x33), (0, .inr (.inr (some p0))), (1, .inl p1), (2, .inl v10_2), (3, .inl v10_3), (5, .inl v10_5)]) rfl ?_
              have z38 := tiC v10_3
              obtain ⟨x35, e37⟩ : ∃ w, v10_3 + Int32.ofInt 1 = w := ⟨_, rfl⟩
              refine k_iinc (ls' := [(3, .inl x35), (4, .inl x33), (0, .inr (.inr (some p0))), (1, .inl p1), (2, .inl v10_2), (5, .inl v10_5)]) rfl e37 rfl ?_
              refine k_nil ?_
              refine hB _ _ _ _ (kgoC (is := KX9_cutSign_88) rfl ?_)
              obtain ⟨x39, e41, h40⟩ := iincC (n := 1) (m := 1) (v := v10_5) rfl (by omega) (by omega)
              refine k_iinc (ls' := [(5, .inl x39), (3, .inl x35), (4, .inl x33), (0, .inr (.inr (some p0))), (1, .inl p1), (2, .inl v10_2)]) rfl e41 rfl ?_
              refine k_goto ?_
              have X42 : ExC [998] σ0 σ1 := ExC.rf.tr (e3.mo (by decide))
              exact hW _ _ _ _ _ (List.forall_mem_cons.2 ⟨List.Mem.tail _ (List.Mem.tail _ (List.Mem.tail _ (List.Mem.head _))), (List.forall_mem_cons.2 ⟨List.Mem.tail _ (List.Mem.tail _ (List.Mem.tail _ (List.Mem.tail _ (List.Mem.head _)))), (List.forall_mem_cons.2 ⟨List.Mem.tail _ (List.Mem.tail _ (List.Mem.tail _ (List.Mem.tail _ (List.Mem.tail _ (List.Mem.head _))))), (List.forall_mem_cons.2 ⟨List.Mem.tail _ (List.Mem.head _), (List.forall_mem_cons.2 ⟨List.Mem.tail _ (List.Mem.tail _ (List.Mem.head _)), (List.forall_mem_cons.2 ⟨List.Mem.head _, fun _ h => absurd h List.not_mem_nil⟩)⟩)⟩)⟩)⟩)⟩) (ih10 ((2147483647 - x39.toInt).toNat) (by omega) σ1 v10_2 x35 x33 x39 rfl H2 X42 (by omega) (by omega) (by omega) (by omega) (by omega))
            · refine k_nil ?_
              refine hB _ _ _ _ (kgoC (is := KX9_cutSign_51) rfl ?_)
              refine k_aload_n rfl ?_
              refine k_iload rfl ?_
              refine k_iload rfl ?_
              refine k_iload_n rfl ?_
              have t43 := h_0_0.x e3
              refine k_inv (P := P_X9_standsThere) (Q := Q_X9_standsThere) rfl rfl rfl rfl (Nat.le_of_ble_eq_true rfl) (t43.rc (by decide)) ⟨_, _, _, _, rfl, H2, t43, (by omega), (by omega), (by omega), (by omega)⟩ (fun w44 σ45 q46 => ?_)
              obtain ⟨x47, rfl, rfl, h48, h49⟩ := q46
              refine k_st (st' := [.inl x47]) rfl ?_
              refine k_if_eq (fun h50 => ?_) (fun h50 => ?_)
              · refine hB _ _ _ _ (kgoC (is := KX9_cutSign_79) rfl ?_)
                refine k_iload rfl ?_
                refine k_iconst (m := 1) rfl (fun x51 h52 => ?_)
                refine k_iadd (by omega) (by omega) (fun x53 h54 => ?_)
                refine k_istore (ls' := [(4, .inl x53), (0, .inr (.inr (some p0))), (1, .inl p1), (2, .inl v10_2), (3, .inl v10_3), (5, .inl v10_5)]) rfl ?_
                have z58 := tiC v10_3
                obtain ⟨x55, e57⟩ : ∃ w, v10_3 + Int32.ofInt 1 = w := ⟨_, rfl⟩
                refine k_iinc (ls' := [(3, .inl x55), (4, .inl x53), (0, .inr (.inr (some p0))), (1, .inl p1), (2, .inl v10_2), (5, .inl v10_5)]) rfl e57 rfl ?_
                refine k_nil ?_
                refine hB _ _ _ _ (kgoC (is := KX9_cutSign_88) rfl ?_)
                obtain ⟨x59, e61, h60⟩ := iincC (n := 1) (m := 1) (v := v10_5) rfl (by omega) (by omega)
                refine k_iinc (ls' := [(5, .inl x59), (3, .inl x55), (4, .inl x53), (0, .inr (.inr (some p0))), (1, .inl p1), (2, .inl v10_2)]) rfl e61 rfl ?_
                refine k_goto ?_
                have X62 : ExC [998] σ0 σ1 := ExC.rf.tr (e3.mo (by decide))
                exact hW _ _ _ _ _ (List.forall_mem_cons.2 ⟨List.Mem.tail _ (List.Mem.tail _ (List.Mem.tail _ (List.Mem.head _))), (List.forall_mem_cons.2 ⟨List.Mem.tail _ (List.Mem.tail _ (List.Mem.tail _ (List.Mem.tail _ (List.Mem.head _)))), (List.forall_mem_cons.2 ⟨List.Mem.tail _ (List.Mem.tail _ (List.Mem.tail _ (List.Mem.tail _ (List.Mem.tail _ (List.Mem.head _))))), (List.forall_mem_cons.2 ⟨List.Mem.tail _ (List.Mem.head _), (List.forall_mem_cons.2 ⟨List.Mem.tail _ (List.Mem.tail _ (List.Mem.head _)), (List.forall_mem_cons.2 ⟨List.Mem.head _, fun _ h => absurd h List.not_mem_nil⟩)⟩)⟩)⟩)⟩)⟩) (ih10 ((2147483647 - x59.toInt).toNat) (by omega) σ1 v10_2 x55 x53 x59 rfl H2 X62 (by omega) (by omega) (by omega) (by omega) (by omega))
              · refine k_nil ?_
                refine hB _ _ _ _ (kgoC (is := KX9_cutSign_63) rfl ?_)
                refine k_iload rfl ?_
                refine k_iload rfl ?_
                refine k_isub (by omega) (by omega) (fun x63 h64 => ?_)
                refine k_istore_n (ls' := [(2, .inl x63), (0, .inr (.inr (some p0))), (1, .inl p1), (3, .inl v10_3), (4, .inl v10_4), (5, .inl v10_5)]) rfl ?_
                refine k_aload_n rfl ?_
                obtain ⟨a67, e65, c66, t68, l69, l70⟩ := cg302 H2.1 t43
                refine k_get kg302 t43 e65 ?_
                refine k_aload_n rfl ?_
                obtain ⟨x73, e71, c72, h74, h75⟩ := cg305 H2.1 t43
                refine k_get kg305 t43 e71 ?_
                refine k_iload_n rfl ?_
                refine k_iastore2 H2 t68 (by rw [l70]; decide) (by omega) (by omega) (fun σ76 H77 e78 c79 c79' => ?_)
                refine k_nil ?_
                refine hB _ _ _ _ (kgoC (is := KX9_cutSign_79) rfl ?_)
                refine k_iload rfl ?_
                refine k_iconst (m := 1) rfl (fun x80 h81 => ?_)
                refine k_iadd (by omega) (by omega) (fun x82 h83 => ?_)
                refine k_istore (ls' := [(4, .inl x82), (2, .inl x63), (0, .inr (.inr (some p0))), (1, .inl p1), (3, .inl v10_3), (5, .inl v10_5)]) rfl ?_
                have z87 := tiC v10_3
                obtain ⟨x84, e86⟩ : ∃ w, v10_3 + Int32.ofInt 1 = w := ⟨_, rfl⟩
                refine k_iinc (ls' := [(3, .inl x84), (4, .inl x82), (2, .inl x63), (0, .inr (.inr (some p0))), (1, .inl p1), (5, .inl v10_5)]) rfl e86 rfl ?_
                refine k_nil ?_
                refine hB _ _ _ _ (kgoC (is := KX9_cutSign_88) rfl ?_)
                obtain ⟨x88, e90, h89⟩ := iincC (n := 1) (m := 1) (v := v10_5) rfl (by omega) (by omega)
                refine k_iinc (ls' := [(5, .inl x88), (3, .inl x84), (4, .inl x82), (2, .inl x63), (0, .inr (.inr (some p0))), (1, .inl p1)]) rfl e90 rfl ?_
                refine k_goto ?_
                have X91 : ExC [998] σ0 σ1 := ExC.rf.tr (e3.mo (by decide))
                have X92 : ExC [998] σ0 σ76 := X91.tr (e78.mo (by decide))
                exact hW _ _ _ _ _ (List.forall_mem_cons.2 ⟨List.Mem.tail _ (List.Mem.tail _ (List.Mem.tail _ (List.Mem.tail _ (List.Mem.head _)))), (List.forall_mem_cons.2 ⟨List.Mem.tail _ (List.Mem.tail _ (List.Mem.tail _ (List.Mem.tail _ (List.Mem.tail _ (List.Mem.head _))))), (List.forall_mem_cons.2 ⟨List.Mem.tail _ (List.Mem.tail _ (List.Mem.tail _ (List.Mem.head _))), (List.forall_mem_cons.2 ⟨List.Mem.tail _ (List.Mem.head _), (List.forall_mem_cons.2 ⟨List.Mem.tail _ (List.Mem.tail _ (List.Mem.head _)), (List.forall_mem_cons.2 ⟨List.Mem.head _, fun _ h => absurd h List.not_mem_nil⟩)⟩)⟩)⟩)⟩)⟩) (ih10 ((2147483647 - x88.toInt).toNat) (by omega) σ76 x63 x84 x82 x88 rfl H77 X92 (by omega) (by omega) (by omega) (by omega) (by omega))
          · refine k_nil ?_
            refine hB _ _ _ _ (kgoC (is := KX9_cutSign_30) rfl ?_)
            refine k_ldcR rfl ?_
            refine k_iload rfl ?_
            have z93 : slnC 1000006 = 112 := rfl
            refine k_inv (P := P_J0_charAt_5068e) (Q := Q_J0_charAt_5068e) rfl rfl rfl rfl (Nat.le_of_ble_eq_true rfl) (Or.inr ⟨rfl, by omega, by omega⟩) ⟨_, _, rfl, H2, (by decide), (by omega), (by omega)⟩ (fun w94 σ95 q96 => ?_)
            obtain ⟨x97, rfl, rfl, q98⟩ := q96
            refine k_st (st' := [.inl x97]) rfl ?_
            refine k_bipush (m := 32) rfl (fun x99 h100 => ?_)
            refine k_ic_ne (fun h101 => ?_) (fun h101 => ?_)
            · refine hB _ _ _ _ (kgoC (is := KX9_cutSign_88) rfl ?_)
              obtain ⟨x102, e104, h103⟩ := iincC (n := 1) (m := 1) (v := v10_5) rfl (by omega) (by omega)
              refine k_iinc (ls' := [(5, .inl x102), (0, .inr (.inr (some p0))), (1, .inl p1), (2, .inl v10_2), (3, .inl v10_3), (4, .inl v10_4)]) rfl e104 rfl ?_
              refine k_goto ?_
              have X105 : ExC [998] σ0 σ1 := ExC.rf.tr (e3.mo (by decide))
              exact hW _ _ _ _ _ (List.forall_mem_cons.2 ⟨List.Mem.tail _ (List.Mem.head _), (List.forall_mem_cons.2 ⟨List.Mem.tail _ (List.Mem.tail _ (List.Mem.head _)), (List.forall_mem_cons.2 ⟨List.Mem.tail _ (List.Mem.tail _ (List.Mem.tail _ (List.Mem.head _))), (List.forall_mem_cons.2 ⟨List.Mem.tail _ (List.Mem.tail _ (List.Mem.tail _ (List.Mem.tail _ (List.Mem.head _)))), (List.forall_mem_cons.2 ⟨List.Mem.tail _ (List.Mem.tail _ (List.Mem.tail _ (List.Mem.tail _ (List.Mem.tail _ (List.Mem.head _))))), (List.forall_mem_cons.2 ⟨List.Mem.head _, fun _ h => absurd h List.not_mem_nil⟩)⟩)⟩)⟩)⟩)⟩) (ih10 ((2147483647 - x102.toInt).toNat) (by omega) σ1 v10_2 v10_3 v10_4 x102 rfl H2 X105 (by omega) (by omega) (by omega) (by omega) (by omega))
            · refine k_nil ?_
              refine hB _ _ _ _ (kgoC (is := KX9_cutSign_42) rfl ?_)
              refine k_iload rfl ?_
              refine k_iload rfl ?_
              refine k_isub (by omega) (by omega) (fun x106 h107 => ?_)
              refine k_iload_n rfl ?_
              refine k_ic_le (fun h108 => ?_) (fun h108 => ?_)
              · refine hB _ _ _ _ (kgoC (is := KX9_cutSign_79) rfl ?_)
                refine k_iload rfl ?_
                refine k_iconst (m := 1) rfl (fun x109 h110 => ?_)
                refine k_iadd (by omega) (by omega) (fun x111 h112 => ?_)
                refine k_istore (ls' := [(4, .inl x111), (0, .inr (.inr (some p0))), (1, .inl p1), (2, .inl v10_2), (3, .inl v10_3), (5, .inl v10_5)]) rfl ?_
                have z116 := tiC v10_3
                obtain ⟨x113, e115⟩ : ∃ w, v10_3 + Int32.ofInt 1 = w := ⟨_, rfl⟩
                refine k_iinc (ls' := [(3, .inl x113), (4, .inl x111), (0, .inr (.inr (some p0))), (1, .inl p1), (2, .inl v10_2), (5, .inl v10_5)]) rfl e115 rfl ?_
                refine k_nil ?_
                refine hB _ _ _ _ (kgoC (is := KX9_cutSign_88) rfl ?_)
                obtain ⟨x117, e119, h118⟩ := iincC (n := 1) (m := 1) (v := v10_5) rfl (by omega) (by omega)
                refine k_iinc (ls' := [(5, .inl x117), (3, .inl x113), (4, .inl x111), (0, .inr (.inr (some p0))), (1, .inl p1), (2, .inl v10_2)]) rfl e119 rfl ?_
                refine k_goto ?_
                have X120 : ExC [998] σ0 σ1 := ExC.rf.tr (e3.mo (by decide))
                exact hW _ _ _ _ _ (List.forall_mem_cons.2 ⟨List.Mem.tail _ (List.Mem.tail _ (List.Mem.tail _ (List.Mem.head _))), (List.forall_mem_cons.2 ⟨List.Mem.tail _ (List.Mem.tail _ (List.Mem.tail _ (List.Mem.tail _ (List.Mem.head _)))), (List.forall_mem_cons.2 ⟨List.Mem.tail _ (List.Mem.tail _ (List.Mem.tail _ (List.Mem.tail _ (List.Mem.tail _ (List.Mem.head _))))), (List.forall_mem_cons.2 ⟨List.Mem.tail _ (List.Mem.head _), (List.forall_mem_cons.2 ⟨List.Mem.tail _ (List.Mem.tail _ (List.Mem.head _)), (List.forall_mem_cons.2 ⟨List.Mem.head _, fun _ h => absurd h List.not_mem_nil⟩)⟩)⟩)⟩)⟩)⟩) (ih10 ((2147483647 - x117.toInt).toNat) (by omega) σ1 v10_2 x113 x111 x117 rfl H2 X120 (by omega) (by omega) (by omega) (by omega) (by omega))
              · refine k_nil ?_
                refine hB _ _ _ _ (kgoC (is := KX9_cutSign_51) rfl ?_)
                refine k_aload_n rfl ?_
                refine k_iload rfl ?_
                refine k_iload rfl ?_
                refine k_iload_n rfl ?_
                have t121 := h_0_0.x e3
                refine k_inv (P := P_X9_standsThere) (Q := Q_X9_standsThere) rfl rfl rfl rfl (Nat.le_of_ble_eq_true rfl) (t121.rc (by decide)) ⟨_, _, _, _, rfl, H2, t121, (by omega), (by omega), (by omega), (by omega)⟩ (fun w122 σ123 q124 => ?_)
                obtain ⟨x125, rfl, rfl, h126, h127⟩ := q124
                refine k_st (st' := [.inl x125]) rfl ?_
                refine k_if_eq (fun h128 => ?_) (fun h128 => ?_)
                · refine hB _ _ _ _ (kgoC (is := KX9_cutSign_79) rfl ?_)
                  refine k_iload rfl ?_
                  refine k_iconst (m := 1) rfl (fun x129 h130 => ?_)
                  refine k_iadd (by omega) (by omega) (fun x131 h132 => ?_)
                  refine k_istore (ls' := [(4, .inl x131), (0, .inr (.inr (some p0))), (1, .inl p1), (2, .inl v10_2), (3, .inl v10_3), (5, .inl v10_5)]) rfl ?_
                  have z136 := tiC v10_3
                  obtain ⟨x133, e135⟩ : ∃ w, v10_3 + Int32.ofInt 1 = w := ⟨_, rfl⟩
                  refine k_iinc (ls' := [(3, .inl x133), (4, .inl x131), (0, .inr (.inr (some p0))), (1, .inl p1), (2, .inl v10_2), (5, .inl v10_5)]) rfl e135 rfl ?_
                  refine k_nil ?_
                  refine hB _ _ _ _ (kgoC (is := KX9_cutSign_88) rfl ?_)
                  obtain ⟨x137, e139, h138⟩ := iincC (n := 1) (m := 1) (v := v10_5) rfl (by omega) (by omega)
                  refine k_iinc (ls' := [(5, .inl x137), (3, .inl x133), (4, .inl x131), (0, .inr (.inr (some p0))), (1, .inl p1), (2, .inl v10_2)]) rfl e139 rfl ?_
                  refine k_goto ?_
                  have X140 : ExC [998] σ0 σ1 := ExC.rf.tr (e3.mo (by decide))
                  exact hW _ _ _ _ _ (List.forall_mem_cons.2 ⟨List.Mem.tail _ (List.Mem.tail _ (List.Mem.tail _ (List.Mem.head _))), (List.forall_mem_cons.2 ⟨List.Mem.tail _ (List.Mem.tail _ (List.Mem.tail _ (List.Mem.tail _ (List.Mem.head _)))), (List.forall_mem_cons.2 ⟨List.Mem.tail _ (List.Mem.tail _ (List.Mem.tail _ (List.Mem.tail _ (List.Mem.tail _ (List.Mem.head _))))), (List.forall_mem_cons.2 ⟨List.Mem.tail _ (List.Mem.head _), (List.forall_mem_cons.2 ⟨List.Mem.tail _ (List.Mem.tail _ (List.Mem.head _)), (List.forall_mem_cons.2 ⟨List.Mem.head _, fun _ h => absurd h List.not_mem_nil⟩)⟩)⟩)⟩)⟩)⟩) (ih10 ((2147483647 - x137.toInt).toNat) (by omega) σ1 v10_2 x133 x131 x137 rfl H2 X140 (by omega) (by omega) (by omega) (by omega) (by omega))
                · refine k_nil ?_
                  refine hB _ _ _ _ (kgoC (is := KX9_cutSign_63) rfl ?_)
                  refine k_iload rfl ?_
                  refine k_iload rfl ?_
                  refine k_isub (by omega) (by omega) (fun x141 h142 => ?_)
                  refine k_istore_n (ls' := [(2, .inl x141), (0, .inr (.inr (some p0))), (1, .inl p1), (3, .inl v10_3), (4, .inl v10_4), (5, .inl v10_5)]) rfl ?_
                  refine k_aload_n rfl ?_
                  obtain ⟨a145, e143, c144, t146, l147, l148⟩ := cg302 H2.1 t121
                  refine k_get kg302 t121 e143 ?_
                  refine k_aload_n rfl ?_
                  obtain ⟨x151, e149, c150, h152, h153⟩ := cg305 H2.1 t121
                  refine k_get kg305 t121 e149 ?_
                  refine k_iload_n rfl ?_
                  refine k_iastore2 H2 t146 (by rw [l148]; decide) (by omega) (by omega) (fun σ154 H155 e156 c157 c157' => ?_)
                  refine k_nil ?_
                  refine hB _ _ _ _ (kgoC (is := KX9_cutSign_79) rfl ?_)
                  refine k_iload rfl ?_
                  refine k_iconst (m := 1) rfl (fun x158 h159 => ?_)
                  refine k_iadd (by omega) (by omega) (fun x160 h161 => ?_)
                  refine k_istore (ls' := [(4, .inl x160), (2, .inl x141), (0, .inr (.inr (some p0))), (1, .inl p1), (3, .inl v10_3), (5, .inl v10_5)]) rfl ?_
                  have z165 := tiC v10_3
                  obtain ⟨x162, e164⟩ : ∃ w, v10_3 + Int32.ofInt 1 = w := ⟨_, rfl⟩
                  refine k_iinc (ls' := [(3, .inl x162), (4, .inl x160), (2, .inl x141), (0, .inr (.inr (some p0))), (1, .inl p1), (5, .inl v10_5)]) rfl e164 rfl ?_
                  refine k_nil ?_
                  refine hB _ _ _ _ (kgoC (is := KX9_cutSign_88) rfl ?_)
                  obtain ⟨x166, e168, h167⟩ := iincC (n := 1) (m := 1) (v := v10_5) rfl (by omega) (by omega)
                  refine k_iinc (ls' := [(5, .inl x166), (3, .inl x162), (4, .inl x160), (2, .inl x141), (0, .inr (.inr (some p0))), (1, .inl p1)]) rfl e168 rfl ?_
                  refine k_goto ?_
                  have X169 : ExC [998] σ0 σ1 := ExC.rf.tr (e3.mo (by decide))
                  have X170 : ExC [998] σ0 σ154 := X169.tr (e156.mo (by decide))
                  exact hW _ _ _ _ _ (List.forall_mem_cons.2 ⟨List.Mem.tail _ (List.Mem.tail _ (List.Mem.tail _ (List.Mem.tail _ (List.Mem.head _)))), (List.forall_mem_cons.2 ⟨List.Mem.tail _ (List.Mem.tail _ (List.Mem.tail _ (List.Mem.tail _ (List.Mem.tail _ (List.Mem.head _))))), (List.forall_mem_cons.2 ⟨List.Mem.tail _ (List.Mem.tail _ (List.Mem.tail _ (List.Mem.head _))), (List.forall_mem_cons.2 ⟨List.Mem.tail _ (List.Mem.head _), (List.forall_mem_cons.2 ⟨List.Mem.tail _ (List.Mem.tail _ (List.Mem.head _)), (List.forall_mem_cons.2 ⟨List.Mem.head _, fun _ h => absurd h List.not_mem_nil⟩)⟩)⟩)⟩)⟩)⟩) (ih10 ((2147483647 - x166.toInt).toNat) (by omega) σ154 x141 x162 x160 x166 rfl H155 X170 (by omega) (by omega) (by omega) (by omega) (by omega))
    refine hB _ _ _ _ (kgoC (is := KX9_cutSign_0) rfl ?_)
    refine k_iconst (m := 0) rfl (fun x171 h172 => ?_)
    refine k_istore_n (ls' := [(2, .inl x171), (0, .inr (.inr (some p0))), (1, .inl p1)]) rfl ?_
    refine k_iconst (m := 0) rfl (fun x173 h174 => ?_)
    refine k_istore_n (ls' := [(3, .inl x173), (2, .inl x171), (0, .inr (.inr (some p0))), (1, .inl p1)]) rfl ?_
    refine k_iconst (m := 0) rfl (fun x175 h176 => ?_)
    refine k_istore (ls' := [(4, .inl x175), (3, .inl x173), (2, .inl x171), (0, .inr (.inr (some p0))), (1, .inl p1)]) rfl ?_
    refine k_iconst (m := 0) rfl (fun x177 h178 => ?_)
    refine k_istore (ls' := [(5, .inl x177), (4, .inl x175), (3, .inl x173), (2, .inl x171), (0, .inr (.inr (some p0))), (1, .inl p1)]) rfl ?_
    refine k_nil ?_
    exact hW _ _ _ _ _ (List.forall_mem_cons.2 ⟨List.Mem.tail _ (List.Mem.tail _ (List.Mem.tail _ (List.Mem.tail _ (List.Mem.head _)))), (List.forall_mem_cons.2 ⟨List.Mem.tail _ (List.Mem.tail _ (List.Mem.tail _ (List.Mem.tail _ (List.Mem.tail _ (List.Mem.head _))))), (List.forall_mem_cons.2 ⟨List.Mem.tail _ (List.Mem.tail _ (List.Mem.tail _ (List.Mem.head _))), (List.forall_mem_cons.2 ⟨List.Mem.tail _ (List.Mem.tail _ (List.Mem.head _)), (List.forall_mem_cons.2 ⟨List.Mem.tail _ (List.Mem.head _), (List.forall_mem_cons.2 ⟨List.Mem.head _, fun _ h => absurd h List.not_mem_nil⟩)⟩)⟩)⟩)⟩)⟩) (L10 _ σ0 x171 x173 x175 x177 rfl H0 ExC.rf (by omega) (by omega) (by omega) (by omega) (by omega))
theorem lg_X9_cutSign : ∀ (As : List AvC) (σ : CsC), P_X9_cutSign As σ → lgC As ≤ rX9_cutSign.2.2.1 := by
  rintro As σ ⟨p0, p1, rfl, -⟩
  exact Nat.le_of_ble_eq_true rfl
theorem m_X9_cutSign (l : Launch) : CMetC l 12 197 P_X9_cutSign Q_X9_cutSign :=
  CMetC.of KX9_cutSign [(239, P_J0_length_8abf5, Q_J0_length_8abf5), (238, P_J0_charAt_5068e, Q_J0_charAt_5068e), (198, P_X9_standsThere, Q_X9_standsThere)] hX9_cutSign (by decide) (by decide) okX9_cutSign (cc1C (m_J0_length_8abf5 l) (by decide) (cc1C (m_J0_charAt_5068e l) (by decide) (cc1C (m_X9_standsThere l) (by decide) cc0C))) (lg_X9_cutSign) (b_X9_cutSign)

abbrev P_X9_cutOne : CpC := fun As σ => ∃ (p0 : Nat) (p1 : Int32), As = [.inr (.inr (some p0)), .inl p1] ∧ HIC σ ∧ TyC σ p0 10 ∧ 0 ≤ p1.toInt ∧ p1.toInt ≤ 2500
abbrev Q_X9_cutOne : CqC := fun As σ w τ => match As with
  | [.inr (.inr (some p0)), .inl p1] => ∃ r : Int32, w = some (.inl r) ∧ HIC τ ∧ ExC [998] σ τ ∧ r.toInt ≤ 20000
  | _ => False
set_option maxRecDepth 100000 in
set_option maxHeartbeats 4000000 in
theorem b_X9_cutOne : TbC KX9_cutOne [(189, P_X9_byteAt, Q_X9_byteAt), (192, P_X9_isLetter, Q_X9_isLetter), (193, P_X9_isDigit, Q_X9_isDigit), (197, P_X9_cutSign, Q_X9_cutSign), (196, P_X9_cutCharacter, Q_X9_cutCharacter), (195, P_X9_cutNumber, Q_X9_cutNumber), (194, P_X9_cutName, Q_X9_cutName)] P_X9_cutOne Q_X9_cutOne := by
  · rintro As σ0 ⟨p0, p1, rfl, H0, h_0_0, h_1_0, h_1_1⟩ hgr G hB hW
    change G 0 [(0, .inr (.inr (some p0))), (1, .inl p1)] [] σ0
    refine hB _ _ _ _ (kgoC (is := KX9_cutOne_0) rfl ?_)
    refine k_aload_n rfl ?_
    refine k_iload_n rfl ?_
    refine k_inv (P := P_X9_byteAt) (Q := Q_X9_byteAt) rfl rfl rfl rfl (Nat.le_of_ble_eq_true rfl) (h_0_0.rc (by decide)) ⟨_, _, rfl, H0, h_0_0⟩ (fun w1 σ2 q3 => ?_)
    obtain ⟨x4, rfl, rfl⟩ := q3
    refine k_st (st' := [.inl x4]) rfl ?_
    refine k_istore_n (ls' := [(2, .inl x4), (0, .inr (.inr (some p0))), (1, .inl p1)]) rfl ?_
    refine k_iload_n rfl ?_
    refine k_stat (P := P_X9_isLetter) (Q := Q_X9_isLetter) rfl rfl (Nat.le_of_ble_eq_true rfl) rfl rfl (Nat.le_of_ble_eq_true rfl) ⟨_, rfl, H0⟩ (fun w5 σ6 q7 => ?_)
    obtain ⟨x8, rfl, rfl, h9, h10⟩ := q7
    refine k_st (st' := [.inl x8]) rfl ?_
    refine k_if_eq (fun h11 => ?_) (fun h11 => ?_)
    · refine hB _ _ _ _ (kgoC (is := KX9_cutOne_19) rfl ?_)
      refine k_iload_n rfl ?_
      refine k_stat (P := P_X9_isDigit) (Q := Q_X9_isDigit) rfl rfl (Nat.le_of_ble_eq_true rfl) rfl rfl (Nat.le_of_ble_eq_true rfl) ⟨_, rfl, H0⟩ (fun w12 σ13 q14 => ?_)
      obtain ⟨x15, rfl, rfl, h16, h17⟩ := q14
      refine k_st (st' := [.inl x15]) rfl ?_
      refine k_if_eq (fun h18 => ?_) (fun h18 => ?_)
      · refine hB _ _ _ _ (kgoC (is := KX9_cutOne_32) rfl ?_)
        refine k_iload_n rfl ?_
        refine k_bipush (m := 39) rfl (fun x19 h20 => ?_)
        refine k_ic_ne (fun h21 => ?_) (fun h21 => ?_)
        · refine hB _ _ _ _ (kgoC (is := KX9_cutOne_46) rfl ?_)
          refine k_aload_n rfl ?_
          refine k_iload_n rfl ?_
          refine k_inv (P := P_X9_cutSign) (Q := Q_X9_cutSign) rfl rfl rfl rfl (Nat.le_of_ble_eq_true rfl) (h_0_0.rc (by decide)) ⟨_, _, rfl, H0, h_0_0⟩ (fun w22 σ23 q24 => ?_)
          obtain ⟨x25, rfl, H26, e27, h28⟩ := q24
          refine k_st (st' := [.inl x25]) rfl ?_
          refine k_nil ?_
          refine hB _ _ _ _ (kgoC (is := KX9_cutOne_51) rfl ?_)
          refine k_ireturn (fun hz => absurd hz (by decide)) ?_
          have X29 : ExC [998] σ0 σ23 := ExC.rf.tr (e27.mo (by decide))
          exact ⟨_, rfl, H26, X29, (by omega)⟩
        · refine k_nil ?_
          refine hB _ _ _ _ (kgoC (is := KX9_cutOne_38) rfl ?_)
          refine k_aload_n rfl ?_
          refine k_iload_n rfl ?_
          refine k_inv (P := P_X9_cutCharacter) (Q := Q_X9_cutCharacter) rfl rfl rfl rfl (Nat.le_of_ble_eq_true rfl) (h_0_0.rc (by decide)) ⟨_, _, rfl, H0, h_0_0⟩ (fun w30 σ31 q32 => ?_)
          obtain ⟨x33, rfl, H34, e35, h36⟩ := q32
          refine k_st (st' := [.inl x33]) rfl ?_
          refine k_goto ?_
          refine hB _ _ _ _ (kgoC (is := KX9_cutOne_51) rfl ?_)
          refine k_ireturn (fun hz => absurd hz (by decide)) ?_
          have X37 : ExC [998] σ0 σ31 := ExC.rf.tr (e35.mo (by decide))
          exact ⟨_, rfl, H34, X37, (by omega)⟩
      · refine k_nil ?_
        refine hB _ _ _ _ (kgoC (is := KX9_cutOne_26) rfl ?_)
        refine k_aload_n rfl ?_
        refine k_iload_n rfl ?_
        refine k_inv (P := P_X9_cutNumber) (Q := Q_X9_cutNumber) rfl rfl rfl rfl (Nat.le_of_ble_eq_true rfl) (h_0_0.rc (by decide)) ⟨_, _, rfl, H0, h_0_0, (by omega), (by omega)⟩ (fun w38 σ39 q40 => ?_)
        obtain ⟨x41, rfl, H42, e43, h44⟩ := q40
        refine k_st (st' := [.inl x41]) rfl ?_
        refine k_ireturn (fun hz => absurd hz (by decide)) ?_
        have X45 : ExC [998] σ0 σ39 := ExC.rf.tr (e43.mo (by decide))
        exact ⟨_, rfl, H42, X45, (by omega)⟩
    · refine k_nil ?_
      refine hB _ _ _ _ (kgoC (is := KX9_cutOne_13) rfl ?_)
      refine k_aload_n rfl ?_
      refine k_iload_n rfl ?_
      refine k_inv (P := P_X9_cutName) (Q := Q_X9_cutName) rfl rfl rfl rfl (Nat.le_of_ble_eq_true rfl) (h_0_0.rc (by decide)) ⟨_, _, rfl, H0, h_0_0, (by omega), (by omega)⟩ (fun w46 σ47 q48 => ?_)
      obtain ⟨x49, rfl, H50, e51, h52⟩ := q48
      refine k_st (st' := [.inl x49]) rfl ?_
      refine k_ireturn (fun hz => absurd hz (by decide)) ?_
      have X53 : ExC [998] σ0 σ47 := ExC.rf.tr (e51.mo (by decide))
      exact ⟨_, rfl, H50, X53, (by omega)⟩
theorem lg_X9_cutOne : ∀ (As : List AvC) (σ : CsC), P_X9_cutOne As σ → lgC As ≤ rX9_cutOne.2.2.1 := by
  rintro As σ ⟨p0, p1, rfl, -⟩
  exact Nat.le_of_ble_eq_true rfl
theorem m_X9_cutOne (l : Launch) : CMetC l 13 191 P_X9_cutOne Q_X9_cutOne :=
  CMetC.of KX9_cutOne [(189, P_X9_byteAt, Q_X9_byteAt), (192, P_X9_isLetter, Q_X9_isLetter), (193, P_X9_isDigit, Q_X9_isDigit), (197, P_X9_cutSign, Q_X9_cutSign), (196, P_X9_cutCharacter, Q_X9_cutCharacter), (195, P_X9_cutNumber, Q_X9_cutNumber), (194, P_X9_cutName, Q_X9_cutName)] hX9_cutOne (by decide) (by decide) okX9_cutOne (cc1C (m_X9_byteAt l) (by decide) (cc1C (m_X9_isLetter l) (by decide) (cc1C (m_X9_isDigit l) (by decide) (cc1C (m_X9_cutSign l) (by decide) (cc1C (m_X9_cutCharacter l) (by decide) (cc1C (m_X9_cutNumber l) (by decide) (cc1C (m_X9_cutName l) (by decide) cc0C))))))) (lg_X9_cutOne) (b_X9_cutOne)

abbrev P_X9_cutText : CpC := fun As σ => ∃ (p0 : Nat) (p1 : Nat) (p2 : Int32), As = [.inr (.inr (some p0)), .inr (.inr (some p1)), .inl p2] ∧ HIC σ ∧ TyC σ p0 10 ∧ TyC σ p1 101 ∧ alC σ p1 = 2500 ∧ 0 ≤ p2.toInt ∧ p2.toInt ≤ 2500
abbrev Q_X9_cutText : CqC := fun As σ w τ => match As with
  | [.inr (.inr (some p0)), .inr (.inr (some p1)), .inl p2] => w = none ∧ HIC τ ∧ ExC [305, 307, 308, 998] σ τ ∧ (∀ c, fRC τ p0 302 = some c → (eIC τ c (fIC τ p0 305).toNatClampNeg).toInt = 84 ∨ (eIC τ c (fIC τ p0 305).toNatClampNeg).toInt = 85) ∧ ((fIC τ p0 305).toInt ≤ p2.toInt)
  | _ => False
set_option maxRecDepth 100000 in
set_option maxHeartbeats 4000000 in
theorem b_X9_cutText : TbC KX9_cutText [(190, P_X9_behindBlanks, Q_X9_behindBlanks), (191, P_X9_cutOne, Q_X9_cutOne)] P_X9_cutText Q_X9_cutText := by
  · rintro As σ0 ⟨p0, p1, p2, rfl, H0, h_0_0, h_1_0, h_1_1, h_2_0, h_2_1⟩ hgr G hB hW
    change G 0 [(0, .inr (.inr (some p0))), (1, .inr (.inr (some p1))), (2, .inl p2)] [] σ0
    have L29 : ∀ (n29 : Nat), ∀ (σ1 : CsC) (v29_3 : Int32) (v29_4 : Int32), (2 * (501 - (fIC σ1 p0 305).toInt) + v29_3.toInt).toNat = n29 → HIC σ1 → ExC [305, 307, 308, 998] σ0 σ1 → 0 ≤ v29_3.toInt → v29_3.toInt ≤ 1 → 0 ≤ v29_4.toInt → (fIC σ1 p0 305).toInt ≤ v29_4.toInt ∧ v29_4.toInt ≤ (fIC σ1 p0 308).toInt ∧ (fIC σ1 p0 308).toInt ≤ p2.toInt → G 29 [(0, .inr (.inr (some p0))), (3, .inl v29_3), (4, .inl v29_4)] [] σ1 := by
      intro n29
      induction n29 using Nat.strongRecOn with
      | _ n29 ih29 =>
        intro σ1 v29_3 v29_4 n29_ H2 e3 h4 h5 h6 h7
        have t13 := h_0_0.x e3
        obtain ⟨x8, e9, c10, h11, h12⟩ := cg305 H2.1 t13
        have z14 := congrArg Int32.toInt c10
        obtain ⟨x15, e16, c17, h18, h19⟩ := cg308 H2.1 t13
        have z20 := congrArg Int32.toInt c17
        refine hB _ _ _ _ (kgoC (is := KX9_cutText_29) rfl ?_)
        refine k_iload_n rfl ?_
        refine k_if_eq (fun h21 => ?_) (fun h21 => ?_)
        · refine hB _ _ _ _ (kgoC (is := KX9_cutText_132) rfl ?_)
          refine k_aload_n rfl ?_
          obtain ⟨a24, e22, c23, t25, l26, l27⟩ := cg300 H2.1 t13
          refine k_get kg300 t13 e22 ?_
          refine k_aload_n rfl ?_
          refine k_get kg305 t13 (congrArg (Sum.inl : Int32 → AvC) c10) ?_
          refine k_iload rfl ?_
          refine k_iastore2 H2 t25 (by rw [l27]; decide) (by omega) (by omega) (fun σ28 H29 e30 c31 c31' => ?_)
          refine k_aload_n rfl ?_
          have t32 := t13.x e30
          obtain ⟨a35, e33, c34, t36, l37, l38⟩ := cg302 H29.1 t32
          refine k_get kg302 t32 e33 ?_
          refine k_aload_n rfl ?_
          have c39 := (t13.mi e30 (by decide)).trans c10
          refine k_get kg305 t32 (congrArg (Sum.inl : Int32 → AvC) c39) ?_
          refine k_iload_n rfl ?_
          refine k_if_eq (fun h40 => ?_) (fun h40 => by exfalso; omega)
          refine hB _ _ _ _ (kgoC (is := KX9_cutText_160) rfl ?_)
          refine k_bipush (m := 85) rfl (fun x41 h42 => ?_)
          refine k_nil ?_
          refine hB _ _ _ _ (kgoC (is := KX9_cutText_162) rfl ?_)
          refine k_iastore2 H29 t36 (by rw [l38]; decide) (by omega) (by omega) (fun σ43 H44 e45 c46 c46' => ?_)
          refine k_return ?_
          have X47 : ExC [305, 307, 308, 998] σ0 σ1 := ExC.rf.tr (e3.mo (by decide))
          have X48 : ExC [305, 307, 308, 998] σ0 σ28 := X47.tr (e30.mo (by decide))
          have X49 : ExC [305, 307, 308, 998] σ0 σ43 := X48.tr (e45.mo (by decide))
          have c50 := (t32.mr e45 (by decide)).trans c34
          have c51 := (t32.mi e45 (by decide)).trans c39
          exact ⟨rfl, H44, X49, (fun c hc => by cases c50.symm.trans hc; rw [c51, c46]; omega), (by rw [c51]; omega)⟩
        · refine k_nil ?_
          refine hB _ _ _ _ (kgoC (is := KX9_cutText_33) rfl ?_)
          refine k_iload rfl ?_
          refine k_aload_n rfl ?_
          refine k_get kg308 t13 (congrArg (Sum.inl : Int32 → AvC) c17) ?_
          refine k_ic_ge (fun h52 => ?_) (fun h52 => ?_)
          · refine hB _ _ _ _ (kgoC (is := KX9_cutText_132) rfl ?_)
            refine k_aload_n rfl ?_
            obtain ⟨a55, e53, c54, t56, l57, l58⟩ := cg300 H2.1 t13
            refine k_get kg300 t13 e53 ?_
            refine k_aload_n rfl ?_
            refine k_get kg305 t13 (congrArg (Sum.inl : Int32 → AvC) c10) ?_
            refine k_iload rfl ?_
            refine k_iastore2 H2 t56 (by rw [l58]; decide) (by omega) (by omega) (fun σ59 H60 e61 c62 c62' => ?_)
            refine k_aload_n rfl ?_
            have t63 := t13.x e61
            obtain ⟨a66, e64, c65, t67, l68, l69⟩ := cg302 H60.1 t63
            refine k_get kg302 t63 e64 ?_
            refine k_aload_n rfl ?_
            have c70 := (t13.mi e61 (by decide)).trans c10
            refine k_get kg305 t63 (congrArg (Sum.inl : Int32 → AvC) c70) ?_
            refine k_iload_n rfl ?_
            refine k_if_eq (fun h71 => by exfalso; omega) (fun h71 => ?_)
            refine k_nil ?_
            refine hB _ _ _ _ (kgoC (is := KX9_cutText_155) rfl ?_)
            refine k_bipush (m := 84) rfl (fun x72 h73 => ?_)
            refine k_goto ?_
            refine hB _ _ _ _ (kgoC (is := KX9_cutText_162) rfl ?_)
            refine k_iastore2 H60 t67 (by rw [l69]; decide) (by omega) (by omega) (fun σ74 H75 e76 c77 c77' => ?_)
            refine k_return ?_
            have X78 : ExC [305, 307, 308, 998] σ0 σ1 := ExC.rf.tr (e3.mo (by decide))
            have X79 : ExC [305, 307, 308, 998] σ0 σ59 := X78.tr (e61.mo (by decide))
            have X80 : ExC [305, 307, 308, 998] σ0 σ74 := X79.tr (e76.mo (by decide))
            have c81 := (t63.mr e76 (by decide)).trans c65
            have c82 := (t63.mi e76 (by decide)).trans c70
            exact ⟨rfl, H75, X80, (fun c hc => by cases c81.symm.trans hc; rw [c82, c77]; omega), (by rw [c82]; omega)⟩
          · refine k_nil ?_
            refine hB _ _ _ _ (kgoC (is := KX9_cutText_42) rfl ?_)
            refine k_aload_n rfl ?_
            refine k_get kg305 t13 (congrArg (Sum.inl : Int32 → AvC) c10) ?_
            refine k_sipush (m := 500) rfl (fun x83 h84 => ?_)
            refine k_ic_gt (fun h85 => ?_) (fun h85 => ?_)
            · refine hB _ _ _ _ (kgoC (is := KX9_cutText_132) rfl ?_)
              refine k_aload_n rfl ?_
              obtain ⟨a88, e86, c87, t89, l90, l91⟩ := cg300 H2.1 t13
              refine k_get kg300 t13 e86 ?_
              refine k_aload_n rfl ?_
              refine k_get kg305 t13 (congrArg (Sum.inl : Int32 → AvC) c10) ?_
              refine k_iload rfl ?_
              refine k_iastore2 H2 t89 (by rw [l91]; decide) (by omega) (by omega) (fun σ92 H93 e94 c95 c95' => ?_)
              refine k_aload_n rfl ?_
              have t96 := t13.x e94
              obtain ⟨a99, e97, c98, t100, l101, l102⟩ := cg302 H93.1 t96
              refine k_get kg302 t96 e97 ?_
              refine k_aload_n rfl ?_
              have c103 := (t13.mi e94 (by decide)).trans c10
              refine k_get kg305 t96 (congrArg (Sum.inl : Int32 → AvC) c103) ?_
              refine k_iload_n rfl ?_
              refine k_if_eq (fun h104 => by exfalso; omega) (fun h104 => ?_)
              refine k_nil ?_
              refine hB _ _ _ _ (kgoC (is := KX9_cutText_155) rfl ?_)
              refine k_bipush (m := 84) rfl (fun x105 h106 => ?_)
              refine k_goto ?_
              refine hB _ _ _ _ (kgoC (is := KX9_cutText_162) rfl ?_)
              refine k_iastore2 H93 t100 (by rw [l102]; decide) (by omega) (by omega) (fun σ107 H108 e109 c110 c110' => ?_)
              refine k_return ?_
              have X111 : ExC [305, 307, 308, 998] σ0 σ1 := ExC.rf.tr (e3.mo (by decide))
              have X112 : ExC [305, 307, 308, 998] σ0 σ92 := X111.tr (e94.mo (by decide))
              have X113 : ExC [305, 307, 308, 998] σ0 σ107 := X112.tr (e109.mo (by decide))
              have c114 := (t96.mr e109 (by decide)).trans c98
              have c115 := (t96.mi e109 (by decide)).trans c103
              exact ⟨rfl, H108, X113, (fun c hc => by cases c114.symm.trans hc; rw [c115, c110]; omega), (by rw [c115]; omega)⟩
            · refine k_nil ?_
              refine hB _ _ _ _ (kgoC (is := KX9_cutText_52) rfl ?_)
              refine k_aload_n rfl ?_
              refine k_iload rfl ?_
              refine k_inv (P := P_X9_cutOne) (Q := Q_X9_cutOne) rfl rfl rfl rfl (Nat.le_of_ble_eq_true rfl) (t13.rc (by decide)) ⟨_, _, rfl, H2, t13, (by omega), (by omega)⟩ (fun w116 σ117 q118 => ?_)
              obtain ⟨x119, rfl, H120, e121, h122⟩ := q118
              refine k_st (st' := [.inl x119]) rfl ?_
              refine k_istore (ls' := [(5, .inl x119), (0, .inr (.inr (some p0))), (3, .inl v29_3), (4, .inl v29_4)]) rfl ?_
              refine k_iload rfl ?_
              refine k_if_le (fun h123 => ?_) (fun h123 => ?_)
              · refine hB _ _ _ _ (kgoC (is := KX9_cutText_69) rfl ?_)
                refine k_iconst (m := 0) rfl (fun x124 h125 => ?_)
                refine k_nil ?_
                refine hB _ _ _ _ (kgoC (is := KX9_cutText_70) rfl ?_)
                refine k_istore_n (ls' := [(3, .inl x124), (5, .inl x119), (0, .inr (.inr (some p0))), (4, .inl v29_4)]) rfl ?_
                refine k_iload_n rfl ?_
                refine k_if_eq (fun h126 => ?_) (fun h126 => by exfalso; omega)
                refine hB _ _ _ _ (kgoC (is := KX9_cutText_129) rfl ?_)
                refine k_goto ?_
                have c127 := (t13.mi e121 (by decide)).trans c10
                have c128 := (t13.mi e121 (by decide)).trans c17
                have X129 : ExC [305, 307, 308, 998] σ0 σ1 := ExC.rf.tr (e3.mo (by decide))
                have X130 : ExC [305, 307, 308, 998] σ0 σ117 := X129.tr (e121.mo (by decide))
                exact hW _ _ _ _ _ (List.forall_mem_cons.2 ⟨List.Mem.tail _ (List.Mem.tail _ (List.Mem.head _)), (List.forall_mem_cons.2 ⟨List.Mem.head _, (List.forall_mem_cons.2 ⟨List.Mem.tail _ (List.Mem.tail _ (List.Mem.tail _ (List.Mem.head _))), fun _ h => absurd h List.not_mem_nil⟩)⟩)⟩) (ih29 ((2 * (501 - (fIC σ117 p0 305).toInt) + x124.toInt).toNat) (by have z1 := congrArg Int32.toInt c10; have z2 := congrArg Int32.toInt c127; have z3 := n29_; omega) σ117 x124 v29_4 rfl H120 X130 (by omega) (by omega) (by omega) ⟨by rw [c127]; omega, by rw [c128]; omega, by rw [c128]; omega⟩)
              · refine k_nil ?_
                refine hB _ _ _ _ (kgoC (is := KX9_cutText_65) rfl ?_)
                refine k_iconst (m := 1) rfl (fun x131 h132 => ?_)
                refine k_goto ?_
                refine hB _ _ _ _ (kgoC (is := KX9_cutText_70) rfl ?_)
                refine k_istore_n (ls' := [(3, .inl x131), (5, .inl x119), (0, .inr (.inr (some p0))), (4, .inl v29_4)]) rfl ?_
                refine k_iload_n rfl ?_
                refine k_if_eq (fun h133 => by exfalso; omega) (fun h133 => ?_)
                refine k_nil ?_
                refine hB _ _ _ _ (kgoC (is := KX9_cutText_75) rfl ?_)
                refine k_aload_n rfl ?_
                have t134 := t13.x e121
                obtain ⟨a137, e135, c136, t138, l139, l140⟩ := cg300 H120.1 t134
                refine k_get kg300 t134 e135 ?_
                refine k_aload_n rfl ?_
                have c141 := (t13.mi e121 (by decide)).trans c10
                refine k_get kg305 t134 (congrArg (Sum.inl : Int32 → AvC) c141) ?_
                refine k_iload rfl ?_
                refine k_iastore2 H120 t138 (by rw [l140]; decide) (by omega) (by omega) (fun σ142 H143 e144 c145 c145' => ?_)
                refine k_aload_n rfl ?_
                have t146 := t134.x e144
                obtain ⟨a149, e147, c148, t150, l151, l152⟩ := cg301 H143.1 t146
                refine k_get kg301 t146 e147 ?_
                refine k_aload_n rfl ?_
                have c153 := (t134.mi e144 (by decide)).trans c141
                refine k_get kg305 t146 (congrArg (Sum.inl : Int32 → AvC) c153) ?_
                refine k_iload rfl ?_
                refine k_iastore2 H143 t150 (by rw [l152]; decide) (by omega) (by omega) (fun σ154 H155 e156 c157 c157' => ?_)
                refine k_aload_n rfl ?_
                have t158 := t146.x e156
                obtain ⟨a161, e159, c160, t162, l163, l164⟩ := cg303 H155.1 t158
                refine k_get kg303 t158 e159 ?_
                refine k_aload_n rfl ?_
                have c165 := (t146.mi e156 (by decide)).trans c153
                refine k_get kg305 t158 (congrArg (Sum.inl : Int32 → AvC) c165) ?_
                refine k_bipush (m := (-2)) rfl (fun x166 h167 => ?_)
                refine k_iastore H155 t162 l164 (by omega) (by omega) (fun σ168 H169 e170 => ?_)
                refine k_aload_n rfl ?_
                refine k_dupR ?_
                have t171 := t158.x e170
                have c172 := (t158.mi e170 (by decide)).trans c165
                refine k_get kg305 t171 (congrArg (Sum.inl : Int32 → AvC) c172) ?_
                refine k_iconst (m := 1) rfl (fun x173 h174 => ?_)
                refine k_iadd (by omega) (by omega) (fun x175 h176 => ?_)
                refine k_putI kp305 H169 t171 (Or.inl fk305) (by show 0 ≤ _; omega) (by show _ ≤ 501; omega) (fun σ177 H178 e179 c180 => ?_)
                refine k_aload_n rfl ?_
                refine k_iload rfl ?_
                refine k_iload rfl ?_
                refine k_iadd (by omega) (by omega) (fun x181 h182 => ?_)
                have t183 := t171.x e179
                refine k_inv (P := P_X9_behindBlanks) (Q := Q_X9_behindBlanks) rfl rfl rfl rfl (Nat.le_of_ble_eq_true rfl) (t183.rc (by decide)) ⟨_, _, rfl, H178, t183, (by omega)⟩ (fun w184 σ185 q186 => ?_)
                obtain ⟨x187, rfl, rfl, h188, q189, q190⟩ := q186
                refine k_st (st' := [.inl x187]) rfl ?_
                have c191 := (t13.mi e121 (by decide)).trans c17
                have c192 := (t134.mi e144 (by decide)).trans c191
                have c193 := (t146.mi e156 (by decide)).trans c192
                have c194 := (t158.mi e170 (by decide)).trans c193
                have c195 := (t171.mi e179 (by decide)).trans c194
                have z196 := congrArg Int32.toInt c195
                refine k_istore (ls' := [(4, .inl x187), (3, .inl x131), (5, .inl x119), (0, .inr (.inr (some p0)))]) rfl ?_
                refine k_nil ?_
                refine hB _ _ _ _ (kgoC (is := KX9_cutText_129) rfl ?_)
                refine k_goto ?_
                have X197 : ExC [305, 307, 308, 998] σ0 σ1 := ExC.rf.tr (e3.mo (by decide))
                have X198 : ExC [305, 307, 308, 998] σ0 σ117 := X197.tr (e121.mo (by decide))
                have X199 : ExC [305, 307, 308, 998] σ0 σ142 := X198.tr (e144.mo (by decide))
                have X200 : ExC [305, 307, 308, 998] σ0 σ154 := X199.tr (e156.mo (by decide))
                have X201 : ExC [305, 307, 308, 998] σ0 σ168 := X200.tr (e170.mo (by decide))
                have X202 : ExC [305, 307, 308, 998] σ0 σ177 := X201.tr (e179.mo (by decide))
                exact hW _ _ _ _ _ (List.forall_mem_cons.2 ⟨List.Mem.tail _ (List.Mem.tail _ (List.Mem.tail _ (List.Mem.head _))), (List.forall_mem_cons.2 ⟨List.Mem.tail _ (List.Mem.head _), (List.forall_mem_cons.2 ⟨List.Mem.head _, fun _ h => absurd h List.not_mem_nil⟩)⟩)⟩) (ih29 ((2 * (501 - (fIC σ177 p0 305).toInt) + x131.toInt).toNat) (by have z1 := congrArg Int32.toInt c10; have z2 := congrArg Int32.toInt c180; have z3 := n29_; omega) σ177 x131 x187 rfl H178 X202 (by omega) (by omega) (by omega) ⟨by rw [c180]; omega, by rw [c195]; omega, by rw [c195]; omega⟩)
    refine hB _ _ _ _ (kgoC (is := KX9_cutText_0) rfl ?_)
    refine k_aload_n rfl ?_
    refine k_aload_n rfl ?_
    refine k_x307 rfl rfl rfl (Nat.le_of_ble_eq_true rfl) H0 h_0_0 h_1_0 h_1_1 (by decide) (by omega) (fun σ203 H204 e205 q206 => ?_)
    have t212 := h_0_0.x e205
    obtain ⟨x207, e208, c209, h210, h211⟩ := cg308 H204.1 t212
    rw [c209] at q206
    refine k_aload_n rfl ?_
    refine k_iconst (m := 0) rfl (fun x213 h214 => ?_)
    refine k_putI kp305 H204 t212 (Or.inl fk305) (by show 0 ≤ _; omega) (by show _ ≤ 501; omega) (fun σ215 H216 e217 c218 => ?_)
    refine k_iconst (m := 1) rfl (fun x219 h220 => ?_)
    refine k_istore_n (ls' := [(3, .inl x219), (0, .inr (.inr (some p0))), (1, .inr (.inr (some p1))), (2, .inl p2)]) rfl ?_
    refine k_aload_n rfl ?_
    refine k_iconst (m := 0) rfl (fun x221 h222 => ?_)
    have t223 := t212.x e217
    refine k_inv (P := P_X9_behindBlanks) (Q := Q_X9_behindBlanks) rfl rfl rfl rfl (Nat.le_of_ble_eq_true rfl) (t223.rc (by decide)) ⟨_, _, rfl, H216, t223, (by omega)⟩ (fun w224 σ225 q226 => ?_)
    obtain ⟨x227, rfl, rfl, h228, q229, q230⟩ := q226
    refine k_st (st' := [.inl x227]) rfl ?_
    have c231 := (t212.mi e217 (by decide)).trans c209
    have z232 := congrArg Int32.toInt c231
    refine k_istore (ls' := [(4, .inl x227), (3, .inl x219), (0, .inr (.inr (some p0))), (1, .inr (.inr (some p1))), (2, .inl p2)]) rfl ?_
    refine k_nil ?_
    have X233 : ExC [305, 307, 308, 998] σ0 σ203 := ExC.rf.tr (e205.mo (by decide))
    have X234 : ExC [305, 307, 308, 998] σ0 σ215 := X233.tr (e217.mo (by decide))
    exact hW _ _ _ _ _ (List.forall_mem_cons.2 ⟨List.Mem.tail _ (List.Mem.tail _ (List.Mem.head _)), (List.forall_mem_cons.2 ⟨List.Mem.tail _ (List.Mem.head _), (List.forall_mem_cons.2 ⟨List.Mem.head _, fun _ h => absurd h List.not_mem_nil⟩)⟩)⟩) (L29 _ σ215 x219 x227 rfl H216 X234 (by omega) (by omega) (by omega) ⟨by rw [c218]; omega, by rw [c231]; omega, by rw [c231]; omega⟩)
theorem lg_X9_cutText : ∀ (As : List AvC) (σ : CsC), P_X9_cutText As σ → lgC As ≤ rX9_cutText.2.2.1 := by
  rintro As σ ⟨p0, p1, p2, rfl, -⟩
  exact Nat.le_of_ble_eq_true rfl
theorem m_X9_cutText (l : Launch) : CMetC l 14 188 P_X9_cutText Q_X9_cutText :=
  CMetC.of KX9_cutText [(190, P_X9_behindBlanks, Q_X9_behindBlanks), (191, P_X9_cutOne, Q_X9_cutOne)] hX9_cutText (by decide) (by decide) okX9_cutText (cc1C (m_X9_behindBlanks l) (by decide) (cc1C (m_X9_cutOne l) (by decide) cc0C)) (lg_X9_cutText) (b_X9_cutText)
