abbrev P_X9_longerKey : CpC := fun As σ => ∃ (p0 : Int64) (p1 : Int32), As = [.inr (.inl p0), .inl p1] ∧ HIC σ
abbrev Q_X9_longerKey : CqC := fun As σ w τ => match As with
  | [.inr (.inl p0), .inl p1] => ∃ r : Int64, w = some (.inr (.inl r)) ∧ σ = τ
  | _ => False
set_option maxRecDepth 100000 in
set_option maxHeartbeats 4000000 in
theorem m_X9_longerKey (l : Launch) : CMetC l 1 185 P_X9_longerKey Q_X9_longerKey := by
  refine CMetC.of KX9_longerKey [] hX9_longerKey (by decide) (by decide) okX9_longerKey cc0C ?_ ?_
  · rintro As σ ⟨p0, p1, rfl, -⟩
    exact Nat.le_of_ble_eq_true rfl
  · rintro As σ0 ⟨p0, p1, rfl, H0⟩ hgr G hB hW
    change G 0 [(0, .inr (.inl p0)), (2, .inl p1)] [] σ0
    refine hB _ _ _ _ (kgoC (is := KX9_longerKey_0) rfl ?_)
    refine k_iload_n rfl ?_
    refine k_bipush (m := 97) rfl (fun x1 h2 => ?_)
    refine k_ic_lt (fun h3 => ?_) (fun h3 => ?_)
    · refine hB _ _ _ _ (kgoC (is := KX9_longerKey_16) rfl ?_)
      refine k_iload_n rfl ?_
      refine k_bipush (m := 65) rfl (fun x4 h5 => ?_)
      refine k_ic_lt (fun h6 => ?_) (fun h6 => ?_)
      · refine hB _ _ _ _ (kgoC (is := KX9_longerKey_32) rfl ?_)
        refine k_iload_n rfl ?_
        refine k_bipush (m := 48) rfl (fun x7 h8 => ?_)
        have z11 := tiC p1
        refine k_isub_u (fun x9 => ?_)
        refine k_iconst (m := 1) rfl (fun x12 h13 => ?_)
        have z16 := tiC x9
        refine k_iadd_u (fun x14 => ?_)
        refine k_nil ?_
        refine hB _ _ _ _ (kgoC (is := KX9_longerKey_38) rfl ?_)
        refine k_istore_n (ls' := [(3, .inl x14), (0, .inr (.inl p0)), (2, .inl p1)]) rfl ?_
        refine k_lload_n rfl ?_
        refine k_bipush (m := 6) rfl (fun x17 h18 => ?_)
        refine k_lshl (fun y19 => ?_)
        refine k_iload_n rfl ?_
        refine k_i2l (fun y20 => ?_)
        refine k_lor (fun y21 => ?_)
        refine k_lreturn ?_
        exact ⟨_, rfl, rfl⟩
      · refine k_nil ?_
        refine hB _ _ _ _ (kgoC (is := KX9_longerKey_22) rfl ?_)
        refine k_iload_n rfl ?_
        refine k_bipush (m := 65) rfl (fun x22 h23 => ?_)
        refine k_isub (by omega) (by omega) (fun x24 h25 => ?_)
        refine k_bipush (m := 11) rfl (fun x26 h27 => ?_)
        refine k_iadd (by omega) (by omega) (fun x28 h29 => ?_)
        refine k_goto ?_
        refine hB _ _ _ _ (kgoC (is := KX9_longerKey_38) rfl ?_)
        refine k_istore_n (ls' := [(3, .inl x28), (0, .inr (.inl p0)), (2, .inl p1)]) rfl ?_
        refine k_lload_n rfl ?_
        refine k_bipush (m := 6) rfl (fun x30 h31 => ?_)
        refine k_lshl (fun y32 => ?_)
        refine k_iload_n rfl ?_
        refine k_i2l (fun y33 => ?_)
        refine k_lor (fun y34 => ?_)
        refine k_lreturn ?_
        exact ⟨_, rfl, rfl⟩
    · refine k_nil ?_
      refine hB _ _ _ _ (kgoC (is := KX9_longerKey_6) rfl ?_)
      refine k_iload_n rfl ?_
      refine k_bipush (m := 97) rfl (fun x35 h36 => ?_)
      have z39 := tiC p1
      refine k_isub (by omega) (by omega) (fun x37 h38 => ?_)
      refine k_bipush (m := 37) rfl (fun x40 h41 => ?_)
      refine k_iadd (by omega) (by omega) (fun x42 h43 => ?_)
      refine k_goto ?_
      refine hB _ _ _ _ (kgoC (is := KX9_longerKey_38) rfl ?_)
      refine k_istore_n (ls' := [(3, .inl x42), (0, .inr (.inl p0)), (2, .inl p1)]) rfl ?_
      refine k_lload_n rfl ?_
      refine k_bipush (m := 6) rfl (fun x44 h45 => ?_)
      refine k_lshl (fun y46 => ?_)
      refine k_iload_n rfl ?_
      refine k_i2l (fun y47 => ?_)
      refine k_lor (fun y48 => ?_)
      refine k_lreturn ?_
      exact ⟨_, rfl, rfl⟩

abbrev P_X9_keyOf : CpC := fun As σ => ∃ (p0 : Nat), As = [.inr (.inr (some p0))] ∧ HIC σ ∧ (p0 = 1000003 ∨ p0 = 1000004 ∨ p0 = 1000005 ∨ p0 = 1000006)
abbrev Q_X9_keyOf : CqC := fun As σ w τ => match As with
  | [.inr (.inr (some p0))] => ∃ r : Int64, w = some (.inr (.inl r)) ∧ σ = τ
  | _ => False
set_option maxRecDepth 100000 in
set_option maxHeartbeats 4000000 in
theorem m_X9_keyOf (l : Launch) : CMetC l 11 186 P_X9_keyOf Q_X9_keyOf := by
  refine CMetC.of KX9_keyOf [(239, P_J0_length_8abf5, Q_J0_length_8abf5), (238, P_J0_charAt_5068e, Q_J0_charAt_5068e), (185, P_X9_longerKey, Q_X9_longerKey)] hX9_keyOf (by decide) (by decide) okX9_keyOf (cc1C (m_J0_length_8abf5 l) (by decide) (cc1C (m_J0_charAt_5068e l) (by decide) (cc1C (m_X9_longerKey l) (by decide) cc0C))) ?_ ?_
  · rintro As σ ⟨p0, rfl, -⟩
    exact Nat.le_of_ble_eq_true rfl
  · rintro As σ0 ⟨p0, rfl, H0, h_0_0⟩ hgr G hB hW
    change G 0 [(0, .inr (.inr (some p0)))] [] σ0
    have L4 : ∀ (n4 : Nat), ∀ (v4_1 : Int64) (v4_3 : Int32), (2147483647 - v4_3.toInt).toNat = n4 → 0 ≤ v4_3.toInt → v4_3.toInt ≤ 1000 → G 4 [(0, .inr (.inr (some p0))), (1, .inr (.inl v4_1)), (3, .inl v4_3)] [] σ0 := by
      intro n4
      induction n4 using Nat.strongRecOn with
      | _ n4 ih4 =>
        intro v4_1 v4_3 n4_ h1 h2
        refine hB _ _ _ _ (kgoC (is := KX9_keyOf_4) rfl ?_)
        refine k_iload_n rfl ?_
        refine k_aload_n rfl ?_
        refine k_inv (P := P_J0_length_8abf5) (Q := Q_J0_length_8abf5) rfl rfl rfl rfl (Nat.le_of_ble_eq_true rfl) (Or.inr ⟨rfl, by omega, by omega⟩) ⟨_, rfl, H0, (by omega)⟩ (fun w3 σ4 q5 => ?_)
        obtain ⟨x6, rfl, rfl, h7, h8, q9⟩ := q5
        refine k_st (st' := [.inl x6, .inl v4_3]) rfl ?_
        refine k_ic_ge (fun h10 => ?_) (fun h10 => ?_)
        · refine hB _ _ _ _ (kgoC (is := KX9_keyOf_28) rfl ?_)
          refine k_lload_n rfl ?_
          refine k_lreturn ?_
          exact ⟨_, rfl, rfl⟩
        · refine k_nil ?_
          refine hB _ _ _ _ (kgoC (is := KX9_keyOf_12) rfl ?_)
          refine k_lload_n rfl ?_
          refine k_aload_n rfl ?_
          refine k_iload_n rfl ?_
          refine k_inv (P := P_J0_charAt_5068e) (Q := Q_J0_charAt_5068e) rfl rfl rfl rfl (Nat.le_of_ble_eq_true rfl) (Or.inr ⟨rfl, by omega, by omega⟩) ⟨_, _, rfl, H0, (by omega), (by omega), (by omega)⟩ (fun w11 σ12 q13 => ?_)
          obtain ⟨x14, rfl, rfl⟩ := q13
          refine k_st (st' := [.inl x14, .inr (.inl v4_1)]) rfl ?_
          refine k_stat (P := P_X9_longerKey) (Q := Q_X9_longerKey) rfl rfl (Nat.le_of_ble_eq_true rfl) rfl rfl (Nat.le_of_ble_eq_true rfl) ⟨_, _, rfl, H0⟩ (fun w15 σ16 q17 => ?_)
          obtain ⟨y18, rfl, rfl⟩ := q17
          refine k_st (st' := [.inr (.inl y18)]) rfl ?_
          refine k_lstore_n (ls' := [(1, .inr (.inl y18)), (0, .inr (.inr (some p0))), (3, .inl v4_3)]) rfl ?_
          obtain ⟨x19, e21, h20⟩ := iincC (n := 1) (m := 1) (v := v4_3) rfl (by omega) (by omega)
          refine k_iinc (ls' := [(3, .inl x19), (1, .inr (.inl y18)), (0, .inr (.inr (some p0)))]) rfl e21 rfl ?_
          refine k_goto ?_
          exact hW _ _ _ _ _ (List.forall_mem_cons.2 ⟨List.Mem.tail _ (List.Mem.tail _ (List.Mem.head _)), (List.forall_mem_cons.2 ⟨List.Mem.tail _ (List.Mem.head _), (List.forall_mem_cons.2 ⟨List.Mem.head _, fun _ h => absurd h List.not_mem_nil⟩)⟩)⟩) (ih4 ((2147483647 - x19.toInt).toNat) (by omega) y18 x19 rfl (by omega) (by omega))
    refine hB _ _ _ _ (kgoC (is := KX9_keyOf_0) rfl ?_)
    refine k_lconst ?_
    refine k_lstore_n (ls' := [(1, .inr (.inl (Int64.ofNat ((0 : Fin 2) : Nat)))), (0, .inr (.inr (some p0)))]) rfl ?_
    refine k_iconst (m := 0) rfl (fun x22 h23 => ?_)
    refine k_istore_n (ls' := [(3, .inl x22), (1, .inr (.inl (Int64.ofNat ((0 : Fin 2) : Nat)))), (0, .inr (.inr (some p0)))]) rfl ?_
    refine k_nil ?_
    exact hW _ _ _ _ _ (List.forall_mem_cons.2 ⟨List.Mem.tail _ (List.Mem.tail _ (List.Mem.head _)), (List.forall_mem_cons.2 ⟨List.Mem.tail _ (List.Mem.head _), (List.forall_mem_cons.2 ⟨List.Mem.head _, fun _ h => absurd h List.not_mem_nil⟩)⟩)⟩) (L4 _ (Int64.ofNat ((0 : Fin 2) : Nat)) x22 rfl (by omega) (by omega))

abbrev P_X9_sort : CpC := fun As σ => ∃ (p0 : Nat) (p1 : Int32), As = [.inr (.inr (some p0)), .inl p1] ∧ HIC σ ∧ TyC σ p0 10 ∧ 0 ≤ p1.toInt ∧ p1.toInt ≤ 502
abbrev Q_X9_sort : CqC := fun As σ w τ => match As with
  | [.inr (.inr (some p0)), .inl p1] => ∃ r : Int32, w = some (.inl r) ∧ σ = τ
  | _ => False
set_option maxRecDepth 100000 in
set_option maxHeartbeats 4000000 in
theorem m_X9_sort (l : Launch) : CMetC l 1 187 P_X9_sort Q_X9_sort := by
  refine CMetC.of KX9_sort [] hX9_sort (by decide) (by decide) okX9_sort cc0C ?_ ?_
  · rintro As σ ⟨p0, p1, rfl, -⟩
    exact Nat.le_of_ble_eq_true rfl
  · rintro As σ0 ⟨p0, p1, rfl, H0, h_0_0, h_1_0, h_1_1⟩ hgr G hB hW
    change G 0 [(0, .inr (.inr (some p0))), (1, .inl p1)] [] σ0
    refine hB _ _ _ _ (kgoC (is := KX9_sort_0) rfl ?_)
    refine k_aload_n rfl ?_
    obtain ⟨a3, e1, c2, t4, l5, l6⟩ := cg302 H0.1 h_0_0
    refine k_get kg302 h_0_0 e1 ?_
    refine k_iload_n rfl ?_
    refine k_iaload t4 (by omega) (by omega) (fun x7 => ?_)
    refine k_istore_n (ls' := [(2, .inl x7), (0, .inr (.inr (some p0))), (1, .inl p1)]) rfl ?_
    refine k_iload_n rfl ?_
    refine k_bipush (m := 80) rfl (fun x8 h9 => ?_)
    refine k_ic_ne (fun h10 => ?_) (fun h10 => ?_)
    · refine hB _ _ _ _ (kgoC (is := KX9_sort_15) rfl ?_)
      refine k_iload_n rfl ?_
      refine k_bipush (m := 81) rfl (fun x11 h12 => ?_)
      refine k_ic_eq (fun h13 => ?_) (fun h13 => ?_)
      · refine hB _ _ _ _ (kgoC (is := KX9_sort_27) rfl ?_)
        refine k_iconst (m := 2) rfl (fun x14 h15 => ?_)
        refine k_ireturn (fun hz => absurd hz (by decide)) ?_
        exact ⟨_, rfl, rfl⟩
      · refine k_nil ?_
        refine hB _ _ _ _ (kgoC (is := KX9_sort_21) rfl ?_)
        refine k_iload_n rfl ?_
        refine k_bipush (m := 82) rfl (fun x16 h17 => ?_)
        refine k_ic_ne (fun h18 => ?_) (fun h18 => ?_)
        · refine hB _ _ _ _ (kgoC (is := KX9_sort_29) rfl ?_)
          refine k_iload_n rfl ?_
          refine k_bipush (m := 83) rfl (fun x19 h20 => ?_)
          refine k_ic_ne (fun h21 => ?_) (fun h21 => ?_)
          · refine hB _ _ _ _ (kgoC (is := KX9_sort_37) rfl ?_)
            refine k_iload_n rfl ?_
            refine k_bipush (m := 50) rfl (fun x22 h23 => ?_)
            refine k_ic_lt (fun h24 => ?_) (fun h24 => ?_)
            · refine hB _ _ _ _ (kgoC (is := KX9_sort_47) rfl ?_)
              refine k_iconst (m := 5) rfl (fun x25 h26 => ?_)
              refine k_nil ?_
              refine hB _ _ _ _ (kgoC (is := KX9_sort_48) rfl ?_)
              refine k_ireturn (fun hz => absurd hz (by decide)) ?_
              exact ⟨_, rfl, rfl⟩
            · refine k_nil ?_
              refine hB _ _ _ _ (kgoC (is := KX9_sort_43) rfl ?_)
              refine k_iconst (m := 4) rfl (fun x27 h28 => ?_)
              refine k_goto ?_
              refine hB _ _ _ _ (kgoC (is := KX9_sort_48) rfl ?_)
              refine k_ireturn (fun hz => absurd hz (by decide)) ?_
              exact ⟨_, rfl, rfl⟩
          · refine k_nil ?_
            refine hB _ _ _ _ (kgoC (is := KX9_sort_35) rfl ?_)
            refine k_iconst (m := 3) rfl (fun x29 h30 => ?_)
            refine k_ireturn (fun hz => absurd hz (by decide)) ?_
            exact ⟨_, rfl, rfl⟩
        · refine k_nil ?_
          refine hB _ _ _ _ (kgoC (is := KX9_sort_27) rfl ?_)
          refine k_iconst (m := 2) rfl (fun x31 h32 => ?_)
          refine k_ireturn (fun hz => absurd hz (by decide)) ?_
          exact ⟨_, rfl, rfl⟩
    · refine k_nil ?_
      refine hB _ _ _ _ (kgoC (is := KX9_sort_13) rfl ?_)
      refine k_iconst (m := 1) rfl (fun x33 h34 => ?_)
      refine k_ireturn (fun hz => absurd hz (by decide)) ?_
      exact ⟨_, rfl, rfl⟩

abbrev P_X9_byteAt : CpC := fun As σ => ∃ (p0 : Nat) (p1 : Int32), As = [.inr (.inr (some p0)), .inl p1] ∧ HIC σ ∧ TyC σ p0 10
abbrev Q_X9_byteAt : CqC := fun As σ w τ => match As with
  | [.inr (.inr (some p0)), .inl p1] => ∃ r : Int32, w = some (.inl r) ∧ σ = τ
  | _ => False
set_option maxRecDepth 100000 in
set_option maxHeartbeats 4000000 in
theorem m_X9_byteAt (l : Launch) : CMetC l 1 189 P_X9_byteAt Q_X9_byteAt := by
  refine CMetC.of KX9_byteAt [] hX9_byteAt (by decide) (by decide) okX9_byteAt cc0C ?_ ?_
  · rintro As σ ⟨p0, p1, rfl, -⟩
    exact Nat.le_of_ble_eq_true rfl
  · rintro As σ0 ⟨p0, p1, rfl, H0, h_0_0⟩ hgr G hB hW
    change G 0 [(0, .inr (.inr (some p0))), (1, .inl p1)] [] σ0
    refine hB _ _ _ _ (kgoC (is := KX9_byteAt_0) rfl ?_)
    refine k_iload_n rfl ?_
    refine k_if_lt (fun h1 => ?_) (fun h1 => ?_)
    · refine hB _ _ _ _ (kgoC (is := KX9_byteAt_25) rfl ?_)
      refine k_iconst (m := (-1)) rfl (fun x2 h3 => ?_)
      refine k_nil ?_
      refine hB _ _ _ _ (kgoC (is := KX9_byteAt_26) rfl ?_)
      refine k_ireturn (fun hz => absurd hz (by decide)) ?_
      exact ⟨_, rfl, rfl⟩
    · refine k_nil ?_
      refine hB _ _ _ _ (kgoC (is := KX9_byteAt_4) rfl ?_)
      refine k_iload_n rfl ?_
      refine k_aload_n rfl ?_
      obtain ⟨x6, e4, c5, h7, h8⟩ := cg308 H0.1 h_0_0
      refine k_get kg308 h_0_0 e4 ?_
      refine k_ic_ge (fun h9 => ?_) (fun h9 => ?_)
      · refine hB _ _ _ _ (kgoC (is := KX9_byteAt_25) rfl ?_)
        refine k_iconst (m := (-1)) rfl (fun x10 h11 => ?_)
        refine k_nil ?_
        refine hB _ _ _ _ (kgoC (is := KX9_byteAt_26) rfl ?_)
        refine k_ireturn (fun hz => absurd hz (by decide)) ?_
        exact ⟨_, rfl, rfl⟩
      · refine k_nil ?_
        refine hB _ _ _ _ (kgoC (is := KX9_byteAt_12) rfl ?_)
        refine k_aload_n rfl ?_
        obtain ⟨a14, e12, c13, t15⟩ := cg307 H0.1 h_0_0
        refine k_get kg307 h_0_0 e12 ?_
        refine k_iload_n rfl ?_
        have z16 := H0.x10 h_0_0 c13 c5
        refine k_baload t15 (by omega) (by omega) (fun x17 => ?_)
        refine k_sipush (m := 255) rfl (fun x18 h19 => ?_)
        refine k_iand_u (fun x20 => ?_)
        refine k_goto ?_
        refine hB _ _ _ _ (kgoC (is := KX9_byteAt_26) rfl ?_)
        refine k_ireturn (fun hz => absurd hz (by decide)) ?_
        exact ⟨_, rfl, rfl⟩

abbrev P_X9_behindBlanks : CpC := fun As σ => ∃ (p0 : Nat) (p1 : Int32), As = [.inr (.inr (some p0)), .inl p1] ∧ HIC σ ∧ TyC σ p0 10 ∧ 0 ≤ p1.toInt
abbrev Q_X9_behindBlanks : CqC := fun As σ w τ => match As with
  | [.inr (.inr (some p0)), .inl p1] => ∃ r : Int32, w = some (.inl r) ∧ σ = τ ∧ 0 ≤ r.toInt ∧ (r.toInt ≤ (fIC σ p0 308).toInt) ∧ (p1.toInt ≤ r.toInt ∨ r.toInt = (fIC σ p0 308).toInt)
  | _ => False
set_option maxRecDepth 100000 in
set_option maxHeartbeats 4000000 in
theorem m_X9_behindBlanks (l : Launch) : CMetC l 2 190 P_X9_behindBlanks Q_X9_behindBlanks := by
  refine CMetC.of KX9_behindBlanks [(189, P_X9_byteAt, Q_X9_byteAt)] hX9_behindBlanks (by decide) (by decide) okX9_behindBlanks (cc1C (m_X9_byteAt l) (by decide) cc0C) ?_ ?_
  · rintro As σ ⟨p0, p1, rfl, -⟩
    exact Nat.le_of_ble_eq_true rfl
  · rintro As σ0 ⟨p0, p1, rfl, H0, h_0_0, h_1_0⟩ hgr G hB hW
    change G 0 [(0, .inr (.inr (some p0))), (1, .inl p1)] [] σ0
    have L4 : ∀ (n4 : Nat), ∀ (v4_2 : Int32) (v4_3 : Int32), (2147483647 - v4_2.toInt).toNat = n4 → 0 ≤ v4_2.toInt → 0 ≤ v4_3.toInt → v4_3.toInt ≤ 1 → p1.toInt ≤ v4_2.toInt → G 4 [(0, .inr (.inr (some p0))), (2, .inl v4_2), (3, .inl v4_3)] [] σ0 := by
      intro n4
      induction n4 using Nat.strongRecOn with
      | _ n4 ih4 =>
        intro v4_2 v4_3 n4_ h1 h2 h3 h4
        refine hB _ _ _ _ (kgoC (is := KX9_behindBlanks_4) rfl ?_)
        refine k_iload_n rfl ?_
        refine k_aload_n rfl ?_
        obtain ⟨x7, e5, c6, h8, h9⟩ := cg308 H0.1 h_0_0
        refine k_get kg308 h_0_0 e5 ?_
        refine k_ic_ge (fun h10 => ?_) (fun h10 => ?_)
        · refine hB _ _ _ _ (kgoC (is := KX9_behindBlanks_92) rfl ?_)
          refine k_aload_n rfl ?_
          refine k_get kg308 h_0_0 (congrArg (Sum.inl : Int32 → AvC) c6) ?_
          refine k_ireturn (fun hz => absurd hz (by decide)) ?_
          exact ⟨_, rfl, rfl, (by omega), (by have z := congrArg Int32.toInt c6; omega), (by have z := congrArg Int32.toInt c6; omega)⟩
        · refine k_nil ?_
          refine hB _ _ _ _ (kgoC (is := KX9_behindBlanks_12) rfl ?_)
          refine k_aload_n rfl ?_
          refine k_iload_n rfl ?_
          refine k_inv (P := P_X9_byteAt) (Q := Q_X9_byteAt) rfl rfl rfl rfl (Nat.le_of_ble_eq_true rfl) (h_0_0.rc (by decide)) ⟨_, _, rfl, H0, h_0_0⟩ (fun w11 σ12 q13 => ?_)
          obtain ⟨x14, rfl, rfl⟩ := q13
          refine k_st (st' := [.inl x14]) rfl ?_
          refine k_istore (ls' := [(4, .inl x14), (0, .inr (.inr (some p0))), (2, .inl v4_2), (3, .inl v4_3)]) rfl ?_
          refine k_iload rfl ?_
          refine k_bipush (m := 10) rfl (fun x15 h16 => ?_)
          refine k_ic_ne (fun h17 => ?_) (fun h17 => ?_)
          · refine hB _ _ _ _ (kgoC (is := KX9_behindBlanks_31) rfl ?_)
            refine k_iload_n rfl ?_
            refine k_if_ne (fun h18 => ?_) (fun h18 => ?_)
            · refine hB _ _ _ _ (kgoC (is := KX9_behindBlanks_59) rfl ?_)
              refine k_iload_n rfl ?_
              refine k_if_ne (fun h19 => ?_) (fun h19 => by exfalso; omega)
              refine hB _ _ _ _ (kgoC (is := KX9_behindBlanks_86) rfl ?_)
              obtain ⟨x20, e22, h21⟩ := iincC (n := 1) (m := 1) (v := v4_2) rfl (by omega) (by omega)
              refine k_iinc (ls' := [(2, .inl x20), (4, .inl x14), (0, .inr (.inr (some p0))), (3, .inl v4_3)]) rfl e22 rfl ?_
              refine k_goto ?_
              exact hW _ _ _ _ _ (List.forall_mem_cons.2 ⟨List.Mem.tail _ (List.Mem.tail _ (List.Mem.head _)), (List.forall_mem_cons.2 ⟨List.Mem.head _, (List.forall_mem_cons.2 ⟨List.Mem.tail _ (List.Mem.tail _ (List.Mem.tail _ (List.Mem.head _))), fun _ h => absurd h List.not_mem_nil⟩)⟩)⟩) (ih4 ((2147483647 - x20.toInt).toNat) (by omega) x20 v4_3 rfl (by omega) (by omega) (by omega) (by omega))
            · refine k_nil ?_
              refine hB _ _ _ _ (kgoC (is := KX9_behindBlanks_35) rfl ?_)
              refine k_iload rfl ?_
              refine k_bipush (m := 47) rfl (fun x23 h24 => ?_)
              refine k_ic_ne (fun h25 => ?_) (fun h25 => ?_)
              · refine hB _ _ _ _ (kgoC (is := KX9_behindBlanks_59) rfl ?_)
                refine k_iload_n rfl ?_
                refine k_if_ne (fun h26 => by exfalso; omega) (fun h26 => ?_)
                refine k_nil ?_
                refine hB _ _ _ _ (kgoC (is := KX9_behindBlanks_63) rfl ?_)
                refine k_iload rfl ?_
                refine k_bipush (m := 32) rfl (fun x27 h28 => ?_)
                refine k_ic_eq (fun h29 => ?_) (fun h29 => ?_)
                · refine hB _ _ _ _ (kgoC (is := KX9_behindBlanks_86) rfl ?_)
                  obtain ⟨x30, e32, h31⟩ := iincC (n := 1) (m := 1) (v := v4_2) rfl (by omega) (by omega)
                  refine k_iinc (ls' := [(2, .inl x30), (4, .inl x14), (0, .inr (.inr (some p0))), (3, .inl v4_3)]) rfl e32 rfl ?_
                  refine k_goto ?_
                  exact hW _ _ _ _ _ (List.forall_mem_cons.2 ⟨List.Mem.tail _ (List.Mem.tail _ (List.Mem.head _)), (List.forall_mem_cons.2 ⟨List.Mem.head _, (List.forall_mem_cons.2 ⟨List.Mem.tail _ (List.Mem.tail _ (List.Mem.tail _ (List.Mem.head _))), fun _ h => absurd h List.not_mem_nil⟩)⟩)⟩) (ih4 ((2147483647 - x30.toInt).toNat) (by omega) x30 v4_3 rfl (by omega) (by omega) (by omega) (by omega))
                · refine k_nil ?_
                  refine hB _ _ _ _ (kgoC (is := KX9_behindBlanks_70) rfl ?_)
                  refine k_iload rfl ?_
                  refine k_bipush (m := 9) rfl (fun x33 h34 => ?_)
                  refine k_ic_eq (fun h35 => ?_) (fun h35 => ?_)
                  · refine hB _ _ _ _ (kgoC (is := KX9_behindBlanks_86) rfl ?_)
                    obtain ⟨x36, e38, h37⟩ := iincC (n := 1) (m := 1) (v := v4_2) rfl (by omega) (by omega)
                    refine k_iinc (ls' := [(2, .inl x36), (4, .inl x14), (0, .inr (.inr (some p0))), (3, .inl v4_3)]) rfl e38 rfl ?_
                    refine k_goto ?_
                    exact hW _ _ _ _ _ (List.forall_mem_cons.2 ⟨List.Mem.tail _ (List.Mem.tail _ (List.Mem.head _)), (List.forall_mem_cons.2 ⟨List.Mem.head _, (List.forall_mem_cons.2 ⟨List.Mem.tail _ (List.Mem.tail _ (List.Mem.tail _ (List.Mem.head _))), fun _ h => absurd h List.not_mem_nil⟩)⟩)⟩) (ih4 ((2147483647 - x36.toInt).toNat) (by omega) x36 v4_3 rfl (by omega) (by omega) (by omega) (by omega))
                  · refine k_nil ?_
                    refine hB _ _ _ _ (kgoC (is := KX9_behindBlanks_77) rfl ?_)
                    refine k_iload rfl ?_
                    refine k_bipush (m := 13) rfl (fun x39 h40 => ?_)
                    refine k_ic_eq (fun h41 => ?_) (fun h41 => ?_)
                    · refine hB _ _ _ _ (kgoC (is := KX9_behindBlanks_86) rfl ?_)
                      obtain ⟨x42, e44, h43⟩ := iincC (n := 1) (m := 1) (v := v4_2) rfl (by omega) (by omega)
                      refine k_iinc (ls' := [(2, .inl x42), (4, .inl x14), (0, .inr (.inr (some p0))), (3, .inl v4_3)]) rfl e44 rfl ?_
                      refine k_goto ?_
                      exact hW _ _ _ _ _ (List.forall_mem_cons.2 ⟨List.Mem.tail _ (List.Mem.tail _ (List.Mem.head _)), (List.forall_mem_cons.2 ⟨List.Mem.head _, (List.forall_mem_cons.2 ⟨List.Mem.tail _ (List.Mem.tail _ (List.Mem.tail _ (List.Mem.head _))), fun _ h => absurd h List.not_mem_nil⟩)⟩)⟩) (ih4 ((2147483647 - x42.toInt).toNat) (by omega) x42 v4_3 rfl (by omega) (by omega) (by omega) (by omega))
                    · refine k_nil ?_
                      refine hB _ _ _ _ (kgoC (is := KX9_behindBlanks_84) rfl ?_)
                      refine k_iload_n rfl ?_
                      refine k_ireturn (fun hz => absurd hz (by decide)) ?_
                      exact ⟨_, rfl, rfl, (by omega), (by have z := congrArg Int32.toInt c6; omega), (by have z := congrArg Int32.toInt c6; omega)⟩
              · refine k_nil ?_
                refine hB _ _ _ _ (kgoC (is := KX9_behindBlanks_42) rfl ?_)
                refine k_aload_n rfl ?_
                refine k_iload_n rfl ?_
                refine k_iconst (m := 1) rfl (fun x45 h46 => ?_)
                refine k_iadd (by omega) (by omega) (fun x47 h48 => ?_)
                refine k_inv (P := P_X9_byteAt) (Q := Q_X9_byteAt) rfl rfl rfl rfl (Nat.le_of_ble_eq_true rfl) (h_0_0.rc (by decide)) ⟨_, _, rfl, H0, h_0_0⟩ (fun w49 σ50 q51 => ?_)
                obtain ⟨x52, rfl, rfl⟩ := q51
                refine k_st (st' := [.inl x52]) rfl ?_
                refine k_bipush (m := 47) rfl (fun x53 h54 => ?_)
                refine k_ic_ne (fun h55 => ?_) (fun h55 => ?_)
                · refine hB _ _ _ _ (kgoC (is := KX9_behindBlanks_59) rfl ?_)
                  refine k_iload_n rfl ?_
                  refine k_if_ne (fun h56 => by exfalso; omega) (fun h56 => ?_)
                  refine k_nil ?_
                  refine hB _ _ _ _ (kgoC (is := KX9_behindBlanks_63) rfl ?_)
                  refine k_iload rfl ?_
                  refine k_bipush (m := 32) rfl (fun x57 h58 => ?_)
                  refine k_ic_eq (fun h59 => by exfalso; omega) (fun h59 => ?_)
                  refine k_nil ?_
                  refine hB _ _ _ _ (kgoC (is := KX9_behindBlanks_70) rfl ?_)
                  refine k_iload rfl ?_
                  refine k_bipush (m := 9) rfl (fun x60 h61 => ?_)
                  refine k_ic_eq (fun h62 => by exfalso; omega) (fun h62 => ?_)
                  refine k_nil ?_
                  refine hB _ _ _ _ (kgoC (is := KX9_behindBlanks_77) rfl ?_)
                  refine k_iload rfl ?_
                  refine k_bipush (m := 13) rfl (fun x63 h64 => ?_)
                  refine k_ic_eq (fun h65 => by exfalso; omega) (fun h65 => ?_)
                  refine k_nil ?_
                  refine hB _ _ _ _ (kgoC (is := KX9_behindBlanks_84) rfl ?_)
                  refine k_iload_n rfl ?_
                  refine k_ireturn (fun hz => absurd hz (by decide)) ?_
                  exact ⟨_, rfl, rfl, (by omega), (by have z := congrArg Int32.toInt c6; omega), (by have z := congrArg Int32.toInt c6; omega)⟩
                · refine k_nil ?_
                  refine hB _ _ _ _ (kgoC (is := KX9_behindBlanks_54) rfl ?_)
                  refine k_iconst (m := 1) rfl (fun x66 h67 => ?_)
                  refine k_istore_n (ls' := [(3, .inl x66), (4, .inl x14), (0, .inr (.inr (some p0))), (2, .inl v4_2)]) rfl ?_
                  refine k_goto ?_
                  refine hB _ _ _ _ (kgoC (is := KX9_behindBlanks_86) rfl ?_)
                  obtain ⟨x68, e70, h69⟩ := iincC (n := 1) (m := 1) (v := v4_2) rfl (by omega) (by omega)
                  refine k_iinc (ls' := [(2, .inl x68), (3, .inl x66), (4, .inl x14), (0, .inr (.inr (some p0)))]) rfl e70 rfl ?_
                  refine k_goto ?_
                  exact hW _ _ _ _ _ (List.forall_mem_cons.2 ⟨List.Mem.tail _ (List.Mem.tail _ (List.Mem.tail _ (List.Mem.head _))), (List.forall_mem_cons.2 ⟨List.Mem.head _, (List.forall_mem_cons.2 ⟨List.Mem.tail _ (List.Mem.head _), fun _ h => absurd h List.not_mem_nil⟩)⟩)⟩) (ih4 ((2147483647 - x68.toInt).toNat) (by omega) x68 x66 rfl (by omega) (by omega) (by omega) (by omega))
          · refine k_nil ?_
            refine hB _ _ _ _ (kgoC (is := KX9_behindBlanks_26) rfl ?_)
            refine k_iconst (m := 0) rfl (fun x71 h72 => ?_)
            refine k_istore_n (ls' := [(3, .inl x71), (4, .inl x14), (0, .inr (.inr (some p0))), (2, .inl v4_2)]) rfl ?_
            refine k_goto ?_
            refine hB _ _ _ _ (kgoC (is := KX9_behindBlanks_86) rfl ?_)
            obtain ⟨x73, e75, h74⟩ := iincC (n := 1) (m := 1) (v := v4_2) rfl (by omega) (by omega)
            refine k_iinc (ls' := [(2, .inl x73), (3, .inl x71), (4, .inl x14), (0, .inr (.inr (some p0)))]) rfl e75 rfl ?_
            refine k_goto ?_
            exact hW _ _ _ _ _ (List.forall_mem_cons.2 ⟨List.Mem.tail _ (List.Mem.tail _ (List.Mem.tail _ (List.Mem.head _))), (List.forall_mem_cons.2 ⟨List.Mem.head _, (List.forall_mem_cons.2 ⟨List.Mem.tail _ (List.Mem.head _), fun _ h => absurd h List.not_mem_nil⟩)⟩)⟩) (ih4 ((2147483647 - x73.toInt).toNat) (by omega) x73 x71 rfl (by omega) (by omega) (by omega) (by omega))
    refine hB _ _ _ _ (kgoC (is := KX9_behindBlanks_0) rfl ?_)
    refine k_iload_n rfl ?_
    refine k_istore_n (ls' := [(2, .inl p1), (0, .inr (.inr (some p0))), (1, .inl p1)]) rfl ?_
    refine k_iconst (m := 0) rfl (fun x76 h77 => ?_)
    refine k_istore_n (ls' := [(3, .inl x76), (2, .inl p1), (0, .inr (.inr (some p0))), (1, .inl p1)]) rfl ?_
    refine k_nil ?_
    exact hW _ _ _ _ _ (List.forall_mem_cons.2 ⟨List.Mem.tail _ (List.Mem.tail _ (List.Mem.head _)), (List.forall_mem_cons.2 ⟨List.Mem.tail _ (List.Mem.head _), (List.forall_mem_cons.2 ⟨List.Mem.head _, fun _ h => absurd h List.not_mem_nil⟩)⟩)⟩) (L4 _ p1 x76 rfl (by omega) (by omega) (by omega) (by omega))

abbrev P_X9_isLetter : CpC := fun As σ => ∃ (p0 : Int32), As = [.inl p0] ∧ HIC σ
abbrev Q_X9_isLetter : CqC := fun As σ w τ => match As with
  | [.inl p0] => ∃ r : Int32, w = some (.inl r) ∧ σ = τ ∧ 0 ≤ r.toInt ∧ r.toInt ≤ 1
  | _ => False
set_option maxRecDepth 100000 in
set_option maxHeartbeats 4000000 in
theorem m_X9_isLetter (l : Launch) : CMetC l 1 192 P_X9_isLetter Q_X9_isLetter := by
  refine CMetC.of KX9_isLetter [] hX9_isLetter (by decide) (by decide) okX9_isLetter cc0C ?_ ?_
  · rintro As σ ⟨p0, rfl, -⟩
    exact Nat.le_of_ble_eq_true rfl
  · rintro As σ0 ⟨p0, rfl, H0⟩ hgr G hB hW
    change G 0 [(0, .inl p0)] [] σ0
    refine hB _ _ _ _ (kgoC (is := KX9_isLetter_0) rfl ?_)
    refine k_iload_n rfl ?_
    refine k_bipush (m := 97) rfl (fun x1 h2 => ?_)
    refine k_ic_lt (fun h3 => ?_) (fun h3 => ?_)
    · refine hB _ _ _ _ (kgoC (is := KX9_isLetter_12) rfl ?_)
      refine k_iload_n rfl ?_
      refine k_bipush (m := 65) rfl (fun x4 h5 => ?_)
      refine k_ic_lt (fun h6 => ?_) (fun h6 => ?_)
      · refine hB _ _ _ _ (kgoC (is := KX9_isLetter_28) rfl ?_)
        refine k_iconst (m := 0) rfl (fun x7 h8 => ?_)
        refine k_nil ?_
        refine hB _ _ _ _ (kgoC (is := KX9_isLetter_29) rfl ?_)
        refine k_ireturn (fun _ => b01C (by omega) (by omega)) ?_
        exact ⟨_, rfl, rfl, (by omega), (by omega)⟩
      · refine k_nil ?_
        refine hB _ _ _ _ (kgoC (is := KX9_isLetter_18) rfl ?_)
        refine k_iload_n rfl ?_
        refine k_bipush (m := 90) rfl (fun x9 h10 => ?_)
        refine k_ic_gt (fun h11 => ?_) (fun h11 => ?_)
        · refine hB _ _ _ _ (kgoC (is := KX9_isLetter_28) rfl ?_)
          refine k_iconst (m := 0) rfl (fun x12 h13 => ?_)
          refine k_nil ?_
          refine hB _ _ _ _ (kgoC (is := KX9_isLetter_29) rfl ?_)
          refine k_ireturn (fun _ => b01C (by omega) (by omega)) ?_
          exact ⟨_, rfl, rfl, (by omega), (by omega)⟩
        · refine k_nil ?_
          refine hB _ _ _ _ (kgoC (is := KX9_isLetter_24) rfl ?_)
          refine k_iconst (m := 1) rfl (fun x14 h15 => ?_)
          refine k_goto ?_
          refine hB _ _ _ _ (kgoC (is := KX9_isLetter_29) rfl ?_)
          refine k_ireturn (fun _ => b01C (by omega) (by omega)) ?_
          exact ⟨_, rfl, rfl, (by omega), (by omega)⟩
    · refine k_nil ?_
      refine hB _ _ _ _ (kgoC (is := KX9_isLetter_6) rfl ?_)
      refine k_iload_n rfl ?_
      refine k_bipush (m := 122) rfl (fun x16 h17 => ?_)
      refine k_ic_le (fun h18 => ?_) (fun h18 => ?_)
      · refine hB _ _ _ _ (kgoC (is := KX9_isLetter_24) rfl ?_)
        refine k_iconst (m := 1) rfl (fun x19 h20 => ?_)
        refine k_goto ?_
        refine hB _ _ _ _ (kgoC (is := KX9_isLetter_29) rfl ?_)
        refine k_ireturn (fun _ => b01C (by omega) (by omega)) ?_
        exact ⟨_, rfl, rfl, (by omega), (by omega)⟩
      · refine k_nil ?_
        refine hB _ _ _ _ (kgoC (is := KX9_isLetter_12) rfl ?_)
        refine k_iload_n rfl ?_
        refine k_bipush (m := 65) rfl (fun x21 h22 => ?_)
        refine k_ic_lt (fun h23 => by exfalso; omega) (fun h23 => ?_)
        refine k_nil ?_
        refine hB _ _ _ _ (kgoC (is := KX9_isLetter_18) rfl ?_)
        refine k_iload_n rfl ?_
        refine k_bipush (m := 90) rfl (fun x24 h25 => ?_)
        refine k_ic_gt (fun h26 => ?_) (fun h26 => by exfalso; omega)
        refine hB _ _ _ _ (kgoC (is := KX9_isLetter_28) rfl ?_)
        refine k_iconst (m := 0) rfl (fun x27 h28 => ?_)
        refine k_nil ?_
        refine hB _ _ _ _ (kgoC (is := KX9_isLetter_29) rfl ?_)
        refine k_ireturn (fun _ => b01C (by omega) (by omega)) ?_
        exact ⟨_, rfl, rfl, (by omega), (by omega)⟩

abbrev P_X9_isDigit : CpC := fun As σ => ∃ (p0 : Int32), As = [.inl p0] ∧ HIC σ
abbrev Q_X9_isDigit : CqC := fun As σ w τ => match As with
  | [.inl p0] => ∃ r : Int32, w = some (.inl r) ∧ σ = τ ∧ 0 ≤ r.toInt ∧ r.toInt ≤ 1
  | _ => False
set_option maxRecDepth 100000 in
set_option maxHeartbeats 4000000 in
theorem m_X9_isDigit (l : Launch) : CMetC l 1 193 P_X9_isDigit Q_X9_isDigit := by
  refine CMetC.of KX9_isDigit [] hX9_isDigit (by decide) (by decide) okX9_isDigit cc0C ?_ ?_
  · rintro As σ ⟨p0, rfl, -⟩
    exact Nat.le_of_ble_eq_true rfl
  · rintro As σ0 ⟨p0, rfl, H0⟩ hgr G hB hW
    change G 0 [(0, .inl p0)] [] σ0
    refine hB _ _ _ _ (kgoC (is := KX9_isDigit_0) rfl ?_)
    refine k_iload_n rfl ?_
    refine k_bipush (m := 48) rfl (fun x1 h2 => ?_)
    refine k_ic_lt (fun h3 => ?_) (fun h3 => ?_)
    · refine hB _ _ _ _ (kgoC (is := KX9_isDigit_16) rfl ?_)
      refine k_iconst (m := 0) rfl (fun x4 h5 => ?_)
      refine k_nil ?_
      refine hB _ _ _ _ (kgoC (is := KX9_isDigit_17) rfl ?_)
      refine k_ireturn (fun _ => b01C (by omega) (by omega)) ?_
      exact ⟨_, rfl, rfl, (by omega), (by omega)⟩
    · refine k_nil ?_
      refine hB _ _ _ _ (kgoC (is := KX9_isDigit_6) rfl ?_)
      refine k_iload_n rfl ?_
      refine k_bipush (m := 57) rfl (fun x6 h7 => ?_)
      refine k_ic_gt (fun h8 => ?_) (fun h8 => ?_)
      · refine hB _ _ _ _ (kgoC (is := KX9_isDigit_16) rfl ?_)
        refine k_iconst (m := 0) rfl (fun x9 h10 => ?_)
        refine k_nil ?_
        refine hB _ _ _ _ (kgoC (is := KX9_isDigit_17) rfl ?_)
        refine k_ireturn (fun _ => b01C (by omega) (by omega)) ?_
        exact ⟨_, rfl, rfl, (by omega), (by omega)⟩
      · refine k_nil ?_
        refine hB _ _ _ _ (kgoC (is := KX9_isDigit_12) rfl ?_)
        refine k_iconst (m := 1) rfl (fun x11 h12 => ?_)
        refine k_goto ?_
        refine hB _ _ _ _ (kgoC (is := KX9_isDigit_17) rfl ?_)
        refine k_ireturn (fun _ => b01C (by omega) (by omega)) ?_
        exact ⟨_, rfl, rfl, (by omega), (by omega)⟩

abbrev P_X9_cutName : CpC := fun As σ => ∃ (p0 : Nat) (p1 : Int32), As = [.inr (.inr (some p0)), .inl p1] ∧ HIC σ ∧ TyC σ p0 10 ∧ 0 ≤ p1.toInt ∧ p1.toInt ≤ 2500
abbrev Q_X9_cutName : CqC := fun As σ w τ => match As with
  | [.inr (.inr (some p0)), .inl p1] => ∃ r : Int32, w = some (.inl r) ∧ HIC τ ∧ ExC [998] σ τ ∧ r.toInt ≤ 20000
  | _ => False
set_option maxRecDepth 100000 in
set_option maxHeartbeats 4000000 in
theorem m_X9_cutName (l : Launch) : CMetC l 2 194 P_X9_cutName Q_X9_cutName := by
  refine CMetC.of KX9_cutName [(189, P_X9_byteAt, Q_X9_byteAt), (192, P_X9_isLetter, Q_X9_isLetter), (185, P_X9_longerKey, Q_X9_longerKey), (193, P_X9_isDigit, Q_X9_isDigit)] hX9_cutName (by decide) (by decide) okX9_cutName (cc1C (m_X9_byteAt l) (by decide) (cc1C (m_X9_isLetter l) (by decide) (cc1C (m_X9_longerKey l) (by decide) (cc1C (m_X9_isDigit l) (by decide) cc0C)))) ?_ ?_
  · rintro As σ ⟨p0, p1, rfl, -⟩
    exact Nat.le_of_ble_eq_true rfl
  · rintro As σ0 ⟨p0, p1, rfl, H0, h_0_0, h_1_0, h_1_1⟩ hgr G hB hW
    change G 0 [(0, .inr (.inr (some p0))), (1, .inl p1)] [] σ0
    have L84 : ∀ (n84 : Nat), ∀ (σ1 : CsC) (v84_2 : Int32) (v84_3 : Int64) (v84_5 : Int32), (2147483647 - v84_5.toInt).toNat = n84 → HIC σ1 → ExC [998] σ0 σ1 → 0 ≤ v84_2.toInt → 0 ≤ v84_5.toInt → v84_5.toInt ≤ 24 → v84_2.toInt ≤ p1.toInt + 10 → G 84 [(0, .inr (.inr (some p0))), (1, .inl p1), (2, .inl v84_2), (3, .inr (.inl v84_3)), (5, .inl v84_5)] [] σ1 := by
      intro n84
      induction n84 using Nat.strongRecOn with
      | _ n84 ih84 =>
        intro σ1 v84_2 v84_3 v84_5 n84_ H2 e3 h4 h5 h6 h7
        refine hB _ _ _ _ (kgoC (is := KX9_cutName_84) rfl ?_)
        refine k_iload rfl ?_
        refine k_bipush (m := 24) rfl (fun x8 h9 => ?_)
        refine k_ic_ge (fun h10 => ?_) (fun h10 => ?_)
        · refine hB _ _ _ _ (kgoC (is := KX9_cutName_123) rfl ?_)
          refine k_iload_n rfl ?_
          refine k_iload_n rfl ?_
          have z13 := tiC v84_2
          refine k_isub (by omega) (by omega) (fun x11 h12 => ?_)
          refine k_ireturn (fun hz => absurd hz (by decide)) ?_
          have X14 : ExC [998] σ0 σ1 := ExC.rf.tr (e3.mo (by decide))
          exact ⟨_, rfl, H2, X14, (by omega)⟩
        · refine k_nil ?_
          refine hB _ _ _ _ (kgoC (is := KX9_cutName_91) rfl ?_)
          refine k_aload_n rfl ?_
          have t15 := h_0_0.x e3
          obtain ⟨a18, e16, c17, t19, l20⟩ := cg306 H2.1 t15
          refine k_get kg306 t15 e16 ?_
          refine k_iload rfl ?_
          refine k_laload t19 (by omega) (by omega) (fun y21 => ?_)
          refine k_lload_n rfl ?_
          refine k_lcmp (fun x22 h23 g24 => ?_)
          refine k_if_ne (fun h25 => ?_) (fun h25 => ?_)
          · refine hB _ _ _ _ (kgoC (is := KX9_cutName_117) rfl ?_)
            obtain ⟨x26, e28, h27⟩ := iincC (n := 1) (m := 1) (v := v84_5) rfl (by omega) (by omega)
            refine k_iinc (ls' := [(5, .inl x26), (0, .inr (.inr (some p0))), (1, .inl p1), (2, .inl v84_2), (3, .inr (.inl v84_3))]) rfl e28 rfl ?_
            refine k_goto ?_
            have X29 : ExC [998] σ0 σ1 := ExC.rf.tr (e3.mo (by decide))
            exact hW _ _ _ _ _ (List.forall_mem_cons.2 ⟨List.Mem.tail _ (List.Mem.head _), (List.forall_mem_cons.2 ⟨List.Mem.tail _ (List.Mem.tail _ (List.Mem.head _)), (List.forall_mem_cons.2 ⟨List.Mem.tail _ (List.Mem.tail _ (List.Mem.tail _ (List.Mem.head _))), (List.forall_mem_cons.2 ⟨List.Mem.tail _ (List.Mem.tail _ (List.Mem.tail _ (List.Mem.tail _ (List.Mem.head _)))), (List.forall_mem_cons.2 ⟨List.Mem.head _, fun _ h => absurd h List.not_mem_nil⟩)⟩)⟩)⟩)⟩) (ih84 ((2147483647 - x26.toInt).toNat) (by omega) σ1 v84_2 v84_3 x26 rfl H2 X29 (by omega) (by omega) (by omega) (by omega))
          · refine k_nil ?_
            refine hB _ _ _ _ (kgoC (is := KX9_cutName_103) rfl ?_)
            refine k_aload_n rfl ?_
            obtain ⟨a32, e30, c31, t33, l34, l35⟩ := cg302 H2.1 t15
            refine k_get kg302 t15 e30 ?_
            refine k_aload_n rfl ?_
            obtain ⟨x38, e36, c37, h39, h40⟩ := cg305 H2.1 t15
            refine k_get kg305 t15 e36 ?_
            refine k_bipush (m := 50) rfl (fun x41 h42 => ?_)
            refine k_iload rfl ?_
            refine k_iadd (by omega) (by omega) (fun x43 h44 => ?_)
            refine k_iastore2 H2 t33 l35 (by omega) (by omega) (fun σ45 H46 e47 c48 => ?_)
            refine k_nil ?_
            refine hB _ _ _ _ (kgoC (is := KX9_cutName_117) rfl ?_)
            obtain ⟨x49, e51, h50⟩ := iincC (n := 1) (m := 1) (v := v84_5) rfl (by omega) (by omega)
            refine k_iinc (ls' := [(5, .inl x49), (0, .inr (.inr (some p0))), (1, .inl p1), (2, .inl v84_2), (3, .inr (.inl v84_3))]) rfl e51 rfl ?_
            refine k_goto ?_
            have X52 : ExC [998] σ0 σ1 := ExC.rf.tr (e3.mo (by decide))
            have X53 : ExC [998] σ0 σ45 := X52.tr (e47.mo (by decide))
            exact hW _ _ _ _ _ (List.forall_mem_cons.2 ⟨List.Mem.tail _ (List.Mem.head _), (List.forall_mem_cons.2 ⟨List.Mem.tail _ (List.Mem.tail _ (List.Mem.head _)), (List.forall_mem_cons.2 ⟨List.Mem.tail _ (List.Mem.tail _ (List.Mem.tail _ (List.Mem.head _))), (List.forall_mem_cons.2 ⟨List.Mem.tail _ (List.Mem.tail _ (List.Mem.tail _ (List.Mem.tail _ (List.Mem.head _)))), (List.forall_mem_cons.2 ⟨List.Mem.head _, fun _ h => absurd h List.not_mem_nil⟩)⟩)⟩)⟩)⟩) (ih84 ((2147483647 - x49.toInt).toNat) (by omega) σ45 v84_2 v84_3 x49 rfl H46 X53 (by omega) (by omega) (by omega) (by omega))
    have L4 : ∀ (n4 : Nat), ∀ (σ54 : CsC) (v4_2 : Int32) (v4_3 : Int64), (2147483647 - v4_2.toInt).toNat = n4 → HIC σ54 → ExC [998] σ0 σ54 → 0 ≤ v4_2.toInt → G 4 [(0, .inr (.inr (some p0))), (1, .inl p1), (2, .inl v4_2), (3, .inr (.inl v4_3))] [] σ54 := by
      intro n4
      induction n4 using Nat.strongRecOn with
      | _ n4 ih4 =>
        intro σ54 v4_2 v4_3 n4_ H55 e56 h57
        refine hB _ _ _ _ (kgoC (is := KX9_cutName_4) rfl ?_)
        refine k_iload_n rfl ?_
        refine k_aload_n rfl ?_
        have t58 := h_0_0.x e56
        obtain ⟨x61, e59, c60, h62, h63⟩ := cg308 H55.1 t58
        refine k_get kg308 t58 e59 ?_
        refine k_ic_ge (fun h64 => ?_) (fun h64 => ?_)
        · refine hB _ _ _ _ (kgoC (is := KX9_cutName_50) rfl ?_)
          refine k_iload_n rfl ?_
          refine k_iload_n rfl ?_
          have z67 := tiC v4_2
          refine k_isub (by omega) (by omega) (fun x65 h66 => ?_)
          refine k_bipush (m := 10) rfl (fun x68 h69 => ?_)
          refine k_ic_le (fun h70 => ?_) (fun h70 => ?_)
          · refine hB _ _ _ _ (kgoC (is := KX9_cutName_60) rfl ?_)
            refine k_aload_n rfl ?_
            obtain ⟨a73, e71, c72, t74, l75, l76⟩ := cg302 H55.1 t58
            refine k_get kg302 t58 e71 ?_
            refine k_aload_n rfl ?_
            obtain ⟨x79, e77, c78, h80, h81⟩ := cg305 H55.1 t58
            refine k_get kg305 t58 e77 ?_
            refine k_bipush (m := 80) rfl (fun x82 h83 => ?_)
            refine k_iastore2 H55 t74 l76 (by omega) (by omega) (fun σ84 H85 e86 c87 => ?_)
            refine k_aload_n rfl ?_
            have t88 := t58.x e86
            obtain ⟨a91, e89, c90, t92, l93⟩ := cg304 H85.1 t88
            refine k_get kg304 t88 e89 ?_
            refine k_aload_n rfl ?_
            have c94 := (t58.mi e86 (by decide)).trans c78
            refine k_get kg305 t88 (congrArg (Sum.inl : Int32 → AvC) c94) ?_
            refine k_lload_n rfl ?_
            refine k_lastore H85 t92 (by omega) (by omega) (fun σ95 H96 e97 => ?_)
            refine k_iconst (m := 0) rfl (fun x98 h99 => ?_)
            refine k_istore (ls' := [(5, .inl x98), (0, .inr (.inr (some p0))), (1, .inl p1), (2, .inl v4_2), (3, .inr (.inl v4_3))]) rfl ?_
            refine k_nil ?_
            have X100 : ExC [998] σ0 σ54 := ExC.rf.tr (e56.mo (by decide))
            have X101 : ExC [998] σ0 σ84 := X100.tr (e86.mo (by decide))
            have X102 : ExC [998] σ0 σ95 := X101.tr (e97.mo (by decide))
            exact hW _ _ _ _ _ (List.forall_mem_cons.2 ⟨List.Mem.tail _ (List.Mem.head _), (List.forall_mem_cons.2 ⟨List.Mem.tail _ (List.Mem.tail _ (List.Mem.head _)), (List.forall_mem_cons.2 ⟨List.Mem.tail _ (List.Mem.tail _ (List.Mem.tail _ (List.Mem.head _))), (List.forall_mem_cons.2 ⟨List.Mem.tail _ (List.Mem.tail _ (List.Mem.tail _ (List.Mem.tail _ (List.Mem.head _)))), (List.forall_mem_cons.2 ⟨List.Mem.head _, fun _ h => absurd h List.not_mem_nil⟩)⟩)⟩)⟩)⟩) (L84 _ σ95 v4_2 v4_3 x98 rfl H96 X102 (by omega) (by omega) (by omega) (by omega))
          · refine k_nil ?_
            refine hB _ _ _ _ (kgoC (is := KX9_cutName_58) rfl ?_)
            refine k_iconst (m := 0) rfl (fun x103 h104 => ?_)
            refine k_ireturn (fun hz => absurd hz (by decide)) ?_
            have X105 : ExC [998] σ0 σ54 := ExC.rf.tr (e56.mo (by decide))
            exact ⟨_, rfl, H55, X105, (by omega)⟩
        · refine k_nil ?_
          refine hB _ _ _ _ (kgoC (is := KX9_cutName_12) rfl ?_)
          refine k_aload_n rfl ?_
          refine k_iload_n rfl ?_
          refine k_inv (P := P_X9_byteAt) (Q := Q_X9_byteAt) rfl rfl rfl rfl (Nat.le_of_ble_eq_true rfl) (t58.rc (by decide)) ⟨_, _, rfl, H55, t58⟩ (fun w106 σ107 q108 => ?_)
          obtain ⟨x109, rfl, rfl⟩ := q108
          refine k_st (st' := [.inl x109]) rfl ?_
          refine k_stat (P := P_X9_isLetter) (Q := Q_X9_isLetter) rfl rfl (Nat.le_of_ble_eq_true rfl) rfl rfl (Nat.le_of_ble_eq_true rfl) ⟨_, rfl, H55⟩ (fun w110 σ111 q112 => ?_)
          obtain ⟨x113, rfl, rfl, h114, h115⟩ := q112
          refine k_st (st' := [.inl x113]) rfl ?_
          refine k_if_ne (fun h116 => ?_) (fun h116 => ?_)
          · refine hB _ _ _ _ (kgoC (is := KX9_cutName_34) rfl ?_)
            refine k_lload_n rfl ?_
            refine k_aload_n rfl ?_
            refine k_iload_n rfl ?_
            refine k_inv (P := P_X9_byteAt) (Q := Q_X9_byteAt) rfl rfl rfl rfl (Nat.le_of_ble_eq_true rfl) (t58.rc (by decide)) ⟨_, _, rfl, H55, t58⟩ (fun w117 σ118 q119 => ?_)
            obtain ⟨x120, rfl, rfl⟩ := q119
            refine k_st (st' := [.inl x120, .inr (.inl v4_3)]) rfl ?_
            refine k_stat (P := P_X9_longerKey) (Q := Q_X9_longerKey) rfl rfl (Nat.le_of_ble_eq_true rfl) rfl rfl (Nat.le_of_ble_eq_true rfl) ⟨_, _, rfl, H55⟩ (fun w121 σ122 q123 => ?_)
            obtain ⟨y124, rfl, rfl⟩ := q123
            refine k_st (st' := [.inr (.inl y124)]) rfl ?_
            refine k_lstore_n (ls' := [(3, .inr (.inl y124)), (0, .inr (.inr (some p0))), (1, .inl p1), (2, .inl v4_2)]) rfl ?_
            obtain ⟨x125, e127, h126⟩ := iincC (n := 1) (m := 1) (v := v4_2) rfl (by omega) (by omega)
            refine k_iinc (ls' := [(2, .inl x125), (3, .inr (.inl y124)), (0, .inr (.inr (some p0))), (1, .inl p1)]) rfl e127 rfl ?_
            refine k_goto ?_
            have X128 : ExC [998] σ0 σ54 := ExC.rf.tr (e56.mo (by decide))
            exact hW _ _ _ _ _ (List.forall_mem_cons.2 ⟨List.Mem.tail _ (List.Mem.tail _ (List.Mem.head _)), (List.forall_mem_cons.2 ⟨List.Mem.tail _ (List.Mem.tail _ (List.Mem.tail _ (List.Mem.head _))), (List.forall_mem_cons.2 ⟨List.Mem.head _, (List.forall_mem_cons.2 ⟨List.Mem.tail _ (List.Mem.head _), fun _ h => absurd h List.not_mem_nil⟩)⟩)⟩)⟩) (ih4 ((2147483647 - x125.toInt).toNat) (by omega) σ54 x125 y124 rfl H55 X128 (by omega))
          · refine k_nil ?_
            refine hB _ _ _ _ (kgoC (is := KX9_cutName_23) rfl ?_)
            refine k_aload_n rfl ?_
            refine k_iload_n rfl ?_
            refine k_inv (P := P_X9_byteAt) (Q := Q_X9_byteAt) rfl rfl rfl rfl (Nat.le_of_ble_eq_true rfl) (t58.rc (by decide)) ⟨_, _, rfl, H55, t58⟩ (fun w129 σ130 q131 => ?_)
            obtain ⟨x132, rfl, rfl⟩ := q131
            refine k_st (st' := [.inl x132]) rfl ?_
            refine k_stat (P := P_X9_isDigit) (Q := Q_X9_isDigit) rfl rfl (Nat.le_of_ble_eq_true rfl) rfl rfl (Nat.le_of_ble_eq_true rfl) ⟨_, rfl, H55⟩ (fun w133 σ134 q135 => ?_)
            obtain ⟨x136, rfl, rfl, h137, h138⟩ := q135
            refine k_st (st' := [.inl x136]) rfl ?_
            refine k_if_eq (fun h139 => ?_) (fun h139 => ?_)
            · refine hB _ _ _ _ (kgoC (is := KX9_cutName_50) rfl ?_)
              refine k_iload_n rfl ?_
              refine k_iload_n rfl ?_
              refine k_isub (by omega) (by omega) (fun x140 h141 => ?_)
              refine k_bipush (m := 10) rfl (fun x142 h143 => ?_)
              refine k_ic_le (fun h144 => ?_) (fun h144 => ?_)
              · refine hB _ _ _ _ (kgoC (is := KX9_cutName_60) rfl ?_)
                refine k_aload_n rfl ?_
                obtain ⟨a147, e145, c146, t148, l149, l150⟩ := cg302 H55.1 t58
                refine k_get kg302 t58 e145 ?_
                refine k_aload_n rfl ?_
                obtain ⟨x153, e151, c152, h154, h155⟩ := cg305 H55.1 t58
                refine k_get kg305 t58 e151 ?_
                refine k_bipush (m := 80) rfl (fun x156 h157 => ?_)
                refine k_iastore2 H55 t148 l150 (by omega) (by omega) (fun σ158 H159 e160 c161 => ?_)
                refine k_aload_n rfl ?_
                have t162 := t58.x e160
                obtain ⟨a165, e163, c164, t166, l167⟩ := cg304 H159.1 t162
                refine k_get kg304 t162 e163 ?_
                refine k_aload_n rfl ?_
                have c168 := (t58.mi e160 (by decide)).trans c152
                refine k_get kg305 t162 (congrArg (Sum.inl : Int32 → AvC) c168) ?_
                refine k_lload_n rfl ?_
                refine k_lastore H159 t166 (by omega) (by omega) (fun σ169 H170 e171 => ?_)
                refine k_iconst (m := 0) rfl (fun x172 h173 => ?_)
                refine k_istore (ls' := [(5, .inl x172), (0, .inr (.inr (some p0))), (1, .inl p1), (2, .inl v4_2), (3, .inr (.inl v4_3))]) rfl ?_
                refine k_nil ?_
                have X174 : ExC [998] σ0 σ54 := ExC.rf.tr (e56.mo (by decide))
                have X175 : ExC [998] σ0 σ158 := X174.tr (e160.mo (by decide))
                have X176 : ExC [998] σ0 σ169 := X175.tr (e171.mo (by decide))
                exact hW _ _ _ _ _ (List.forall_mem_cons.2 ⟨List.Mem.tail _ (List.Mem.head _), (List.forall_mem_cons.2 ⟨List.Mem.tail _ (List.Mem.tail _ (List.Mem.head _)), (List.forall_mem_cons.2 ⟨List.Mem.tail _ (List.Mem.tail _ (List.Mem.tail _ (List.Mem.head _))), (List.forall_mem_cons.2 ⟨List.Mem.tail _ (List.Mem.tail _ (List.Mem.tail _ (List.Mem.tail _ (List.Mem.head _)))), (List.forall_mem_cons.2 ⟨List.Mem.head _, fun _ h => absurd h List.not_mem_nil⟩)⟩)⟩)⟩)⟩) (L84 _ σ169 v4_2 v4_3 x172 rfl H170 X176 (by omega) (by omega) (by omega) (by omega))
              · refine k_nil ?_
                refine hB _ _ _ _ (kgoC (is := KX9_cutName_58) rfl ?_)
                refine k_iconst (m := 0) rfl (fun x177 h178 => ?_)
                refine k_ireturn (fun hz => absurd hz (by decide)) ?_
                have X179 : ExC [998] σ0 σ54 := ExC.rf.tr (e56.mo (by decide))
                exact ⟨_, rfl, H55, X179, (by omega)⟩
            · refine k_nil ?_
              refine hB _ _ _ _ (kgoC (is := KX9_cutName_34) rfl ?_)
              refine k_lload_n rfl ?_
              refine k_aload_n rfl ?_
              refine k_iload_n rfl ?_
              refine k_inv (P := P_X9_byteAt) (Q := Q_X9_byteAt) rfl rfl rfl rfl (Nat.le_of_ble_eq_true rfl) (t58.rc (by decide)) ⟨_, _, rfl, H55, t58⟩ (fun w180 σ181 q182 => ?_)
              obtain ⟨x183, rfl, rfl⟩ := q182
              refine k_st (st' := [.inl x183, .inr (.inl v4_3)]) rfl ?_
              refine k_stat (P := P_X9_longerKey) (Q := Q_X9_longerKey) rfl rfl (Nat.le_of_ble_eq_true rfl) rfl rfl (Nat.le_of_ble_eq_true rfl) ⟨_, _, rfl, H55⟩ (fun w184 σ185 q186 => ?_)
              obtain ⟨y187, rfl, rfl⟩ := q186
              refine k_st (st' := [.inr (.inl y187)]) rfl ?_
              refine k_lstore_n (ls' := [(3, .inr (.inl y187)), (0, .inr (.inr (some p0))), (1, .inl p1), (2, .inl v4_2)]) rfl ?_
              obtain ⟨x188, e190, h189⟩ := iincC (n := 1) (m := 1) (v := v4_2) rfl (by omega) (by omega)
              refine k_iinc (ls' := [(2, .inl x188), (3, .inr (.inl y187)), (0, .inr (.inr (some p0))), (1, .inl p1)]) rfl e190 rfl ?_
              refine k_goto ?_
              have X191 : ExC [998] σ0 σ54 := ExC.rf.tr (e56.mo (by decide))
              exact hW _ _ _ _ _ (List.forall_mem_cons.2 ⟨List.Mem.tail _ (List.Mem.tail _ (List.Mem.head _)), (List.forall_mem_cons.2 ⟨List.Mem.tail _ (List.Mem.tail _ (List.Mem.tail _ (List.Mem.head _))), (List.forall_mem_cons.2 ⟨List.Mem.head _, (List.forall_mem_cons.2 ⟨List.Mem.tail _ (List.Mem.head _), fun _ h => absurd h List.not_mem_nil⟩)⟩)⟩)⟩) (ih4 ((2147483647 - x188.toInt).toNat) (by omega) σ54 x188 y187 rfl H55 X191 (by omega))
    refine hB _ _ _ _ (kgoC (is := KX9_cutName_0) rfl ?_)
    refine k_iload_n rfl ?_
    refine k_istore_n (ls' := [(2, .inl p1), (0, .inr (.inr (some p0))), (1, .inl p1)]) rfl ?_
    refine k_lconst ?_
    refine k_lstore_n (ls' := [(3, .inr (.inl (Int64.ofNat ((0 : Fin 2) : Nat)))), (2, .inl p1), (0, .inr (.inr (some p0))), (1, .inl p1)]) rfl ?_
    refine k_nil ?_
    exact hW _ _ _ _ _ (List.forall_mem_cons.2 ⟨List.Mem.tail _ (List.Mem.tail _ (List.Mem.head _)), (List.forall_mem_cons.2 ⟨List.Mem.tail _ (List.Mem.tail _ (List.Mem.tail _ (List.Mem.head _))), (List.forall_mem_cons.2 ⟨List.Mem.tail _ (List.Mem.head _), (List.forall_mem_cons.2 ⟨List.Mem.head _, fun _ h => absurd h List.not_mem_nil⟩)⟩)⟩)⟩) (L4 _ σ0 p1 (Int64.ofNat ((0 : Fin 2) : Nat)) rfl H0 ExC.rf (by omega))

abbrev P_X9_cutNumber : CpC := fun As σ => ∃ (p0 : Nat) (p1 : Int32), As = [.inr (.inr (some p0)), .inl p1] ∧ HIC σ ∧ TyC σ p0 10 ∧ 0 ≤ p1.toInt ∧ p1.toInt ≤ 2500
abbrev Q_X9_cutNumber : CqC := fun As σ w τ => match As with
  | [.inr (.inr (some p0)), .inl p1] => ∃ r : Int32, w = some (.inl r) ∧ HIC τ ∧ ExC [998] σ τ ∧ r.toInt ≤ 20000
  | _ => False
set_option maxRecDepth 100000 in
set_option maxHeartbeats 4000000 in
theorem m_X9_cutNumber (l : Launch) : CMetC l 2 195 P_X9_cutNumber Q_X9_cutNumber := by
  refine CMetC.of KX9_cutNumber [(189, P_X9_byteAt, Q_X9_byteAt), (193, P_X9_isDigit, Q_X9_isDigit)] hX9_cutNumber (by decide) (by decide) okX9_cutNumber (cc1C (m_X9_byteAt l) (by decide) (cc1C (m_X9_isDigit l) (by decide) cc0C)) ?_ ?_
  · rintro As σ ⟨p0, p1, rfl, -⟩
    exact Nat.le_of_ble_eq_true rfl
  · rintro As σ0 ⟨p0, p1, rfl, H0, h_0_0, h_1_0, h_1_1⟩ hgr G hB hW
    change G 0 [(0, .inr (.inr (some p0))), (1, .inl p1)] [] σ0
    have L4 : ∀ (n4 : Nat), ∀ (σ1 : CsC) (v4_2 : Int32) (v4_3 : Int64), (2147483647 - v4_2.toInt).toNat = n4 → HIC σ1 → ExC [998] σ0 σ1 → 0 ≤ v4_2.toInt → G 4 [(0, .inr (.inr (some p0))), (1, .inl p1), (2, .inl v4_2), (3, .inr (.inl v4_3))] [] σ1 := by
      intro n4
      induction n4 using Nat.strongRecOn with
      | _ n4 ih4 =>
        intro σ1 v4_2 v4_3 n4_ H2 e3 h4
        refine hB _ _ _ _ (kgoC (is := KX9_cutNumber_4) rfl ?_)
        refine k_iload_n rfl ?_
        refine k_aload_n rfl ?_
        have t5 := h_0_0.x e3
        obtain ⟨x8, e6, c7, h9, h10⟩ := cg308 H2.1 t5
        refine k_get kg308 t5 e6 ?_
        refine k_ic_ge (fun h11 => ?_) (fun h11 => ?_)
        · refine hB _ _ _ _ (kgoC (is := KX9_cutNumber_45) rfl ?_)
          refine k_iload_n rfl ?_
          refine k_iload_n rfl ?_
          have z14 := tiC v4_2
          refine k_isub (by omega) (by omega) (fun x12 h13 => ?_)
          refine k_bipush (m := 19) rfl (fun x15 h16 => ?_)
          refine k_ic_le (fun h17 => ?_) (fun h17 => ?_)
          · refine hB _ _ _ _ (kgoC (is := KX9_cutNumber_55) rfl ?_)
            refine k_aload_n rfl ?_
            obtain ⟨a20, e18, c19, t21, l22⟩ := cg304 H2.1 t5
            refine k_get kg304 t5 e18 ?_
            refine k_aload_n rfl ?_
            obtain ⟨x25, e23, c24, h26, h27⟩ := cg305 H2.1 t5
            refine k_get kg305 t5 e23 ?_
            refine k_lload_n rfl ?_
            refine k_lastore H2 t21 (by omega) (by omega) (fun σ28 H29 e30 => ?_)
            refine k_aload_n rfl ?_
            have t31 := t5.x e30
            obtain ⟨a34, e32, c33, t35, l36, l37⟩ := cg302 H29.1 t31
            refine k_get kg302 t31 e32 ?_
            refine k_aload_n rfl ?_
            have c38 := (t5.mi e30 (by decide)).trans c24
            refine k_get kg305 t31 (congrArg (Sum.inl : Int32 → AvC) c38) ?_
            refine k_bipush (m := 81) rfl (fun x39 h40 => ?_)
            refine k_iastore2 H29 t35 l37 (by omega) (by omega) (fun σ41 H42 e43 c44 => ?_)
            refine k_aload_n rfl ?_
            refine k_iload_n rfl ?_
            have t45 := t31.x e43
            refine k_inv (P := P_X9_byteAt) (Q := Q_X9_byteAt) rfl rfl rfl rfl (Nat.le_of_ble_eq_true rfl) (t45.rc (by decide)) ⟨_, _, rfl, H42, t45⟩ (fun w46 σ47 q48 => ?_)
            obtain ⟨x49, rfl, rfl⟩ := q48
            refine k_st (st' := [.inl x49]) rfl ?_
            refine k_bipush (m := 76) rfl (fun x50 h51 => ?_)
            refine k_ic_ne (fun h52 => ?_) (fun h52 => ?_)
            · refine hB _ _ _ _ (kgoC (is := KX9_cutNumber_100) rfl ?_)
              refine k_iload_n rfl ?_
              refine k_iload_n rfl ?_
              have z55 := tiC v4_2
              refine k_isub (by omega) (by omega) (fun x53 h54 => ?_)
              refine k_ireturn (fun hz => absurd hz (by decide)) ?_
              have X56 : ExC [998] σ0 σ1 := ExC.rf.tr (e3.mo (by decide))
              have X57 : ExC [998] σ0 σ28 := X56.tr (e30.mo (by decide))
              have X58 : ExC [998] σ0 σ41 := X57.tr (e43.mo (by decide))
              exact ⟨_, rfl, H42, X58, (by omega)⟩
            · refine k_nil ?_
              refine hB _ _ _ _ (kgoC (is := KX9_cutNumber_86) rfl ?_)
              refine k_aload_n rfl ?_
              have c59 := (t31.mr e43 (by decide)).trans c33
              refine k_get kg302 t45 (congrArg (fun z : Option Nat => (Sum.inr (Sum.inr z) : AvC)) c59) ?_
              refine k_aload_n rfl ?_
              have c60 := (t31.mi e43 (by decide)).trans c38
              refine k_get kg305 t45 (congrArg (Sum.inl : Int32 → AvC) c60) ?_
              refine k_bipush (m := 82) rfl (fun x61 h62 => ?_)
              have t63 := t35.x e43
              have l64 := (t35.al e43).trans l36
              have l69 := (t35.gh e43).trans l37
              refine k_iastore2 H42 t63 l69 (by omega) (by omega) (fun σ65 H66 e67 c68 => ?_)
              have z73 := tiC v4_2
              obtain ⟨x70, e72, h71⟩ := iincC (n := 1) (m := 1) (v := v4_2) rfl (by omega) (by omega)
              refine k_iinc (ls' := [(2, .inl x70), (0, .inr (.inr (some p0))), (1, .inl p1), (3, .inr (.inl v4_3))]) rfl e72 rfl ?_
              refine k_nil ?_
              refine hB _ _ _ _ (kgoC (is := KX9_cutNumber_100) rfl ?_)
              refine k_iload_n rfl ?_
              refine k_iload_n rfl ?_
              have z76 := tiC x70
              refine k_isub (by omega) (by omega) (fun x74 h75 => ?_)
              refine k_ireturn (fun hz => absurd hz (by decide)) ?_
              have X77 : ExC [998] σ0 σ1 := ExC.rf.tr (e3.mo (by decide))
              have X78 : ExC [998] σ0 σ28 := X77.tr (e30.mo (by decide))
              have X79 : ExC [998] σ0 σ41 := X78.tr (e43.mo (by decide))
              have X80 : ExC [998] σ0 σ65 := X79.tr (e67.mo (by decide))
              exact ⟨_, rfl, H66, X80, (by omega)⟩
          · refine k_nil ?_
            refine hB _ _ _ _ (kgoC (is := KX9_cutNumber_53) rfl ?_)
            refine k_iconst (m := 0) rfl (fun x81 h82 => ?_)
            refine k_ireturn (fun hz => absurd hz (by decide)) ?_
            have X83 : ExC [998] σ0 σ1 := ExC.rf.tr (e3.mo (by decide))
            exact ⟨_, rfl, H2, X83, (by omega)⟩
        · refine k_nil ?_
          refine hB _ _ _ _ (kgoC (is := KX9_cutNumber_12) rfl ?_)
          refine k_aload_n rfl ?_
          refine k_iload_n rfl ?_
          refine k_inv (P := P_X9_byteAt) (Q := Q_X9_byteAt) rfl rfl rfl rfl (Nat.le_of_ble_eq_true rfl) (t5.rc (by decide)) ⟨_, _, rfl, H2, t5⟩ (fun w84 σ85 q86 => ?_)
          obtain ⟨x87, rfl, rfl⟩ := q86
          refine k_st (st' := [.inl x87]) rfl ?_
          refine k_stat (P := P_X9_isDigit) (Q := Q_X9_isDigit) rfl rfl (Nat.le_of_ble_eq_true rfl) rfl rfl (Nat.le_of_ble_eq_true rfl) ⟨_, rfl, H2⟩ (fun w88 σ89 q90 => ?_)
          obtain ⟨x91, rfl, rfl, h92, h93⟩ := q90
          refine k_st (st' := [.inl x91]) rfl ?_
          refine k_if_eq (fun h94 => ?_) (fun h94 => ?_)
          · refine hB _ _ _ _ (kgoC (is := KX9_cutNumber_45) rfl ?_)
            refine k_iload_n rfl ?_
            refine k_iload_n rfl ?_
            refine k_isub (by omega) (by omega) (fun x95 h96 => ?_)
            refine k_bipush (m := 19) rfl (fun x97 h98 => ?_)
            refine k_ic_le (fun h99 => ?_) (fun h99 => ?_)
            · refine hB _ _ _ _ (kgoC (is := KX9_cutNumber_55) rfl ?_)
              refine k_aload_n rfl ?_
              obtain ⟨a102, e100, c101, t103, l104⟩ := cg304 H2.1 t5
              refine k_get kg304 t5 e100 ?_
              refine k_aload_n rfl ?_
              obtain ⟨x107, e105, c106, h108, h109⟩ := cg305 H2.1 t5
              refine k_get kg305 t5 e105 ?_
              refine k_lload_n rfl ?_
              refine k_lastore H2 t103 (by omega) (by omega) (fun σ110 H111 e112 => ?_)
              refine k_aload_n rfl ?_
              have t113 := t5.x e112
              obtain ⟨a116, e114, c115, t117, l118, l119⟩ := cg302 H111.1 t113
              refine k_get kg302 t113 e114 ?_
              refine k_aload_n rfl ?_
              have c120 := (t5.mi e112 (by decide)).trans c106
              refine k_get kg305 t113 (congrArg (Sum.inl : Int32 → AvC) c120) ?_
              refine k_bipush (m := 81) rfl (fun x121 h122 => ?_)
              refine k_iastore2 H111 t117 l119 (by omega) (by omega) (fun σ123 H124 e125 c126 => ?_)
              refine k_aload_n rfl ?_
              refine k_iload_n rfl ?_
              have t127 := t113.x e125
              refine k_inv (P := P_X9_byteAt) (Q := Q_X9_byteAt) rfl rfl rfl rfl (Nat.le_of_ble_eq_true rfl) (t127.rc (by decide)) ⟨_, _, rfl, H124, t127⟩ (fun w128 σ129 q130 => ?_)
              obtain ⟨x131, rfl, rfl⟩ := q130
              refine k_st (st' := [.inl x131]) rfl ?_
              refine k_bipush (m := 76) rfl (fun x132 h133 => ?_)
              refine k_ic_ne (fun h134 => ?_) (fun h134 => ?_)
              · refine hB _ _ _ _ (kgoC (is := KX9_cutNumber_100) rfl ?_)
                refine k_iload_n rfl ?_
                refine k_iload_n rfl ?_
                refine k_isub (by omega) (by omega) (fun x135 h136 => ?_)
                refine k_ireturn (fun hz => absurd hz (by decide)) ?_
                have X137 : ExC [998] σ0 σ1 := ExC.rf.tr (e3.mo (by decide))
                have X138 : ExC [998] σ0 σ110 := X137.tr (e112.mo (by decide))
                have X139 : ExC [998] σ0 σ123 := X138.tr (e125.mo (by decide))
                exact ⟨_, rfl, H124, X139, (by omega)⟩
              · refine k_nil ?_
                refine hB _ _ _ _ (kgoC (is := KX9_cutNumber_86) rfl ?_)
                refine k_aload_n rfl ?_
                have c140 := (t113.mr e125 (by decide)).trans c115
                refine k_get kg302 t127 (congrArg (fun z : Option Nat => (Sum.inr (Sum.inr z) : AvC)) c140) ?_
                refine k_aload_n rfl ?_
                have c141 := (t113.mi e125 (by decide)).trans c120
                refine k_get kg305 t127 (congrArg (Sum.inl : Int32 → AvC) c141) ?_
                refine k_bipush (m := 82) rfl (fun x142 h143 => ?_)
                have t144 := t117.x e125
                have l145 := (t117.al e125).trans l118
                have l150 := (t117.gh e125).trans l119
                refine k_iastore2 H124 t144 l150 (by omega) (by omega) (fun σ146 H147 e148 c149 => ?_)
                obtain ⟨x151, e153, h152⟩ := iincC (n := 1) (m := 1) (v := v4_2) rfl (by omega) (by omega)
                refine k_iinc (ls' := [(2, .inl x151), (0, .inr (.inr (some p0))), (1, .inl p1), (3, .inr (.inl v4_3))]) rfl e153 rfl ?_
                refine k_nil ?_
                refine hB _ _ _ _ (kgoC (is := KX9_cutNumber_100) rfl ?_)
                refine k_iload_n rfl ?_
                refine k_iload_n rfl ?_
                have z156 := tiC x151
                refine k_isub (by omega) (by omega) (fun x154 h155 => ?_)
                refine k_ireturn (fun hz => absurd hz (by decide)) ?_
                have X157 : ExC [998] σ0 σ1 := ExC.rf.tr (e3.mo (by decide))
                have X158 : ExC [998] σ0 σ110 := X157.tr (e112.mo (by decide))
                have X159 : ExC [998] σ0 σ123 := X158.tr (e125.mo (by decide))
                have X160 : ExC [998] σ0 σ146 := X159.tr (e148.mo (by decide))
                exact ⟨_, rfl, H147, X160, (by omega)⟩
            · refine k_nil ?_
              refine hB _ _ _ _ (kgoC (is := KX9_cutNumber_53) rfl ?_)
              refine k_iconst (m := 0) rfl (fun x161 h162 => ?_)
              refine k_ireturn (fun hz => absurd hz (by decide)) ?_
              have X163 : ExC [998] σ0 σ1 := ExC.rf.tr (e3.mo (by decide))
              exact ⟨_, rfl, H2, X163, (by omega)⟩
          · refine k_nil ?_
            refine hB _ _ _ _ (kgoC (is := KX9_cutNumber_23) rfl ?_)
            refine k_lload_n rfl ?_
            refine k_ldc2_w ?_
            refine k_lmul (fun y164 => ?_)
            refine k_aload_n rfl ?_
            refine k_iload_n rfl ?_
            refine k_inv (P := P_X9_byteAt) (Q := Q_X9_byteAt) rfl rfl rfl rfl (Nat.le_of_ble_eq_true rfl) (t5.rc (by decide)) ⟨_, _, rfl, H2, t5⟩ (fun w165 σ166 q167 => ?_)
            obtain ⟨x168, rfl, rfl⟩ := q167
            refine k_st (st' := [.inl x168, .inr (.inl y164)]) rfl ?_
            refine k_bipush (m := 48) rfl (fun x169 h170 => ?_)
            have z173 := tiC x168
            refine k_isub_u (fun x171 => ?_)
            refine k_i2l (fun y174 => ?_)
            refine k_ladd (fun y175 => ?_)
            refine k_lstore_n (ls' := [(3, .inr (.inl y175)), (0, .inr (.inr (some p0))), (1, .inl p1), (2, .inl v4_2)]) rfl ?_
            obtain ⟨x176, e178, h177⟩ := iincC (n := 1) (m := 1) (v := v4_2) rfl (by omega) (by omega)
            refine k_iinc (ls' := [(2, .inl x176), (3, .inr (.inl y175)), (0, .inr (.inr (some p0))), (1, .inl p1)]) rfl e178 rfl ?_
            refine k_goto ?_
            have X179 : ExC [998] σ0 σ1 := ExC.rf.tr (e3.mo (by decide))
            exact hW _ _ _ _ _ (List.forall_mem_cons.2 ⟨List.Mem.tail _ (List.Mem.tail _ (List.Mem.head _)), (List.forall_mem_cons.2 ⟨List.Mem.tail _ (List.Mem.tail _ (List.Mem.tail _ (List.Mem.head _))), (List.forall_mem_cons.2 ⟨List.Mem.head _, (List.forall_mem_cons.2 ⟨List.Mem.tail _ (List.Mem.head _), fun _ h => absurd h List.not_mem_nil⟩)⟩)⟩)⟩) (ih4 ((2147483647 - x176.toInt).toNat) (by omega) σ1 x176 y175 rfl H2 X179 (by omega))
    refine hB _ _ _ _ (kgoC (is := KX9_cutNumber_0) rfl ?_)
    refine k_iload_n rfl ?_
    refine k_istore_n (ls' := [(2, .inl p1), (0, .inr (.inr (some p0))), (1, .inl p1)]) rfl ?_
    refine k_lconst ?_
    refine k_lstore_n (ls' := [(3, .inr (.inl (Int64.ofNat ((0 : Fin 2) : Nat)))), (2, .inl p1), (0, .inr (.inr (some p0))), (1, .inl p1)]) rfl ?_
    refine k_nil ?_
    exact hW _ _ _ _ _ (List.forall_mem_cons.2 ⟨List.Mem.tail _ (List.Mem.tail _ (List.Mem.head _)), (List.forall_mem_cons.2 ⟨List.Mem.tail _ (List.Mem.tail _ (List.Mem.tail _ (List.Mem.head _))), (List.forall_mem_cons.2 ⟨List.Mem.tail _ (List.Mem.head _), (List.forall_mem_cons.2 ⟨List.Mem.head _, fun _ h => absurd h List.not_mem_nil⟩)⟩)⟩)⟩) (L4 _ σ0 p1 (Int64.ofNat ((0 : Fin 2) : Nat)) rfl H0 ExC.rf (by omega))

abbrev P_X9_cutCharacter : CpC := fun As σ => ∃ (p0 : Nat) (p1 : Int32), As = [.inr (.inr (some p0)), .inl p1] ∧ HIC σ ∧ TyC σ p0 10
abbrev Q_X9_cutCharacter : CqC := fun As σ w τ => match As with
  | [.inr (.inr (some p0)), .inl p1] => ∃ r : Int32, w = some (.inl r) ∧ HIC τ ∧ ExC [998] σ τ ∧ r.toInt ≤ 20000
  | _ => False
set_option maxRecDepth 100000 in
set_option maxHeartbeats 4000000 in
theorem m_X9_cutCharacter (l : Launch) : CMetC l 2 196 P_X9_cutCharacter Q_X9_cutCharacter := by
  refine CMetC.of KX9_cutCharacter [(189, P_X9_byteAt, Q_X9_byteAt)] hX9_cutCharacter (by decide) (by decide) okX9_cutCharacter (cc1C (m_X9_byteAt l) (by decide) cc0C) ?_ ?_
  · rintro As σ ⟨p0, p1, rfl, -⟩
    exact Nat.le_of_ble_eq_true rfl
  · rintro As σ0 ⟨p0, p1, rfl, H0, h_0_0⟩ hgr G hB hW
    change G 0 [(0, .inr (.inr (some p0))), (1, .inl p1)] [] σ0
    refine hB _ _ _ _ (kgoC (is := KX9_cutCharacter_0) rfl ?_)
    refine k_aload_n rfl ?_
    refine k_iload_n rfl ?_
    refine k_iconst (m := 1) rfl (fun x1 h2 => ?_)
    have z5 := tiC p1
    refine k_iadd_u (fun x3 => ?_)
    refine k_inv (P := P_X9_byteAt) (Q := Q_X9_byteAt) rfl rfl rfl rfl (Nat.le_of_ble_eq_true rfl) (h_0_0.rc (by decide)) ⟨_, _, rfl, H0, h_0_0⟩ (fun w6 σ7 q8 => ?_)
    obtain ⟨x9, rfl, rfl⟩ := q8
    refine k_st (st' := [.inl x9]) rfl ?_
    refine k_istore_n (ls' := [(2, .inl x9), (0, .inr (.inr (some p0))), (1, .inl p1)]) rfl ?_
    refine k_iload_n rfl ?_
    refine k_bipush (m := 32) rfl (fun x10 h11 => ?_)
    refine k_ic_lt (fun h12 => ?_) (fun h12 => ?_)
    · refine hB _ _ _ _ (kgoC (is := KX9_cutCharacter_44) rfl ?_)
      refine k_iconst (m := 0) rfl (fun x13 h14 => ?_)
      refine k_ireturn (fun hz => absurd hz (by decide)) ?_
      exact ⟨_, rfl, H0, (ExC.rf : ExC [998] σ0 σ0), (by omega)⟩
    · refine k_nil ?_
      refine hB _ _ _ _ (kgoC (is := KX9_cutCharacter_14) rfl ?_)
      refine k_iload_n rfl ?_
      refine k_bipush (m := 126) rfl (fun x15 h16 => ?_)
      refine k_ic_gt (fun h17 => ?_) (fun h17 => ?_)
      · refine hB _ _ _ _ (kgoC (is := KX9_cutCharacter_44) rfl ?_)
        refine k_iconst (m := 0) rfl (fun x18 h19 => ?_)
        refine k_ireturn (fun hz => absurd hz (by decide)) ?_
        exact ⟨_, rfl, H0, (ExC.rf : ExC [998] σ0 σ0), (by omega)⟩
      · refine k_nil ?_
        refine hB _ _ _ _ (kgoC (is := KX9_cutCharacter_20) rfl ?_)
        refine k_iload_n rfl ?_
        refine k_bipush (m := 39) rfl (fun x20 h21 => ?_)
        refine k_ic_eq (fun h22 => ?_) (fun h22 => ?_)
        · refine hB _ _ _ _ (kgoC (is := KX9_cutCharacter_44) rfl ?_)
          refine k_iconst (m := 0) rfl (fun x23 h24 => ?_)
          refine k_ireturn (fun hz => absurd hz (by decide)) ?_
          exact ⟨_, rfl, H0, (ExC.rf : ExC [998] σ0 σ0), (by omega)⟩
        · refine k_nil ?_
          refine hB _ _ _ _ (kgoC (is := KX9_cutCharacter_26) rfl ?_)
          refine k_iload_n rfl ?_
          refine k_bipush (m := 92) rfl (fun x25 h26 => ?_)
          refine k_ic_eq (fun h27 => ?_) (fun h27 => ?_)
          · refine hB _ _ _ _ (kgoC (is := KX9_cutCharacter_44) rfl ?_)
            refine k_iconst (m := 0) rfl (fun x28 h29 => ?_)
            refine k_ireturn (fun hz => absurd hz (by decide)) ?_
            exact ⟨_, rfl, H0, (ExC.rf : ExC [998] σ0 σ0), (by omega)⟩
          · refine k_nil ?_
            refine hB _ _ _ _ (kgoC (is := KX9_cutCharacter_32) rfl ?_)
            refine k_aload_n rfl ?_
            refine k_iload_n rfl ?_
            refine k_iconst (m := 2) rfl (fun x30 h31 => ?_)
            have z34 := tiC p1
            refine k_iadd_u (fun x32 => ?_)
            refine k_inv (P := P_X9_byteAt) (Q := Q_X9_byteAt) rfl rfl rfl rfl (Nat.le_of_ble_eq_true rfl) (h_0_0.rc (by decide)) ⟨_, _, rfl, H0, h_0_0⟩ (fun w35 σ36 q37 => ?_)
            obtain ⟨x38, rfl, rfl⟩ := q37
            refine k_st (st' := [.inl x38]) rfl ?_
            refine k_bipush (m := 39) rfl (fun x39 h40 => ?_)
            refine k_ic_eq (fun h41 => ?_) (fun h41 => ?_)
            · refine hB _ _ _ _ (kgoC (is := KX9_cutCharacter_46) rfl ?_)
              refine k_aload_n rfl ?_
              obtain ⟨a44, e42, c43, t45, l46, l47⟩ := cg302 H0.1 h_0_0
              refine k_get kg302 h_0_0 e42 ?_
              refine k_aload_n rfl ?_
              obtain ⟨x50, e48, c49, h51, h52⟩ := cg305 H0.1 h_0_0
              refine k_get kg305 h_0_0 e48 ?_
              refine k_bipush (m := 83) rfl (fun x53 h54 => ?_)
              refine k_iastore2 H0 t45 l47 (by omega) (by omega) (fun σ55 H56 e57 c58 => ?_)
              refine k_aload_n rfl ?_
              have t59 := h_0_0.x e57
              obtain ⟨a62, e60, c61, t63, l64⟩ := cg304 H56.1 t59
              refine k_get kg304 t59 e60 ?_
              refine k_aload_n rfl ?_
              have c65 := (h_0_0.mi e57 (by decide)).trans c49
              refine k_get kg305 t59 (congrArg (Sum.inl : Int32 → AvC) c65) ?_
              refine k_iload_n rfl ?_
              refine k_i2l (fun y66 => ?_)
              refine k_lastore H56 t63 (by omega) (by omega) (fun σ67 H68 e69 => ?_)
              refine k_iconst (m := 3) rfl (fun x70 h71 => ?_)
              refine k_ireturn (fun hz => absurd hz (by decide)) ?_
              have X72 : ExC [998] σ0 σ55 := ExC.rf.tr (e57.mo (by decide))
              have X73 : ExC [998] σ0 σ67 := X72.tr (e69.mo (by decide))
              exact ⟨_, rfl, H68, X73, (by omega)⟩
            · refine k_nil ?_
              refine hB _ _ _ _ (kgoC (is := KX9_cutCharacter_44) rfl ?_)
              refine k_iconst (m := 0) rfl (fun x74 h75 => ?_)
              refine k_ireturn (fun hz => absurd hz (by decide)) ?_
              exact ⟨_, rfl, H0, (ExC.rf : ExC [998] σ0 σ0), (by omega)⟩

abbrev P_X9_standsThere : CpC := fun As σ => ∃ (p0 : Nat) (p1 : Int32) (p2 : Int32) (p3 : Int32), As = [.inr (.inr (some p0)), .inl p1, .inl p2, .inl p3] ∧ HIC σ ∧ TyC σ p0 10 ∧ 0 ≤ p1.toInt ∧ p1.toInt ≤ 20000 ∧ 0 ≤ p2.toInt ∧ p2.toInt ≤ 112
abbrev Q_X9_standsThere : CqC := fun As σ w τ => match As with
  | [.inr (.inr (some p0)), .inl p1, .inl p2, .inl p3] => ∃ r : Int32, w = some (.inl r) ∧ σ = τ ∧ 0 ≤ r.toInt ∧ r.toInt ≤ 1
  | _ => False
set_option maxRecDepth 100000 in
set_option maxHeartbeats 4000000 in
theorem m_X9_standsThere (l : Launch) : CMetC l 11 198 P_X9_standsThere Q_X9_standsThere := by
  refine CMetC.of KX9_standsThere [(238, P_J0_charAt_5068e, Q_J0_charAt_5068e), (189, P_X9_byteAt, Q_X9_byteAt)] hX9_standsThere (by decide) (by decide) okX9_standsThere (cc1C (m_J0_charAt_5068e l) (by decide) (cc1C (m_X9_byteAt l) (by decide) cc0C)) ?_ ?_
  · rintro As σ ⟨p0, p1, p2, p3, rfl, -⟩
    exact Nat.le_of_ble_eq_true rfl
  · rintro As σ0 ⟨p0, p1, p2, p3, rfl, H0, h_0_0, h_1_0, h_1_1, h_2_0, h_2_1⟩ hgr G hB hW
    change G 0 [(0, .inr (.inr (some p0))), (1, .inl p1), (2, .inl p2), (3, .inl p3)] [] σ0
    have L3 : ∀ (n3 : Nat), ∀ (v3_4 : Int32), (2147483647 - v3_4.toInt).toNat = n3 → 0 ≤ v3_4.toInt → v3_4.toInt ≤ 20000 → G 3 [(0, .inr (.inr (some p0))), (1, .inl p1), (2, .inl p2), (3, .inl p3), (4, .inl v3_4)] [] σ0 := by
      intro n3
      induction n3 using Nat.strongRecOn with
      | _ n3 ih3 =>
        intro v3_4 n3_ h1 h2
        refine hB _ _ _ _ (kgoC (is := KX9_standsThere_3) rfl ?_)
        refine k_iload rfl ?_
        refine k_iload_n rfl ?_
        refine k_ic_ge (fun h3 => ?_) (fun h3 => ?_)
        · refine hB _ _ _ _ (kgoC (is := KX9_standsThere_37) rfl ?_)
          refine k_iconst (m := 1) rfl (fun x4 h5 => ?_)
          refine k_ireturn (fun _ => b01C (by omega) (by omega)) ?_
          exact ⟨_, rfl, rfl, (by omega), (by omega)⟩
        · refine k_nil ?_
          refine hB _ _ _ _ (kgoC (is := KX9_standsThere_9) rfl ?_)
          refine k_ldcR rfl ?_
          refine k_iload rfl ?_
          have z6 : slnC 1000006 = 112 := rfl
          refine k_inv (P := P_J0_charAt_5068e) (Q := Q_J0_charAt_5068e) rfl rfl rfl rfl (Nat.le_of_ble_eq_true rfl) (Or.inr ⟨rfl, by omega, by omega⟩) ⟨_, _, rfl, H0, (by decide), (by omega), (by omega)⟩ (fun w7 σ8 q9 => ?_)
          obtain ⟨x10, rfl, rfl⟩ := q9
          refine k_st (st' := [.inl x10]) rfl ?_
          refine k_aload_n rfl ?_
          refine k_iload_n rfl ?_
          refine k_iload rfl ?_
          have z13 := tiC p3
          refine k_iadd_u (fun x11 => ?_)
          refine k_iload_n rfl ?_
          have z16 := tiC x11
          refine k_isub_u (fun x14 => ?_)
          refine k_inv (P := P_X9_byteAt) (Q := Q_X9_byteAt) rfl rfl rfl rfl (Nat.le_of_ble_eq_true rfl) (h_0_0.rc (by decide)) ⟨_, _, rfl, H0, h_0_0⟩ (fun w17 σ18 q19 => ?_)
          obtain ⟨x20, rfl, rfl⟩ := q19
          refine k_st (st' := [.inl x20, .inl x10]) rfl ?_
          refine k_ic_eq (fun h21 => ?_) (fun h21 => ?_)
          · refine hB _ _ _ _ (kgoC (is := KX9_standsThere_31) rfl ?_)
            obtain ⟨x22, e24, h23⟩ := iincC (n := 1) (m := 1) (v := v3_4) rfl (by omega) (by omega)
            refine k_iinc (ls' := [(4, .inl x22), (0, .inr (.inr (some p0))), (1, .inl p1), (2, .inl p2), (3, .inl p3)]) rfl e24 rfl ?_
            refine k_goto ?_
            exact hW _ _ _ _ _ (List.forall_mem_cons.2 ⟨List.Mem.tail _ (List.Mem.head _), (List.forall_mem_cons.2 ⟨List.Mem.tail _ (List.Mem.tail _ (List.Mem.head _)), (List.forall_mem_cons.2 ⟨List.Mem.tail _ (List.Mem.tail _ (List.Mem.tail _ (List.Mem.head _))), (List.forall_mem_cons.2 ⟨List.Mem.tail _ (List.Mem.tail _ (List.Mem.tail _ (List.Mem.tail _ (List.Mem.head _)))), (List.forall_mem_cons.2 ⟨List.Mem.head _, fun _ h => absurd h List.not_mem_nil⟩)⟩)⟩)⟩)⟩) (ih3 ((2147483647 - x22.toInt).toNat) (by omega) x22 rfl (by omega) (by omega))
          · refine k_nil ?_
            refine hB _ _ _ _ (kgoC (is := KX9_standsThere_29) rfl ?_)
            refine k_iconst (m := 0) rfl (fun x25 h26 => ?_)
            refine k_ireturn (fun _ => b01C (by omega) (by omega)) ?_
            exact ⟨_, rfl, rfl, (by omega), (by omega)⟩
    refine hB _ _ _ _ (kgoC (is := KX9_standsThere_0) rfl ?_)
    refine k_iload_n rfl ?_
    refine k_istore (ls' := [(4, .inl p1), (0, .inr (.inr (some p0))), (1, .inl p1), (2, .inl p2), (3, .inl p3)]) rfl ?_
    refine k_nil ?_
    exact hW _ _ _ _ _ (List.forall_mem_cons.2 ⟨List.Mem.tail _ (List.Mem.head _), (List.forall_mem_cons.2 ⟨List.Mem.tail _ (List.Mem.tail _ (List.Mem.head _)), (List.forall_mem_cons.2 ⟨List.Mem.tail _ (List.Mem.tail _ (List.Mem.tail _ (List.Mem.head _))), (List.forall_mem_cons.2 ⟨List.Mem.tail _ (List.Mem.tail _ (List.Mem.tail _ (List.Mem.tail _ (List.Mem.head _)))), (List.forall_mem_cons.2 ⟨List.Mem.head _, fun _ h => absurd h List.not_mem_nil⟩)⟩)⟩)⟩)⟩) (L3 _ p1 rfl (by omega) (by omega))

abbrev P_X9_cutSign : CpC := fun As σ => ∃ (p0 : Nat) (p1 : Int32), As = [.inr (.inr (some p0)), .inl p1] ∧ HIC σ ∧ TyC σ p0 10
abbrev Q_X9_cutSign : CqC := fun As σ w τ => match As with
  | [.inr (.inr (some p0)), .inl p1] => ∃ r : Int32, w = some (.inl r) ∧ HIC τ ∧ ExC [998] σ τ ∧ r.toInt ≤ 20000
  | _ => False
set_option maxRecDepth 100000 in
set_option maxHeartbeats 4000000 in
theorem m_X9_cutSign (l : Launch) : CMetC l 12 197 P_X9_cutSign Q_X9_cutSign := by
  refine CMetC.of KX9_cutSign [(239, P_J0_length_8abf5, Q_J0_length_8abf5), (238, P_J0_charAt_5068e, Q_J0_charAt_5068e), (198, P_X9_standsThere, Q_X9_standsThere)] hX9_cutSign (by decide) (by decide) okX9_cutSign (cc1C (m_J0_length_8abf5 l) (by decide) (cc1C (m_J0_charAt_5068e l) (by decide) (cc1C (m_X9_standsThere l) (by decide) cc0C))) ?_ ?_
  · rintro As σ ⟨p0, p1, rfl, -⟩
    exact Nat.le_of_ble_eq_true rfl
  · rintro As σ0 ⟨p0, p1, rfl, H0, h_0_0⟩ hgr G hB hW
    change G 0 [(0, .inr (.inr (some p0))), (1, .inl p1)] [] σ0
    have L10 : ∀ (n10 : Nat), ∀ (σ1 : CsC) (v10_2 : Int32) (v10_3 : Int32) (v10_4 : Int32) (v10_5 : Int32), (2147483647 - v10_5.toInt).toNat = n10 → HIC σ1 → ExC [998] σ0 σ1 → v10_2.toInt ≤ 502 → 0 ≤ v10_4.toInt → v10_4.toInt ≤ 502 → 0 ≤ v10_5.toInt → v10_5.toInt ≤ 502 → G 10 [(0, .inr (.inr (some p0))), (1, .inl p1), (2, .inl v10_2), (3, .inl v10_3), (4, .inl v10_4), (5, .inl v10_5)] [] σ1 := by
      intro n10
      induction n10 using Nat.strongRecOn with
      | _ n10 ih10 =>
        intro σ1 v10_2 v10_3 v10_4 v10_5 n10_ H2 e3 h4 h5 h6 h7 h8
        refine hB _ _ _ _ (kgoC (is := KX9_cutSign_10) rfl ?_)
        refine k_iload rfl ?_
        refine k_ldcR rfl ?_
        refine k_inv (P := P_J0_length_8abf5) (Q := Q_J0_length_8abf5) rfl rfl rfl rfl (Nat.le_of_ble_eq_true rfl) (Or.inr ⟨rfl, by omega, by omega⟩) ⟨_, rfl, H2, (by decide)⟩ (fun w9 σ10 q11 => ?_)
        obtain ⟨x12, rfl, rfl, h13, h14, q15⟩ := q11
        refine k_st (st' := [.inl x12, .inl v10_5]) rfl ?_
        have z16 : slnC 1000006 = 112 := rfl
        refine k_ic_gt (fun h17 => ?_) (fun h17 => ?_)
        · refine hB _ _ _ _ (kgoC (is := KX9_cutSign_94) rfl ?_)
          refine k_iload_n rfl ?_
          refine k_ireturn (fun hz => absurd hz (by decide)) ?_
          have X18 : ExC [998] σ0 σ1 := ExC.rf.tr (e3.mo (by decide))
          exact ⟨_, rfl, H2, X18, (by omega)⟩
        · refine k_nil ?_
          refine hB _ _ _ _ (kgoC (is := KX9_cutSign_20) rfl ?_)
          refine k_iload rfl ?_
          refine k_ldcR rfl ?_
          refine k_inv (P := P_J0_length_8abf5) (Q := Q_J0_length_8abf5) rfl rfl rfl rfl (Nat.le_of_ble_eq_true rfl) (Or.inr ⟨rfl, by omega, by omega⟩) ⟨_, rfl, H2, (by decide)⟩ (fun w19 σ20 q21 => ?_)
          obtain ⟨x22, rfl, rfl, h23, h24, q25⟩ := q21
          refine k_st (st' := [.inl x22, .inl v10_5]) rfl ?_
          have z26 : slnC 1000006 = 112 := rfl
          refine k_ic_eq (fun h27 => ?_) (fun h27 => ?_)
          · refine hB _ _ _ _ (kgoC (is := KX9_cutSign_42) rfl ?_)
            refine k_iload rfl ?_
            refine k_iload rfl ?_
            refine k_isub (by omega) (by omega) (fun x28 h29 => ?_)
            refine k_iload_n rfl ?_
            refine k_ic_le (fun h30 => ?_) (fun h30 => ?_)
            · refine hB _ _ _ _ (kgoC (is := KX9_cutSign_79) rfl ?_)
              refine k_iload rfl ?_
              refine k_iconst (m := 1) rfl (fun x31 h32 => ?_)
              refine k_iadd (by omega) (by omega) (fun x33 h34 => ?_)
              refine k_istore (ls' := [(4, .inl x33), (0, .inr (.inr (some p0))), (1, .inl p1), (2, .inl v10_2), (3, .inl v10_3), (5, .inl v10_5)]) rfl ?_
              have z38 := tiC v10_3
              obtain ⟨x35, e37⟩ : ∃ w, v10_3 + Int32.ofInt 1 = w := ⟨_, rfl⟩
              refine k_iinc (ls' := [(3, .inl x35), (4, .inl x33), (0, .inr (.inr (some p0))), (1, .inl p1), (2, .inl v10_2), (5, .inl v10_5)]) rfl e37 rfl ?_
              refine k_nil ?_
              refine hB _ _ _ _ (kgoC (is := KX9_cutSign_88) rfl ?_)
              obtain ⟨x39, e41, h40⟩ := iincC (n := 1) (m := 1) (v := v10_5) rfl (by omega) (by omega)
              refine k_iinc (ls' := [(5, .inl x39), (3, .inl x35), (4, .inl x33), (0, .inr (.inr (some p0))), (1, .inl p1), (2, .inl v10_2)]) rfl e41 rfl ?_
              refine k_goto ?_
              have X42 : ExC [998] σ0 σ1 := ExC.rf.tr (e3.mo (by decide))
              exact hW _ _ _ _ _ (List.forall_mem_cons.2 ⟨List.Mem.tail _ (List.Mem.tail _ (List.Mem.tail _ (List.Mem.head _))), (List.forall_mem_cons.2 ⟨List.Mem.tail _ (List.Mem.tail _ (List.Mem.tail _ (List.Mem.tail _ (List.Mem.head _)))), (List.forall_mem_cons.2 ⟨List.Mem.tail _ (List.Mem.tail _ (List.Mem.tail _ (List.Mem.tail _ (List.Mem.tail _ (List.Mem.head _))))), (List.forall_mem_cons.2 ⟨List.Mem.tail _ (List.Mem.head _), (List.forall_mem_cons.2 ⟨List.Mem.tail _ (List.Mem.tail _ (List.Mem.head _)), (List.forall_mem_cons.2 ⟨List.Mem.head _, fun _ h => absurd h List.not_mem_nil⟩)⟩)⟩)⟩)⟩)⟩) (ih10 ((2147483647 - x39.toInt).toNat) (by omega) σ1 v10_2 x35 x33 x39 rfl H2 X42 (by omega) (by omega) (by omega) (by omega) (by omega))
            · refine k_nil ?_
              refine hB _ _ _ _ (kgoC (is := KX9_cutSign_51) rfl ?_)
              refine k_aload_n rfl ?_
              refine k_iload rfl ?_
              refine k_iload rfl ?_
              refine k_iload_n rfl ?_
              have t43 := h_0_0.x e3
              refine k_inv (P := P_X9_standsThere) (Q := Q_X9_standsThere) rfl rfl rfl rfl (Nat.le_of_ble_eq_true rfl) (t43.rc (by decide)) ⟨_, _, _, _, rfl, H2, t43, (by omega), (by omega), (by omega), (by omega)⟩ (fun w44 σ45 q46 => ?_)
              obtain ⟨x47, rfl, rfl, h48, h49⟩ := q46
              refine k_st (st' := [.inl x47]) rfl ?_
              refine k_if_eq (fun h50 => ?_) (fun h50 => ?_)
              · refine hB _ _ _ _ (kgoC (is := KX9_cutSign_79) rfl ?_)
                refine k_iload rfl ?_
                refine k_iconst (m := 1) rfl (fun x51 h52 => ?_)
                refine k_iadd (by omega) (by omega) (fun x53 h54 => ?_)
                refine k_istore (ls' := [(4, .inl x53), (0, .inr (.inr (some p0))), (1, .inl p1), (2, .inl v10_2), (3, .inl v10_3), (5, .inl v10_5)]) rfl ?_
                have z58 := tiC v10_3
                obtain ⟨x55, e57⟩ : ∃ w, v10_3 + Int32.ofInt 1 = w := ⟨_, rfl⟩
                refine k_iinc (ls' := [(3, .inl x55), (4, .inl x53), (0, .inr (.inr (some p0))), (1, .inl p1), (2, .inl v10_2), (5, .inl v10_5)]) rfl e57 rfl ?_
                refine k_nil ?_
                refine hB _ _ _ _ (kgoC (is := KX9_cutSign_88) rfl ?_)
                obtain ⟨x59, e61, h60⟩ := iincC (n := 1) (m := 1) (v := v10_5) rfl (by omega) (by omega)
                refine k_iinc (ls' := [(5, .inl x59), (3, .inl x55), (4, .inl x53), (0, .inr (.inr (some p0))), (1, .inl p1), (2, .inl v10_2)]) rfl e61 rfl ?_
                refine k_goto ?_
                have X62 : ExC [998] σ0 σ1 := ExC.rf.tr (e3.mo (by decide))
                exact hW _ _ _ _ _ (List.forall_mem_cons.2 ⟨List.Mem.tail _ (List.Mem.tail _ (List.Mem.tail _ (List.Mem.head _))), (List.forall_mem_cons.2 ⟨List.Mem.tail _ (List.Mem.tail _ (List.Mem.tail _ (List.Mem.tail _ (List.Mem.head _)))), (List.forall_mem_cons.2 ⟨List.Mem.tail _ (List.Mem.tail _ (List.Mem.tail _ (List.Mem.tail _ (List.Mem.tail _ (List.Mem.head _))))), (List.forall_mem_cons.2 ⟨List.Mem.tail _ (List.Mem.head _), (List.forall_mem_cons.2 ⟨List.Mem.tail _ (List.Mem.tail _ (List.Mem.head _)), (List.forall_mem_cons.2 ⟨List.Mem.head _, fun _ h => absurd h List.not_mem_nil⟩)⟩)⟩)⟩)⟩)⟩) (ih10 ((2147483647 - x59.toInt).toNat) (by omega) σ1 v10_2 x55 x53 x59 rfl H2 X62 (by omega) (by omega) (by omega) (by omega) (by omega))
              · refine k_nil ?_
                refine hB _ _ _ _ (kgoC (is := KX9_cutSign_63) rfl ?_)
                refine k_iload rfl ?_
                refine k_iload rfl ?_
                refine k_isub (by omega) (by omega) (fun x63 h64 => ?_)
                refine k_istore_n (ls' := [(2, .inl x63), (0, .inr (.inr (some p0))), (1, .inl p1), (3, .inl v10_3), (4, .inl v10_4), (5, .inl v10_5)]) rfl ?_
                refine k_aload_n rfl ?_
                obtain ⟨a67, e65, c66, t68, l69, l70⟩ := cg302 H2.1 t43
                refine k_get kg302 t43 e65 ?_
                refine k_aload_n rfl ?_
                obtain ⟨x73, e71, c72, h74, h75⟩ := cg305 H2.1 t43
                refine k_get kg305 t43 e71 ?_
                refine k_iload_n rfl ?_
                refine k_iastore2 H2 t68 l70 (by omega) (by omega) (fun σ76 H77 e78 c79 => ?_)
                refine k_nil ?_
                refine hB _ _ _ _ (kgoC (is := KX9_cutSign_79) rfl ?_)
                refine k_iload rfl ?_
                refine k_iconst (m := 1) rfl (fun x80 h81 => ?_)
                refine k_iadd (by omega) (by omega) (fun x82 h83 => ?_)
                refine k_istore (ls' := [(4, .inl x82), (2, .inl x63), (0, .inr (.inr (some p0))), (1, .inl p1), (3, .inl v10_3), (5, .inl v10_5)]) rfl ?_
                have z87 := tiC v10_3
                obtain ⟨x84, e86⟩ : ∃ w, v10_3 + Int32.ofInt 1 = w := ⟨_, rfl⟩
                refine k_iinc (ls' := [(3, .inl x84), (4, .inl x82), (2, .inl x63), (0, .inr (.inr (some p0))), (1, .inl p1), (5, .inl v10_5)]) rfl e86 rfl ?_
                refine k_nil ?_
                refine hB _ _ _ _ (kgoC (is := KX9_cutSign_88) rfl ?_)
                obtain ⟨x88, e90, h89⟩ := iincC (n := 1) (m := 1) (v := v10_5) rfl (by omega) (by omega)
                refine k_iinc (ls' := [(5, .inl x88), (3, .inl x84), (4, .inl x82), (2, .inl x63), (0, .inr (.inr (some p0))), (1, .inl p1)]) rfl e90 rfl ?_
                refine k_goto ?_
                have X91 : ExC [998] σ0 σ1 := ExC.rf.tr (e3.mo (by decide))
                have X92 : ExC [998] σ0 σ76 := X91.tr (e78.mo (by decide))
                exact hW _ _ _ _ _ (List.forall_mem_cons.2 ⟨List.Mem.tail _ (List.Mem.tail _ (List.Mem.tail _ (List.Mem.tail _ (List.Mem.head _)))), (List.forall_mem_cons.2 ⟨List.Mem.tail _ (List.Mem.tail _ (List.Mem.tail _ (List.Mem.tail _ (List.Mem.tail _ (List.Mem.head _))))), (List.forall_mem_cons.2 ⟨List.Mem.tail _ (List.Mem.tail _ (List.Mem.tail _ (List.Mem.head _))), (List.forall_mem_cons.2 ⟨List.Mem.tail _ (List.Mem.head _), (List.forall_mem_cons.2 ⟨List.Mem.tail _ (List.Mem.tail _ (List.Mem.head _)), (List.forall_mem_cons.2 ⟨List.Mem.head _, fun _ h => absurd h List.not_mem_nil⟩)⟩)⟩)⟩)⟩)⟩) (ih10 ((2147483647 - x88.toInt).toNat) (by omega) σ76 x63 x84 x82 x88 rfl H77 X92 (by omega) (by omega) (by omega) (by omega) (by omega))
          · refine k_nil ?_
            refine hB _ _ _ _ (kgoC (is := KX9_cutSign_30) rfl ?_)
            refine k_ldcR rfl ?_
            refine k_iload rfl ?_
            have z93 : slnC 1000006 = 112 := rfl
            refine k_inv (P := P_J0_charAt_5068e) (Q := Q_J0_charAt_5068e) rfl rfl rfl rfl (Nat.le_of_ble_eq_true rfl) (Or.inr ⟨rfl, by omega, by omega⟩) ⟨_, _, rfl, H2, (by decide), (by omega), (by omega)⟩ (fun w94 σ95 q96 => ?_)
            obtain ⟨x97, rfl, rfl⟩ := q96
            refine k_st (st' := [.inl x97]) rfl ?_
            refine k_bipush (m := 32) rfl (fun x98 h99 => ?_)
            refine k_ic_ne (fun h100 => ?_) (fun h100 => ?_)
            · refine hB _ _ _ _ (kgoC (is := KX9_cutSign_88) rfl ?_)
              obtain ⟨x101, e103, h102⟩ := iincC (n := 1) (m := 1) (v := v10_5) rfl (by omega) (by omega)
              refine k_iinc (ls' := [(5, .inl x101), (0, .inr (.inr (some p0))), (1, .inl p1), (2, .inl v10_2), (3, .inl v10_3), (4, .inl v10_4)]) rfl e103 rfl ?_
              refine k_goto ?_
              have X104 : ExC [998] σ0 σ1 := ExC.rf.tr (e3.mo (by decide))
              exact hW _ _ _ _ _ (List.forall_mem_cons.2 ⟨List.Mem.tail _ (List.Mem.head _), (List.forall_mem_cons.2 ⟨List.Mem.tail _ (List.Mem.tail _ (List.Mem.head _)), (List.forall_mem_cons.2 ⟨List.Mem.tail _ (List.Mem.tail _ (List.Mem.tail _ (List.Mem.head _))), (List.forall_mem_cons.2 ⟨List.Mem.tail _ (List.Mem.tail _ (List.Mem.tail _ (List.Mem.tail _ (List.Mem.head _)))), (List.forall_mem_cons.2 ⟨List.Mem.tail _ (List.Mem.tail _ (List.Mem.tail _ (List.Mem.tail _ (List.Mem.tail _ (List.Mem.head _))))), (List.forall_mem_cons.2 ⟨List.Mem.head _, fun _ h => absurd h List.not_mem_nil⟩)⟩)⟩)⟩)⟩)⟩) (ih10 ((2147483647 - x101.toInt).toNat) (by omega) σ1 v10_2 v10_3 v10_4 x101 rfl H2 X104 (by omega) (by omega) (by omega) (by omega) (by omega))
            · refine k_nil ?_
              refine hB _ _ _ _ (kgoC (is := KX9_cutSign_42) rfl ?_)
              refine k_iload rfl ?_
              refine k_iload rfl ?_
              refine k_isub (by omega) (by omega) (fun x105 h106 => ?_)
              refine k_iload_n rfl ?_
              refine k_ic_le (fun h107 => ?_) (fun h107 => ?_)
              · refine hB _ _ _ _ (kgoC (is := KX9_cutSign_79) rfl ?_)
                refine k_iload rfl ?_
                refine k_iconst (m := 1) rfl (fun x108 h109 => ?_)
                refine k_iadd (by omega) (by omega) (fun x110 h111 => ?_)
                refine k_istore (ls' := [(4, .inl x110), (0, .inr (.inr (some p0))), (1, .inl p1), (2, .inl v10_2), (3, .inl v10_3), (5, .inl v10_5)]) rfl ?_
                have z115 := tiC v10_3
                obtain ⟨x112, e114⟩ : ∃ w, v10_3 + Int32.ofInt 1 = w := ⟨_, rfl⟩
                refine k_iinc (ls' := [(3, .inl x112), (4, .inl x110), (0, .inr (.inr (some p0))), (1, .inl p1), (2, .inl v10_2), (5, .inl v10_5)]) rfl e114 rfl ?_
                refine k_nil ?_
                refine hB _ _ _ _ (kgoC (is := KX9_cutSign_88) rfl ?_)
                obtain ⟨x116, e118, h117⟩ := iincC (n := 1) (m := 1) (v := v10_5) rfl (by omega) (by omega)
                refine k_iinc (ls' := [(5, .inl x116), (3, .inl x112), (4, .inl x110), (0, .inr (.inr (some p0))), (1, .inl p1), (2, .inl v10_2)]) rfl e118 rfl ?_
                refine k_goto ?_
                have X119 : ExC [998] σ0 σ1 := ExC.rf.tr (e3.mo (by decide))
                exact hW _ _ _ _ _ (List.forall_mem_cons.2 ⟨List.Mem.tail _ (List.Mem.tail _ (List.Mem.tail _ (List.Mem.head _))), (List.forall_mem_cons.2 ⟨List.Mem.tail _ (List.Mem.tail _ (List.Mem.tail _ (List.Mem.tail _ (List.Mem.head _)))), (List.forall_mem_cons.2 ⟨List.Mem.tail _ (List.Mem.tail _ (List.Mem.tail _ (List.Mem.tail _ (List.Mem.tail _ (List.Mem.head _))))), (List.forall_mem_cons.2 ⟨List.Mem.tail _ (List.Mem.head _), (List.forall_mem_cons.2 ⟨List.Mem.tail _ (List.Mem.tail _ (List.Mem.head _)), (List.forall_mem_cons.2 ⟨List.Mem.head _, fun _ h => absurd h List.not_mem_nil⟩)⟩)⟩)⟩)⟩)⟩) (ih10 ((2147483647 - x116.toInt).toNat) (by omega) σ1 v10_2 x112 x110 x116 rfl H2 X119 (by omega) (by omega) (by omega) (by omega) (by omega))
              · refine k_nil ?_
                refine hB _ _ _ _ (kgoC (is := KX9_cutSign_51) rfl ?_)
                refine k_aload_n rfl ?_
                refine k_iload rfl ?_
                refine k_iload rfl ?_
                refine k_iload_n rfl ?_
                have t120 := h_0_0.x e3
                refine k_inv (P := P_X9_standsThere) (Q := Q_X9_standsThere) rfl rfl rfl rfl (Nat.le_of_ble_eq_true rfl) (t120.rc (by decide)) ⟨_, _, _, _, rfl, H2, t120, (by omega), (by omega), (by omega), (by omega)⟩ (fun w121 σ122 q123 => ?_)
                obtain ⟨x124, rfl, rfl, h125, h126⟩ := q123
                refine k_st (st' := [.inl x124]) rfl ?_
                refine k_if_eq (fun h127 => ?_) (fun h127 => ?_)
                · refine hB _ _ _ _ (kgoC (is := KX9_cutSign_79) rfl ?_)
                  refine k_iload rfl ?_
                  refine k_iconst (m := 1) rfl (fun x128 h129 => ?_)
                  refine k_iadd (by omega) (by omega) (fun x130 h131 => ?_)
                  refine k_istore (ls' := [(4, .inl x130), (0, .inr (.inr (some p0))), (1, .inl p1), (2, .inl v10_2), (3, .inl v10_3), (5, .inl v10_5)]) rfl ?_
                  have z135 := tiC v10_3
                  obtain ⟨x132, e134⟩ : ∃ w, v10_3 + Int32.ofInt 1 = w := ⟨_, rfl⟩
                  refine k_iinc (ls' := [(3, .inl x132), (4, .inl x130), (0, .inr (.inr (some p0))), (1, .inl p1), (2, .inl v10_2), (5, .inl v10_5)]) rfl e134 rfl ?_
                  refine k_nil ?_
                  refine hB _ _ _ _ (kgoC (is := KX9_cutSign_88) rfl ?_)
                  obtain ⟨x136, e138, h137⟩ := iincC (n := 1) (m := 1) (v := v10_5) rfl (by omega) (by omega)
                  refine k_iinc (ls' := [(5, .inl x136), (3, .inl x132), (4, .inl x130), (0, .inr (.inr (some p0))), (1, .inl p1), (2, .inl v10_2)]) rfl e138 rfl ?_
                  refine k_goto ?_
                  have X139 : ExC [998] σ0 σ1 := ExC.rf.tr (e3.mo (by decide))
                  exact hW _ _ _ _ _ (List.forall_mem_cons.2 ⟨List.Mem.tail _ (List.Mem.tail _ (List.Mem.tail _ (List.Mem.head _))), (List.forall_mem_cons.2 ⟨List.Mem.tail _ (List.Mem.tail _ (List.Mem.tail _ (List.Mem.tail _ (List.Mem.head _)))), (List.forall_mem_cons.2 ⟨List.Mem.tail _ (List.Mem.tail _ (List.Mem.tail _ (List.Mem.tail _ (List.Mem.tail _ (List.Mem.head _))))), (List.forall_mem_cons.2 ⟨List.Mem.tail _ (List.Mem.head _), (List.forall_mem_cons.2 ⟨List.Mem.tail _ (List.Mem.tail _ (List.Mem.head _)), (List.forall_mem_cons.2 ⟨List.Mem.head _, fun _ h => absurd h List.not_mem_nil⟩)⟩)⟩)⟩)⟩)⟩) (ih10 ((2147483647 - x136.toInt).toNat) (by omega) σ1 v10_2 x132 x130 x136 rfl H2 X139 (by omega) (by omega) (by omega) (by omega) (by omega))
                · refine k_nil ?_
                  refine hB _ _ _ _ (kgoC (is := KX9_cutSign_63) rfl ?_)
                  refine k_iload rfl ?_
                  refine k_iload rfl ?_
                  refine k_isub (by omega) (by omega) (fun x140 h141 => ?_)
                  refine k_istore_n (ls' := [(2, .inl x140), (0, .inr (.inr (some p0))), (1, .inl p1), (3, .inl v10_3), (4, .inl v10_4), (5, .inl v10_5)]) rfl ?_
                  refine k_aload_n rfl ?_
                  obtain ⟨a144, e142, c143, t145, l146, l147⟩ := cg302 H2.1 t120
                  refine k_get kg302 t120 e142 ?_
                  refine k_aload_n rfl ?_
                  obtain ⟨x150, e148, c149, h151, h152⟩ := cg305 H2.1 t120
                  refine k_get kg305 t120 e148 ?_
                  refine k_iload_n rfl ?_
                  refine k_iastore2 H2 t145 l147 (by omega) (by omega) (fun σ153 H154 e155 c156 => ?_)
                  refine k_nil ?_
                  refine hB _ _ _ _ (kgoC (is := KX9_cutSign_79) rfl ?_)
                  refine k_iload rfl ?_
                  refine k_iconst (m := 1) rfl (fun x157 h158 => ?_)
                  refine k_iadd (by omega) (by omega) (fun x159 h160 => ?_)
                  refine k_istore (ls' := [(4, .inl x159), (2, .inl x140), (0, .inr (.inr (some p0))), (1, .inl p1), (3, .inl v10_3), (5, .inl v10_5)]) rfl ?_
                  have z164 := tiC v10_3
                  obtain ⟨x161, e163⟩ : ∃ w, v10_3 + Int32.ofInt 1 = w := ⟨_, rfl⟩
                  refine k_iinc (ls' := [(3, .inl x161), (4, .inl x159), (2, .inl x140), (0, .inr (.inr (some p0))), (1, .inl p1), (5, .inl v10_5)]) rfl e163 rfl ?_
                  refine k_nil ?_
                  refine hB _ _ _ _ (kgoC (is := KX9_cutSign_88) rfl ?_)
                  obtain ⟨x165, e167, h166⟩ := iincC (n := 1) (m := 1) (v := v10_5) rfl (by omega) (by omega)
                  refine k_iinc (ls' := [(5, .inl x165), (3, .inl x161), (4, .inl x159), (2, .inl x140), (0, .inr (.inr (some p0))), (1, .inl p1)]) rfl e167 rfl ?_
                  refine k_goto ?_
                  have X168 : ExC [998] σ0 σ1 := ExC.rf.tr (e3.mo (by decide))
                  have X169 : ExC [998] σ0 σ153 := X168.tr (e155.mo (by decide))
                  exact hW _ _ _ _ _ (List.forall_mem_cons.2 ⟨List.Mem.tail _ (List.Mem.tail _ (List.Mem.tail _ (List.Mem.tail _ (List.Mem.head _)))), (List.forall_mem_cons.2 ⟨List.Mem.tail _ (List.Mem.tail _ (List.Mem.tail _ (List.Mem.tail _ (List.Mem.tail _ (List.Mem.head _))))), (List.forall_mem_cons.2 ⟨List.Mem.tail _ (List.Mem.tail _ (List.Mem.tail _ (List.Mem.head _))), (List.forall_mem_cons.2 ⟨List.Mem.tail _ (List.Mem.head _), (List.forall_mem_cons.2 ⟨List.Mem.tail _ (List.Mem.tail _ (List.Mem.head _)), (List.forall_mem_cons.2 ⟨List.Mem.head _, fun _ h => absurd h List.not_mem_nil⟩)⟩)⟩)⟩)⟩)⟩) (ih10 ((2147483647 - x165.toInt).toNat) (by omega) σ153 x140 x161 x159 x165 rfl H154 X169 (by omega) (by omega) (by omega) (by omega) (by omega))
    refine hB _ _ _ _ (kgoC (is := KX9_cutSign_0) rfl ?_)
    refine k_iconst (m := 0) rfl (fun x170 h171 => ?_)
    refine k_istore_n (ls' := [(2, .inl x170), (0, .inr (.inr (some p0))), (1, .inl p1)]) rfl ?_
    refine k_iconst (m := 0) rfl (fun x172 h173 => ?_)
    refine k_istore_n (ls' := [(3, .inl x172), (2, .inl x170), (0, .inr (.inr (some p0))), (1, .inl p1)]) rfl ?_
    refine k_iconst (m := 0) rfl (fun x174 h175 => ?_)
    refine k_istore (ls' := [(4, .inl x174), (3, .inl x172), (2, .inl x170), (0, .inr (.inr (some p0))), (1, .inl p1)]) rfl ?_
    refine k_iconst (m := 0) rfl (fun x176 h177 => ?_)
    refine k_istore (ls' := [(5, .inl x176), (4, .inl x174), (3, .inl x172), (2, .inl x170), (0, .inr (.inr (some p0))), (1, .inl p1)]) rfl ?_
    refine k_nil ?_
    exact hW _ _ _ _ _ (List.forall_mem_cons.2 ⟨List.Mem.tail _ (List.Mem.tail _ (List.Mem.tail _ (List.Mem.tail _ (List.Mem.head _)))), (List.forall_mem_cons.2 ⟨List.Mem.tail _ (List.Mem.tail _ (List.Mem.tail _ (List.Mem.tail _ (List.Mem.tail _ (List.Mem.head _))))), (List.forall_mem_cons.2 ⟨List.Mem.tail _ (List.Mem.tail _ (List.Mem.tail _ (List.Mem.head _))), (List.forall_mem_cons.2 ⟨List.Mem.tail _ (List.Mem.tail _ (List.Mem.head _)), (List.forall_mem_cons.2 ⟨List.Mem.tail _ (List.Mem.head _), (List.forall_mem_cons.2 ⟨List.Mem.head _, fun _ h => absurd h List.not_mem_nil⟩)⟩)⟩)⟩)⟩)⟩) (L10 _ σ0 x170 x172 x174 x176 rfl H0 ExC.rf (by omega) (by omega) (by omega) (by omega) (by omega))

abbrev P_X9_cutOne : CpC := fun As σ => ∃ (p0 : Nat) (p1 : Int32), As = [.inr (.inr (some p0)), .inl p1] ∧ HIC σ ∧ TyC σ p0 10 ∧ 0 ≤ p1.toInt ∧ p1.toInt ≤ 2500
abbrev Q_X9_cutOne : CqC := fun As σ w τ => match As with
  | [.inr (.inr (some p0)), .inl p1] => ∃ r : Int32, w = some (.inl r) ∧ HIC τ ∧ ExC [998] σ τ ∧ r.toInt ≤ 20000
  | _ => False
set_option maxRecDepth 100000 in
set_option maxHeartbeats 4000000 in
theorem m_X9_cutOne (l : Launch) : CMetC l 13 191 P_X9_cutOne Q_X9_cutOne := by
  refine CMetC.of KX9_cutOne [(189, P_X9_byteAt, Q_X9_byteAt), (192, P_X9_isLetter, Q_X9_isLetter), (193, P_X9_isDigit, Q_X9_isDigit), (197, P_X9_cutSign, Q_X9_cutSign), (196, P_X9_cutCharacter, Q_X9_cutCharacter), (195, P_X9_cutNumber, Q_X9_cutNumber), (194, P_X9_cutName, Q_X9_cutName)] hX9_cutOne (by decide) (by decide) okX9_cutOne (cc1C (m_X9_byteAt l) (by decide) (cc1C (m_X9_isLetter l) (by decide) (cc1C (m_X9_isDigit l) (by decide) (cc1C (m_X9_cutSign l) (by decide) (cc1C (m_X9_cutCharacter l) (by decide) (cc1C (m_X9_cutNumber l) (by decide) (cc1C (m_X9_cutName l) (by decide) cc0C))))))) ?_ ?_
  · rintro As σ ⟨p0, p1, rfl, -⟩
    exact Nat.le_of_ble_eq_true rfl
  · rintro As σ0 ⟨p0, p1, rfl, H0, h_0_0, h_1_0, h_1_1⟩ hgr G hB hW
    change G 0 [(0, .inr (.inr (some p0))), (1, .inl p1)] [] σ0
    refine hB _ _ _ _ (kgoC (is := KX9_cutOne_0) rfl ?_)
    refine k_aload_n rfl ?_
    refine k_iload_n rfl ?_
    refine k_inv (P := P_X9_byteAt) (Q := Q_X9_byteAt) rfl rfl rfl rfl (Nat.le_of_ble_eq_true rfl) (h_0_0.rc (by decide)) ⟨_, _, rfl, H0, h_0_0⟩ (fun w1 σ2 q3 => ?_)
    obtain ⟨x4, rfl, rfl⟩ := q3
    refine k_st (st' := [.inl x4]) rfl ?_
    refine k_istore_n (ls' := [(2, .inl x4), (0, .inr (.inr (some p0))), (1, .inl p1)]) rfl ?_
    refine k_iload_n rfl ?_
    refine k_stat (P := P_X9_isLetter) (Q := Q_X9_isLetter) rfl rfl (Nat.le_of_ble_eq_true rfl) rfl rfl (Nat.le_of_ble_eq_true rfl) ⟨_, rfl, H0⟩ (fun w5 σ6 q7 => ?_)
    obtain ⟨x8, rfl, rfl, h9, h10⟩ := q7
    refine k_st (st' := [.inl x8]) rfl ?_
    refine k_if_eq (fun h11 => ?_) (fun h11 => ?_)
    · refine hB _ _ _ _ (kgoC (is := KX9_cutOne_19) rfl ?_)
      refine k_iload_n rfl ?_
      refine k_stat (P := P_X9_isDigit) (Q := Q_X9_isDigit) rfl rfl (Nat.le_of_ble_eq_true rfl) rfl rfl (Nat.le_of_ble_eq_true rfl) ⟨_, rfl, H0⟩ (fun w12 σ13 q14 => ?_)
      obtain ⟨x15, rfl, rfl, h16, h17⟩ := q14
      refine k_st (st' := [.inl x15]) rfl ?_
      refine k_if_eq (fun h18 => ?_) (fun h18 => ?_)
      · refine hB _ _ _ _ (kgoC (is := KX9_cutOne_32) rfl ?_)
        refine k_iload_n rfl ?_
        refine k_bipush (m := 39) rfl (fun x19 h20 => ?_)
        refine k_ic_ne (fun h21 => ?_) (fun h21 => ?_)
        · refine hB _ _ _ _ (kgoC (is := KX9_cutOne_46) rfl ?_)
          refine k_aload_n rfl ?_
          refine k_iload_n rfl ?_
          refine k_inv (P := P_X9_cutSign) (Q := Q_X9_cutSign) rfl rfl rfl rfl (Nat.le_of_ble_eq_true rfl) (h_0_0.rc (by decide)) ⟨_, _, rfl, H0, h_0_0⟩ (fun w22 σ23 q24 => ?_)
          obtain ⟨x25, rfl, H26, e27, h28⟩ := q24
          refine k_st (st' := [.inl x25]) rfl ?_
          refine k_nil ?_
          refine hB _ _ _ _ (kgoC (is := KX9_cutOne_51) rfl ?_)
          refine k_ireturn (fun hz => absurd hz (by decide)) ?_
          have X29 : ExC [998] σ0 σ23 := ExC.rf.tr (e27.mo (by decide))
          exact ⟨_, rfl, H26, X29, (by omega)⟩
        · refine k_nil ?_
          refine hB _ _ _ _ (kgoC (is := KX9_cutOne_38) rfl ?_)
          refine k_aload_n rfl ?_
          refine k_iload_n rfl ?_
          refine k_inv (P := P_X9_cutCharacter) (Q := Q_X9_cutCharacter) rfl rfl rfl rfl (Nat.le_of_ble_eq_true rfl) (h_0_0.rc (by decide)) ⟨_, _, rfl, H0, h_0_0⟩ (fun w30 σ31 q32 => ?_)
          obtain ⟨x33, rfl, H34, e35, h36⟩ := q32
          refine k_st (st' := [.inl x33]) rfl ?_
          refine k_goto ?_
          refine hB _ _ _ _ (kgoC (is := KX9_cutOne_51) rfl ?_)
          refine k_ireturn (fun hz => absurd hz (by decide)) ?_
          have X37 : ExC [998] σ0 σ31 := ExC.rf.tr (e35.mo (by decide))
          exact ⟨_, rfl, H34, X37, (by omega)⟩
      · refine k_nil ?_
        refine hB _ _ _ _ (kgoC (is := KX9_cutOne_26) rfl ?_)
        refine k_aload_n rfl ?_
        refine k_iload_n rfl ?_
        refine k_inv (P := P_X9_cutNumber) (Q := Q_X9_cutNumber) rfl rfl rfl rfl (Nat.le_of_ble_eq_true rfl) (h_0_0.rc (by decide)) ⟨_, _, rfl, H0, h_0_0, (by omega), (by omega)⟩ (fun w38 σ39 q40 => ?_)
        obtain ⟨x41, rfl, H42, e43, h44⟩ := q40
        refine k_st (st' := [.inl x41]) rfl ?_
        refine k_ireturn (fun hz => absurd hz (by decide)) ?_
        have X45 : ExC [998] σ0 σ39 := ExC.rf.tr (e43.mo (by decide))
        exact ⟨_, rfl, H42, X45, (by omega)⟩
    · refine k_nil ?_
      refine hB _ _ _ _ (kgoC (is := KX9_cutOne_13) rfl ?_)
      refine k_aload_n rfl ?_
      refine k_iload_n rfl ?_
      refine k_inv (P := P_X9_cutName) (Q := Q_X9_cutName) rfl rfl rfl rfl (Nat.le_of_ble_eq_true rfl) (h_0_0.rc (by decide)) ⟨_, _, rfl, H0, h_0_0, (by omega), (by omega)⟩ (fun w46 σ47 q48 => ?_)
      obtain ⟨x49, rfl, H50, e51, h52⟩ := q48
      refine k_st (st' := [.inl x49]) rfl ?_
      refine k_ireturn (fun hz => absurd hz (by decide)) ?_
      have X53 : ExC [998] σ0 σ47 := ExC.rf.tr (e51.mo (by decide))
      exact ⟨_, rfl, H50, X53, (by omega)⟩

abbrev P_X9_cutText : CpC := fun As σ => ∃ (p0 : Nat) (p1 : Nat) (p2 : Int32), As = [.inr (.inr (some p0)), .inr (.inr (some p1)), .inl p2] ∧ HIC σ ∧ TyC σ p0 10 ∧ TyC σ p1 101 ∧ alC σ p1 = 2500 ∧ 0 ≤ p2.toInt ∧ p2.toInt ≤ 2500
abbrev Q_X9_cutText : CqC := fun As σ w τ => match As with
  | [.inr (.inr (some p0)), .inr (.inr (some p1)), .inl p2] => w = none ∧ HIC τ ∧ ExC [305, 307, 308, 998] σ τ ∧ (∀ c, fRC τ p0 302 = some c → (eIC τ c (fIC τ p0 305).toNatClampNeg).toInt = 84 ∨ (eIC τ c (fIC τ p0 305).toNatClampNeg).toInt = 85) ∧ ((fIC τ p0 305).toInt ≤ p2.toInt)
  | _ => False
set_option maxRecDepth 100000 in
set_option maxHeartbeats 4000000 in
theorem m_X9_cutText (l : Launch) : CMetC l 14 188 P_X9_cutText Q_X9_cutText := by
  refine CMetC.of KX9_cutText [(190, P_X9_behindBlanks, Q_X9_behindBlanks), (191, P_X9_cutOne, Q_X9_cutOne)] hX9_cutText (by decide) (by decide) okX9_cutText (cc1C (m_X9_behindBlanks l) (by decide) (cc1C (m_X9_cutOne l) (by decide) cc0C)) ?_ ?_
  · rintro As σ ⟨p0, p1, p2, rfl, -⟩
    exact Nat.le_of_ble_eq_true rfl
  · rintro As σ0 ⟨p0, p1, p2, rfl, H0, h_0_0, h_1_0, h_1_1, h_2_0, h_2_1⟩ hgr G hB hW
    change G 0 [(0, .inr (.inr (some p0))), (1, .inr (.inr (some p1))), (2, .inl p2)] [] σ0
    have L29 : ∀ (n29 : Nat), ∀ (σ1 : CsC) (v29_3 : Int32) (v29_4 : Int32), (2 * (501 - (fIC σ1 p0 305).toInt) + v29_3.toInt).toNat = n29 → HIC σ1 → ExC [305, 307, 308, 998] σ0 σ1 → 0 ≤ v29_3.toInt → v29_3.toInt ≤ 1 → 0 ≤ v29_4.toInt → (fIC σ1 p0 305).toInt ≤ v29_4.toInt ∧ v29_4.toInt ≤ (fIC σ1 p0 308).toInt ∧ (fIC σ1 p0 308).toInt ≤ p2.toInt → G 29 [(0, .inr (.inr (some p0))), (3, .inl v29_3), (4, .inl v29_4)] [] σ1 := by
      intro n29
      induction n29 using Nat.strongRecOn with
      | _ n29 ih29 =>
        intro σ1 v29_3 v29_4 n29_ H2 e3 h4 h5 h6 h7
        have t13 := h_0_0.x e3
        obtain ⟨x8, e9, c10, h11, h12⟩ := cg305 H2.1 t13
        have z14 := congrArg Int32.toInt c10
        obtain ⟨x15, e16, c17, h18, h19⟩ := cg308 H2.1 t13
        have z20 := congrArg Int32.toInt c17
        refine hB _ _ _ _ (kgoC (is := KX9_cutText_29) rfl ?_)
        refine k_iload_n rfl ?_
        refine k_if_eq (fun h21 => ?_) (fun h21 => ?_)
        · refine hB _ _ _ _ (kgoC (is := KX9_cutText_132) rfl ?_)
          refine k_aload_n rfl ?_
          obtain ⟨a24, e22, c23, t25, l26, l27⟩ := cg300 H2.1 t13
          refine k_get kg300 t13 e22 ?_
          refine k_aload_n rfl ?_
          refine k_get kg305 t13 (congrArg (Sum.inl : Int32 → AvC) c10) ?_
          refine k_iload rfl ?_
          refine k_iastore H2 t25 l27 (by omega) (by omega) (fun σ28 H29 e30 => ?_)
          refine k_aload_n rfl ?_
          have t31 := t13.x e30
          obtain ⟨a34, e32, c33, t35, l36, l37⟩ := cg302 H29.1 t31
          refine k_get kg302 t31 e32 ?_
          refine k_aload_n rfl ?_
          have c38 := (t13.mi e30 (by decide)).trans c10
          refine k_get kg305 t31 (congrArg (Sum.inl : Int32 → AvC) c38) ?_
          refine k_iload_n rfl ?_
          refine k_if_eq (fun h39 => ?_) (fun h39 => by exfalso; omega)
          refine hB _ _ _ _ (kgoC (is := KX9_cutText_160) rfl ?_)
          refine k_bipush (m := 85) rfl (fun x40 h41 => ?_)
          refine k_nil ?_
          refine hB _ _ _ _ (kgoC (is := KX9_cutText_162) rfl ?_)
          refine k_iastore2 H29 t35 l37 (by omega) (by omega) (fun σ42 H43 e44 c45 => ?_)
          refine k_return ?_
          have X46 : ExC [305, 307, 308, 998] σ0 σ1 := ExC.rf.tr (e3.mo (by decide))
          have X47 : ExC [305, 307, 308, 998] σ0 σ28 := X46.tr (e30.mo (by decide))
          have X48 : ExC [305, 307, 308, 998] σ0 σ42 := X47.tr (e44.mo (by decide))
          have c49 := (t31.mr e44 (by decide)).trans c33
          have c50 := (t31.mi e44 (by decide)).trans c38
          exact ⟨rfl, H43, X48, (fun c hc => by cases c49.symm.trans hc; rw [c50, c45]; omega), (by rw [c50]; omega)⟩
        · refine k_nil ?_
          refine hB _ _ _ _ (kgoC (is := KX9_cutText_33) rfl ?_)
          refine k_iload rfl ?_
          refine k_aload_n rfl ?_
          refine k_get kg308 t13 (congrArg (Sum.inl : Int32 → AvC) c17) ?_
          refine k_ic_ge (fun h51 => ?_) (fun h51 => ?_)
          · refine hB _ _ _ _ (kgoC (is := KX9_cutText_132) rfl ?_)
            refine k_aload_n rfl ?_
            obtain ⟨a54, e52, c53, t55, l56, l57⟩ := cg300 H2.1 t13
            refine k_get kg300 t13 e52 ?_
            refine k_aload_n rfl ?_
            refine k_get kg305 t13 (congrArg (Sum.inl : Int32 → AvC) c10) ?_
            refine k_iload rfl ?_
            refine k_iastore H2 t55 l57 (by omega) (by omega) (fun σ58 H59 e60 => ?_)
            refine k_aload_n rfl ?_
            have t61 := t13.x e60
            obtain ⟨a64, e62, c63, t65, l66, l67⟩ := cg302 H59.1 t61
            refine k_get kg302 t61 e62 ?_
            refine k_aload_n rfl ?_
            have c68 := (t13.mi e60 (by decide)).trans c10
            refine k_get kg305 t61 (congrArg (Sum.inl : Int32 → AvC) c68) ?_
            refine k_iload_n rfl ?_
            refine k_if_eq (fun h69 => by exfalso; omega) (fun h69 => ?_)
            refine k_nil ?_
            refine hB _ _ _ _ (kgoC (is := KX9_cutText_155) rfl ?_)
            refine k_bipush (m := 84) rfl (fun x70 h71 => ?_)
            refine k_goto ?_
            refine hB _ _ _ _ (kgoC (is := KX9_cutText_162) rfl ?_)
            refine k_iastore2 H59 t65 l67 (by omega) (by omega) (fun σ72 H73 e74 c75 => ?_)
            refine k_return ?_
            have X76 : ExC [305, 307, 308, 998] σ0 σ1 := ExC.rf.tr (e3.mo (by decide))
            have X77 : ExC [305, 307, 308, 998] σ0 σ58 := X76.tr (e60.mo (by decide))
            have X78 : ExC [305, 307, 308, 998] σ0 σ72 := X77.tr (e74.mo (by decide))
            have c79 := (t61.mr e74 (by decide)).trans c63
            have c80 := (t61.mi e74 (by decide)).trans c68
            exact ⟨rfl, H73, X78, (fun c hc => by cases c79.symm.trans hc; rw [c80, c75]; omega), (by rw [c80]; omega)⟩
          · refine k_nil ?_
            refine hB _ _ _ _ (kgoC (is := KX9_cutText_42) rfl ?_)
            refine k_aload_n rfl ?_
            refine k_get kg305 t13 (congrArg (Sum.inl : Int32 → AvC) c10) ?_
            refine k_sipush (m := 500) rfl (fun x81 h82 => ?_)
            refine k_ic_gt (fun h83 => ?_) (fun h83 => ?_)
            · refine hB _ _ _ _ (kgoC (is := KX9_cutText_132) rfl ?_)
              refine k_aload_n rfl ?_
              obtain ⟨a86, e84, c85, t87, l88, l89⟩ := cg300 H2.1 t13
              refine k_get kg300 t13 e84 ?_
              refine k_aload_n rfl ?_
              refine k_get kg305 t13 (congrArg (Sum.inl : Int32 → AvC) c10) ?_
              refine k_iload rfl ?_
              refine k_iastore H2 t87 l89 (by omega) (by omega) (fun σ90 H91 e92 => ?_)
              refine k_aload_n rfl ?_
              have t93 := t13.x e92
              obtain ⟨a96, e94, c95, t97, l98, l99⟩ := cg302 H91.1 t93
              refine k_get kg302 t93 e94 ?_
              refine k_aload_n rfl ?_
              have c100 := (t13.mi e92 (by decide)).trans c10
              refine k_get kg305 t93 (congrArg (Sum.inl : Int32 → AvC) c100) ?_
              refine k_iload_n rfl ?_
              refine k_if_eq (fun h101 => by exfalso; omega) (fun h101 => ?_)
              refine k_nil ?_
              refine hB _ _ _ _ (kgoC (is := KX9_cutText_155) rfl ?_)
              refine k_bipush (m := 84) rfl (fun x102 h103 => ?_)
              refine k_goto ?_
              refine hB _ _ _ _ (kgoC (is := KX9_cutText_162) rfl ?_)
              refine k_iastore2 H91 t97 l99 (by omega) (by omega) (fun σ104 H105 e106 c107 => ?_)
              refine k_return ?_
              have X108 : ExC [305, 307, 308, 998] σ0 σ1 := ExC.rf.tr (e3.mo (by decide))
              have X109 : ExC [305, 307, 308, 998] σ0 σ90 := X108.tr (e92.mo (by decide))
              have X110 : ExC [305, 307, 308, 998] σ0 σ104 := X109.tr (e106.mo (by decide))
              have c111 := (t93.mr e106 (by decide)).trans c95
              have c112 := (t93.mi e106 (by decide)).trans c100
              exact ⟨rfl, H105, X110, (fun c hc => by cases c111.symm.trans hc; rw [c112, c107]; omega), (by rw [c112]; omega)⟩
            · refine k_nil ?_
              refine hB _ _ _ _ (kgoC (is := KX9_cutText_52) rfl ?_)
              refine k_aload_n rfl ?_
              refine k_iload rfl ?_
              refine k_inv (P := P_X9_cutOne) (Q := Q_X9_cutOne) rfl rfl rfl rfl (Nat.le_of_ble_eq_true rfl) (t13.rc (by decide)) ⟨_, _, rfl, H2, t13, (by omega), (by omega)⟩ (fun w113 σ114 q115 => ?_)
              obtain ⟨x116, rfl, H117, e118, h119⟩ := q115
              refine k_st (st' := [.inl x116]) rfl ?_
              refine k_istore (ls' := [(5, .inl x116), (0, .inr (.inr (some p0))), (3, .inl v29_3), (4, .inl v29_4)]) rfl ?_
              refine k_iload rfl ?_
              refine k_if_le (fun h120 => ?_) (fun h120 => ?_)
              · refine hB _ _ _ _ (kgoC (is := KX9_cutText_69) rfl ?_)
                refine k_iconst (m := 0) rfl (fun x121 h122 => ?_)
                refine k_nil ?_
                refine hB _ _ _ _ (kgoC (is := KX9_cutText_70) rfl ?_)
                refine k_istore_n (ls' := [(3, .inl x121), (5, .inl x116), (0, .inr (.inr (some p0))), (4, .inl v29_4)]) rfl ?_
                refine k_iload_n rfl ?_
                refine k_if_eq (fun h123 => ?_) (fun h123 => by exfalso; omega)
                refine hB _ _ _ _ (kgoC (is := KX9_cutText_129) rfl ?_)
                refine k_goto ?_
                have c124 := (t13.mi e118 (by decide)).trans c10
                have c125 := (t13.mi e118 (by decide)).trans c17
                have X126 : ExC [305, 307, 308, 998] σ0 σ1 := ExC.rf.tr (e3.mo (by decide))
                have X127 : ExC [305, 307, 308, 998] σ0 σ114 := X126.tr (e118.mo (by decide))
                exact hW _ _ _ _ _ (List.forall_mem_cons.2 ⟨List.Mem.tail _ (List.Mem.tail _ (List.Mem.head _)), (List.forall_mem_cons.2 ⟨List.Mem.head _, (List.forall_mem_cons.2 ⟨List.Mem.tail _ (List.Mem.tail _ (List.Mem.tail _ (List.Mem.head _))), fun _ h => absurd h List.not_mem_nil⟩)⟩)⟩) (ih29 ((2 * (501 - (fIC σ114 p0 305).toInt) + x121.toInt).toNat) (by have z1 := congrArg Int32.toInt c10; have z2 := congrArg Int32.toInt c124; have z3 := n29_; omega) σ114 x121 v29_4 rfl H117 X127 (by omega) (by omega) (by omega) ⟨by rw [c124]; omega, by rw [c125]; omega, by rw [c125]; omega⟩)
              · refine k_nil ?_
                refine hB _ _ _ _ (kgoC (is := KX9_cutText_65) rfl ?_)
                refine k_iconst (m := 1) rfl (fun x128 h129 => ?_)
                refine k_goto ?_
                refine hB _ _ _ _ (kgoC (is := KX9_cutText_70) rfl ?_)
                refine k_istore_n (ls' := [(3, .inl x128), (5, .inl x116), (0, .inr (.inr (some p0))), (4, .inl v29_4)]) rfl ?_
                refine k_iload_n rfl ?_
                refine k_if_eq (fun h130 => by exfalso; omega) (fun h130 => ?_)
                refine k_nil ?_
                refine hB _ _ _ _ (kgoC (is := KX9_cutText_75) rfl ?_)
                refine k_aload_n rfl ?_
                have t131 := t13.x e118
                obtain ⟨a134, e132, c133, t135, l136, l137⟩ := cg300 H117.1 t131
                refine k_get kg300 t131 e132 ?_
                refine k_aload_n rfl ?_
                have c138 := (t13.mi e118 (by decide)).trans c10
                refine k_get kg305 t131 (congrArg (Sum.inl : Int32 → AvC) c138) ?_
                refine k_iload rfl ?_
                refine k_iastore H117 t135 l137 (by omega) (by omega) (fun σ139 H140 e141 => ?_)
                refine k_aload_n rfl ?_
                have t142 := t131.x e141
                obtain ⟨a145, e143, c144, t146, l147, l148⟩ := cg301 H140.1 t142
                refine k_get kg301 t142 e143 ?_
                refine k_aload_n rfl ?_
                have c149 := (t131.mi e141 (by decide)).trans c138
                refine k_get kg305 t142 (congrArg (Sum.inl : Int32 → AvC) c149) ?_
                refine k_iload rfl ?_
                refine k_iastore H140 t146 l148 (by omega) (by omega) (fun σ150 H151 e152 => ?_)
                refine k_aload_n rfl ?_
                have t153 := t142.x e152
                obtain ⟨a156, e154, c155, t157, l158, l159⟩ := cg303 H151.1 t153
                refine k_get kg303 t153 e154 ?_
                refine k_aload_n rfl ?_
                have c160 := (t142.mi e152 (by decide)).trans c149
                refine k_get kg305 t153 (congrArg (Sum.inl : Int32 → AvC) c160) ?_
                refine k_bipush (m := (-2)) rfl (fun x161 h162 => ?_)
                refine k_iastore H151 t157 l159 (by omega) (by omega) (fun σ163 H164 e165 => ?_)
                refine k_aload_n rfl ?_
                refine k_dupR ?_
                have t166 := t153.x e165
                have c167 := (t153.mi e165 (by decide)).trans c160
                refine k_get kg305 t166 (congrArg (Sum.inl : Int32 → AvC) c167) ?_
                refine k_iconst (m := 1) rfl (fun x168 h169 => ?_)
                refine k_iadd (by omega) (by omega) (fun x170 h171 => ?_)
                refine k_putI kp305 H164 t166 (Or.inl fk305) (by show 0 ≤ _; omega) (by show _ ≤ 501; omega) (fun σ172 H173 e174 c175 => ?_)
                refine k_aload_n rfl ?_
                refine k_iload rfl ?_
                refine k_iload rfl ?_
                refine k_iadd (by omega) (by omega) (fun x176 h177 => ?_)
                have t178 := t166.x e174
                refine k_inv (P := P_X9_behindBlanks) (Q := Q_X9_behindBlanks) rfl rfl rfl rfl (Nat.le_of_ble_eq_true rfl) (t178.rc (by decide)) ⟨_, _, rfl, H173, t178, (by omega)⟩ (fun w179 σ180 q181 => ?_)
                obtain ⟨x182, rfl, rfl, h183, q184, q185⟩ := q181
                refine k_st (st' := [.inl x182]) rfl ?_
                have c186 := (t13.mi e118 (by decide)).trans c17
                have c187 := (t131.mi e141 (by decide)).trans c186
                have c188 := (t142.mi e152 (by decide)).trans c187
                have c189 := (t153.mi e165 (by decide)).trans c188
                have c190 := (t166.mi e174 (by decide)).trans c189
                have z191 := congrArg Int32.toInt c190
                refine k_istore (ls' := [(4, .inl x182), (3, .inl x128), (5, .inl x116), (0, .inr (.inr (some p0)))]) rfl ?_
                refine k_nil ?_
                refine hB _ _ _ _ (kgoC (is := KX9_cutText_129) rfl ?_)
                refine k_goto ?_
                have X192 : ExC [305, 307, 308, 998] σ0 σ1 := ExC.rf.tr (e3.mo (by decide))
                have X193 : ExC [305, 307, 308, 998] σ0 σ114 := X192.tr (e118.mo (by decide))
                have X194 : ExC [305, 307, 308, 998] σ0 σ139 := X193.tr (e141.mo (by decide))
                have X195 : ExC [305, 307, 308, 998] σ0 σ150 := X194.tr (e152.mo (by decide))
                have X196 : ExC [305, 307, 308, 998] σ0 σ163 := X195.tr (e165.mo (by decide))
                have X197 : ExC [305, 307, 308, 998] σ0 σ172 := X196.tr (e174.mo (by decide))
                exact hW _ _ _ _ _ (List.forall_mem_cons.2 ⟨List.Mem.tail _ (List.Mem.tail _ (List.Mem.tail _ (List.Mem.head _))), (List.forall_mem_cons.2 ⟨List.Mem.tail _ (List.Mem.head _), (List.forall_mem_cons.2 ⟨List.Mem.head _, fun _ h => absurd h List.not_mem_nil⟩)⟩)⟩) (ih29 ((2 * (501 - (fIC σ172 p0 305).toInt) + x128.toInt).toNat) (by have z1 := congrArg Int32.toInt c10; have z2 := congrArg Int32.toInt c175; have z3 := n29_; omega) σ172 x128 x182 rfl H173 X197 (by omega) (by omega) (by omega) ⟨by rw [c175]; omega, by rw [c190]; omega, by rw [c190]; omega⟩)
    refine hB _ _ _ _ (kgoC (is := KX9_cutText_0) rfl ?_)
    refine k_aload_n rfl ?_
    refine k_aload_n rfl ?_
    refine k_x307 rfl rfl rfl (Nat.le_of_ble_eq_true rfl) H0 h_0_0 h_1_0 h_1_1 (by decide) (by omega) (fun σ198 H199 e200 q201 => ?_)
    have t207 := h_0_0.x e200
    obtain ⟨x202, e203, c204, h205, h206⟩ := cg308 H199.1 t207
    rw [c204] at q201
    refine k_aload_n rfl ?_
    refine k_iconst (m := 0) rfl (fun x208 h209 => ?_)
    refine k_putI kp305 H199 t207 (Or.inl fk305) (by show 0 ≤ _; omega) (by show _ ≤ 501; omega) (fun σ210 H211 e212 c213 => ?_)
    refine k_iconst (m := 1) rfl (fun x214 h215 => ?_)
    refine k_istore_n (ls' := [(3, .inl x214), (0, .inr (.inr (some p0))), (1, .inr (.inr (some p1))), (2, .inl p2)]) rfl ?_
    refine k_aload_n rfl ?_
    refine k_iconst (m := 0) rfl (fun x216 h217 => ?_)
    have t218 := t207.x e212
    refine k_inv (P := P_X9_behindBlanks) (Q := Q_X9_behindBlanks) rfl rfl rfl rfl (Nat.le_of_ble_eq_true rfl) (t218.rc (by decide)) ⟨_, _, rfl, H211, t218, (by omega)⟩ (fun w219 σ220 q221 => ?_)
    obtain ⟨x222, rfl, rfl, h223, q224, q225⟩ := q221
    refine k_st (st' := [.inl x222]) rfl ?_
    have c226 := (t207.mi e212 (by decide)).trans c204
    have z227 := congrArg Int32.toInt c226
    refine k_istore (ls' := [(4, .inl x222), (3, .inl x214), (0, .inr (.inr (some p0))), (1, .inr (.inr (some p1))), (2, .inl p2)]) rfl ?_
    refine k_nil ?_
    have X228 : ExC [305, 307, 308, 998] σ0 σ198 := ExC.rf.tr (e200.mo (by decide))
    have X229 : ExC [305, 307, 308, 998] σ0 σ210 := X228.tr (e212.mo (by decide))
    exact hW _ _ _ _ _ (List.forall_mem_cons.2 ⟨List.Mem.tail _ (List.Mem.tail _ (List.Mem.head _)), (List.forall_mem_cons.2 ⟨List.Mem.tail _ (List.Mem.head _), (List.forall_mem_cons.2 ⟨List.Mem.head _, fun _ h => absurd h List.not_mem_nil⟩)⟩)⟩) (L29 _ σ210 x214 x222 rfl H211 X229 (by omega) (by omega) (by omega) ⟨by rw [c213]; omega, by rw [c226]; omega, by rw [c226]; omega⟩)
