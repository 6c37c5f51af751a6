abbrev P_X8_hasFinallyAhead : CpC := fun As σ => ∃ (p0 : Nat), As = [.inr (.inr (some p0))] ∧ HIC σ ∧ TyC σ p0 9
abbrev Q_X8_hasFinallyAhead : CqC := fun As σ w τ => match As with
  | [.inr (.inr (some p0))] => ∃ r : Int32, w = some (.inl r) ∧ σ = τ ∧ 0 ≤ r.toInt ∧ r.toInt ≤ 1 ∧ (r.toInt = 1 → ∃ b, fRC σ p0 273 = some b ∧ ∃ c, fRC σ b 278 = some c)
  | _ => False
set_option maxRecDepth 100000 in
set_option maxHeartbeats 4000000 in
theorem b_X8_hasFinallyAhead : TbC KX8_hasFinallyAhead [] P_X8_hasFinallyAhead Q_X8_hasFinallyAhead := by
  · rintro As σ0 ⟨p0, rfl, H0, h_0_0⟩ hgr G hB hW
    change G 0 [(0, .inr (.inr (some p0)))] [] σ0
    refine hB _ _ _ _ (kgoC (is := KX8_hasFinallyAhead_0) rfl ?_)
    refine k_aload_n rfl ?_
    obtain ⟨x3, e1, c2, h4, h5⟩ := cg270 H0.1 h_0_0
    refine k_get kg270 h_0_0 e1 ?_
    refine k_bipush (m := 92) rfl (fun x6 h7 => ?_)
    refine k_ic_ne (fun h8 => ?_) (fun h8 => ?_)
    · refine hB _ _ _ _ (kgoC (is := KX8_hasFinallyAhead_41) rfl ?_)
      refine k_iconst (m := 0) rfl (fun x9 h10 => ?_)
      refine k_nil ?_
      refine hB _ _ _ _ (kgoC (is := KX8_hasFinallyAhead_42) rfl ?_)
      refine k_ireturn (fun _ => b01C (by omega) (by omega)) ?_
      exact ⟨_, rfl, rfl, (by omega), (by omega), (fun hz => by exfalso; omega)⟩
    · refine k_nil ?_
      refine hB _ _ _ _ (kgoC (is := KX8_hasFinallyAhead_9) rfl ?_)
      refine k_aload_n rfl ?_
      obtain ⟨o13, e11, c12, t14, f15⟩ := cg273 H0.1 h_0_0
      refine k_get kg273 h_0_0 e11 ?_
      refine k_ifnull (fun h17 => ?_) (fun b16 h17 => ?_)
      · subst h17
        refine hB _ _ _ _ (kgoC (is := KX8_hasFinallyAhead_41) rfl ?_)
        refine k_iconst (m := 0) rfl (fun x18 h19 => ?_)
        refine k_nil ?_
        refine hB _ _ _ _ (kgoC (is := KX8_hasFinallyAhead_42) rfl ?_)
        refine k_ireturn (fun _ => b01C (by omega) (by omega)) ?_
        exact ⟨_, rfl, rfl, (by omega), (by omega), (fun hz => by exfalso; omega)⟩
      · subst h17
        have t20 := t14 b16 rfl
        have f21 := (f15 b16 rfl).2
        refine k_nil ?_
        refine hB _ _ _ _ (kgoC (is := KX8_hasFinallyAhead_16) rfl ?_)
        refine k_aload_n rfl ?_
        refine k_get kg273 h_0_0 (congrArg (fun z : Option Nat => (Sum.inr (Sum.inr z) : AvC)) c12) ?_
        obtain ⟨o24, e22, c23, t25, f26⟩ := cg278 H0.1 t20
        refine k_get kg278 t20 e22 ?_
        refine k_ifnull (fun h28 => ?_) (fun b27 h28 => ?_)
        · subst h28
          refine hB _ _ _ _ (kgoC (is := KX8_hasFinallyAhead_41) rfl ?_)
          refine k_iconst (m := 0) rfl (fun x29 h30 => ?_)
          refine k_nil ?_
          refine hB _ _ _ _ (kgoC (is := KX8_hasFinallyAhead_42) rfl ?_)
          refine k_ireturn (fun _ => b01C (by omega) (by omega)) ?_
          exact ⟨_, rfl, rfl, (by omega), (by omega), (fun hz => by exfalso; omega)⟩
        · subst h28
          have t31 := t25 b27 rfl
          have f32 := (f26 b27 rfl).2
          refine k_nil ?_
          refine hB _ _ _ _ (kgoC (is := KX8_hasFinallyAhead_26) rfl ?_)
          refine k_aload_n rfl ?_
          refine k_get kg273 h_0_0 (congrArg (fun z : Option Nat => (Sum.inr (Sum.inr z) : AvC)) c12) ?_
          refine k_get kg278 t20 (congrArg (fun z : Option Nat => (Sum.inr (Sum.inr z) : AvC)) c23) ?_
          refine k_aload_n rfl ?_
          refine k_acmp_eq (c := 9) (c' := 9) (t31.ot) (h_0_0.ot) (fun h33 => ?_) (fun h33 => ?_)
          · refine hB _ _ _ _ (kgoC (is := KX8_hasFinallyAhead_41) rfl ?_)
            refine k_iconst (m := 0) rfl (fun x34 h35 => ?_)
            refine k_nil ?_
            refine hB _ _ _ _ (kgoC (is := KX8_hasFinallyAhead_42) rfl ?_)
            refine k_ireturn (fun _ => b01C (by omega) (by omega)) ?_
            exact ⟨_, rfl, rfl, (by omega), (by omega), (fun hz => by exfalso; omega)⟩
          · refine k_nil ?_
            refine hB _ _ _ _ (kgoC (is := KX8_hasFinallyAhead_37) rfl ?_)
            refine k_iconst (m := 1) rfl (fun x36 h37 => ?_)
            refine k_goto ?_
            refine hB _ _ _ _ (kgoC (is := KX8_hasFinallyAhead_42) rfl ?_)
            refine k_ireturn (fun _ => b01C (by omega) (by omega)) ?_
            exact ⟨_, rfl, rfl, (by omega), (by omega), (fun _ => ⟨_, c12, _, c23⟩)⟩
theorem lg_X8_hasFinallyAhead : ∀ (As : List AvC) (σ : CsC), P_X8_hasFinallyAhead As σ → lgC As ≤ rX8_hasFinallyAhead.2.2.1 := by
  rintro As σ ⟨p0, rfl, -⟩
  exact Nat.le_of_ble_eq_true rfl
theorem m_X8_hasFinallyAhead (l : Launch) : CMetC l 1 181 P_X8_hasFinallyAhead Q_X8_hasFinallyAhead :=
  CMetC.of KX8_hasFinallyAhead [] hX8_hasFinallyAhead (by decide) (by decide) okX8_hasFinallyAhead cc0C (lg_X8_hasFinallyAhead) (b_X8_hasFinallyAhead)

abbrev P_X8_isCaught : CpC := fun As σ => ∃ (p0 : Nat), As = [.inr (.inr (some p0))] ∧ HIC σ ∧ TyC σ p0 9
abbrev Q_X8_isCaught : CqC := fun As σ w τ => match As with
  | [.inr (.inr (some p0))] => ∃ r : Int32, w = some (.inl r) ∧ σ = τ ∧ 0 ≤ r.toInt ∧ r.toInt ≤ 1 ∧ (r.toInt = 1 → ∃ b, fRC σ p0 273 = some b ∧ ∃ c, fRC σ b 277 = some c)
  | _ => False
set_option maxRecDepth 100000 in
set_option maxHeartbeats 4000000 in
theorem b_X8_isCaught : TbC KX8_isCaught [] P_X8_isCaught Q_X8_isCaught := by
  · rintro As σ0 ⟨p0, rfl, H0, h_0_0⟩ hgr G hB hW
    change G 0 [(0, .inr (.inr (some p0)))] [] σ0
    refine hB _ _ _ _ (kgoC (is := KX8_isCaught_0) rfl ?_)
    refine k_aload_n rfl ?_
    obtain ⟨x3, e1, c2, h4, h5⟩ := cg270 H0.1 h_0_0
    refine k_get kg270 h_0_0 e1 ?_
    refine k_bipush (m := 92) rfl (fun x6 h7 => ?_)
    refine k_ic_ne (fun h8 => ?_) (fun h8 => ?_)
    · refine hB _ _ _ _ (kgoC (is := KX8_isCaught_41) rfl ?_)
      refine k_iconst (m := 0) rfl (fun x9 h10 => ?_)
      refine k_nil ?_
      refine hB _ _ _ _ (kgoC (is := KX8_isCaught_42) rfl ?_)
      refine k_ireturn (fun _ => b01C (by omega) (by omega)) ?_
      exact ⟨_, rfl, rfl, (by omega), (by omega), (fun hz => by exfalso; omega)⟩
    · refine k_nil ?_
      refine hB _ _ _ _ (kgoC (is := KX8_isCaught_9) rfl ?_)
      refine k_aload_n rfl ?_
      obtain ⟨o13, e11, c12, t14, f15⟩ := cg273 H0.1 h_0_0
      refine k_get kg273 h_0_0 e11 ?_
      refine k_ifnull (fun h17 => ?_) (fun b16 h17 => ?_)
      · subst h17
        refine hB _ _ _ _ (kgoC (is := KX8_isCaught_41) rfl ?_)
        refine k_iconst (m := 0) rfl (fun x18 h19 => ?_)
        refine k_nil ?_
        refine hB _ _ _ _ (kgoC (is := KX8_isCaught_42) rfl ?_)
        refine k_ireturn (fun _ => b01C (by omega) (by omega)) ?_
        exact ⟨_, rfl, rfl, (by omega), (by omega), (fun hz => by exfalso; omega)⟩
      · subst h17
        have t20 := t14 b16 rfl
        have f21 := (f15 b16 rfl).2
        refine k_nil ?_
        refine hB _ _ _ _ (kgoC (is := KX8_isCaught_16) rfl ?_)
        refine k_aload_n rfl ?_
        refine k_get kg273 h_0_0 (congrArg (fun z : Option Nat => (Sum.inr (Sum.inr z) : AvC)) c12) ?_
        obtain ⟨o24, e22, c23, t25, f26⟩ := cg277 H0.1 t20
        refine k_get kg277 t20 e22 ?_
        refine k_ifnull (fun h28 => ?_) (fun b27 h28 => ?_)
        · subst h28
          refine hB _ _ _ _ (kgoC (is := KX8_isCaught_41) rfl ?_)
          refine k_iconst (m := 0) rfl (fun x29 h30 => ?_)
          refine k_nil ?_
          refine hB _ _ _ _ (kgoC (is := KX8_isCaught_42) rfl ?_)
          refine k_ireturn (fun _ => b01C (by omega) (by omega)) ?_
          exact ⟨_, rfl, rfl, (by omega), (by omega), (fun hz => by exfalso; omega)⟩
        · subst h28
          have t31 := t25 b27 rfl
          have f32 := (f26 b27 rfl).2
          refine k_nil ?_
          refine hB _ _ _ _ (kgoC (is := KX8_isCaught_26) rfl ?_)
          refine k_aload_n rfl ?_
          refine k_get kg273 h_0_0 (congrArg (fun z : Option Nat => (Sum.inr (Sum.inr z) : AvC)) c12) ?_
          obtain ⟨o35, e33, c34, t36, f37⟩ := cg276 H0.1 t20
          refine k_get kg276 t20 e33 ?_
          refine k_aload_n rfl ?_
          refine k_acmp_ne (c := 9) (c' := 9) (t36) (h_0_0.ot) (fun h38 => ?_) (fun h38 => ?_)
          · refine hB _ _ _ _ (kgoC (is := KX8_isCaught_41) rfl ?_)
            refine k_iconst (m := 0) rfl (fun x39 h40 => ?_)
            refine k_nil ?_
            refine hB _ _ _ _ (kgoC (is := KX8_isCaught_42) rfl ?_)
            refine k_ireturn (fun _ => b01C (by omega) (by omega)) ?_
            exact ⟨_, rfl, rfl, (by omega), (by omega), (fun hz => by exfalso; omega)⟩
          · refine k_nil ?_
            refine hB _ _ _ _ (kgoC (is := KX8_isCaught_37) rfl ?_)
            refine k_iconst (m := 1) rfl (fun x41 h42 => ?_)
            refine k_goto ?_
            refine hB _ _ _ _ (kgoC (is := KX8_isCaught_42) rfl ?_)
            refine k_ireturn (fun _ => b01C (by omega) (by omega)) ?_
            exact ⟨_, rfl, rfl, (by omega), (by omega), (fun _ => ⟨_, c12, _, c23⟩)⟩
theorem lg_X8_isCaught : ∀ (As : List AvC) (σ : CsC), P_X8_isCaught As σ → lgC As ≤ rX8_isCaught.2.2.1 := by
  rintro As σ ⟨p0, rfl, -⟩
  exact Nat.le_of_ble_eq_true rfl
theorem m_X8_isCaught (l : Launch) : CMetC l 1 182 P_X8_isCaught Q_X8_isCaught :=
  CMetC.of KX8_isCaught [] hX8_isCaught (by decide) (by decide) okX8_isCaught cc0C (lg_X8_isCaught) (b_X8_isCaught)

abbrev P_X5_addParam : CpC := fun As σ => ∃ (p0 : Nat) (p1 : Int32), As = [.inr (.inr (some p0)), .inl p1] ∧ HIC σ ∧ TyC σ p0 6
abbrev Q_X5_addParam : CqC := fun As σ w τ => match As with
  | [.inr (.inr (some p0)), .inl p1] => w = none ∧ HIC τ ∧ ExC [185, 995] σ τ ∧ (((fIC σ p0 185).toInt < 6 → (fIC τ p0 185).toInt = (fIC σ p0 185).toInt + 1)) ∧ ((¬ (fIC σ p0 185).toInt < 6 → (fIC τ p0 185).toInt = (fIC σ p0 185).toInt)) ∧ ((∀ b, b ≠ p0 → fIC τ b 185 = fIC σ b 185)) ∧ (((fIC σ p0 185).toInt < 6 → ∀ r, fRC σ p0 183 = some r → eIC τ r = upd (eIC σ r) (fIC σ p0 185).toNatClampNeg p1)) ∧ ((∀ r, fRC σ p0 183 = some r → ∀ b, b ≠ r → eIC τ b = eIC σ b)) ∧ ((¬ (fIC σ p0 185).toInt < 6 → σ = τ))
  | _ => False
set_option maxRecDepth 100000 in
set_option maxHeartbeats 4000000 in
theorem b_X5_addParam : TbC KX5_addParam [] P_X5_addParam Q_X5_addParam := by
  · rintro As σ0 ⟨p0, p1, rfl, H0, h_0_0⟩ hgr G hB hW
    change G 0 [(0, .inr (.inr (some p0))), (1, .inl p1)] [] σ0
    refine hB _ _ _ _ (kgoC (is := KX5_addParam_0) rfl ?_)
    refine k_aload_n rfl ?_
    obtain ⟨x3, e1, c2, h4, h5⟩ := cg185 H0.1 h_0_0
    refine k_get kg185 h_0_0 e1 ?_
    refine k_bipush (m := 6) rfl (fun x6 h7 => ?_)
    refine k_ic_ge (fun h8 => ?_) (fun h8 => ?_)
    · refine hB _ _ _ _ (kgoC (is := KX5_addParam_29) rfl ?_)
      refine k_return ?_
      exact ⟨rfl, H0, (ExC.rf : ExC [185, 995] σ0 σ0), (by have z := congrArg Int32.toInt c2; rw [c2]; omega), (by have z := congrArg Int32.toInt c2; rw [c2]; omega), (fun _ _ => rfl), (fun hz => absurd hz (by rw [c2]; omega)), (fun _ _ _ _ => rfl), (fun _ => rfl)⟩
    · refine k_nil ?_
      refine hB _ _ _ _ (kgoC (is := KX5_addParam_9) rfl ?_)
      refine k_aload_n rfl ?_
      obtain ⟨a11, e9, c10, t12, l13, l14⟩ := cg183 H0.1 h_0_0
      refine k_get kg183 h_0_0 e9 ?_
      refine k_aload_n rfl ?_
      refine k_get kg185 h_0_0 (congrArg (Sum.inl : Int32 → AvC) c2) ?_
      refine k_iload_n rfl ?_
      refine k_iastore7 H0 t12 l14 (by omega) (by omega) (fun σ15 H16 e17 c18 => ?_)
      refine k_aload_n rfl ?_
      refine k_dupR ?_
      have t19 := h_0_0.x e17
      have c20 := (h_0_0.mi e17 (by decide)).trans c2
      refine k_get kg185 t19 (congrArg (Sum.inl : Int32 → AvC) c20) ?_
      refine k_iconst (m := 1) rfl (fun x21 h22 => ?_)
      refine k_iadd (by omega) (by omega) (fun x23 h24 => ?_)
      refine k_putIe kp185 H16 t19 (Or.inl fk185) (by show 0 ≤ _; omega) (by show _ ≤ 6; omega) (fun σ25 H26 e27 c28 c29 => ?_)
      refine k_nil ?_
      refine hB _ _ _ _ (kgoC (is := KX5_addParam_29) rfl ?_)
      refine k_return ?_
      have X30 : ExC [185, 995] σ0 σ15 := ExC.rf.tr (e17.mo (by decide))
      have X31 : ExC [185, 995] σ0 σ25 := X30.tr (e27.mo (by decide))
      exact ⟨rfl, H26, X31, (by have z := congrArg Int32.toInt c2; rw [c28]; omega), (by have z := congrArg Int32.toInt c2; rw [c28]; omega), (fun b hb => by rw [c29, c18]; exact fI_pI (Or.inr hb)), (fun _ r hr => by obtain rfl : a11 = r := Option.some.inj (c10.symm.trans hr); rw [c29, c18, c2]; show eIC (qIC σ0 a11 _) a11 = _; exact qI_s), (fun r hr b hb => by obtain rfl : a11 = r := Option.some.inj (c10.symm.trans hr); rw [c29, c18]; show eIC (qIC σ0 a11 _) b = _; exact qI_n hb), (fun hz => absurd (by rw [c2]; omega) hz)⟩
theorem lg_X5_addParam : ∀ (As : List AvC) (σ : CsC), P_X5_addParam As σ → lgC As ≤ rX5_addParam.2.2.1 := by
  rintro As σ ⟨p0, p1, rfl, -⟩
  exact Nat.le_of_ble_eq_true rfl
theorem m_X5_addParam (l : Launch) : CMetC l 1 112 P_X5_addParam Q_X5_addParam :=
  CMetC.of KX5_addParam [] hX5_addParam (by decide) (by decide) okX5_addParam cc0C (lg_X5_addParam) (b_X5_addParam)

abbrev P_X5_hasSameParams : CpC := fun As σ => ∃ (p0 : Nat) (p1 : Nat), As = [.inr (.inr (some p0)), .inr (.inr (some p1))] ∧ HIC σ ∧ TyC σ p0 6 ∧ TyC σ p1 6
abbrev Q_X5_hasSameParams : CqC := fun As σ w τ => match As with
  | [.inr (.inr (some p0)), .inr (.inr (some p1))] => ∃ r : Int32, w = some (.inl r) ∧ σ = τ ∧ 0 ≤ r.toInt ∧ r.toInt ≤ 1
  | _ => False
set_option maxRecDepth 100000 in
set_option maxHeartbeats 4000000 in
theorem b_X5_hasSameParams : TbC KX5_hasSameParams [] P_X5_hasSameParams Q_X5_hasSameParams := by
  · rintro As σ0 ⟨p0, p1, rfl, H0, h_0_0, h_1_0⟩ hgr G hB hW
    change G 0 [(0, .inr (.inr (some p0))), (1, .inr (.inr (some p1)))] [] σ0
    have L15 : ∀ (n15 : Nat), ∀ (v15_2 : Int32), (2147483647 - v15_2.toInt).toNat = n15 → 0 ≤ v15_2.toInt → v15_2.toInt ≤ 10 → G 15 [(0, .inr (.inr (some p0))), (1, .inr (.inr (some p1))), (2, .inl v15_2)] [] σ0 := by
      intro n15
      induction n15 using Nat.strongRecOn with
      | _ n15 ih15 =>
        intro v15_2 n15_ h1 h2
        refine hB _ _ _ _ (kgoC (is := KX5_hasSameParams_15) rfl ?_)
        refine k_iload_n rfl ?_
        refine k_aload_n rfl ?_
        obtain ⟨x5, e3, c4, h6, h7⟩ := cg185 H0.1 h_0_0
        refine k_get kg185 h_0_0 e3 ?_
        refine k_ic_ge (fun h8 => ?_) (fun h8 => ?_)
        · refine hB _ _ _ _ (kgoC (is := KX5_hasSameParams_46) rfl ?_)
          refine k_iconst (m := 1) rfl (fun x9 h10 => ?_)
          refine k_ireturn (fun _ => b01C (by omega) (by omega)) ?_
          exact ⟨_, rfl, rfl, (by omega), (by omega)⟩
        · refine k_nil ?_
          refine hB _ _ _ _ (kgoC (is := KX5_hasSameParams_23) rfl ?_)
          refine k_aload_n rfl ?_
          obtain ⟨a13, e11, c12, t14, l15, l16⟩ := cg183 H0.1 h_0_0
          refine k_get kg183 h_0_0 e11 ?_
          refine k_iload_n rfl ?_
          refine k_iaload t14 (by omega) (by omega) (fun x17 => ?_)
          refine k_aload_n rfl ?_
          obtain ⟨a20, e18, c19, t21, l22, l23⟩ := cg183 H0.1 h_1_0
          refine k_get kg183 h_1_0 e18 ?_
          refine k_iload_n rfl ?_
          refine k_iaload t21 (by omega) (by omega) (fun x24 => ?_)
          refine k_ic_eq (fun h25 => ?_) (fun h25 => ?_)
          · refine hB _ _ _ _ (kgoC (is := KX5_hasSameParams_40) rfl ?_)
            obtain ⟨x26, e28, h27⟩ := iincC (n := 1) (m := 1) (v := v15_2) rfl (by omega) (by omega)
            refine k_iinc (ls' := [(2, .inl x26), (0, .inr (.inr (some p0))), (1, .inr (.inr (some p1)))]) rfl e28 rfl ?_
            refine k_goto ?_
            exact hW _ _ _ _ _ (List.forall_mem_cons.2 ⟨List.Mem.tail _ (List.Mem.head _), (List.forall_mem_cons.2 ⟨List.Mem.tail _ (List.Mem.tail _ (List.Mem.head _)), (List.forall_mem_cons.2 ⟨List.Mem.head _, fun _ h => absurd h List.not_mem_nil⟩)⟩)⟩) (ih15 ((2147483647 - x26.toInt).toNat) (by omega) x26 rfl (by omega) (by omega))
          · refine k_nil ?_
            refine hB _ _ _ _ (kgoC (is := KX5_hasSameParams_38) rfl ?_)
            refine k_iconst (m := 0) rfl (fun x29 h30 => ?_)
            refine k_ireturn (fun _ => b01C (by omega) (by omega)) ?_
            exact ⟨_, rfl, rfl, (by omega), (by omega)⟩
    refine hB _ _ _ _ (kgoC (is := KX5_hasSameParams_0) rfl ?_)
    refine k_aload_n rfl ?_
    obtain ⟨x33, e31, c32, h34, h35⟩ := cg185 H0.1 h_0_0
    refine k_get kg185 h_0_0 e31 ?_
    refine k_aload_n rfl ?_
    obtain ⟨x38, e36, c37, h39, h40⟩ := cg185 H0.1 h_1_0
    refine k_get kg185 h_1_0 e36 ?_
    refine k_ic_eq (fun h41 => ?_) (fun h41 => ?_)
    · refine hB _ _ _ _ (kgoC (is := KX5_hasSameParams_13) rfl ?_)
      refine k_iconst (m := 0) rfl (fun x42 h43 => ?_)
      refine k_istore_n (ls' := [(2, .inl x42), (0, .inr (.inr (some p0))), (1, .inr (.inr (some p1)))]) rfl ?_
      refine k_nil ?_
      exact hW _ _ _ _ _ (List.forall_mem_cons.2 ⟨List.Mem.tail _ (List.Mem.head _), (List.forall_mem_cons.2 ⟨List.Mem.tail _ (List.Mem.tail _ (List.Mem.head _)), (List.forall_mem_cons.2 ⟨List.Mem.head _, fun _ h => absurd h List.not_mem_nil⟩)⟩)⟩) (L15 _ x42 rfl (by omega) (by omega))
    · refine k_nil ?_
      refine hB _ _ _ _ (kgoC (is := KX5_hasSameParams_11) rfl ?_)
      refine k_iconst (m := 0) rfl (fun x44 h45 => ?_)
      refine k_ireturn (fun _ => b01C (by omega) (by omega)) ?_
      exact ⟨_, rfl, rfl, (by omega), (by omega)⟩
theorem lg_X5_hasSameParams : ∀ (As : List AvC) (σ : CsC), P_X5_hasSameParams As σ → lgC As ≤ rX5_hasSameParams.2.2.1 := by
  rintro As σ ⟨p0, p1, rfl, -⟩
  exact Nat.le_of_ble_eq_true rfl
theorem m_X5_hasSameParams (l : Launch) : CMetC l 1 113 P_X5_hasSameParams Q_X5_hasSameParams :=
  CMetC.of KX5_hasSameParams [] hX5_hasSameParams (by decide) (by decide) okX5_hasSameParams cc0C (lg_X5_hasSameParams) (b_X5_hasSameParams)

abbrev P_X5_isAsNarrowAs : CpC := fun As σ => ∃ (p0 : Nat) (p1 : Nat), As = [.inr (.inr (some p0)), .inr (.inr (some p1))] ∧ HIC σ ∧ TyC σ p0 6 ∧ TyC σ p1 6
abbrev Q_X5_isAsNarrowAs : CqC := fun As σ w τ => match As with
  | [.inr (.inr (some p0)), .inr (.inr (some p1))] => ∃ r : Int32, w = some (.inl r) ∧ σ = τ ∧ 0 ≤ r.toInt ∧ r.toInt ≤ 1
  | _ => False
set_option maxRecDepth 100000 in
set_option maxHeartbeats 4000000 in
theorem b_X5_isAsNarrowAs : TbC KX5_isAsNarrowAs [(224, P_X11_sameOrWidens, Q_X11_sameOrWidens)] P_X5_isAsNarrowAs Q_X5_isAsNarrowAs := by
  · rintro As σ0 ⟨p0, p1, rfl, H0, h_0_0, h_1_0⟩ hgr G hB hW
    change G 0 [(0, .inr (.inr (some p0))), (1, .inr (.inr (some p1)))] [] σ0
    have L2 : ∀ (n2 : Nat), ∀ (v2_2 : Int32), (2147483647 - v2_2.toInt).toNat = n2 → 0 ≤ v2_2.toInt → v2_2.toInt ≤ 10 → G 2 [(0, .inr (.inr (some p0))), (1, .inr (.inr (some p1))), (2, .inl v2_2)] [] σ0 := by
      intro n2
      induction n2 using Nat.strongRecOn with
      | _ n2 ih2 =>
        intro v2_2 n2_ h1 h2
        refine hB _ _ _ _ (kgoC (is := KX5_isAsNarrowAs_2) rfl ?_)
        refine k_iload_n rfl ?_
        refine k_aload_n rfl ?_
        obtain ⟨x5, e3, c4, h6, h7⟩ := cg185 H0.1 h_0_0
        refine k_get kg185 h_0_0 e3 ?_
        refine k_ic_ge (fun h8 => ?_) (fun h8 => ?_)
        · refine hB _ _ _ _ (kgoC (is := KX5_isAsNarrowAs_36) rfl ?_)
          refine k_iconst (m := 1) rfl (fun x9 h10 => ?_)
          refine k_ireturn (fun _ => b01C (by omega) (by omega)) ?_
          exact ⟨_, rfl, rfl, (by omega), (by omega)⟩
        · refine k_nil ?_
          refine hB _ _ _ _ (kgoC (is := KX5_isAsNarrowAs_10) rfl ?_)
          refine k_aload_n rfl ?_
          obtain ⟨a13, e11, c12, t14, l15, l16⟩ := cg183 H0.1 h_0_0
          refine k_get kg183 h_0_0 e11 ?_
          refine k_iload_n rfl ?_
          refine k_iaload t14 (by omega) (by omega) (fun x17 => ?_)
          refine k_aload_n rfl ?_
          obtain ⟨a20, e18, c19, t21, l22, l23⟩ := cg183 H0.1 h_1_0
          refine k_get kg183 h_1_0 e18 ?_
          refine k_iload_n rfl ?_
          refine k_iaload t21 (by omega) (by omega) (fun x24 => ?_)
          refine k_stat (P := P_X11_sameOrWidens) (Q := Q_X11_sameOrWidens) rfl rfl (Nat.le_of_ble_eq_true rfl) rfl rfl (Nat.le_of_ble_eq_true rfl) ⟨_, _, rfl, H0⟩ (fun w25 σ26 q27 => ?_)
          obtain ⟨x28, rfl, rfl, h29, h30⟩ := q27
          refine k_st (st' := [.inl x28]) rfl ?_
          refine k_if_ne (fun h31 => ?_) (fun h31 => ?_)
          · refine hB _ _ _ _ (kgoC (is := KX5_isAsNarrowAs_30) rfl ?_)
            obtain ⟨x32, e34, h33⟩ := iincC (n := 1) (m := 1) (v := v2_2) rfl (by omega) (by omega)
            refine k_iinc (ls' := [(2, .inl x32), (0, .inr (.inr (some p0))), (1, .inr (.inr (some p1)))]) rfl e34 rfl ?_
            refine k_goto ?_
            exact hW _ _ _ _ _ (List.forall_mem_cons.2 ⟨List.Mem.tail _ (List.Mem.head _), (List.forall_mem_cons.2 ⟨List.Mem.tail _ (List.Mem.tail _ (List.Mem.head _)), (List.forall_mem_cons.2 ⟨List.Mem.head _, fun _ h => absurd h List.not_mem_nil⟩)⟩)⟩) (ih2 ((2147483647 - x32.toInt).toNat) (by omega) x32 rfl (by omega) (by omega))
          · refine k_nil ?_
            refine hB _ _ _ _ (kgoC (is := KX5_isAsNarrowAs_28) rfl ?_)
            refine k_iconst (m := 0) rfl (fun x35 h36 => ?_)
            refine k_ireturn (fun _ => b01C (by omega) (by omega)) ?_
            exact ⟨_, rfl, rfl, (by omega), (by omega)⟩
    refine hB _ _ _ _ (kgoC (is := KX5_isAsNarrowAs_0) rfl ?_)
    refine k_iconst (m := 0) rfl (fun x37 h38 => ?_)
    refine k_istore_n (ls' := [(2, .inl x37), (0, .inr (.inr (some p0))), (1, .inr (.inr (some p1)))]) rfl ?_
    refine k_nil ?_
    exact hW _ _ _ _ _ (List.forall_mem_cons.2 ⟨List.Mem.tail _ (List.Mem.head _), (List.forall_mem_cons.2 ⟨List.Mem.tail _ (List.Mem.tail _ (List.Mem.head _)), (List.forall_mem_cons.2 ⟨List.Mem.head _, fun _ h => absurd h List.not_mem_nil⟩)⟩)⟩) (L2 _ x37 rfl (by omega) (by omega))
theorem lg_X5_isAsNarrowAs : ∀ (As : List AvC) (σ : CsC), P_X5_isAsNarrowAs As σ → lgC As ≤ rX5_isAsNarrowAs.2.2.1 := by
  rintro As σ ⟨p0, p1, rfl, -⟩
  exact Nat.le_of_ble_eq_true rfl
theorem m_X5_isAsNarrowAs (l : Launch) : CMetC l 2 114 P_X5_isAsNarrowAs Q_X5_isAsNarrowAs :=
  CMetC.of KX5_isAsNarrowAs [(224, P_X11_sameOrWidens, Q_X11_sameOrWidens)] hX5_isAsNarrowAs (by decide) (by decide) okX5_isAsNarrowAs (cc1C (m_X11_sameOrWidens l) (by decide) cc0C) (lg_X5_isAsNarrowAs) (b_X5_isAsNarrowAs)

abbrev P_X5_takes : CpC := fun As σ => ∃ (p0 : Nat) (p1 : Int64) (p2 : Int32) (p3 : Option Nat), As = [.inr (.inr (some p0)), .inr (.inl p1), .inl p2, .inr (.inr p3)] ∧ HIC σ ∧ TyC σ p0 6 ∧ OtC σ p3 2
abbrev Q_X5_takes : CqC := fun As σ w τ => match As with
  | [.inr (.inr (some p0)), .inr (.inl p1), .inl p2, .inr (.inr p3)] => ∃ r : Int32, w = some (.inl r) ∧ σ = τ ∧ 0 ≤ r.toInt ∧ r.toInt ≤ 1
  | _ => False
set_option maxRecDepth 100000 in
set_option maxHeartbeats 4000000 in
theorem b_X5_takes : TbC KX5_takes [(224, P_X11_sameOrWidens, Q_X11_sameOrWidens)] P_X5_takes Q_X5_takes := by
  · rintro As σ0 ⟨p0, p1, p2, p3, rfl, H0, h_0_0, h_3_0⟩ hgr G hB hW
    change G 0 [(0, .inr (.inr (some p0))), (1, .inr (.inl p1)), (3, .inl p2), (4, .inr (.inr p3))] [] σ0
    have L26 : ∀ (n26 : Nat), ∀ (v26_5 : Option Nat) (v26_6 : Int32), (2147483647 - v26_6.toInt).toNat = n26 → OtC σ0 v26_5 2 → 0 ≤ v26_6.toInt → v26_6.toInt ≤ 10 → G 26 [(0, .inr (.inr (some p0))), (5, .inr (.inr v26_5)), (6, .inl v26_6)] [] σ0 := by
      intro n26
      induction n26 using Nat.strongRecOn with
      | _ n26 ih26 =>
        intro v26_5 v26_6 n26_ h1 h2 h3
        refine hB _ _ _ _ (kgoC (is := KX5_takes_26) rfl ?_)
        refine k_iload rfl ?_
        refine k_aload_n rfl ?_
        obtain ⟨x6, e4, c5, h7, h8⟩ := cg185 H0.1 h_0_0
        refine k_get kg185 h_0_0 e4 ?_
        refine k_ic_ge (fun h9 => ?_) (fun h9 => ?_)
        · refine hB _ _ _ _ (kgoC (is := KX5_takes_73) rfl ?_)
          refine k_iconst (m := 1) rfl (fun x10 h11 => ?_)
          refine k_ireturn (fun _ => b01C (by omega) (by omega)) ?_
          exact ⟨_, rfl, rfl, (by omega), (by omega)⟩
        · refine k_nil ?_
          refine hB _ _ _ _ (kgoC (is := KX5_takes_35) rfl ?_)
          refine k_aload rfl ?_
          refine k_ifnull (fun h13 => ?_) (fun b12 h13 => ?_)
          · subst h13
            refine hB _ _ _ _ (kgoC (is := KX5_takes_73) rfl ?_)
            refine k_iconst (m := 1) rfl (fun x14 h15 => ?_)
            refine k_ireturn (fun _ => b01C (by omega) (by omega)) ?_
            exact ⟨_, rfl, rfl, (by omega), (by omega)⟩
          · subst h13
            have t16 := h1 b12 rfl
            refine k_nil ?_
            refine hB _ _ _ _ (kgoC (is := KX5_takes_40) rfl ?_)
            refine k_aload rfl ?_
            obtain ⟨x19, e17, c18, h20, h21⟩ := cg68 H0.1 t16
            refine k_get kg68 t16 e17 ?_
            refine k_aload_n rfl ?_
            obtain ⟨a24, e22, c23, t25, l26, l27⟩ := cg183 H0.1 h_0_0
            refine k_get kg183 h_0_0 e22 ?_
            refine k_iload rfl ?_
            refine k_iaload t25 (by omega) (by omega) (fun x28 => ?_)
            refine k_stat (P := P_X11_sameOrWidens) (Q := Q_X11_sameOrWidens) rfl rfl (Nat.le_of_ble_eq_true rfl) rfl rfl (Nat.le_of_ble_eq_true rfl) ⟨_, _, rfl, H0⟩ (fun w29 σ30 q31 => ?_)
            obtain ⟨x32, rfl, rfl, h33, h34⟩ := q31
            refine k_st (st' := [.inl x32]) rfl ?_
            refine k_if_ne (fun h35 => ?_) (fun h35 => ?_)
            · refine hB _ _ _ _ (kgoC (is := KX5_takes_60) rfl ?_)
              refine k_aload rfl ?_
              obtain ⟨o38, e36, c37, t39, f40⟩ := cg75 H0.1 t16
              refine k_get kg75 t16 e36 ?_
              refine k_astore (ls' := [(5, .inr (.inr o38)), (0, .inr (.inr (some p0))), (6, .inl v26_6)]) rfl ?_
              obtain ⟨x41, e43, h42⟩ := iincC (n := 1) (m := 1) (v := v26_6) rfl (by omega) (by omega)
              refine k_iinc (ls' := [(6, .inl x41), (5, .inr (.inr o38)), (0, .inr (.inr (some p0)))]) rfl e43 rfl ?_
              refine k_goto ?_
              exact hW _ _ _ _ _ (List.forall_mem_cons.2 ⟨List.Mem.tail _ (List.Mem.tail _ (List.Mem.head _)), (List.forall_mem_cons.2 ⟨List.Mem.tail _ (List.Mem.head _), (List.forall_mem_cons.2 ⟨List.Mem.head _, fun _ h => absurd h List.not_mem_nil⟩)⟩)⟩) (ih26 ((2147483647 - x41.toInt).toNat) (by omega) o38 x41 rfl t39 (by omega) (by omega))
            · refine k_nil ?_
              refine hB _ _ _ _ (kgoC (is := KX5_takes_58) rfl ?_)
              refine k_iconst (m := 0) rfl (fun x44 h45 => ?_)
              refine k_ireturn (fun _ => b01C (by omega) (by omega)) ?_
              exact ⟨_, rfl, rfl, (by omega), (by omega)⟩
    refine hB _ _ _ _ (kgoC (is := KX5_takes_0) rfl ?_)
    refine k_aload_n rfl ?_
    obtain ⟨y48, e46, c47⟩ := cg181 (σ := σ0) (a := p0)
    refine k_get kg181 h_0_0 e46 ?_
    refine k_lload_n rfl ?_
    refine k_lcmp (fun x49 h50 g51 => ?_)
    refine k_if_ne (fun h52 => ?_) (fun h52 => ?_)
    · refine hB _ _ _ _ (kgoC (is := KX5_takes_17) rfl ?_)
      refine k_iconst (m := 0) rfl (fun x53 h54 => ?_)
      refine k_ireturn (fun _ => b01C (by omega) (by omega)) ?_
      exact ⟨_, rfl, rfl, (by omega), (by omega)⟩
    · refine k_nil ?_
      refine hB _ _ _ _ (kgoC (is := KX5_takes_9) rfl ?_)
      refine k_aload_n rfl ?_
      obtain ⟨x57, e55, c56, h58, h59⟩ := cg185 H0.1 h_0_0
      refine k_get kg185 h_0_0 e55 ?_
      refine k_iload_n rfl ?_
      refine k_ic_eq (fun h60 => ?_) (fun h60 => ?_)
      · refine hB _ _ _ _ (kgoC (is := KX5_takes_19) rfl ?_)
        refine k_aload rfl ?_
        refine k_astore (ls' := [(5, .inr (.inr p3)), (0, .inr (.inr (some p0))), (1, .inr (.inl p1)), (3, .inl p2), (4, .inr (.inr p3))]) rfl ?_
        refine k_iconst (m := 0) rfl (fun x61 h62 => ?_)
        refine k_istore (ls' := [(6, .inl x61), (5, .inr (.inr p3)), (0, .inr (.inr (some p0))), (1, .inr (.inl p1)), (3, .inl p2), (4, .inr (.inr p3))]) rfl ?_
        refine k_nil ?_
        exact hW _ _ _ _ _ (List.forall_mem_cons.2 ⟨List.Mem.tail _ (List.Mem.tail _ (List.Mem.head _)), (List.forall_mem_cons.2 ⟨List.Mem.tail _ (List.Mem.head _), (List.forall_mem_cons.2 ⟨List.Mem.head _, fun _ h => absurd h List.not_mem_nil⟩)⟩)⟩) (L26 _ p3 x61 rfl h_3_0 (by omega) (by omega))
      · refine k_nil ?_
        refine hB _ _ _ _ (kgoC (is := KX5_takes_17) rfl ?_)
        refine k_iconst (m := 0) rfl (fun x63 h64 => ?_)
        refine k_ireturn (fun _ => b01C (by omega) (by omega)) ?_
        exact ⟨_, rfl, rfl, (by omega), (by omega)⟩
theorem lg_X5_takes : ∀ (As : List AvC) (σ : CsC), P_X5_takes As σ → lgC As ≤ rX5_takes.2.2.1 := by
  rintro As σ ⟨p0, p1, p2, p3, rfl, -⟩
  exact Nat.le_of_ble_eq_true rfl
theorem m_X5_takes (l : Launch) : CMetC l 2 115 P_X5_takes Q_X5_takes :=
  CMetC.of KX5_takes [(224, P_X11_sameOrWidens, Q_X11_sameOrWidens)] hX5_takes (by decide) (by decide) okX5_takes (cc1C (m_X11_sameOrWidens l) (by decide) cc0C) (lg_X5_takes) (b_X5_takes)

abbrev P_X6_clear : CpC := fun As σ => ∃ (p0 : Nat), As = [.inr (.inr (some p0))] ∧ HIC σ ∧ TyC σ p0 7
abbrev Q_X6_clear : CqC := fun As σ w τ => match As with
  | [.inr (.inr (some p0))] => w = none ∧ HIC τ ∧ ExC [0, 2, 217, 218] σ τ ∧ (∀ k, [211, 212, 213, 214].elem k = true → ∀ a, fRC τ p0 k = some a → (fIC τ a 2).toInt ≤ 0)
  | _ => False
set_option maxRecDepth 100000 in
set_option maxHeartbeats 4000000 in
theorem b_X6_clear : TbC KX6_clear [(237, P_Jx4a65c_clear_da8c8, Q_Jx4a65c_clear_da8c8)] P_X6_clear Q_X6_clear := by
  · rintro As σ0 ⟨p0, rfl, H0, h_0_0⟩ hgr G hB hW
    change G 0 [(0, .inr (.inr (some p0)))] [] σ0
    refine hB _ _ _ _ (kgoC (is := KX6_clear_0) rfl ?_)
    refine k_aload_n rfl ?_
    obtain ⟨a3, e1, c2, t4, l5⟩ := cg211 H0.1 h_0_0
    refine k_get kg211 h_0_0 e1 ?_
    refine k_inv (P := P_Jx4a65c_clear_da8c8) (Q := Q_Jx4a65c_clear_da8c8) rfl rfl rfl rfl (Nat.le_of_ble_eq_true rfl) (t4.rc (by decide)) ⟨_, rfl, H0, t4⟩ (fun w6 σ7 q8 => ?_)
    obtain ⟨rfl, H9, e10, q11, q12, q13⟩ := q8
    refine k_st (st' := []) rfl ?_
    refine k_aload_n rfl ?_
    have t14 := h_0_0.x e10
    obtain ⟨a17, e15, c16, t18, l19⟩ := cg212 H9.1 t14
    refine k_get kg212 t14 e15 ?_
    refine k_inv (P := P_Jx4a65c_clear_da8c8) (Q := Q_Jx4a65c_clear_da8c8) rfl rfl rfl rfl (Nat.le_of_ble_eq_true rfl) (t18.rc (by decide)) ⟨_, rfl, H9, t18⟩ (fun w20 σ21 q22 => ?_)
    obtain ⟨rfl, H23, e24, q25, q26, q27⟩ := q22
    refine k_st (st' := []) rfl ?_
    have h28 := keep0 q11 q25 q26
    refine k_aload_n rfl ?_
    have t29 := t14.x e24
    obtain ⟨a32, e30, c31, t33, l34⟩ := cg213 H23.1 t29
    refine k_get kg213 t29 e30 ?_
    refine k_inv (P := P_Jx4a65c_clear_da8c8) (Q := Q_Jx4a65c_clear_da8c8) rfl rfl rfl rfl (Nat.le_of_ble_eq_true rfl) (t33.rc (by decide)) ⟨_, rfl, H23, t33⟩ (fun w35 σ36 q37 => ?_)
    obtain ⟨rfl, H38, e39, q40, q41, q42⟩ := q37
    refine k_st (st' := []) rfl ?_
    have h43 := keep0 h28 q40 q41
    have h44 := keep0 q25 q40 q41
    refine k_aload_n rfl ?_
    have t45 := t29.x e39
    obtain ⟨a48, e46, c47, t49, l50⟩ := cg214 H38.1 t45
    refine k_get kg214 t45 e46 ?_
    refine k_inv (P := P_Jx4a65c_clear_da8c8) (Q := Q_Jx4a65c_clear_da8c8) rfl rfl rfl rfl (Nat.le_of_ble_eq_true rfl) (t49.rc (by decide)) ⟨_, rfl, H38, t49⟩ (fun w51 σ52 q53 => ?_)
    obtain ⟨rfl, H54, e55, q56, q57, q58⟩ := q53
    refine k_st (st' := []) rfl ?_
    have h59 := keep0 h43 q56 q57
    have h60 := keep0 h44 q56 q57
    have h61 := keep0 q40 q56 q57
    refine k_aload_n rfl ?_
    refine k_iconst (m := 0) rfl (fun x62 h63 => ?_)
    have t64 := t45.x e55
    refine k_putI kp217 H54 t64 (Or.inl fk217) (tiC x62).1 (tiC x62).2 (fun σ65 H66 e67 c68 => ?_)
    refine k_aload_n rfl ?_
    refine k_iconst (m := 0) rfl (fun x69 h70 => ?_)
    have t71 := t64.x e67
    refine k_putI kp218 H66 t71 (Or.inl fk218) (tiC x69).1 (tiC x69).2 (fun σ72 H73 e74 c75 => ?_)
    refine k_return ?_
    have X76 : ExC [0, 2, 217, 218] σ0 σ7 := ExC.rf.tr (e10.mo (by decide))
    have X77 : ExC [0, 2, 217, 218] σ0 σ21 := X76.tr (e24.mo (by decide))
    have X78 : ExC [0, 2, 217, 218] σ0 σ36 := X77.tr (e39.mo (by decide))
    have X79 : ExC [0, 2, 217, 218] σ0 σ52 := X78.tr (e55.mo (by decide))
    have X80 : ExC [0, 2, 217, 218] σ0 σ65 := X79.tr (e67.mo (by decide))
    have X81 : ExC [0, 2, 217, 218] σ0 σ72 := X80.tr (e74.mo (by decide))
    have c82 := (h_0_0.mr e10 (by decide)).trans c2
    have c83 := (t14.mr e24 (by decide)).trans c82
    have c84 := (t29.mr e39 (by decide)).trans c83
    have c85 := (t45.mr e55 (by decide)).trans c84
    have c86 := (t64.mr e67 (by decide)).trans c85
    have c87 := (t71.mr e74 (by decide)).trans c86
    have c88 := (t14.mr e24 (by decide)).trans c16
    have c89 := (t29.mr e39 (by decide)).trans c88
    have c90 := (t45.mr e55 (by decide)).trans c89
    have c91 := (t64.mr e67 (by decide)).trans c90
    have c92 := (t71.mr e74 (by decide)).trans c91
    have c93 := (t29.mr e39 (by decide)).trans c31
    have c94 := (t45.mr e55 (by decide)).trans c93
    have c95 := (t64.mr e67 (by decide)).trans c94
    have c96 := (t71.mr e74 (by decide)).trans c95
    have c97 := (t45.mr e55 (by decide)).trans c47
    have c98 := (t64.mr e67 (by decide)).trans c97
    have c99 := (t71.mr e74 (by decide)).trans c98
    have t100 := t4.x e10
    have t101 := t100.x e24
    have t102 := t101.x e39
    have t103 := t102.x e55
    have t104 := t103.x e67
    have t105 := t18.x e24
    have t106 := t105.x e39
    have t107 := t106.x e55
    have t108 := t107.x e67
    have t109 := t33.x e39
    have t110 := t109.x e55
    have t111 := t110.x e67
    have t112 := t49.x e55
    have t113 := t112.x e67
    exact ⟨rfl, H73, X81, (fun k hk a ha => by simp only [List.elem_eq_mem, List.mem_cons, List.not_mem_nil, or_false, decide_eq_true_eq] at hk; exact hk.elim (fun e => by subst e; cases c87.symm.trans ha; exact Int.le_of_eq ((congrArg Int32.toInt (t104.mi e74 (k := 2) (by decide))).trans ((congrArg Int32.toInt (t103.mi e67 (k := 2) (by decide))).trans h59))) (fun hk => hk.elim (fun e => by subst e; cases c92.symm.trans ha; exact Int.le_of_eq ((congrArg Int32.toInt (t108.mi e74 (k := 2) (by decide))).trans ((congrArg Int32.toInt (t107.mi e67 (k := 2) (by decide))).trans h60))) (fun hk => hk.elim (fun e => by subst e; cases c96.symm.trans ha; exact Int.le_of_eq ((congrArg Int32.toInt (t111.mi e74 (k := 2) (by decide))).trans ((congrArg Int32.toInt (t110.mi e67 (k := 2) (by decide))).trans h61))) (fun e => by subst e; cases c99.symm.trans ha; exact Int.le_of_eq ((congrArg Int32.toInt (t113.mi e74 (k := 2) (by decide))).trans ((congrArg Int32.toInt (t112.mi e67 (k := 2) (by decide))).trans q56))))))⟩
theorem lg_X6_clear : ∀ (As : List AvC) (σ : CsC), P_X6_clear As σ → lgC As ≤ rX6_clear.2.2.1 := by
  rintro As σ ⟨p0, rfl, -⟩
  exact Nat.le_of_ble_eq_true rfl
theorem m_X6_clear (l : Launch) : CMetC l 11 117 P_X6_clear Q_X6_clear :=
  CMetC.of KX6_clear [(237, P_Jx4a65c_clear_da8c8, Q_Jx4a65c_clear_da8c8)] hX6_clear (by decide) (by decide) okX6_clear (cc1C (m_Jx4a65c_clear_da8c8 l) (by decide) cc0C) (lg_X6_clear) (b_X6_clear)

abbrev P_X6_tell : CpC := fun As σ => ∃ (p0 : Nat) (p1 : Int32) (p2 : Int32), As = [.inr (.inr (some p0)), .inl p1, .inl p2] ∧ HIC σ ∧ TyC σ p0 7 ∧ 1 ≤ p1.toInt ∧ p1.toInt ≤ 15 ∧ 0 ≤ p2.toInt ∧ p2.toInt ≤ 502
abbrev Q_X6_tell : CqC := fun As σ w τ => match As with
  | [.inr (.inr (some p0)), .inl p1, .inl p2] => w = none ∧ HIC τ ∧ ExC [217, 218] σ τ
  | _ => False
set_option maxRecDepth 100000 in
set_option maxHeartbeats 4000000 in
theorem b_X6_tell : TbC KX6_tell [] P_X6_tell Q_X6_tell := by
  · rintro As σ0 ⟨p0, p1, p2, rfl, H0, h_0_0, h_1_0, h_1_1, h_2_0, h_2_1⟩ hgr G hB hW
    change G 0 [(0, .inr (.inr (some p0))), (1, .inl p1), (2, .inl p2)] [] σ0
    refine hB _ _ _ _ (kgoC (is := KX6_tell_0) rfl ?_)
    refine k_aload_n rfl ?_
    obtain ⟨a3, e1, c2, t4⟩ := cg210 H0.1 h_0_0
    refine k_get kg210 h_0_0 e1 ?_
    obtain ⟨a7, e5, c6, t8, l9, l10⟩ := cg300 H0.1 t4
    refine k_get kg300 t4 e5 ?_
    refine k_iload_n rfl ?_
    refine k_iaload t8 (by omega) (by omega) (fun x11 => ?_)
    refine k_istore_n (ls' := [(3, .inl x11), (0, .inr (.inr (some p0))), (1, .inl p1), (2, .inl p2)]) rfl ?_
    refine k_aload_n rfl ?_
    obtain ⟨x14, e12, c13, h15, h16⟩ := cg217 H0.1 h_0_0
    refine k_get kg217 h_0_0 e12 ?_
    refine k_if_eq (fun h17 => ?_) (fun h17 => ?_)
    · refine hB _ _ _ _ (kgoC (is := KX6_tell_41) rfl ?_)
      refine k_aload_n rfl ?_
      refine k_iload_n rfl ?_
      refine k_putI kp217 H0 h_0_0 (Or.inl fk217) (tiC p1).1 (tiC p1).2 (fun σ18 H19 e20 c21 => ?_)
      refine k_aload_n rfl ?_
      refine k_iload_n rfl ?_
      have t22 := h_0_0.x e20
      refine k_putI kp218 H19 t22 (Or.inl fk218) (tiC x11).1 (tiC x11).2 (fun σ23 H24 e25 c26 => ?_)
      refine k_nil ?_
      refine hB _ _ _ _ (kgoC (is := KX6_tell_51) rfl ?_)
      refine k_return ?_
      have X27 : ExC [217, 218] σ0 σ18 := ExC.rf.tr (e20.mo (by decide))
      have X28 : ExC [217, 218] σ0 σ23 := X27.tr (e25.mo (by decide))
      exact ⟨rfl, H24, X28⟩
    · refine k_nil ?_
      refine hB _ _ _ _ (kgoC (is := KX6_tell_17) rfl ?_)
      refine k_iload_n rfl ?_
      refine k_aload_n rfl ?_
      obtain ⟨x31, e29, c30, h32, h33⟩ := cg218 H0.1 h_0_0
      refine k_get kg218 h_0_0 e29 ?_
      refine k_ic_lt (fun h34 => ?_) (fun h34 => ?_)
      · refine hB _ _ _ _ (kgoC (is := KX6_tell_41) rfl ?_)
        refine k_aload_n rfl ?_
        refine k_iload_n rfl ?_
        refine k_putI kp217 H0 h_0_0 (Or.inl fk217) (tiC p1).1 (tiC p1).2 (fun σ35 H36 e37 c38 => ?_)
        refine k_aload_n rfl ?_
        refine k_iload_n rfl ?_
        have t39 := h_0_0.x e37
        refine k_putI kp218 H36 t39 (Or.inl fk218) (tiC x11).1 (tiC x11).2 (fun σ40 H41 e42 c43 => ?_)
        refine k_nil ?_
        refine hB _ _ _ _ (kgoC (is := KX6_tell_51) rfl ?_)
        refine k_return ?_
        have X44 : ExC [217, 218] σ0 σ35 := ExC.rf.tr (e37.mo (by decide))
        have X45 : ExC [217, 218] σ0 σ40 := X44.tr (e42.mo (by decide))
        exact ⟨rfl, H41, X45⟩
      · refine k_nil ?_
        refine hB _ _ _ _ (kgoC (is := KX6_tell_25) rfl ?_)
        refine k_iload_n rfl ?_
        refine k_aload_n rfl ?_
        refine k_get kg218 h_0_0 (congrArg (Sum.inl : Int32 → AvC) c30) ?_
        refine k_ic_ne (fun h46 => ?_) (fun h46 => ?_)
        · refine hB _ _ _ _ (kgoC (is := KX6_tell_51) rfl ?_)
          refine k_return ?_
          exact ⟨rfl, H0, (ExC.rf : ExC [217, 218] σ0 σ0)⟩
        · refine k_nil ?_
          refine hB _ _ _ _ (kgoC (is := KX6_tell_33) rfl ?_)
          refine k_iload_n rfl ?_
          refine k_aload_n rfl ?_
          refine k_get kg217 h_0_0 (congrArg (Sum.inl : Int32 → AvC) c13) ?_
          refine k_ic_ge (fun h47 => ?_) (fun h47 => ?_)
          · refine hB _ _ _ _ (kgoC (is := KX6_tell_51) rfl ?_)
            refine k_return ?_
            exact ⟨rfl, H0, (ExC.rf : ExC [217, 218] σ0 σ0)⟩
          · refine k_nil ?_
            refine hB _ _ _ _ (kgoC (is := KX6_tell_41) rfl ?_)
            refine k_aload_n rfl ?_
            refine k_iload_n rfl ?_
            refine k_putI kp217 H0 h_0_0 (Or.inl fk217) (tiC p1).1 (tiC p1).2 (fun σ48 H49 e50 c51 => ?_)
            refine k_aload_n rfl ?_
            refine k_iload_n rfl ?_
            have t52 := h_0_0.x e50
            refine k_putI kp218 H49 t52 (Or.inl fk218) (tiC x11).1 (tiC x11).2 (fun σ53 H54 e55 c56 => ?_)
            refine k_nil ?_
            refine hB _ _ _ _ (kgoC (is := KX6_tell_51) rfl ?_)
            refine k_return ?_
            have X57 : ExC [217, 218] σ0 σ48 := ExC.rf.tr (e50.mo (by decide))
            have X58 : ExC [217, 218] σ0 σ53 := X57.tr (e55.mo (by decide))
            exact ⟨rfl, H54, X58⟩
theorem lg_X6_tell : ∀ (As : List AvC) (σ : CsC), P_X6_tell As σ → lgC As ≤ rX6_tell.2.2.1 := by
  rintro As σ ⟨p0, p1, p2, rfl, -⟩
  exact Nat.le_of_ble_eq_true rfl
theorem m_X6_tell (l : Launch) : CMetC l 1 118 P_X6_tell Q_X6_tell :=
  CMetC.of KX6_tell [] hX6_tell (by decide) (by decide) okX6_tell cc0C (lg_X6_tell) (b_X6_tell)

abbrev P_X6_methodOf : CpC := fun As σ => ∃ (p0 : Nat) (p1 : Int32), As = [.inr (.inr (some p0)), .inl p1] ∧ HIC σ ∧ TyC σ p0 7
abbrev Q_X6_methodOf : CqC := fun As σ w τ => match As with
  | [.inr (.inr (some p0)), .inl p1] => ∃ r : Option Nat, w = some (.inr (.inr r)) ∧ σ = τ ∧ OtC τ r 6
  | _ => False
set_option maxRecDepth 100000 in
set_option maxHeartbeats 4000000 in
theorem b_X6_methodOf : TbC KX6_methodOf [(234, P_Jx4a65c_size_8abf5, Q_Jx4a65c_size_8abf5), (235, P_Jx4a65c_get_915e3, Q_Jx4a65c_get_915e3)] P_X6_methodOf Q_X6_methodOf := by
  · rintro As σ0 ⟨p0, p1, rfl, H0, h_0_0⟩ hgr G hB hW
    change G 0 [(0, .inr (.inr (some p0))), (1, .inl p1)] [] σ0
    refine hB _ _ _ _ (kgoC (is := KX6_methodOf_0) rfl ?_)
    refine k_iload_n rfl ?_
    refine k_bipush (m := 10) rfl (fun x1 h2 => ?_)
    refine k_ic_ne (fun h3 => ?_) (fun h3 => ?_)
    · refine hB _ _ _ _ (kgoC (is := KX6_methodOf_11) rfl ?_)
      refine k_iload_n rfl ?_
      refine k_bipush (m := 11) rfl (fun x4 h5 => ?_)
      refine k_ic_ne (fun h6 => ?_) (fun h6 => ?_)
      · refine hB _ _ _ _ (kgoC (is := KX6_methodOf_22) rfl ?_)
        refine k_iload_n rfl ?_
        refine k_if_lt (fun h7 => ?_) (fun h7 => ?_)
        · refine hB _ _ _ _ (kgoC (is := KX6_methodOf_51) rfl ?_)
          refine k_aconst_null ?_
          refine k_nil ?_
          refine hB _ _ _ _ (kgoC (is := KX6_methodOf_52) rfl ?_)
          refine k_areturn ?_
          exact ⟨none, rfl, rfl, OtC.n⟩
        · refine k_nil ?_
          refine hB _ _ _ _ (kgoC (is := KX6_methodOf_26) rfl ?_)
          refine k_iload_n rfl ?_
          refine k_aload_n rfl ?_
          obtain ⟨a10, e8, c9, t11, l12⟩ := cg211 H0.1 h_0_0
          refine k_get kg211 h_0_0 e8 ?_
          refine k_inv (P := P_Jx4a65c_size_8abf5) (Q := Q_Jx4a65c_size_8abf5) rfl rfl rfl rfl (Nat.le_of_ble_eq_true rfl) (t11.rc (by decide)) ⟨_, rfl, H0, t11⟩ (fun w13 σ14 q15 => ?_)
          obtain ⟨x16, rfl, rfl, h17, h18, q19, q20⟩ := q15
          refine k_st (st' := [.inl x16, .inl p1]) rfl ?_
          have z21 := q20 l12
          refine k_ic_ge (fun h22 => ?_) (fun h22 => ?_)
          · refine hB _ _ _ _ (kgoC (is := KX6_methodOf_51) rfl ?_)
            refine k_aconst_null ?_
            refine k_nil ?_
            refine hB _ _ _ _ (kgoC (is := KX6_methodOf_52) rfl ?_)
            refine k_areturn ?_
            exact ⟨none, rfl, rfl, OtC.n⟩
          · refine k_nil ?_
            refine hB _ _ _ _ (kgoC (is := KX6_methodOf_37) rfl ?_)
            refine k_aload_n rfl ?_
            refine k_get kg211 h_0_0 (congrArg (fun z : Option Nat => (Sum.inr (Sum.inr z) : AvC)) c9) ?_
            refine k_iload_n rfl ?_
            have z23 := congrArg Int32.toInt q19
            refine k_inv (P := P_Jx4a65c_get_915e3) (Q := Q_Jx4a65c_get_915e3) rfl rfl rfl rfl (Nat.le_of_ble_eq_true rfl) (t11.rc (by decide)) ⟨_, _, rfl, H0, t11, (by omega), (by omega)⟩ (fun w24 σ25 q26 => ?_)
            obtain ⟨a27, rfl, rfl, h28⟩ := q26
            rw [l12] at h28
            have t29 := h28.1
            obtain ⟨x30, e31, c32, h33, h34⟩ := cg180 H0.1 t29
            have h35 : 0 ≤ x30.toInt := by rw [← c32]; exact h28.2.2 rfl
            refine k_st (st' := [.inr (.inr (some a27))]) rfl ?_
            refine k_castS (t29.ob (by decide)) ?_
            refine k_goto ?_
            refine hB _ _ _ _ (kgoC (is := KX6_methodOf_52) rfl ?_)
            refine k_areturn ?_
            exact ⟨_, rfl, rfl, t29.ot⟩
      · refine k_nil ?_
        refine hB _ _ _ _ (kgoC (is := KX6_methodOf_17) rfl ?_)
        refine k_aload_n rfl ?_
        obtain ⟨a38, e36, c37, t39⟩ := cg216 H0.1 h_0_0
        refine k_get kg216 h_0_0 e36 ?_
        refine k_areturn ?_
        exact ⟨_, rfl, rfl, t39.ot⟩
    · refine k_nil ?_
      refine hB _ _ _ _ (kgoC (is := KX6_methodOf_6) rfl ?_)
      refine k_aload_n rfl ?_
      obtain ⟨a42, e40, c41, t43⟩ := cg215 H0.1 h_0_0
      refine k_get kg215 h_0_0 e40 ?_
      refine k_areturn ?_
      exact ⟨_, rfl, rfl, t43.ot⟩
theorem lg_X6_methodOf : ∀ (As : List AvC) (σ : CsC), P_X6_methodOf As σ → lgC As ≤ rX6_methodOf.2.2.1 := by
  rintro As σ ⟨p0, p1, rfl, -⟩
  exact Nat.le_of_ble_eq_true rfl
theorem m_X6_methodOf (l : Launch) : CMetC l 11 119 P_X6_methodOf Q_X6_methodOf :=
  CMetC.of KX6_methodOf [(234, P_Jx4a65c_size_8abf5, Q_Jx4a65c_size_8abf5), (235, P_Jx4a65c_get_915e3, Q_Jx4a65c_get_915e3)] hX6_methodOf (by decide) (by decide) okX6_methodOf (cc1C (m_Jx4a65c_size_8abf5 l) (by decide) (cc1C (m_Jx4a65c_get_915e3 l) (by decide) cc0C)) (lg_X6_methodOf) (b_X6_methodOf)

abbrev P_X6_expAt : CpC := fun As σ => ∃ (p0 : Nat) (p1 : Int32) (p2 : Int32), As = [.inr (.inr (some p0)), .inl p1, .inl p2] ∧ HIC σ ∧ TyC σ p0 7
abbrev Q_X6_expAt : CqC := fun As σ w τ => match As with
  | [.inr (.inr (some p0)), .inl p1, .inl p2] => ∃ r : Option Nat, w = some (.inr (.inr r)) ∧ σ = τ ∧ OtC τ r 2
  | _ => False
set_option maxRecDepth 100000 in
set_option maxHeartbeats 4000000 in
theorem b_X6_expAt : TbC KX6_expAt [(234, P_Jx4a65c_size_8abf5, Q_Jx4a65c_size_8abf5), (235, P_Jx4a65c_get_915e3, Q_Jx4a65c_get_915e3)] P_X6_expAt Q_X6_expAt := by
  · rintro As σ0 ⟨p0, p1, p2, rfl, H0, h_0_0⟩ hgr G hB hW
    change G 0 [(0, .inr (.inr (some p0))), (1, .inl p1), (2, .inl p2)] [] σ0
    have L2 : ∀ (n2 : Nat), ∀ (v2_3 : Int32), (2147483647 - v2_3.toInt).toNat = n2 → 0 ≤ v2_3.toInt → v2_3.toInt ≤ 20000 → G 2 [(0, .inr (.inr (some p0))), (1, .inl p1), (2, .inl p2), (3, .inl v2_3)] [] σ0 := by
      intro n2
      induction n2 using Nat.strongRecOn with
      | _ n2 ih2 =>
        intro v2_3 n2_ h1 h2
        refine hB _ _ _ _ (kgoC (is := KX6_expAt_2) rfl ?_)
        refine k_iload_n rfl ?_
        refine k_aload_n rfl ?_
        obtain ⟨a5, e3, c4, t6, l7⟩ := cg213 H0.1 h_0_0
        refine k_get kg213 h_0_0 e3 ?_
        refine k_inv (P := P_Jx4a65c_size_8abf5) (Q := Q_Jx4a65c_size_8abf5) rfl rfl rfl rfl (Nat.le_of_ble_eq_true rfl) (t6.rc (by decide)) ⟨_, rfl, H0, t6⟩ (fun w8 σ9 q10 => ?_)
        obtain ⟨x11, rfl, rfl, h12, h13, q14, q15⟩ := q10
        refine k_st (st' := [.inl x11, .inl v2_3]) rfl ?_
        refine k_ic_ge (fun h16 => ?_) (fun h16 => ?_)
        · refine hB _ _ _ _ (kgoC (is := KX6_expAt_63) rfl ?_)
          refine k_aconst_null ?_
          refine k_areturn ?_
          exact ⟨none, rfl, rfl, OtC.n⟩
        · refine k_nil ?_
          refine hB _ _ _ _ (kgoC (is := KX6_expAt_13) rfl ?_)
          refine k_aload_n rfl ?_
          refine k_get kg213 h_0_0 (congrArg (fun z : Option Nat => (Sum.inr (Sum.inr z) : AvC)) c4) ?_
          refine k_iload_n rfl ?_
          have z17 := congrArg Int32.toInt q14
          refine k_inv (P := P_Jx4a65c_get_915e3) (Q := Q_Jx4a65c_get_915e3) rfl rfl rfl rfl (Nat.le_of_ble_eq_true rfl) (t6.rc (by decide)) ⟨_, _, rfl, H0, t6, (by omega), (by omega)⟩ (fun w18 σ19 q20 => ?_)
          obtain ⟨a21, rfl, rfl, h22⟩ := q20
          rw [l7] at h22
          have t23 := h22.1
          refine k_st (st' := [.inr (.inr (some a21))]) rfl ?_
          refine k_castS (t23.ob (by decide)) ?_
          refine k_astore (ls' := [(4, .inr (.inr (some a21))), (0, .inr (.inr (some p0))), (1, .inl p1), (2, .inl p2), (3, .inl v2_3)]) rfl ?_
          refine k_aload rfl ?_
          obtain ⟨x26, e24, c25, h27, h28⟩ := cg60 H0.1 t23
          refine k_get kg60 t23 e24 ?_
          refine k_bipush (m := 10) rfl (fun x29 h30 => ?_)
          refine k_ic_gt (fun h31 => ?_) (fun h31 => ?_)
          · refine hB _ _ _ _ (kgoC (is := KX6_expAt_57) rfl ?_)
            obtain ⟨x32, e34, h33⟩ := iincC (n := 1) (m := 1) (v := v2_3) rfl (by omega) (by omega)
            refine k_iinc (ls' := [(3, .inl x32), (4, .inr (.inr (some a21))), (0, .inr (.inr (some p0))), (1, .inl p1), (2, .inl p2)]) rfl e34 rfl ?_
            refine k_goto ?_
            exact hW _ _ _ _ _ (List.forall_mem_cons.2 ⟨List.Mem.tail _ (List.Mem.tail _ (List.Mem.head _)), (List.forall_mem_cons.2 ⟨List.Mem.tail _ (List.Mem.tail _ (List.Mem.tail _ (List.Mem.head _))), (List.forall_mem_cons.2 ⟨List.Mem.tail _ (List.Mem.tail _ (List.Mem.tail _ (List.Mem.tail _ (List.Mem.head _)))), (List.forall_mem_cons.2 ⟨List.Mem.head _, fun _ h => absurd h List.not_mem_nil⟩)⟩)⟩)⟩) (ih2 ((2147483647 - x32.toInt).toNat) (by omega) x32 rfl (by omega) (by omega))
          · refine k_nil ?_
            refine hB _ _ _ _ (kgoC (is := KX6_expAt_36) rfl ?_)
            refine k_aload rfl ?_
            obtain ⟨x37, e35, c36, h38, h39⟩ := cg62 H0.1 t23
            refine k_get kg62 t23 e35 ?_
            refine k_iload_n rfl ?_
            refine k_ic_ne (fun h40 => ?_) (fun h40 => ?_)
            · refine hB _ _ _ _ (kgoC (is := KX6_expAt_57) rfl ?_)
              obtain ⟨x41, e43, h42⟩ := iincC (n := 1) (m := 1) (v := v2_3) rfl (by omega) (by omega)
              refine k_iinc (ls' := [(3, .inl x41), (4, .inr (.inr (some a21))), (0, .inr (.inr (some p0))), (1, .inl p1), (2, .inl p2)]) rfl e43 rfl ?_
              refine k_goto ?_
              exact hW _ _ _ _ _ (List.forall_mem_cons.2 ⟨List.Mem.tail _ (List.Mem.tail _ (List.Mem.head _)), (List.forall_mem_cons.2 ⟨List.Mem.tail _ (List.Mem.tail _ (List.Mem.tail _ (List.Mem.head _))), (List.forall_mem_cons.2 ⟨List.Mem.tail _ (List.Mem.tail _ (List.Mem.tail _ (List.Mem.tail _ (List.Mem.head _)))), (List.forall_mem_cons.2 ⟨List.Mem.head _, fun _ h => absurd h List.not_mem_nil⟩)⟩)⟩)⟩) (ih2 ((2147483647 - x41.toInt).toNat) (by omega) x41 rfl (by omega) (by omega))
            · refine k_nil ?_
              refine hB _ _ _ _ (kgoC (is := KX6_expAt_45) rfl ?_)
              refine k_aload rfl ?_
              obtain ⟨x46, e44, c45, h47, h48⟩ := cg64 H0.1 t23
              refine k_get kg64 t23 e44 ?_
              refine k_iload_n rfl ?_
              refine k_ic_ne (fun h49 => ?_) (fun h49 => ?_)
              · refine hB _ _ _ _ (kgoC (is := KX6_expAt_57) rfl ?_)
                obtain ⟨x50, e52, h51⟩ := iincC (n := 1) (m := 1) (v := v2_3) rfl (by omega) (by omega)
                refine k_iinc (ls' := [(3, .inl x50), (4, .inr (.inr (some a21))), (0, .inr (.inr (some p0))), (1, .inl p1), (2, .inl p2)]) rfl e52 rfl ?_
                refine k_goto ?_
                exact hW _ _ _ _ _ (List.forall_mem_cons.2 ⟨List.Mem.tail _ (List.Mem.tail _ (List.Mem.head _)), (List.forall_mem_cons.2 ⟨List.Mem.tail _ (List.Mem.tail _ (List.Mem.tail _ (List.Mem.head _))), (List.forall_mem_cons.2 ⟨List.Mem.tail _ (List.Mem.tail _ (List.Mem.tail _ (List.Mem.tail _ (List.Mem.head _)))), (List.forall_mem_cons.2 ⟨List.Mem.head _, fun _ h => absurd h List.not_mem_nil⟩)⟩)⟩)⟩) (ih2 ((2147483647 - x50.toInt).toNat) (by omega) x50 rfl (by omega) (by omega))
              · refine k_nil ?_
                refine hB _ _ _ _ (kgoC (is := KX6_expAt_54) rfl ?_)
                refine k_aload rfl ?_
                refine k_areturn ?_
                exact ⟨_, rfl, rfl, t23.ot⟩
    refine hB _ _ _ _ (kgoC (is := KX6_expAt_0) rfl ?_)
    refine k_iconst (m := 0) rfl (fun x53 h54 => ?_)
    refine k_istore_n (ls' := [(3, .inl x53), (0, .inr (.inr (some p0))), (1, .inl p1), (2, .inl p2)]) rfl ?_
    refine k_nil ?_
    exact hW _ _ _ _ _ (List.forall_mem_cons.2 ⟨List.Mem.tail _ (List.Mem.head _), (List.forall_mem_cons.2 ⟨List.Mem.tail _ (List.Mem.tail _ (List.Mem.head _)), (List.forall_mem_cons.2 ⟨List.Mem.tail _ (List.Mem.tail _ (List.Mem.tail _ (List.Mem.head _))), (List.forall_mem_cons.2 ⟨List.Mem.head _, fun _ h => absurd h List.not_mem_nil⟩)⟩)⟩)⟩) (L2 _ x53 rfl (by omega) (by omega))
theorem lg_X6_expAt : ∀ (As : List AvC) (σ : CsC), P_X6_expAt As σ → lgC As ≤ rX6_expAt.2.2.1 := by
  rintro As σ ⟨p0, p1, p2, rfl, -⟩
  exact Nat.le_of_ble_eq_true rfl
theorem m_X6_expAt (l : Launch) : CMetC l 11 120 P_X6_expAt Q_X6_expAt :=
  CMetC.of KX6_expAt [(234, P_Jx4a65c_size_8abf5, Q_Jx4a65c_size_8abf5), (235, P_Jx4a65c_get_915e3, Q_Jx4a65c_get_915e3)] hX6_expAt (by decide) (by decide) okX6_expAt (cc1C (m_Jx4a65c_size_8abf5 l) (by decide) (cc1C (m_Jx4a65c_get_915e3 l) (by decide) cc0C)) (lg_X6_expAt) (b_X6_expAt)

abbrev P_X6_statementAt : CpC := fun As σ => ∃ (p0 : Nat) (p1 : Int32), As = [.inr (.inr (some p0)), .inl p1] ∧ HIC σ ∧ TyC σ p0 7
abbrev Q_X6_statementAt : CqC := fun As σ w τ => match As with
  | [.inr (.inr (some p0)), .inl p1] => ∃ r : Option Nat, w = some (.inr (.inr r)) ∧ σ = τ ∧ OtC τ r 9
  | _ => False
set_option maxRecDepth 100000 in
set_option maxHeartbeats 4000000 in
theorem b_X6_statementAt : TbC KX6_statementAt [(234, P_Jx4a65c_size_8abf5, Q_Jx4a65c_size_8abf5), (235, P_Jx4a65c_get_915e3, Q_Jx4a65c_get_915e3), (180, P_X8_isPart, Q_X8_isPart)] P_X6_statementAt Q_X6_statementAt := by
  · rintro As σ0 ⟨p0, p1, rfl, H0, h_0_0⟩ hgr G hB hW
    change G 0 [(0, .inr (.inr (some p0))), (1, .inl p1)] [] σ0
    have L2 : ∀ (n2 : Nat), ∀ (v2_2 : Int32), (2147483647 - v2_2.toInt).toNat = n2 → 0 ≤ v2_2.toInt → v2_2.toInt ≤ 20000 → G 2 [(0, .inr (.inr (some p0))), (1, .inl p1), (2, .inl v2_2)] [] σ0 := by
      intro n2
      induction n2 using Nat.strongRecOn with
      | _ n2 ih2 =>
        intro v2_2 n2_ h1 h2
        refine hB _ _ _ _ (kgoC (is := KX6_statementAt_2) rfl ?_)
        refine k_iload_n rfl ?_
        refine k_aload_n rfl ?_
        obtain ⟨a5, e3, c4, t6, l7⟩ := cg214 H0.1 h_0_0
        refine k_get kg214 h_0_0 e3 ?_
        refine k_inv (P := P_Jx4a65c_size_8abf5) (Q := Q_Jx4a65c_size_8abf5) rfl rfl rfl rfl (Nat.le_of_ble_eq_true rfl) (t6.rc (by decide)) ⟨_, rfl, H0, t6⟩ (fun w8 σ9 q10 => ?_)
        obtain ⟨x11, rfl, rfl, h12, h13, q14, q15⟩ := q10
        refine k_st (st' := [.inl x11, .inl v2_2]) rfl ?_
        refine k_ic_ge (fun h16 => ?_) (fun h16 => ?_)
        · refine hB _ _ _ _ (kgoC (is := KX6_statementAt_48) rfl ?_)
          refine k_aconst_null ?_
          refine k_areturn ?_
          exact ⟨none, rfl, rfl, OtC.n⟩
        · refine k_nil ?_
          refine hB _ _ _ _ (kgoC (is := KX6_statementAt_13) rfl ?_)
          refine k_aload_n rfl ?_
          refine k_get kg214 h_0_0 (congrArg (fun z : Option Nat => (Sum.inr (Sum.inr z) : AvC)) c4) ?_
          refine k_iload_n rfl ?_
          have z17 := congrArg Int32.toInt q14
          refine k_inv (P := P_Jx4a65c_get_915e3) (Q := Q_Jx4a65c_get_915e3) rfl rfl rfl rfl (Nat.le_of_ble_eq_true rfl) (t6.rc (by decide)) ⟨_, _, rfl, H0, t6, (by omega), (by omega)⟩ (fun w18 σ19 q20 => ?_)
          obtain ⟨a21, rfl, rfl, h22⟩ := q20
          rw [l7] at h22
          have t23 := h22.1
          refine k_st (st' := [.inr (.inr (some a21))]) rfl ?_
          refine k_castS (t23.ob (by decide)) ?_
          refine k_astore_n (ls' := [(3, .inr (.inr (some a21))), (0, .inr (.inr (some p0))), (1, .inl p1), (2, .inl v2_2)]) rfl ?_
          refine k_aload_n rfl ?_
          obtain ⟨x26, e24, c25, h27, h28⟩ := cg271 H0.1 t23
          refine k_get kg271 t23 e24 ?_
          refine k_iload_n rfl ?_
          refine k_ic_ne (fun h29 => ?_) (fun h29 => ?_)
          · refine hB _ _ _ _ (kgoC (is := KX6_statementAt_42) rfl ?_)
            obtain ⟨x30, e32, h31⟩ := iincC (n := 1) (m := 1) (v := v2_2) rfl (by omega) (by omega)
            refine k_iinc (ls' := [(2, .inl x30), (3, .inr (.inr (some a21))), (0, .inr (.inr (some p0))), (1, .inl p1)]) rfl e32 rfl ?_
            refine k_goto ?_
            exact hW _ _ _ _ _ (List.forall_mem_cons.2 ⟨List.Mem.tail _ (List.Mem.tail _ (List.Mem.head _)), (List.forall_mem_cons.2 ⟨List.Mem.tail _ (List.Mem.tail _ (List.Mem.tail _ (List.Mem.head _))), (List.forall_mem_cons.2 ⟨List.Mem.head _, fun _ h => absurd h List.not_mem_nil⟩)⟩)⟩) (ih2 ((2147483647 - x30.toInt).toNat) (by omega) x30 rfl (by omega) (by omega))
          · refine k_nil ?_
            refine hB _ _ _ _ (kgoC (is := KX6_statementAt_33) rfl ?_)
            refine k_aload_n rfl ?_
            refine k_inv (P := P_X8_isPart) (Q := Q_X8_isPart) rfl rfl rfl rfl (Nat.le_of_ble_eq_true rfl) (t23.rc (by decide)) ⟨_, rfl, H0, t23⟩ (fun w33 σ34 q35 => ?_)
            obtain ⟨x36, rfl, rfl, h37, h38⟩ := q35
            refine k_st (st' := [.inl x36]) rfl ?_
            refine k_if_ne (fun h39 => ?_) (fun h39 => ?_)
            · refine hB _ _ _ _ (kgoC (is := KX6_statementAt_42) rfl ?_)
              obtain ⟨x40, e42, h41⟩ := iincC (n := 1) (m := 1) (v := v2_2) rfl (by omega) (by omega)
              refine k_iinc (ls' := [(2, .inl x40), (3, .inr (.inr (some a21))), (0, .inr (.inr (some p0))), (1, .inl p1)]) rfl e42 rfl ?_
              refine k_goto ?_
              exact hW _ _ _ _ _ (List.forall_mem_cons.2 ⟨List.Mem.tail _ (List.Mem.tail _ (List.Mem.head _)), (List.forall_mem_cons.2 ⟨List.Mem.tail _ (List.Mem.tail _ (List.Mem.tail _ (List.Mem.head _))), (List.forall_mem_cons.2 ⟨List.Mem.head _, fun _ h => absurd h List.not_mem_nil⟩)⟩)⟩) (ih2 ((2147483647 - x40.toInt).toNat) (by omega) x40 rfl (by omega) (by omega))
            · refine k_nil ?_
              refine hB _ _ _ _ (kgoC (is := KX6_statementAt_40) rfl ?_)
              refine k_aload_n rfl ?_
              refine k_areturn ?_
              exact ⟨_, rfl, rfl, t23.ot⟩
    refine hB _ _ _ _ (kgoC (is := KX6_statementAt_0) rfl ?_)
    refine k_iconst (m := 0) rfl (fun x43 h44 => ?_)
    refine k_istore_n (ls' := [(2, .inl x43), (0, .inr (.inr (some p0))), (1, .inl p1)]) rfl ?_
    refine k_nil ?_
    exact hW _ _ _ _ _ (List.forall_mem_cons.2 ⟨List.Mem.tail _ (List.Mem.head _), (List.forall_mem_cons.2 ⟨List.Mem.tail _ (List.Mem.tail _ (List.Mem.head _)), (List.forall_mem_cons.2 ⟨List.Mem.head _, fun _ h => absurd h List.not_mem_nil⟩)⟩)⟩) (L2 _ x43 rfl (by omega) (by omega))
theorem lg_X6_statementAt : ∀ (As : List AvC) (σ : CsC), P_X6_statementAt As σ → lgC As ≤ rX6_statementAt.2.2.1 := by
  rintro As σ ⟨p0, p1, rfl, -⟩
  exact Nat.le_of_ble_eq_true rfl
theorem m_X6_statementAt (l : Launch) : CMetC l 11 121 P_X6_statementAt Q_X6_statementAt :=
  CMetC.of KX6_statementAt [(234, P_Jx4a65c_size_8abf5, Q_Jx4a65c_size_8abf5), (235, P_Jx4a65c_get_915e3, Q_Jx4a65c_get_915e3), (180, P_X8_isPart, Q_X8_isPart)] hX6_statementAt (by decide) (by decide) okX6_statementAt (cc1C (m_Jx4a65c_size_8abf5 l) (by decide) (cc1C (m_Jx4a65c_get_915e3 l) (by decide) (cc1C (m_X8_isPart l) (by decide) cc0C))) (lg_X6_statementAt) (b_X6_statementAt)

abbrev P_X3_variableOf : CpC := fun As σ => ∃ (p0 : Nat) (p1 : Nat), As = [.inr (.inr (some p0)), .inr (.inr (some p1))] ∧ HIC σ ∧ TyC σ p0 4 ∧ TyC σ p1 2
abbrev Q_X3_variableOf : CqC := fun As σ w τ => match As with
  | [.inr (.inr (some p0)), .inr (.inr (some p1))] => ∃ r : Option Nat, w = some (.inr (.inr r)) ∧ σ = τ ∧ OtC τ r 11
  | _ => False
set_option maxRecDepth 100000 in
set_option maxHeartbeats 4000000 in
theorem b_X3_variableOf : TbC KX3_variableOf [(234, P_Jx4a65c_size_8abf5, Q_Jx4a65c_size_8abf5), (235, P_Jx4a65c_get_915e3, Q_Jx4a65c_get_915e3)] P_X3_variableOf Q_X3_variableOf := by
  · rintro As σ0 ⟨p0, p1, rfl, H0, h_0_0, h_1_0⟩ hgr G hB hW
    change G 0 [(0, .inr (.inr (some p0))), (1, .inr (.inr (some p1)))] [] σ0
    refine hB _ _ _ _ (kgoC (is := KX3_variableOf_0) rfl ?_)
    refine k_aload_n rfl ?_
    obtain ⟨x3, e1, c2, h4, h5⟩ := cg67 H0.1 h_1_0
    refine k_get kg67 h_1_0 e1 ?_
    refine k_if_lt (fun h6 => ?_) (fun h6 => ?_)
    · refine hB _ _ _ _ (kgoC (is := KX3_variableOf_44) rfl ?_)
      refine k_aconst_null ?_
      refine k_nil ?_
      refine hB _ _ _ _ (kgoC (is := KX3_variableOf_45) rfl ?_)
      refine k_areturn ?_
      exact ⟨none, rfl, rfl, OtC.n⟩
    · refine k_nil ?_
      refine hB _ _ _ _ (kgoC (is := KX3_variableOf_7) rfl ?_)
      refine k_aload_n rfl ?_
      refine k_get kg67 h_1_0 (congrArg (Sum.inl : Int32 → AvC) c2) ?_
      refine k_aload_n rfl ?_
      obtain ⟨a9, e7, c8, t10⟩ := cg121 H0.1 h_0_0
      refine k_get kg121 h_0_0 e7 ?_
      obtain ⟨a13, e11, c12, t14, l15⟩ := cg212 H0.1 t10
      refine k_get kg212 t10 e11 ?_
      refine k_inv (P := P_Jx4a65c_size_8abf5) (Q := Q_Jx4a65c_size_8abf5) rfl rfl rfl rfl (Nat.le_of_ble_eq_true rfl) (t14.rc (by decide)) ⟨_, rfl, H0, t14⟩ (fun w16 σ17 q18 => ?_)
      obtain ⟨x19, rfl, rfl, h20, h21, q22, q23⟩ := q18
      refine k_st (st' := [.inl x19, .inl x3]) rfl ?_
      refine k_ic_ge (fun h24 => ?_) (fun h24 => ?_)
      · refine hB _ _ _ _ (kgoC (is := KX3_variableOf_44) rfl ?_)
        refine k_aconst_null ?_
        refine k_nil ?_
        refine hB _ _ _ _ (kgoC (is := KX3_variableOf_45) rfl ?_)
        refine k_areturn ?_
        exact ⟨none, rfl, rfl, OtC.n⟩
      · refine k_nil ?_
        refine hB _ _ _ _ (kgoC (is := KX3_variableOf_24) rfl ?_)
        refine k_aload_n rfl ?_
        refine k_get kg121 h_0_0 (congrArg (fun z : Option Nat => (Sum.inr (Sum.inr z) : AvC)) c8) ?_
        refine k_get kg212 t10 (congrArg (fun z : Option Nat => (Sum.inr (Sum.inr z) : AvC)) c12) ?_
        refine k_aload_n rfl ?_
        refine k_get kg67 h_1_0 (congrArg (Sum.inl : Int32 → AvC) c2) ?_
        have z25 := congrArg Int32.toInt q22
        refine k_inv (P := P_Jx4a65c_get_915e3) (Q := Q_Jx4a65c_get_915e3) rfl rfl rfl rfl (Nat.le_of_ble_eq_true rfl) (t14.rc (by decide)) ⟨_, _, rfl, H0, t14, (by omega), (by omega)⟩ (fun w26 σ27 q28 => ?_)
        obtain ⟨a29, rfl, rfl, h30⟩ := q28
        rw [l15] at h30
        have t31 := h30.1
        refine k_st (st' := [.inr (.inr (some a29))]) rfl ?_
        refine k_castS (t31.ob (by decide)) ?_
        refine k_goto ?_
        refine hB _ _ _ _ (kgoC (is := KX3_variableOf_45) rfl ?_)
        refine k_areturn ?_
        exact ⟨_, rfl, rfl, t31.ot⟩
theorem lg_X3_variableOf : ∀ (As : List AvC) (σ : CsC), P_X3_variableOf As σ → lgC As ≤ rX3_variableOf.2.2.1 := by
  rintro As σ ⟨p0, p1, rfl, -⟩
  exact Nat.le_of_ble_eq_true rfl
theorem m_X3_variableOf (l : Launch) : CMetC l 11 51 P_X3_variableOf Q_X3_variableOf :=
  CMetC.of KX3_variableOf [(234, P_Jx4a65c_size_8abf5, Q_Jx4a65c_size_8abf5), (235, P_Jx4a65c_get_915e3, Q_Jx4a65c_get_915e3)] hX3_variableOf (by decide) (by decide) okX3_variableOf (cc1C (m_Jx4a65c_size_8abf5 l) (by decide) (cc1C (m_Jx4a65c_get_915e3 l) (by decide) cc0C)) (lg_X3_variableOf) (b_X3_variableOf)

abbrev P_X3_isFaulty : CpC := fun As σ => ∃ (p0 : Option Nat), As = [.inr (.inr p0)] ∧ HIC σ ∧ OtC σ p0 2
abbrev Q_X3_isFaulty : CqC := fun As σ w τ => match As with
  | [.inr (.inr p0)] => ∃ r : Int32, w = some (.inl r) ∧ σ = τ ∧ 0 ≤ r.toInt ∧ r.toInt ≤ 1 ∧ (r.toInt = 0 → ∃ b, p0 = some b)
  | _ => False
set_option maxRecDepth 100000 in
set_option maxHeartbeats 4000000 in
theorem b_X3_isFaulty : TbC KX3_isFaulty [] P_X3_isFaulty Q_X3_isFaulty := by
  · rintro As σ0 ⟨p0, rfl, H0, h_0_0⟩ hgr G hB hW
    change G 0 [(0, .inr (.inr p0))] [] σ0
    refine hB _ _ _ _ (kgoC (is := KX3_isFaulty_0) rfl ?_)
    refine k_aload_n rfl ?_
    refine k_ifnull (fun h2 => ?_) (fun b1 h2 => ?_)
    · subst h2
      refine hB _ _ _ _ (kgoC (is := KX3_isFaulty_12) rfl ?_)
      refine k_iconst (m := 1) rfl (fun x3 h4 => ?_)
      refine k_goto ?_
      refine hB _ _ _ _ (kgoC (is := KX3_isFaulty_17) rfl ?_)
      refine k_ireturn (fun _ => b01C (by omega) (by omega)) ?_
      exact ⟨_, rfl, rfl, (by omega), (by omega), (by intro hz; first | exact ⟨_, rfl⟩ | (exfalso; omega))⟩
    · subst h2
      have t5 := h_0_0 b1 rfl
      refine k_nil ?_
      refine hB _ _ _ _ (kgoC (is := KX3_isFaulty_4) rfl ?_)
      refine k_aload_n rfl ?_
      obtain ⟨x8, e6, c7, h9, h10⟩ := cg68 H0.1 t5
      refine k_get kg68 t5 e6 ?_
      refine k_iconst (m := (-1)) rfl (fun x11 h12 => ?_)
      refine k_ic_ne (fun h13 => ?_) (fun h13 => ?_)
      · refine hB _ _ _ _ (kgoC (is := KX3_isFaulty_16) rfl ?_)
        refine k_iconst (m := 0) rfl (fun x14 h15 => ?_)
        refine k_nil ?_
        refine hB _ _ _ _ (kgoC (is := KX3_isFaulty_17) rfl ?_)
        refine k_ireturn (fun _ => b01C (by omega) (by omega)) ?_
        exact ⟨_, rfl, rfl, (by omega), (by omega), (by intro hz; first | exact ⟨_, rfl⟩ | (exfalso; omega))⟩
      · refine k_nil ?_
        refine hB _ _ _ _ (kgoC (is := KX3_isFaulty_12) rfl ?_)
        refine k_iconst (m := 1) rfl (fun x16 h17 => ?_)
        refine k_goto ?_
        refine hB _ _ _ _ (kgoC (is := KX3_isFaulty_17) rfl ?_)
        refine k_ireturn (fun _ => b01C (by omega) (by omega)) ?_
        exact ⟨_, rfl, rfl, (by omega), (by omega), (by intro hz; first | exact ⟨_, rfl⟩ | (exfalso; omega))⟩
theorem lg_X3_isFaulty : ∀ (As : List AvC) (σ : CsC), P_X3_isFaulty As σ → lgC As ≤ rX3_isFaulty.2.2.1 := by
  rintro As σ ⟨p0, rfl, -⟩
  exact Nat.le_of_ble_eq_true rfl
theorem m_X3_isFaulty (l : Launch) : CMetC l 1 52 P_X3_isFaulty Q_X3_isFaulty :=
  CMetC.of KX3_isFaulty [] hX3_isFaulty (by decide) (by decide) okX3_isFaulty cc0C (lg_X3_isFaulty) (b_X3_isFaulty)

abbrev P_X3_isTakenAlone : CpC := fun As σ => ∃ (p0 : Nat) (p1 : Int32), As = [.inr (.inr (some p0)), .inl p1] ∧ HIC σ ∧ TyC σ p0 2
abbrev Q_X3_isTakenAlone : CqC := fun As σ w τ => match As with
  | [.inr (.inr (some p0)), .inl p1] => ∃ r : Int32, w = some (.inl r) ∧ σ = τ ∧ 0 ≤ r.toInt ∧ r.toInt ≤ 1
  | _ => False
set_option maxRecDepth 100000 in
set_option maxHeartbeats 4000000 in
theorem b_X3_isTakenAlone : TbC KX3_isTakenAlone [(223, P_X11_isNumber, Q_X11_isNumber)] P_X3_isTakenAlone Q_X3_isTakenAlone := by
  · rintro As σ0 ⟨p0, p1, rfl, H0, h_0_0⟩ hgr G hB hW
    change G 0 [(0, .inr (.inr (some p0))), (1, .inl p1)] [] σ0
    refine hB _ _ _ _ (kgoC (is := KX3_isTakenAlone_0) rfl ?_)
    refine k_aload_n rfl ?_
    obtain ⟨x3, e1, c2, h4, h5⟩ := cg60 H0.1 h_0_0
    refine k_get kg60 h_0_0 e1 ?_
    refine k_iconst (m := 5) rfl (fun x6 h7 => ?_)
    refine k_ic_ne (fun h8 => ?_) (fun h8 => ?_)
    · refine hB _ _ _ _ (kgoC (is := KX3_isTakenAlone_42) rfl ?_)
      refine k_aload_n rfl ?_
      obtain ⟨x11, e9, c10, h12, h13⟩ := cg61 H0.1 h_0_0
      refine k_get kg61 h_0_0 e9 ?_
      refine k_bipush (m := 39) rfl (fun x14 h15 => ?_)
      refine k_ic_ne (fun h16 => ?_) (fun h16 => ?_)
      · refine hB _ _ _ _ (kgoC (is := KX3_isTakenAlone_63) rfl ?_)
        refine k_iload_n rfl ?_
        refine k_stat (P := P_X11_isNumber) (Q := Q_X11_isNumber) rfl rfl (Nat.le_of_ble_eq_true rfl) rfl rfl (Nat.le_of_ble_eq_true rfl) ⟨_, rfl, H0⟩ (fun w17 σ18 q19 => ?_)
        obtain ⟨x20, rfl, rfl, h21, h22⟩ := q19
        refine k_st (st' := [.inl x20]) rfl ?_
        refine k_nil ?_
        refine hB _ _ _ _ (kgoC (is := KX3_isTakenAlone_67) rfl ?_)
        refine k_ireturn (fun _ => b01C (by omega) (by omega)) ?_
        exact ⟨_, rfl, rfl, (by omega), (by omega)⟩
      · refine k_nil ?_
        refine hB _ _ _ _ (kgoC (is := KX3_isTakenAlone_51) rfl ?_)
        refine k_iload_n rfl ?_
        refine k_if_ne (fun h23 => ?_) (fun h23 => ?_)
        · refine hB _ _ _ _ (kgoC (is := KX3_isTakenAlone_59) rfl ?_)
          refine k_iconst (m := 0) rfl (fun x24 h25 => ?_)
          refine k_goto ?_
          refine hB _ _ _ _ (kgoC (is := KX3_isTakenAlone_67) rfl ?_)
          refine k_ireturn (fun _ => b01C (by omega) (by omega)) ?_
          exact ⟨_, rfl, rfl, (by omega), (by omega)⟩
        · refine k_nil ?_
          refine hB _ _ _ _ (kgoC (is := KX3_isTakenAlone_55) rfl ?_)
          refine k_iconst (m := 1) rfl (fun x26 h27 => ?_)
          refine k_goto ?_
          refine hB _ _ _ _ (kgoC (is := KX3_isTakenAlone_67) rfl ?_)
          refine k_ireturn (fun _ => b01C (by omega) (by omega)) ?_
          exact ⟨_, rfl, rfl, (by omega), (by omega)⟩
    · refine k_nil ?_
      refine hB _ _ _ _ (kgoC (is := KX3_isTakenAlone_8) rfl ?_)
      refine k_iload_n rfl ?_
      refine k_stat (P := P_X11_isNumber) (Q := Q_X11_isNumber) rfl rfl (Nat.le_of_ble_eq_true rfl) rfl rfl (Nat.le_of_ble_eq_true rfl) ⟨_, rfl, H0⟩ (fun w28 σ29 q30 => ?_)
      obtain ⟨x31, rfl, rfl, h32, h33⟩ := q30
      refine k_st (st' := [.inl x31]) rfl ?_
      refine k_if_eq (fun h34 => ?_) (fun h34 => ?_)
      · refine hB _ _ _ _ (kgoC (is := KX3_isTakenAlone_25) rfl ?_)
        refine k_iload_n rfl ?_
        refine k_if_ne (fun h35 => ?_) (fun h35 => ?_)
        · refine hB _ _ _ _ (kgoC (is := KX3_isTakenAlone_40) rfl ?_)
          refine k_iconst (m := 0) rfl (fun x36 h37 => ?_)
          refine k_nil ?_
          refine hB _ _ _ _ (kgoC (is := KX3_isTakenAlone_41) rfl ?_)
          refine k_ireturn (fun _ => b01C (by omega) (by omega)) ?_
          exact ⟨_, rfl, rfl, (by omega), (by omega)⟩
        · refine k_nil ?_
          refine hB _ _ _ _ (kgoC (is := KX3_isTakenAlone_29) rfl ?_)
          refine k_aload_n rfl ?_
          obtain ⟨x40, e38, c39, h41, h42⟩ := cg69 H0.1 h_0_0
          refine k_get kg69 h_0_0 e38 ?_
          refine k_if_ne (fun h43 => ?_) (fun h43 => ?_)
          · refine hB _ _ _ _ (kgoC (is := KX3_isTakenAlone_40) rfl ?_)
            refine k_iconst (m := 0) rfl (fun x44 h45 => ?_)
            refine k_nil ?_
            refine hB _ _ _ _ (kgoC (is := KX3_isTakenAlone_41) rfl ?_)
            refine k_ireturn (fun _ => b01C (by omega) (by omega)) ?_
            exact ⟨_, rfl, rfl, (by omega), (by omega)⟩
          · refine k_nil ?_
            refine hB _ _ _ _ (kgoC (is := KX3_isTakenAlone_36) rfl ?_)
            refine k_iconst (m := 1) rfl (fun x46 h47 => ?_)
            refine k_goto ?_
            refine hB _ _ _ _ (kgoC (is := KX3_isTakenAlone_41) rfl ?_)
            refine k_ireturn (fun _ => b01C (by omega) (by omega)) ?_
            exact ⟨_, rfl, rfl, (by omega), (by omega)⟩
      · refine k_nil ?_
        refine hB _ _ _ _ (kgoC (is := KX3_isTakenAlone_15) rfl ?_)
        refine k_aload_n rfl ?_
        obtain ⟨x50, e48, c49, h51, h52⟩ := cg69 H0.1 h_0_0
        refine k_get kg69 h_0_0 e48 ?_
        refine k_stat (P := P_X11_isNumber) (Q := Q_X11_isNumber) rfl rfl (Nat.le_of_ble_eq_true rfl) rfl rfl (Nat.le_of_ble_eq_true rfl) ⟨_, rfl, H0⟩ (fun w53 σ54 q55 => ?_)
        obtain ⟨x56, rfl, rfl, h57, h58⟩ := q55
        refine k_st (st' := [.inl x56]) rfl ?_
        refine k_if_ne (fun h59 => ?_) (fun h59 => ?_)
        · refine hB _ _ _ _ (kgoC (is := KX3_isTakenAlone_36) rfl ?_)
          refine k_iconst (m := 1) rfl (fun x60 h61 => ?_)
          refine k_goto ?_
          refine hB _ _ _ _ (kgoC (is := KX3_isTakenAlone_41) rfl ?_)
          refine k_ireturn (fun _ => b01C (by omega) (by omega)) ?_
          exact ⟨_, rfl, rfl, (by omega), (by omega)⟩
        · refine k_nil ?_
          refine hB _ _ _ _ (kgoC (is := KX3_isTakenAlone_25) rfl ?_)
          refine k_iload_n rfl ?_
          refine k_if_ne (fun h62 => ?_) (fun h62 => ?_)
          · refine hB _ _ _ _ (kgoC (is := KX3_isTakenAlone_40) rfl ?_)
            refine k_iconst (m := 0) rfl (fun x63 h64 => ?_)
            refine k_nil ?_
            refine hB _ _ _ _ (kgoC (is := KX3_isTakenAlone_41) rfl ?_)
            refine k_ireturn (fun _ => b01C (by omega) (by omega)) ?_
            exact ⟨_, rfl, rfl, (by omega), (by omega)⟩
          · refine k_nil ?_
            refine hB _ _ _ _ (kgoC (is := KX3_isTakenAlone_29) rfl ?_)
            refine k_aload_n rfl ?_
            refine k_get kg69 h_0_0 (congrArg (Sum.inl : Int32 → AvC) c49) ?_
            refine k_if_ne (fun h65 => ?_) (fun h65 => ?_)
            · refine hB _ _ _ _ (kgoC (is := KX3_isTakenAlone_40) rfl ?_)
              refine k_iconst (m := 0) rfl (fun x66 h67 => ?_)
              refine k_nil ?_
              refine hB _ _ _ _ (kgoC (is := KX3_isTakenAlone_41) rfl ?_)
              refine k_ireturn (fun _ => b01C (by omega) (by omega)) ?_
              exact ⟨_, rfl, rfl, (by omega), (by omega)⟩
            · refine k_nil ?_
              refine hB _ _ _ _ (kgoC (is := KX3_isTakenAlone_36) rfl ?_)
              refine k_iconst (m := 1) rfl (fun x68 h69 => ?_)
              refine k_goto ?_
              refine hB _ _ _ _ (kgoC (is := KX3_isTakenAlone_41) rfl ?_)
              refine k_ireturn (fun _ => b01C (by omega) (by omega)) ?_
              exact ⟨_, rfl, rfl, (by omega), (by omega)⟩
theorem lg_X3_isTakenAlone : ∀ (As : List AvC) (σ : CsC), P_X3_isTakenAlone As σ → lgC As ≤ rX3_isTakenAlone.2.2.1 := by
  rintro As σ ⟨p0, p1, rfl, -⟩
  exact Nat.le_of_ble_eq_true rfl
theorem m_X3_isTakenAlone (l : Launch) : CMetC l 2 57 P_X3_isTakenAlone Q_X3_isTakenAlone :=
  CMetC.of KX3_isTakenAlone [(223, P_X11_isNumber, Q_X11_isNumber)] hX3_isTakenAlone (by decide) (by decide) okX3_isTakenAlone (cc1C (m_X11_isNumber l) (by decide) cc0C) (lg_X3_isTakenAlone) (b_X3_isTakenAlone)

abbrev P_X3_promoted : CpC := fun As σ => ∃ (p0 : Int32), As = [.inl p0] ∧ HIC σ
abbrev Q_X3_promoted : CqC := fun As σ w τ => match As with
  | [.inl p0] => ∃ r : Int32, w = some (.inl r) ∧ σ = τ
  | _ => False
set_option maxRecDepth 100000 in
set_option maxHeartbeats 4000000 in
theorem b_X3_promoted : TbC KX3_promoted [] P_X3_promoted Q_X3_promoted := by
  · rintro As σ0 ⟨p0, rfl, H0⟩ hgr G hB hW
    change G 0 [(0, .inl p0)] [] σ0
    refine hB _ _ _ _ (kgoC (is := KX3_promoted_0) rfl ?_)
    refine k_iload_n rfl ?_
    refine k_iconst (m := 4) rfl (fun x1 h2 => ?_)
    refine k_ic_ne (fun h3 => ?_) (fun h3 => ?_)
    · refine hB _ _ _ _ (kgoC (is := KX3_promoted_9) rfl ?_)
      refine k_iconst (m := 3) rfl (fun x4 h5 => ?_)
      refine k_nil ?_
      refine hB _ _ _ _ (kgoC (is := KX3_promoted_10) rfl ?_)
      refine k_ireturn (fun hz => absurd hz (by decide)) ?_
      exact ⟨_, rfl, rfl⟩
    · refine k_nil ?_
      refine hB _ _ _ _ (kgoC (is := KX3_promoted_5) rfl ?_)
      refine k_iconst (m := 4) rfl (fun x6 h7 => ?_)
      refine k_goto ?_
      refine hB _ _ _ _ (kgoC (is := KX3_promoted_10) rfl ?_)
      refine k_ireturn (fun hz => absurd hz (by decide)) ?_
      exact ⟨_, rfl, rfl⟩
theorem lg_X3_promoted : ∀ (As : List AvC) (σ : CsC), P_X3_promoted As σ → lgC As ≤ rX3_promoted.2.2.1 := by
  rintro As σ ⟨p0, rfl, -⟩
  exact Nat.le_of_ble_eq_true rfl
theorem m_X3_promoted (l : Launch) : CMetC l 1 58 P_X3_promoted Q_X3_promoted :=
  CMetC.of KX3_promoted [] hX3_promoted (by decide) (by decide) okX3_promoted cc0C (lg_X3_promoted) (b_X3_promoted)

abbrev P_X3_isWanted : CpC := fun As σ => ∃ (p0 : Nat) (p1 : Int32) (p2 : Int32), As = [.inr (.inr (some p0)), .inl p1, .inl p2] ∧ HIC σ ∧ TyC σ p0 4 ∧ 0 ≤ p1.toInt ∧ p1.toInt ≤ 1 ∧ 0 ≤ p2.toInt ∧ p2.toInt ≤ 502
abbrev Q_X3_isWanted : CqC := fun As σ w τ => match As with
  | [.inr (.inr (some p0)), .inl p1, .inl p2] => ∃ r : Int32, w = some (.inl r) ∧ HIC τ ∧ ExC [217, 218] σ τ ∧ 0 ≤ r.toInt ∧ r.toInt ≤ 1
  | _ => False
set_option maxRecDepth 100000 in
set_option maxHeartbeats 4000000 in
theorem b_X3_isWanted : TbC KX3_isWanted [(118, P_X6_tell, Q_X6_tell)] P_X3_isWanted Q_X3_isWanted := by
  · rintro As σ0 ⟨p0, p1, p2, rfl, H0, h_0_0, h_1_0, h_1_1, h_2_0, h_2_1⟩ hgr G hB hW
    change G 0 [(0, .inr (.inr (some p0))), (1, .inl p1), (2, .inl p2)] [] σ0
    refine hB _ _ _ _ (kgoC (is := KX3_isWanted_0) rfl ?_)
    refine k_iload_n rfl ?_
    refine k_if_ne (fun h1 => ?_) (fun h1 => ?_)
    · refine hB _ _ _ _ (kgoC (is := KX3_isWanted_13) rfl ?_)
      refine k_iload_n rfl ?_
      refine k_ireturn (fun _ => b01C (by omega) (by omega)) ?_
      exact ⟨_, rfl, H0, (ExC.rf : ExC [217, 218] σ0 σ0), (by omega), (by omega)⟩
    · refine k_nil ?_
      refine hB _ _ _ _ (kgoC (is := KX3_isWanted_4) rfl ?_)
      refine k_aload_n rfl ?_
      obtain ⟨a4, e2, c3, t5⟩ := cg121 H0.1 h_0_0
      refine k_get kg121 h_0_0 e2 ?_
      refine k_iconst (m := 5) rfl (fun x6 h7 => ?_)
      refine k_iload_n rfl ?_
      refine k_inv (P := P_X6_tell) (Q := Q_X6_tell) rfl rfl rfl rfl (Nat.le_of_ble_eq_true rfl) (t5.rc (by decide)) ⟨_, _, _, rfl, H0, t5, (by omega), (by omega), (by omega), (by omega)⟩ (fun w8 σ9 q10 => ?_)
      obtain ⟨rfl, H11, e12⟩ := q10
      refine k_st (st' := []) rfl ?_
      refine k_nil ?_
      refine hB _ _ _ _ (kgoC (is := KX3_isWanted_13) rfl ?_)
      refine k_iload_n rfl ?_
      refine k_ireturn (fun _ => b01C (by omega) (by omega)) ?_
      have X13 : ExC [217, 218] σ0 σ9 := ExC.rf.tr (e12.mo (by decide))
      exact ⟨_, rfl, H11, X13, (by omega), (by omega)⟩
theorem lg_X3_isWanted : ∀ (As : List AvC) (σ : CsC), P_X3_isWanted As σ → lgC As ≤ rX3_isWanted.2.2.1 := by
  rintro As σ ⟨p0, p1, p2, rfl, -⟩
  exact Nat.le_of_ble_eq_true rfl
theorem m_X3_isWanted (l : Launch) : CMetC l 2 62 P_X3_isWanted Q_X3_isWanted :=
  CMetC.of KX3_isWanted [(118, P_X6_tell, Q_X6_tell)] hX3_isWanted (by decide) (by decide) okX3_isWanted (cc1C (m_X6_tell l) (by decide) cc0C) (lg_X3_isWanted) (b_X3_isWanted)

abbrev P_X3_mayChange : CpC := fun As σ => ∃ (p0 : Nat) (p1 : Nat) (p2 : Option Nat), As = [.inr (.inr (some p0)), .inr (.inr (some p1)), .inr (.inr p2)] ∧ HIC σ ∧ TyC σ p0 4 ∧ TyC σ p1 2 ∧ OtC σ p2 11
abbrev Q_X3_mayChange : CqC := fun As σ w τ => match As with
  | [.inr (.inr (some p0)), .inr (.inr (some p1)), .inr (.inr p2)] => ∃ r : Int32, w = some (.inl r) ∧ HIC τ ∧ ExC [217, 218] σ τ ∧ 0 ≤ r.toInt ∧ r.toInt ≤ 1 ∧ (r.toInt = 1 → ∃ b, p2 = some b)
  | _ => False
set_option maxRecDepth 100000 in
set_option maxHeartbeats 4000000 in
theorem b_X3_mayChange : TbC KX3_mayChange [(118, P_X6_tell, Q_X6_tell)] P_X3_mayChange Q_X3_mayChange := by
  · rintro As σ0 ⟨p0, p1, p2, rfl, H0, h_0_0, h_1_0, h_2_0⟩ hgr G hB hW
    change G 0 [(0, .inr (.inr (some p0))), (1, .inr (.inr (some p1))), (2, .inr (.inr p2))] [] σ0
    refine hB _ _ _ _ (kgoC (is := KX3_mayChange_0) rfl ?_)
    refine k_aload_n rfl ?_
    refine k_ifnonnull (fun b1 h2 => ?_) (fun h2 => ?_)
    · subst h2
      have t3 := h_2_0 b1 rfl
      refine hB _ _ _ _ (kgoC (is := KX3_mayChange_18) rfl ?_)
      refine k_aload_n rfl ?_
      obtain ⟨x6, e4, c5, h7, h8⟩ := cg332 H0.1 t3
      refine k_get kg332 t3 e4 ?_
      refine k_if_eq (fun h9 => ?_) (fun h9 => ?_)
      · refine hB _ _ _ _ (kgoC (is := KX3_mayChange_38) rfl ?_)
        refine k_aload_n rfl ?_
        refine k_get kg332 t3 (congrArg (Sum.inl : Int32 → AvC) c5) ?_
        refine k_if_ne (fun h10 => by exfalso; omega) (fun h10 => ?_)
        refine k_nil ?_
        refine hB _ _ _ _ (kgoC (is := KX3_mayChange_45) rfl ?_)
        refine k_iconst (m := 1) rfl (fun x11 h12 => ?_)
        refine k_goto ?_
        refine hB _ _ _ _ (kgoC (is := KX3_mayChange_50) rfl ?_)
        refine k_ireturn (fun _ => b01C (by omega) (by omega)) ?_
        exact ⟨_, rfl, H0, (ExC.rf : ExC [217, 218] σ0 σ0), (by omega), (by omega), (by intro hz; first | exact ⟨_, rfl⟩ | (exfalso; omega))⟩
      · refine k_nil ?_
        refine hB _ _ _ _ (kgoC (is := KX3_mayChange_25) rfl ?_)
        refine k_aload_n rfl ?_
        obtain ⟨a15, e13, c14, t16⟩ := cg121 H0.1 h_0_0
        refine k_get kg121 h_0_0 e13 ?_
        refine k_bipush (m := 7) rfl (fun x17 h18 => ?_)
        refine k_aload_n rfl ?_
        obtain ⟨x21, e19, c20, h22, h23⟩ := cg66 H0.1 h_1_0
        refine k_get kg66 h_1_0 e19 ?_
        refine k_inv (P := P_X6_tell) (Q := Q_X6_tell) rfl rfl rfl rfl (Nat.le_of_ble_eq_true rfl) (t16.rc (by decide)) ⟨_, _, _, rfl, H0, t16, (by omega), (by omega), (by omega), (by omega)⟩ (fun w24 σ25 q26 => ?_)
        obtain ⟨rfl, H27, e28⟩ := q26
        refine k_st (st' := []) rfl ?_
        refine k_nil ?_
        refine hB _ _ _ _ (kgoC (is := KX3_mayChange_38) rfl ?_)
        refine k_aload_n rfl ?_
        have t29 := t3.x e28
        have c30 := (t3.mi e28 (by decide)).trans c5
        refine k_get kg332 t29 (congrArg (Sum.inl : Int32 → AvC) c30) ?_
        refine k_if_ne (fun h31 => ?_) (fun h31 => by exfalso; omega)
        refine hB _ _ _ _ (kgoC (is := KX3_mayChange_49) rfl ?_)
        refine k_iconst (m := 0) rfl (fun x32 h33 => ?_)
        refine k_nil ?_
        refine hB _ _ _ _ (kgoC (is := KX3_mayChange_50) rfl ?_)
        refine k_ireturn (fun _ => b01C (by omega) (by omega)) ?_
        have X34 : ExC [217, 218] σ0 σ25 := ExC.rf.tr (e28.mo (by decide))
        exact ⟨_, rfl, H27, X34, (by omega), (by omega), (by intro hz; first | exact ⟨_, rfl⟩ | (exfalso; omega))⟩
    · subst h2
      refine k_nil ?_
      refine hB _ _ _ _ (kgoC (is := KX3_mayChange_4) rfl ?_)
      refine k_aload_n rfl ?_
      obtain ⟨a37, e35, c36, t38⟩ := cg121 H0.1 h_0_0
      refine k_get kg121 h_0_0 e35 ?_
      refine k_iconst (m := 3) rfl (fun x39 h40 => ?_)
      refine k_aload_n rfl ?_
      obtain ⟨x43, e41, c42, h44, h45⟩ := cg66 H0.1 h_1_0
      refine k_get kg66 h_1_0 e41 ?_
      refine k_inv (P := P_X6_tell) (Q := Q_X6_tell) rfl rfl rfl rfl (Nat.le_of_ble_eq_true rfl) (t38.rc (by decide)) ⟨_, _, _, rfl, H0, t38, (by omega), (by omega), (by omega), (by omega)⟩ (fun w46 σ47 q48 => ?_)
      obtain ⟨rfl, H49, e50⟩ := q48
      refine k_st (st' := []) rfl ?_
      refine k_iconst (m := 0) rfl (fun x51 h52 => ?_)
      refine k_ireturn (fun _ => b01C (by omega) (by omega)) ?_
      have X53 : ExC [217, 218] σ0 σ47 := ExC.rf.tr (e50.mo (by decide))
      exact ⟨_, rfl, H49, X53, (by omega), (by omega), (by intro hz; first | exact ⟨_, rfl⟩ | (exfalso; omega))⟩
theorem lg_X3_mayChange : ∀ (As : List AvC) (σ : CsC), P_X3_mayChange As σ → lgC As ≤ rX3_mayChange.2.2.1 := by
  rintro As σ ⟨p0, p1, p2, rfl, -⟩
  exact Nat.le_of_ble_eq_true rfl
theorem m_X3_mayChange (l : Launch) : CMetC l 2 59 P_X3_mayChange Q_X3_mayChange :=
  CMetC.of KX3_mayChange [(118, P_X6_tell, Q_X6_tell)] hX3_mayChange (by decide) (by decide) okX3_mayChange (cc1C (m_X6_tell l) (by decide) cc0C) (lg_X3_mayChange) (b_X3_mayChange)

abbrev P_X3_isLogical : CpC := fun As σ => ∃ (p0 : Int32), As = [.inl p0] ∧ HIC σ
abbrev Q_X3_isLogical : CqC := fun As σ w τ => match As with
  | [.inl p0] => ∃ r : Int32, w = some (.inl r) ∧ σ = τ ∧ 0 ≤ r.toInt ∧ r.toInt ≤ 1
  | _ => False
set_option maxRecDepth 100000 in
set_option maxHeartbeats 4000000 in
theorem b_X3_isLogical : TbC KX3_isLogical [] P_X3_isLogical Q_X3_isLogical := by
  · rintro As σ0 ⟨p0, rfl, H0⟩ hgr G hB hW
    change G 0 [(0, .inl p0)] [] σ0
    refine hB _ _ _ _ (kgoC (is := KX3_isLogical_0) rfl ?_)
    refine k_iload_n rfl ?_
    refine k_bipush (m := 21) rfl (fun x1 h2 => ?_)
    refine k_ic_eq (fun h3 => ?_) (fun h3 => ?_)
    · refine hB _ _ _ _ (kgoC (is := KX3_isLogical_12) rfl ?_)
      refine k_iconst (m := 1) rfl (fun x4 h5 => ?_)
      refine k_goto ?_
      refine hB _ _ _ _ (kgoC (is := KX3_isLogical_17) rfl ?_)
      refine k_ireturn (fun _ => b01C (by omega) (by omega)) ?_
      exact ⟨_, rfl, rfl, (by omega), (by omega)⟩
    · refine k_nil ?_
      refine hB _ _ _ _ (kgoC (is := KX3_isLogical_6) rfl ?_)
      refine k_iload_n rfl ?_
      refine k_bipush (m := 20) rfl (fun x6 h7 => ?_)
      refine k_ic_ne (fun h8 => ?_) (fun h8 => ?_)
      · refine hB _ _ _ _ (kgoC (is := KX3_isLogical_16) rfl ?_)
        refine k_iconst (m := 0) rfl (fun x9 h10 => ?_)
        refine k_nil ?_
        refine hB _ _ _ _ (kgoC (is := KX3_isLogical_17) rfl ?_)
        refine k_ireturn (fun _ => b01C (by omega) (by omega)) ?_
        exact ⟨_, rfl, rfl, (by omega), (by omega)⟩
      · refine k_nil ?_
        refine hB _ _ _ _ (kgoC (is := KX3_isLogical_12) rfl ?_)
        refine k_iconst (m := 1) rfl (fun x11 h12 => ?_)
        refine k_goto ?_
        refine hB _ _ _ _ (kgoC (is := KX3_isLogical_17) rfl ?_)
        refine k_ireturn (fun _ => b01C (by omega) (by omega)) ?_
        exact ⟨_, rfl, rfl, (by omega), (by omega)⟩
theorem lg_X3_isLogical : ∀ (As : List AvC) (σ : CsC), P_X3_isLogical As σ → lgC As ≤ rX3_isLogical.2.2.1 := by
  rintro As σ ⟨p0, rfl, -⟩
  exact Nat.le_of_ble_eq_true rfl
theorem m_X3_isLogical (l : Launch) : CMetC l 1 64 P_X3_isLogical Q_X3_isLogical :=
  CMetC.of KX3_isLogical [] hX3_isLogical (by decide) (by decide) okX3_isLogical cc0C (lg_X3_isLogical) (b_X3_isLogical)

abbrev P_X3_takesBoth : CpC := fun As σ => ∃ (p0 : Int32), As = [.inl p0] ∧ HIC σ
abbrev Q_X3_takesBoth : CqC := fun As σ w τ => match As with
  | [.inl p0] => ∃ r : Int32, w = some (.inl r) ∧ σ = τ ∧ 0 ≤ r.toInt ∧ r.toInt ≤ 1
  | _ => False
set_option maxRecDepth 100000 in
set_option maxHeartbeats 4000000 in
theorem b_X3_takesBoth : TbC KX3_takesBoth [] P_X3_takesBoth Q_X3_takesBoth := by
  · rintro As σ0 ⟨p0, rfl, H0⟩ hgr G hB hW
    change G 0 [(0, .inl p0)] [] σ0
    refine hB _ _ _ _ (kgoC (is := KX3_takesBoth_0) rfl ?_)
    refine k_iload_n rfl ?_
    refine k_bipush (m := 22) rfl (fun x1 h2 => ?_)
    refine k_ic_lt (fun h3 => ?_) (fun h3 => ?_)
    · refine hB _ _ _ _ (kgoC (is := KX3_takesBoth_16) rfl ?_)
      refine k_iconst (m := 0) rfl (fun x4 h5 => ?_)
      refine k_nil ?_
      refine hB _ _ _ _ (kgoC (is := KX3_takesBoth_17) rfl ?_)
      refine k_ireturn (fun _ => b01C (by omega) (by omega)) ?_
      exact ⟨_, rfl, rfl, (by omega), (by omega)⟩
    · refine k_nil ?_
      refine hB _ _ _ _ (kgoC (is := KX3_takesBoth_6) rfl ?_)
      refine k_iload_n rfl ?_
      refine k_bipush (m := 26) rfl (fun x6 h7 => ?_)
      refine k_ic_gt (fun h8 => ?_) (fun h8 => ?_)
      · refine hB _ _ _ _ (kgoC (is := KX3_takesBoth_16) rfl ?_)
        refine k_iconst (m := 0) rfl (fun x9 h10 => ?_)
        refine k_nil ?_
        refine hB _ _ _ _ (kgoC (is := KX3_takesBoth_17) rfl ?_)
        refine k_ireturn (fun _ => b01C (by omega) (by omega)) ?_
        exact ⟨_, rfl, rfl, (by omega), (by omega)⟩
      · refine k_nil ?_
        refine hB _ _ _ _ (kgoC (is := KX3_takesBoth_12) rfl ?_)
        refine k_iconst (m := 1) rfl (fun x11 h12 => ?_)
        refine k_goto ?_
        refine hB _ _ _ _ (kgoC (is := KX3_takesBoth_17) rfl ?_)
        refine k_ireturn (fun _ => b01C (by omega) (by omega)) ?_
        exact ⟨_, rfl, rfl, (by omega), (by omega)⟩
theorem lg_X3_takesBoth : ∀ (As : List AvC) (σ : CsC), P_X3_takesBoth As σ → lgC As ≤ rX3_takesBoth.2.2.1 := by
  rintro As σ ⟨p0, rfl, -⟩
  exact Nat.le_of_ble_eq_true rfl
theorem m_X3_takesBoth (l : Launch) : CMetC l 1 65 P_X3_takesBoth Q_X3_takesBoth :=
  CMetC.of KX3_takesBoth [] hX3_takesBoth (by decide) (by decide) okX3_takesBoth cc0C (lg_X3_takesBoth) (b_X3_takesBoth)

abbrev P_X3_isLeftTaken : CpC := fun As σ => ∃ (p0 : Int32) (p1 : Int32), As = [.inl p0, .inl p1] ∧ HIC σ
abbrev Q_X3_isLeftTaken : CqC := fun As σ w τ => match As with
  | [.inl p0, .inl p1] => ∃ r : Int32, w = some (.inl r) ∧ σ = τ ∧ 0 ≤ r.toInt ∧ r.toInt ≤ 1
  | _ => False
set_option maxRecDepth 100000 in
set_option maxHeartbeats 4000000 in
theorem b_X3_isLeftTaken : TbC KX3_isLeftTaken [(64, P_X3_isLogical, Q_X3_isLogical), (223, P_X11_isNumber, Q_X11_isNumber), (65, P_X3_takesBoth, Q_X3_takesBoth)] P_X3_isLeftTaken Q_X3_isLeftTaken := by
  · rintro As σ0 ⟨p0, p1, rfl, H0⟩ hgr G hB hW
    change G 0 [(0, .inl p0), (1, .inl p1)] [] σ0
    refine hB _ _ _ _ (kgoC (is := KX3_isLeftTaken_0) rfl ?_)
    refine k_iload_n rfl ?_
    refine k_stat (P := P_X3_isLogical) (Q := Q_X3_isLogical) rfl rfl (Nat.le_of_ble_eq_true rfl) rfl rfl (Nat.le_of_ble_eq_true rfl) ⟨_, rfl, H0⟩ (fun w1 σ2 q3 => ?_)
    obtain ⟨x4, rfl, rfl, h5, h6⟩ := q3
    refine k_st (st' := [.inl x4]) rfl ?_
    refine k_if_eq (fun h7 => ?_) (fun h7 => ?_)
    · refine hB _ _ _ _ (kgoC (is := KX3_isLeftTaken_17) rfl ?_)
      refine k_iload_n rfl ?_
      refine k_stat (P := P_X11_isNumber) (Q := Q_X11_isNumber) rfl rfl (Nat.le_of_ble_eq_true rfl) rfl rfl (Nat.le_of_ble_eq_true rfl) ⟨_, rfl, H0⟩ (fun w8 σ9 q10 => ?_)
      obtain ⟨x11, rfl, rfl, h12, h13⟩ := q10
      refine k_st (st' := [.inl x11]) rfl ?_
      refine k_if_ne (fun h14 => ?_) (fun h14 => ?_)
      · refine hB _ _ _ _ (kgoC (is := KX3_isLeftTaken_35) rfl ?_)
        refine k_iconst (m := 1) rfl (fun x15 h16 => ?_)
        refine k_goto ?_
        refine hB _ _ _ _ (kgoC (is := KX3_isLeftTaken_40) rfl ?_)
        refine k_ireturn (fun _ => b01C (by omega) (by omega)) ?_
        exact ⟨_, rfl, rfl, (by omega), (by omega)⟩
      · refine k_nil ?_
        refine hB _ _ _ _ (kgoC (is := KX3_isLeftTaken_24) rfl ?_)
        refine k_iload_n rfl ?_
        refine k_stat (P := P_X3_takesBoth) (Q := Q_X3_takesBoth) rfl rfl (Nat.le_of_ble_eq_true rfl) rfl rfl (Nat.le_of_ble_eq_true rfl) ⟨_, rfl, H0⟩ (fun w17 σ18 q19 => ?_)
        obtain ⟨x20, rfl, rfl, h21, h22⟩ := q19
        refine k_st (st' := [.inl x20]) rfl ?_
        refine k_if_eq (fun h23 => ?_) (fun h23 => ?_)
        · refine hB _ _ _ _ (kgoC (is := KX3_isLeftTaken_39) rfl ?_)
          refine k_iconst (m := 0) rfl (fun x24 h25 => ?_)
          refine k_nil ?_
          refine hB _ _ _ _ (kgoC (is := KX3_isLeftTaken_40) rfl ?_)
          refine k_ireturn (fun _ => b01C (by omega) (by omega)) ?_
          exact ⟨_, rfl, rfl, (by omega), (by omega)⟩
        · refine k_nil ?_
          refine hB _ _ _ _ (kgoC (is := KX3_isLeftTaken_31) rfl ?_)
          refine k_iload_n rfl ?_
          refine k_if_ne (fun h26 => ?_) (fun h26 => ?_)
          · refine hB _ _ _ _ (kgoC (is := KX3_isLeftTaken_39) rfl ?_)
            refine k_iconst (m := 0) rfl (fun x27 h28 => ?_)
            refine k_nil ?_
            refine hB _ _ _ _ (kgoC (is := KX3_isLeftTaken_40) rfl ?_)
            refine k_ireturn (fun _ => b01C (by omega) (by omega)) ?_
            exact ⟨_, rfl, rfl, (by omega), (by omega)⟩
          · refine k_nil ?_
            refine hB _ _ _ _ (kgoC (is := KX3_isLeftTaken_35) rfl ?_)
            refine k_iconst (m := 1) rfl (fun x29 h30 => ?_)
            refine k_goto ?_
            refine hB _ _ _ _ (kgoC (is := KX3_isLeftTaken_40) rfl ?_)
            refine k_ireturn (fun _ => b01C (by omega) (by omega)) ?_
            exact ⟨_, rfl, rfl, (by omega), (by omega)⟩
    · refine k_nil ?_
      refine hB _ _ _ _ (kgoC (is := KX3_isLeftTaken_7) rfl ?_)
      refine k_iload_n rfl ?_
      refine k_if_ne (fun h31 => ?_) (fun h31 => ?_)
      · refine hB _ _ _ _ (kgoC (is := KX3_isLeftTaken_15) rfl ?_)
        refine k_iconst (m := 0) rfl (fun x32 h33 => ?_)
        refine k_nil ?_
        refine hB _ _ _ _ (kgoC (is := KX3_isLeftTaken_16) rfl ?_)
        refine k_ireturn (fun _ => b01C (by omega) (by omega)) ?_
        exact ⟨_, rfl, rfl, (by omega), (by omega)⟩
      · refine k_nil ?_
        refine hB _ _ _ _ (kgoC (is := KX3_isLeftTaken_11) rfl ?_)
        refine k_iconst (m := 1) rfl (fun x34 h35 => ?_)
        refine k_goto ?_
        refine hB _ _ _ _ (kgoC (is := KX3_isLeftTaken_16) rfl ?_)
        refine k_ireturn (fun _ => b01C (by omega) (by omega)) ?_
        exact ⟨_, rfl, rfl, (by omega), (by omega)⟩
theorem lg_X3_isLeftTaken : ∀ (As : List AvC) (σ : CsC), P_X3_isLeftTaken As σ → lgC As ≤ rX3_isLeftTaken.2.2.1 := by
  rintro As σ ⟨p0, p1, rfl, -⟩
  exact Nat.le_of_ble_eq_true rfl
theorem m_X3_isLeftTaken (l : Launch) : CMetC l 2 66 P_X3_isLeftTaken Q_X3_isLeftTaken :=
  CMetC.of KX3_isLeftTaken [(64, P_X3_isLogical, Q_X3_isLogical), (223, P_X11_isNumber, Q_X11_isNumber), (65, P_X3_takesBoth, Q_X3_takesBoth)] hX3_isLeftTaken (by decide) (by decide) okX3_isLeftTaken (cc1C (m_X3_isLogical l) (by decide) (cc1C (m_X11_isNumber l) (by decide) (cc1C (m_X3_takesBoth l) (by decide) cc0C))) (lg_X3_isLeftTaken) (b_X3_isLeftTaken)

abbrev P_X3_isRightTaken : CpC := fun As σ => ∃ (p0 : Int32) (p1 : Int32) (p2 : Int32), As = [.inl p0, .inl p1, .inl p2] ∧ HIC σ
abbrev Q_X3_isRightTaken : CqC := fun As σ w τ => match As with
  | [.inl p0, .inl p1, .inl p2] => ∃ r : Int32, w = some (.inl r) ∧ σ = τ ∧ 0 ≤ r.toInt ∧ r.toInt ≤ 1
  | _ => False
set_option maxRecDepth 100000 in
set_option maxHeartbeats 4000000 in
theorem b_X3_isRightTaken : TbC KX3_isRightTaken [(223, P_X11_isNumber, Q_X11_isNumber)] P_X3_isRightTaken Q_X3_isRightTaken := by
  · rintro As σ0 ⟨p0, p1, p2, rfl, H0⟩ hgr G hB hW
    change G 0 [(0, .inl p0), (1, .inl p1), (2, .inl p2)] [] σ0
    refine hB _ _ _ _ (kgoC (is := KX3_isRightTaken_0) rfl ?_)
    refine k_iload_n rfl ?_
    refine k_if_ne (fun h1 => ?_) (fun h1 => ?_)
    · refine hB _ _ _ _ (kgoC (is := KX3_isRightTaken_16) rfl ?_)
      refine k_iload_n rfl ?_
      refine k_stat (P := P_X11_isNumber) (Q := Q_X11_isNumber) rfl rfl (Nat.le_of_ble_eq_true rfl) rfl rfl (Nat.le_of_ble_eq_true rfl) ⟨_, rfl, H0⟩ (fun w2 σ3 q4 => ?_)
      obtain ⟨x5, rfl, rfl, h6, h7⟩ := q4
      refine k_st (st' := [.inl x5]) rfl ?_
      refine k_nil ?_
      refine hB _ _ _ _ (kgoC (is := KX3_isRightTaken_20) rfl ?_)
      refine k_ireturn (fun _ => b01C (by omega) (by omega)) ?_
      exact ⟨_, rfl, rfl, (by omega), (by omega)⟩
    · refine k_nil ?_
      refine hB _ _ _ _ (kgoC (is := KX3_isRightTaken_4) rfl ?_)
      refine k_iload_n rfl ?_
      refine k_if_ne (fun h8 => ?_) (fun h8 => ?_)
      · refine hB _ _ _ _ (kgoC (is := KX3_isRightTaken_12) rfl ?_)
        refine k_iconst (m := 0) rfl (fun x9 h10 => ?_)
        refine k_goto ?_
        refine hB _ _ _ _ (kgoC (is := KX3_isRightTaken_20) rfl ?_)
        refine k_ireturn (fun _ => b01C (by omega) (by omega)) ?_
        exact ⟨_, rfl, rfl, (by omega), (by omega)⟩
      · refine k_nil ?_
        refine hB _ _ _ _ (kgoC (is := KX3_isRightTaken_8) rfl ?_)
        refine k_iconst (m := 1) rfl (fun x11 h12 => ?_)
        refine k_goto ?_
        refine hB _ _ _ _ (kgoC (is := KX3_isRightTaken_20) rfl ?_)
        refine k_ireturn (fun _ => b01C (by omega) (by omega)) ?_
        exact ⟨_, rfl, rfl, (by omega), (by omega)⟩
theorem lg_X3_isRightTaken : ∀ (As : List AvC) (σ : CsC), P_X3_isRightTaken As σ → lgC As ≤ rX3_isRightTaken.2.2.1 := by
  rintro As σ ⟨p0, p1, p2, rfl, -⟩
  exact Nat.le_of_ble_eq_true rfl
theorem m_X3_isRightTaken (l : Launch) : CMetC l 2 67 P_X3_isRightTaken Q_X3_isRightTaken :=
  CMetC.of KX3_isRightTaken [(223, P_X11_isNumber, Q_X11_isNumber)] hX3_isRightTaken (by decide) (by decide) okX3_isRightTaken (cc1C (m_X11_isNumber l) (by decide) cc0C) (lg_X3_isRightTaken) (b_X3_isRightTaken)

abbrev P_X3_workType : CpC := fun As σ => ∃ (p0 : Int32) (p1 : Int32) (p2 : Int32), As = [.inl p0, .inl p1, .inl p2] ∧ HIC σ
abbrev Q_X3_workType : CqC := fun As σ w τ => match As with
  | [.inl p0, .inl p1, .inl p2] => ∃ r : Int32, w = some (.inl r) ∧ σ = τ
  | _ => False
set_option maxRecDepth 100000 in
set_option maxHeartbeats 4000000 in
theorem b_X3_workType : TbC KX3_workType [(58, P_X3_promoted, Q_X3_promoted)] P_X3_workType Q_X3_workType := by
  · rintro As σ0 ⟨p0, p1, p2, rfl, H0⟩ hgr G hB hW
    change G 0 [(0, .inl p0), (1, .inl p1), (2, .inl p2)] [] σ0
    refine hB _ _ _ _ (kgoC (is := KX3_workType_0) rfl ?_)
    refine k_iload_n rfl ?_
    refine k_if_ne (fun h1 => ?_) (fun h1 => ?_)
    · refine hB _ _ _ _ (kgoC (is := KX3_workType_6) rfl ?_)
      refine k_iload_n rfl ?_
      refine k_bipush (m := 31) rfl (fun x2 h3 => ?_)
      refine k_ic_lt (fun h4 => ?_) (fun h4 => ?_)
      · refine hB _ _ _ _ (kgoC (is := KX3_workType_23) rfl ?_)
        refine k_iload_n rfl ?_
        refine k_iconst (m := 4) rfl (fun x5 h6 => ?_)
        refine k_ic_eq (fun h7 => ?_) (fun h7 => ?_)
        · refine hB _ _ _ _ (kgoC (is := KX3_workType_33) rfl ?_)
          refine k_iconst (m := 4) rfl (fun x8 h9 => ?_)
          refine k_goto ?_
          refine hB _ _ _ _ (kgoC (is := KX3_workType_38) rfl ?_)
          refine k_ireturn (fun hz => absurd hz (by decide)) ?_
          exact ⟨_, rfl, rfl⟩
        · refine k_nil ?_
          refine hB _ _ _ _ (kgoC (is := KX3_workType_28) rfl ?_)
          refine k_iload_n rfl ?_
          refine k_iconst (m := 4) rfl (fun x10 h11 => ?_)
          refine k_ic_ne (fun h12 => ?_) (fun h12 => ?_)
          · refine hB _ _ _ _ (kgoC (is := KX3_workType_37) rfl ?_)
            refine k_iconst (m := 3) rfl (fun x13 h14 => ?_)
            refine k_nil ?_
            refine hB _ _ _ _ (kgoC (is := KX3_workType_38) rfl ?_)
            refine k_ireturn (fun hz => absurd hz (by decide)) ?_
            exact ⟨_, rfl, rfl⟩
          · refine k_nil ?_
            refine hB _ _ _ _ (kgoC (is := KX3_workType_33) rfl ?_)
            refine k_iconst (m := 4) rfl (fun x15 h16 => ?_)
            refine k_goto ?_
            refine hB _ _ _ _ (kgoC (is := KX3_workType_38) rfl ?_)
            refine k_ireturn (fun hz => absurd hz (by decide)) ?_
            exact ⟨_, rfl, rfl⟩
      · refine k_nil ?_
        refine hB _ _ _ _ (kgoC (is := KX3_workType_12) rfl ?_)
        refine k_iload_n rfl ?_
        refine k_bipush (m := 33) rfl (fun x17 h18 => ?_)
        refine k_ic_gt (fun h19 => ?_) (fun h19 => ?_)
        · refine hB _ _ _ _ (kgoC (is := KX3_workType_23) rfl ?_)
          refine k_iload_n rfl ?_
          refine k_iconst (m := 4) rfl (fun x20 h21 => ?_)
          refine k_ic_eq (fun h22 => ?_) (fun h22 => ?_)
          · refine hB _ _ _ _ (kgoC (is := KX3_workType_33) rfl ?_)
            refine k_iconst (m := 4) rfl (fun x23 h24 => ?_)
            refine k_goto ?_
            refine hB _ _ _ _ (kgoC (is := KX3_workType_38) rfl ?_)
            refine k_ireturn (fun hz => absurd hz (by decide)) ?_
            exact ⟨_, rfl, rfl⟩
          · refine k_nil ?_
            refine hB _ _ _ _ (kgoC (is := KX3_workType_28) rfl ?_)
            refine k_iload_n rfl ?_
            refine k_iconst (m := 4) rfl (fun x25 h26 => ?_)
            refine k_ic_ne (fun h27 => ?_) (fun h27 => ?_)
            · refine hB _ _ _ _ (kgoC (is := KX3_workType_37) rfl ?_)
              refine k_iconst (m := 3) rfl (fun x28 h29 => ?_)
              refine k_nil ?_
              refine hB _ _ _ _ (kgoC (is := KX3_workType_38) rfl ?_)
              refine k_ireturn (fun hz => absurd hz (by decide)) ?_
              exact ⟨_, rfl, rfl⟩
            · refine k_nil ?_
              refine hB _ _ _ _ (kgoC (is := KX3_workType_33) rfl ?_)
              refine k_iconst (m := 4) rfl (fun x30 h31 => ?_)
              refine k_goto ?_
              refine hB _ _ _ _ (kgoC (is := KX3_workType_38) rfl ?_)
              refine k_ireturn (fun hz => absurd hz (by decide)) ?_
              exact ⟨_, rfl, rfl⟩
        · refine k_nil ?_
          refine hB _ _ _ _ (kgoC (is := KX3_workType_18) rfl ?_)
          refine k_iload_n rfl ?_
          refine k_stat (P := P_X3_promoted) (Q := Q_X3_promoted) rfl rfl (Nat.le_of_ble_eq_true rfl) rfl rfl (Nat.le_of_ble_eq_true rfl) ⟨_, rfl, H0⟩ (fun w32 σ33 q34 => ?_)
          obtain ⟨x35, rfl, rfl⟩ := q34
          refine k_st (st' := [.inl x35]) rfl ?_
          refine k_ireturn (fun hz => absurd hz (by decide)) ?_
          exact ⟨_, rfl, rfl⟩
    · refine k_nil ?_
      refine hB _ _ _ _ (kgoC (is := KX3_workType_4) rfl ?_)
      refine k_iconst (m := 0) rfl (fun x36 h37 => ?_)
      refine k_ireturn (fun hz => absurd hz (by decide)) ?_
      exact ⟨_, rfl, rfl⟩
theorem lg_X3_workType : ∀ (As : List AvC) (σ : CsC), P_X3_workType As σ → lgC As ≤ rX3_workType.2.2.1 := by
  rintro As σ ⟨p0, p1, p2, rfl, -⟩
  exact Nat.le_of_ble_eq_true rfl
theorem m_X3_workType (l : Launch) : CMetC l 2 68 P_X3_workType Q_X3_workType :=
  CMetC.of KX3_workType [(58, P_X3_promoted, Q_X3_promoted)] hX3_workType (by decide) (by decide) okX3_workType (cc1C (m_X3_promoted l) (by decide) cc0C) (lg_X3_workType) (b_X3_workType)

abbrev P_X3_areTaken : CpC := fun As σ => ∃ (p0 : Nat) (p1 : Nat) (p2 : Int32) (p3 : Option Nat), As = [.inr (.inr (some p0)), .inr (.inr (some p1)), .inl p2, .inr (.inr p3)] ∧ HIC σ ∧ TyC σ p0 4 ∧ TyC σ p1 2 ∧ OtC σ p3 2
abbrev Q_X3_areTaken : CqC := fun As σ w τ => match As with
  | [.inr (.inr (some p0)), .inr (.inr (some p1)), .inl p2, .inr (.inr p3)] => ∃ r : Int32, w = some (.inl r) ∧ HIC τ ∧ ExC [217, 218] σ τ ∧ 0 ≤ r.toInt ∧ r.toInt ≤ 1 ∧ (r.toInt = 1 → ∃ b, p3 = some b)
  | _ => False
set_option maxRecDepth 100000 in
set_option maxHeartbeats 4000000 in
theorem b_X3_areTaken : TbC KX3_areTaken [(66, P_X3_isLeftTaken, Q_X3_isLeftTaken), (62, P_X3_isWanted, Q_X3_isWanted), (52, P_X3_isFaulty, Q_X3_isFaulty), (67, P_X3_isRightTaken, Q_X3_isRightTaken)] P_X3_areTaken Q_X3_areTaken := by
  · rintro As σ0 ⟨p0, p1, p2, p3, rfl, H0, h_0_0, h_1_0, h_3_0⟩ hgr G hB hW
    change G 0 [(0, .inr (.inr (some p0))), (1, .inr (.inr (some p1))), (2, .inl p2), (3, .inr (.inr p3))] [] σ0
    refine hB _ _ _ _ (kgoC (is := KX3_areTaken_0) rfl ?_)
    refine k_aload_n rfl ?_
    refine k_aload_n rfl ?_
    obtain ⟨x3, e1, c2, h4, h5⟩ := cg61 H0.1 h_1_0
    refine k_get kg61 h_1_0 e1 ?_
    refine k_iload_n rfl ?_
    refine k_stat (P := P_X3_isLeftTaken) (Q := Q_X3_isLeftTaken) rfl rfl (Nat.le_of_ble_eq_true rfl) rfl rfl (Nat.le_of_ble_eq_true rfl) ⟨_, _, rfl, H0⟩ (fun w6 σ7 q8 => ?_)
    obtain ⟨x9, rfl, rfl, h10, h11⟩ := q8
    refine k_st (st' := [.inl x9, .inr (.inr (some p0))]) rfl ?_
    refine k_aload_n rfl ?_
    obtain ⟨x14, e12, c13, h15, h16⟩ := cg62 H0.1 h_1_0
    refine k_get kg62 h_1_0 e12 ?_
    refine k_inv (P := P_X3_isWanted) (Q := Q_X3_isWanted) rfl rfl rfl rfl (Nat.le_of_ble_eq_true rfl) (h_0_0.rc (by decide)) ⟨_, _, _, rfl, H0, h_0_0, (by omega), (by omega), (by omega), (by omega)⟩ (fun w17 σ18 q19 => ?_)
    obtain ⟨x20, rfl, H21, e22, h23, h24⟩ := q19
    refine k_st (st' := [.inl x20]) rfl ?_
    refine k_if_eq (fun h25 => ?_) (fun h25 => ?_)
    · refine hB _ _ _ _ (kgoC (is := KX3_areTaken_53) rfl ?_)
      refine k_iconst (m := 0) rfl (fun x26 h27 => ?_)
      refine k_nil ?_
      refine hB _ _ _ _ (kgoC (is := KX3_areTaken_54) rfl ?_)
      refine k_ireturn (fun _ => b01C (by omega) (by omega)) ?_
      have X28 : ExC [217, 218] σ0 σ18 := ExC.rf.tr (e22.mo (by decide))
      exact ⟨_, rfl, H21, X28, (by omega), (by omega), (by intro hz; first | exact ⟨_, rfl⟩ | (exfalso; omega))⟩
    · refine k_nil ?_
      refine hB _ _ _ _ (kgoC (is := KX3_areTaken_19) rfl ?_)
      refine k_aload_n rfl ?_
      have t29 := h_3_0.x e22
      refine k_stat (P := P_X3_isFaulty) (Q := Q_X3_isFaulty) rfl rfl (Nat.le_of_ble_eq_true rfl) rfl rfl (Nat.le_of_ble_eq_true rfl) ⟨p3, rfl, H21, t29⟩ (fun w30 σ31 q32 => ?_)
      obtain ⟨x33, rfl, rfl, h34, h35, q36⟩ := q32
      refine k_st (st' := [.inl x33]) rfl ?_
      rcases (by omega : x33.toInt = 0 ∨ x33.toInt = 1) with g37 | g37
      · obtain ⟨b38, h39⟩ := q36 (by omega)
        subst h39
        have t40 := h_3_0 b38 rfl
        have t41 := t29 b38 rfl
        refine k_if_ne (fun h42 => by exfalso; omega) (fun h42 => ?_)
        refine k_nil ?_
        refine hB _ _ _ _ (kgoC (is := KX3_areTaken_26) rfl ?_)
        refine k_aload_n rfl ?_
        refine k_aload_n rfl ?_
        have t43 := h_1_0.x e22
        have c44 := (h_1_0.mi e22 (by decide)).trans c2
        refine k_get kg61 t43 (congrArg (Sum.inl : Int32 → AvC) c44) ?_
        refine k_iload_n rfl ?_
        refine k_aload_n rfl ?_
        obtain ⟨x47, e45, c46, h48, h49⟩ := cg68 H21.1 t41
        refine k_get kg68 t41 e45 ?_
        refine k_stat (P := P_X3_isRightTaken) (Q := Q_X3_isRightTaken) rfl rfl (Nat.le_of_ble_eq_true rfl) rfl rfl (Nat.le_of_ble_eq_true rfl) ⟨_, _, _, rfl, H21⟩ (fun w50 σ51 q52 => ?_)
        obtain ⟨x53, rfl, rfl, h54, h55⟩ := q52
        refine k_st (st' := [.inl x53, .inr (.inr (some p0))]) rfl ?_
        refine k_aload_n rfl ?_
        obtain ⟨x58, e56, c57, h59, h60⟩ := cg62 H21.1 t41
        refine k_get kg62 t41 e56 ?_
        have t61 := h_0_0.x e22
        refine k_inv (P := P_X3_isWanted) (Q := Q_X3_isWanted) rfl rfl rfl rfl (Nat.le_of_ble_eq_true rfl) (t61.rc (by decide)) ⟨_, _, _, rfl, H21, t61, (by omega), (by omega), (by omega), (by omega)⟩ (fun w62 σ63 q64 => ?_)
        obtain ⟨x65, rfl, H66, e67, h68, h69⟩ := q64
        refine k_st (st' := [.inl x65]) rfl ?_
        refine k_if_eq (fun h70 => ?_) (fun h70 => ?_)
        · refine hB _ _ _ _ (kgoC (is := KX3_areTaken_53) rfl ?_)
          refine k_iconst (m := 0) rfl (fun x71 h72 => ?_)
          refine k_nil ?_
          refine hB _ _ _ _ (kgoC (is := KX3_areTaken_54) rfl ?_)
          refine k_ireturn (fun _ => b01C (by omega) (by omega)) ?_
          have X73 : ExC [217, 218] σ0 σ18 := ExC.rf.tr (e22.mo (by decide))
          have X74 : ExC [217, 218] σ0 σ63 := X73.tr (e67.mo (by decide))
          exact ⟨_, rfl, H66, X74, (by omega), (by omega), (by intro hz; first | exact ⟨_, rfl⟩ | (exfalso; omega))⟩
        · refine k_nil ?_
          refine hB _ _ _ _ (kgoC (is := KX3_areTaken_49) rfl ?_)
          refine k_iconst (m := 1) rfl (fun x75 h76 => ?_)
          refine k_goto ?_
          refine hB _ _ _ _ (kgoC (is := KX3_areTaken_54) rfl ?_)
          refine k_ireturn (fun _ => b01C (by omega) (by omega)) ?_
          have X77 : ExC [217, 218] σ0 σ18 := ExC.rf.tr (e22.mo (by decide))
          have X78 : ExC [217, 218] σ0 σ63 := X77.tr (e67.mo (by decide))
          exact ⟨_, rfl, H66, X78, (by omega), (by omega), (by intro hz; first | exact ⟨_, rfl⟩ | (exfalso; omega))⟩
      · refine k_if_ne (fun h79 => ?_) (fun h79 => by exfalso; omega)
        refine hB _ _ _ _ (kgoC (is := KX3_areTaken_53) rfl ?_)
        refine k_iconst (m := 0) rfl (fun x80 h81 => ?_)
        refine k_nil ?_
        refine hB _ _ _ _ (kgoC (is := KX3_areTaken_54) rfl ?_)
        refine k_ireturn (fun _ => b01C (by omega) (by omega)) ?_
        have X82 : ExC [217, 218] σ0 σ18 := ExC.rf.tr (e22.mo (by decide))
        exact ⟨_, rfl, H21, X82, (by omega), (by omega), (by intro hz; first | exact ⟨_, rfl⟩ | (exfalso; omega))⟩
theorem lg_X3_areTaken : ∀ (As : List AvC) (σ : CsC), P_X3_areTaken As σ → lgC As ≤ rX3_areTaken.2.2.1 := by
  rintro As σ ⟨p0, p1, p2, p3, rfl, -⟩
  exact Nat.le_of_ble_eq_true rfl
theorem m_X3_areTaken (l : Launch) : CMetC l 3 63 P_X3_areTaken Q_X3_areTaken :=
  CMetC.of KX3_areTaken [(66, P_X3_isLeftTaken, Q_X3_isLeftTaken), (62, P_X3_isWanted, Q_X3_isWanted), (52, P_X3_isFaulty, Q_X3_isFaulty), (67, P_X3_isRightTaken, Q_X3_isRightTaken)] hX3_areTaken (by decide) (by decide) okX3_areTaken (cc1C (m_X3_isLeftTaken l) (by decide) (cc1C (m_X3_isWanted l) (by decide) (cc1C (m_X3_isFaulty l) (by decide) (cc1C (m_X3_isRightTaken l) (by decide) cc0C)))) (lg_X3_areTaken) (b_X3_areTaken)

abbrev P_X3_isSmall : CpC := fun As σ => ∃ (p0 : Int32), As = [.inl p0] ∧ HIC σ
abbrev Q_X3_isSmall : CqC := fun As σ w τ => match As with
  | [.inl p0] => ∃ r : Int32, w = some (.inl r) ∧ σ = τ ∧ 0 ≤ r.toInt ∧ r.toInt ≤ 1
  | _ => False
set_option maxRecDepth 100000 in
set_option maxHeartbeats 4000000 in
theorem b_X3_isSmall : TbC KX3_isSmall [] P_X3_isSmall Q_X3_isSmall := by
  · rintro As σ0 ⟨p0, rfl, H0⟩ hgr G hB hW
    change G 0 [(0, .inl p0)] [] σ0
    refine hB _ _ _ _ (kgoC (is := KX3_isSmall_0) rfl ?_)
    refine k_iload_n rfl ?_
    refine k_iconst (m := 1) rfl (fun x1 h2 => ?_)
    refine k_ic_eq (fun h3 => ?_) (fun h3 => ?_)
    · refine hB _ _ _ _ (kgoC (is := KX3_isSmall_10) rfl ?_)
      refine k_iconst (m := 1) rfl (fun x4 h5 => ?_)
      refine k_goto ?_
      refine hB _ _ _ _ (kgoC (is := KX3_isSmall_15) rfl ?_)
      refine k_ireturn (fun _ => b01C (by omega) (by omega)) ?_
      exact ⟨_, rfl, rfl, (by omega), (by omega)⟩
    · refine k_nil ?_
      refine hB _ _ _ _ (kgoC (is := KX3_isSmall_5) rfl ?_)
      refine k_iload_n rfl ?_
      refine k_iconst (m := 2) rfl (fun x6 h7 => ?_)
      refine k_ic_ne (fun h8 => ?_) (fun h8 => ?_)
      · refine hB _ _ _ _ (kgoC (is := KX3_isSmall_14) rfl ?_)
        refine k_iconst (m := 0) rfl (fun x9 h10 => ?_)
        refine k_nil ?_
        refine hB _ _ _ _ (kgoC (is := KX3_isSmall_15) rfl ?_)
        refine k_ireturn (fun _ => b01C (by omega) (by omega)) ?_
        exact ⟨_, rfl, rfl, (by omega), (by omega)⟩
      · refine k_nil ?_
        refine hB _ _ _ _ (kgoC (is := KX3_isSmall_10) rfl ?_)
        refine k_iconst (m := 1) rfl (fun x11 h12 => ?_)
        refine k_goto ?_
        refine hB _ _ _ _ (kgoC (is := KX3_isSmall_15) rfl ?_)
        refine k_ireturn (fun _ => b01C (by omega) (by omega)) ?_
        exact ⟨_, rfl, rfl, (by omega), (by omega)⟩
theorem lg_X3_isSmall : ∀ (As : List AvC) (σ : CsC), P_X3_isSmall As σ → lgC As ≤ rX3_isSmall.2.2.1 := by
  rintro As σ ⟨p0, rfl, -⟩
  exact Nat.le_of_ble_eq_true rfl
theorem m_X3_isSmall (l : Launch) : CMetC l 1 73 P_X3_isSmall Q_X3_isSmall :=
  CMetC.of KX3_isSmall [] hX3_isSmall (by decide) (by decide) okX3_isSmall cc0C (lg_X3_isSmall) (b_X3_isSmall)

abbrev P_X3_isHeld : CpC := fun As σ => ∃ (p0 : Nat) (p1 : Int32), As = [.inr (.inr (some p0)), .inl p1] ∧ HIC σ ∧ TyC σ p0 2
abbrev Q_X3_isHeld : CqC := fun As σ w τ => match As with
  | [.inr (.inr (some p0)), .inl p1] => ∃ r : Int32, w = some (.inl r) ∧ σ = τ ∧ 0 ≤ r.toInt ∧ r.toInt ≤ 1
  | _ => False
set_option maxRecDepth 100000 in
set_option maxHeartbeats 4000000 in
theorem b_X3_isHeld : TbC KX3_isHeld [(228, P_X11_narrowed, Q_X11_narrowed)] P_X3_isHeld Q_X3_isHeld := by
  · rintro As σ0 ⟨p0, p1, rfl, H0, h_0_0⟩ hgr G hB hW
    change G 0 [(0, .inr (.inr (some p0))), (1, .inl p1)] [] σ0
    refine hB _ _ _ _ (kgoC (is := KX3_isHeld_0) rfl ?_)
    refine k_aload_n rfl ?_
    obtain ⟨x3, e1, c2, h4, h5⟩ := cg70 H0.1 h_0_0
    refine k_get kg70 h_0_0 e1 ?_
    refine k_if_eq (fun h6 => ?_) (fun h6 => ?_)
    · refine hB _ _ _ _ (kgoC (is := KX3_isHeld_27) rfl ?_)
      refine k_iconst (m := 0) rfl (fun x7 h8 => ?_)
      refine k_nil ?_
      refine hB _ _ _ _ (kgoC (is := KX3_isHeld_28) rfl ?_)
      refine k_ireturn (fun _ => b01C (by omega) (by omega)) ?_
      exact ⟨_, rfl, rfl, (by omega), (by omega)⟩
    · refine k_nil ?_
      refine hB _ _ _ _ (kgoC (is := KX3_isHeld_7) rfl ?_)
      refine k_iload_n rfl ?_
      refine k_aload_n rfl ?_
      obtain ⟨y11, e9, c10⟩ := cg71 (σ := σ0) (a := p0)
      refine k_get kg71 h_0_0 e9 ?_
      refine k_stat (P := P_X11_narrowed) (Q := Q_X11_narrowed) rfl rfl (Nat.le_of_ble_eq_true rfl) rfl rfl (Nat.le_of_ble_eq_true rfl) ⟨_, _, rfl, H0⟩ (fun w12 σ13 q14 => ?_)
      obtain ⟨y15, rfl, rfl⟩ := q14
      refine k_st (st' := [.inr (.inl y15)]) rfl ?_
      refine k_aload_n rfl ?_
      obtain ⟨y18, e16, c17⟩ := cg71 (σ := σ0) (a := p0)
      refine k_get kg71 h_0_0 e16 ?_
      refine k_lcmp (fun x19 h20 g21 => ?_)
      refine k_if_ne (fun h22 => ?_) (fun h22 => ?_)
      · refine hB _ _ _ _ (kgoC (is := KX3_isHeld_27) rfl ?_)
        refine k_iconst (m := 0) rfl (fun x23 h24 => ?_)
        refine k_nil ?_
        refine hB _ _ _ _ (kgoC (is := KX3_isHeld_28) rfl ?_)
        refine k_ireturn (fun _ => b01C (by omega) (by omega)) ?_
        exact ⟨_, rfl, rfl, (by omega), (by omega)⟩
      · refine k_nil ?_
        refine hB _ _ _ _ (kgoC (is := KX3_isHeld_23) rfl ?_)
        refine k_iconst (m := 1) rfl (fun x25 h26 => ?_)
        refine k_goto ?_
        refine hB _ _ _ _ (kgoC (is := KX3_isHeld_28) rfl ?_)
        refine k_ireturn (fun _ => b01C (by omega) (by omega)) ?_
        exact ⟨_, rfl, rfl, (by omega), (by omega)⟩
theorem lg_X3_isHeld : ∀ (As : List AvC) (σ : CsC), P_X3_isHeld As σ → lgC As ≤ rX3_isHeld.2.2.1 := by
  rintro As σ ⟨p0, p1, rfl, -⟩
  exact Nat.le_of_ble_eq_true rfl
theorem m_X3_isHeld (l : Launch) : CMetC l 2 74 P_X3_isHeld Q_X3_isHeld :=
  CMetC.of KX3_isHeld [(228, P_X11_narrowed, Q_X11_narrowed)] hX3_isHeld (by decide) (by decide) okX3_isHeld (cc1C (m_X11_narrowed l) (by decide) cc0C) (lg_X3_isHeld) (b_X3_isHeld)

abbrev P_X3_fits : CpC := fun As σ => ∃ (p0 : Nat) (p1 : Int32), As = [.inr (.inr (some p0)), .inl p1] ∧ HIC σ ∧ TyC σ p0 2
abbrev Q_X3_fits : CqC := fun As σ w τ => match As with
  | [.inr (.inr (some p0)), .inl p1] => ∃ r : Int32, w = some (.inl r) ∧ σ = τ ∧ 0 ≤ r.toInt ∧ r.toInt ≤ 1
  | _ => False
set_option maxRecDepth 100000 in
set_option maxHeartbeats 4000000 in
theorem b_X3_fits : TbC KX3_fits [(224, P_X11_sameOrWidens, Q_X11_sameOrWidens), (73, P_X3_isSmall, Q_X3_isSmall), (74, P_X3_isHeld, Q_X3_isHeld)] P_X3_fits Q_X3_fits := by
  · rintro As σ0 ⟨p0, p1, rfl, H0, h_0_0⟩ hgr G hB hW
    change G 0 [(0, .inr (.inr (some p0))), (1, .inl p1)] [] σ0
    refine hB _ _ _ _ (kgoC (is := KX3_fits_0) rfl ?_)
    refine k_aload_n rfl ?_
    obtain ⟨x3, e1, c2, h4, h5⟩ := cg68 H0.1 h_0_0
    refine k_get kg68 h_0_0 e1 ?_
    refine k_iload_n rfl ?_
    refine k_stat (P := P_X11_sameOrWidens) (Q := Q_X11_sameOrWidens) rfl rfl (Nat.le_of_ble_eq_true rfl) rfl rfl (Nat.le_of_ble_eq_true rfl) ⟨_, _, rfl, H0⟩ (fun w6 σ7 q8 => ?_)
    obtain ⟨x9, rfl, rfl, h10, h11⟩ := q8
    refine k_st (st' := [.inl x9]) rfl ?_
    refine k_if_eq (fun h12 => ?_) (fun h12 => ?_)
    · refine hB _ _ _ _ (kgoC (is := KX3_fits_13) rfl ?_)
      refine k_iload_n rfl ?_
      refine k_stat (P := P_X3_isSmall) (Q := Q_X3_isSmall) rfl rfl (Nat.le_of_ble_eq_true rfl) rfl rfl (Nat.le_of_ble_eq_true rfl) ⟨_, rfl, H0⟩ (fun w13 σ14 q15 => ?_)
      obtain ⟨x16, rfl, rfl, h17, h18⟩ := q15
      refine k_st (st' := [.inl x16]) rfl ?_
      refine k_if_eq (fun h19 => ?_) (fun h19 => ?_)
      · refine hB _ _ _ _ (kgoC (is := KX3_fits_50) rfl ?_)
        refine k_iconst (m := 0) rfl (fun x20 h21 => ?_)
        refine k_nil ?_
        refine hB _ _ _ _ (kgoC (is := KX3_fits_51) rfl ?_)
        refine k_ireturn (fun _ => b01C (by omega) (by omega)) ?_
        exact ⟨_, rfl, rfl, (by omega), (by omega)⟩
      · refine k_nil ?_
        refine hB _ _ _ _ (kgoC (is := KX3_fits_20) rfl ?_)
        refine k_aload_n rfl ?_
        refine k_get kg68 h_0_0 (congrArg (Sum.inl : Int32 → AvC) c2) ?_
        refine k_stat (P := P_X3_isSmall) (Q := Q_X3_isSmall) rfl rfl (Nat.le_of_ble_eq_true rfl) rfl rfl (Nat.le_of_ble_eq_true rfl) ⟨_, rfl, H0⟩ (fun w22 σ23 q24 => ?_)
        obtain ⟨x25, rfl, rfl, h26, h27⟩ := q24
        refine k_st (st' := [.inl x25]) rfl ?_
        refine k_if_ne (fun h28 => ?_) (fun h28 => ?_)
        · refine hB _ _ _ _ (kgoC (is := KX3_fits_38) rfl ?_)
          refine k_aload_n rfl ?_
          refine k_iload_n rfl ?_
          refine k_stat (P := P_X3_isHeld) (Q := Q_X3_isHeld) rfl rfl (Nat.le_of_ble_eq_true rfl) rfl rfl (Nat.le_of_ble_eq_true rfl) ⟨_, _, rfl, H0, h_0_0⟩ (fun w29 σ30 q31 => ?_)
          obtain ⟨x32, rfl, rfl, h33, h34⟩ := q31
          refine k_st (st' := [.inl x32]) rfl ?_
          refine k_if_eq (fun h35 => ?_) (fun h35 => ?_)
          · refine hB _ _ _ _ (kgoC (is := KX3_fits_50) rfl ?_)
            refine k_iconst (m := 0) rfl (fun x36 h37 => ?_)
            refine k_nil ?_
            refine hB _ _ _ _ (kgoC (is := KX3_fits_51) rfl ?_)
            refine k_ireturn (fun _ => b01C (by omega) (by omega)) ?_
            exact ⟨_, rfl, rfl, (by omega), (by omega)⟩
          · refine k_nil ?_
            refine hB _ _ _ _ (kgoC (is := KX3_fits_46) rfl ?_)
            refine k_iconst (m := 1) rfl (fun x38 h39 => ?_)
            refine k_goto ?_
            refine hB _ _ _ _ (kgoC (is := KX3_fits_51) rfl ?_)
            refine k_ireturn (fun _ => b01C (by omega) (by omega)) ?_
            exact ⟨_, rfl, rfl, (by omega), (by omega)⟩
        · refine k_nil ?_
          refine hB _ _ _ _ (kgoC (is := KX3_fits_30) rfl ?_)
          refine k_aload_n rfl ?_
          refine k_get kg68 h_0_0 (congrArg (Sum.inl : Int32 → AvC) c2) ?_
          refine k_iconst (m := 3) rfl (fun x40 h41 => ?_)
          refine k_ic_ne (fun h42 => ?_) (fun h42 => ?_)
          · refine hB _ _ _ _ (kgoC (is := KX3_fits_50) rfl ?_)
            refine k_iconst (m := 0) rfl (fun x43 h44 => ?_)
            refine k_nil ?_
            refine hB _ _ _ _ (kgoC (is := KX3_fits_51) rfl ?_)
            refine k_ireturn (fun _ => b01C (by omega) (by omega)) ?_
            exact ⟨_, rfl, rfl, (by omega), (by omega)⟩
          · refine k_nil ?_
            refine hB _ _ _ _ (kgoC (is := KX3_fits_38) rfl ?_)
            refine k_aload_n rfl ?_
            refine k_iload_n rfl ?_
            refine k_stat (P := P_X3_isHeld) (Q := Q_X3_isHeld) rfl rfl (Nat.le_of_ble_eq_true rfl) rfl rfl (Nat.le_of_ble_eq_true rfl) ⟨_, _, rfl, H0, h_0_0⟩ (fun w45 σ46 q47 => ?_)
            obtain ⟨x48, rfl, rfl, h49, h50⟩ := q47
            refine k_st (st' := [.inl x48]) rfl ?_
            refine k_if_eq (fun h51 => ?_) (fun h51 => ?_)
            · refine hB _ _ _ _ (kgoC (is := KX3_fits_50) rfl ?_)
              refine k_iconst (m := 0) rfl (fun x52 h53 => ?_)
              refine k_nil ?_
              refine hB _ _ _ _ (kgoC (is := KX3_fits_51) rfl ?_)
              refine k_ireturn (fun _ => b01C (by omega) (by omega)) ?_
              exact ⟨_, rfl, rfl, (by omega), (by omega)⟩
            · refine k_nil ?_
              refine hB _ _ _ _ (kgoC (is := KX3_fits_46) rfl ?_)
              refine k_iconst (m := 1) rfl (fun x54 h55 => ?_)
              refine k_goto ?_
              refine hB _ _ _ _ (kgoC (is := KX3_fits_51) rfl ?_)
              refine k_ireturn (fun _ => b01C (by omega) (by omega)) ?_
              exact ⟨_, rfl, rfl, (by omega), (by omega)⟩
    · refine k_nil ?_
      refine hB _ _ _ _ (kgoC (is := KX3_fits_11) rfl ?_)
      refine k_iconst (m := 1) rfl (fun x56 h57 => ?_)
      refine k_ireturn (fun _ => b01C (by omega) (by omega)) ?_
      exact ⟨_, rfl, rfl, (by omega), (by omega)⟩
theorem lg_X3_fits : ∀ (As : List AvC) (σ : CsC), P_X3_fits As σ → lgC As ≤ rX3_fits.2.2.1 := by
  rintro As σ ⟨p0, p1, rfl, -⟩
  exact Nat.le_of_ble_eq_true rfl
theorem m_X3_fits (l : Launch) : CMetC l 3 75 P_X3_fits Q_X3_fits :=
  CMetC.of KX3_fits [(224, P_X11_sameOrWidens, Q_X11_sameOrWidens), (73, P_X3_isSmall, Q_X3_isSmall), (74, P_X3_isHeld, Q_X3_isHeld)] hX3_fits (by decide) (by decide) okX3_fits (cc1C (m_X11_sameOrWidens l) (by decide) (cc1C (m_X3_isSmall l) (by decide) (cc1C (m_X3_isHeld l) (by decide) cc0C))) (lg_X3_fits) (b_X3_fits)

abbrev P_X3_judgeNumber : CpC := fun As σ => ∃ (p0 : Nat) (p1 : Nat), As = [.inr (.inr (some p0)), .inr (.inr (some p1))] ∧ HIC σ ∧ TyC σ p0 4 ∧ TyC σ p1 2
abbrev Q_X3_judgeNumber : CqC := fun As σ w τ => match As with
  | [.inr (.inr (some p0)), .inr (.inr (some p1))] => w = none ∧ HIC τ ∧ ExC [68, 217, 218] σ τ
  | _ => False
set_option maxRecDepth 100000 in
set_option maxHeartbeats 4000000 in
theorem b_X3_judgeNumber : TbC KX3_judgeNumber [(118, P_X6_tell, Q_X6_tell), (228, P_X11_narrowed, Q_X11_narrowed)] P_X3_judgeNumber Q_X3_judgeNumber := by
  · rintro As σ0 ⟨p0, p1, rfl, H0, h_0_0, h_1_0⟩ hgr G hB hW
    change G 0 [(0, .inr (.inr (some p0))), (1, .inr (.inr (some p1)))] [] σ0
    refine hB _ _ _ _ (kgoC (is := KX3_judgeNumber_0) rfl ?_)
    refine k_aload_n rfl ?_
    obtain ⟨x3, e1, c2, h4, h5⟩ := cg61 H0.1 h_1_0
    refine k_get kg61 h_1_0 e1 ?_
    refine k_bipush (m := 82) rfl (fun x6 h7 => ?_)
    refine k_ic_ne (fun h8 => ?_) (fun h8 => ?_)
    · refine hB _ _ _ _ (kgoC (is := KX3_judgeNumber_13) rfl ?_)
      refine k_iconst (m := 0) rfl (fun x9 h10 => ?_)
      refine k_nil ?_
      refine hB _ _ _ _ (kgoC (is := KX3_judgeNumber_14) rfl ?_)
      refine k_istore_n (ls' := [(2, .inl x9), (0, .inr (.inr (some p0))), (1, .inr (.inr (some p1)))]) rfl ?_
      refine k_iload_n rfl ?_
      refine k_if_eq (fun h11 => ?_) (fun h11 => by exfalso; omega)
      refine hB _ _ _ _ (kgoC (is := KX3_judgeNumber_25) rfl ?_)
      refine k_ldc2_w ?_
      refine k_nil ?_
      refine hB _ _ _ _ (kgoC (is := KX3_judgeNumber_28) rfl ?_)
      refine k_lstore_n (ls' := [(3, .inr (.inl (Int64.ofInt 2147483647))), (2, .inl x9), (0, .inr (.inr (some p0))), (1, .inr (.inr (some p1)))]) rfl ?_
      refine k_aload_n rfl ?_
      obtain ⟨y14, e12, c13⟩ := cg71 (σ := σ0) (a := p1)
      refine k_get kg71 h_1_0 e12 ?_
      refine k_lload_n rfl ?_
      refine k_lconst ?_
      refine k_ladd (fun y15 => ?_)
      refine k_lcmp (fun x16 h17 g18 => ?_)
      refine k_if_ne (fun h19 => ?_) (fun h19 => ?_)
      · refine hB _ _ _ _ (kgoC (is := KX3_judgeNumber_52) rfl ?_)
        refine k_iconst (m := 0) rfl (fun x20 h21 => ?_)
        refine k_nil ?_
        refine hB _ _ _ _ (kgoC (is := KX3_judgeNumber_53) rfl ?_)
        refine k_istore (ls' := [(5, .inl x20), (3, .inr (.inl (Int64.ofInt 2147483647))), (2, .inl x9), (0, .inr (.inr (some p0))), (1, .inr (.inr (some p1)))]) rfl ?_
        refine k_aload_n rfl ?_
        obtain ⟨y24, e22, c23⟩ := cg71 (σ := σ0) (a := p1)
        refine k_get kg71 h_1_0 e22 ?_
        refine k_lconst ?_
        refine k_lcmp (fun x25 h26 g27 => ?_)
        refine k_if_lt (fun h28 => ?_) (fun h28 => ?_)
        · refine hB _ _ _ _ (kgoC (is := KX3_judgeNumber_73) rfl ?_)
          refine k_iload rfl ?_
          refine k_if_ne (fun h29 => by exfalso; omega) (fun h29 => ?_)
          refine k_nil ?_
          refine hB _ _ _ _ (kgoC (is := KX3_judgeNumber_78) rfl ?_)
          refine k_aload_n rfl ?_
          obtain ⟨a32, e30, c31, t33⟩ := cg121 H0.1 h_0_0
          refine k_get kg121 h_0_0 e30 ?_
          refine k_iconst (m := 4) rfl (fun x34 h35 => ?_)
          refine k_aload_n rfl ?_
          obtain ⟨x38, e36, c37, h39, h40⟩ := cg62 H0.1 h_1_0
          refine k_get kg62 h_1_0 e36 ?_
          refine k_inv (P := P_X6_tell) (Q := Q_X6_tell) rfl rfl rfl rfl (Nat.le_of_ble_eq_true rfl) (t33.rc (by decide)) ⟨_, _, _, rfl, H0, t33, (by omega), (by omega), (by omega), (by omega)⟩ (fun w41 σ42 q43 => ?_)
          obtain ⟨rfl, H44, e45⟩ := q43
          refine k_st (st' := []) rfl ?_
          refine k_return ?_
          have X46 : ExC [68, 217, 218] σ0 σ42 := ExC.rf.tr (e45.mo (by decide))
          exact ⟨rfl, H44, X46⟩
        · refine k_nil ?_
          refine hB _ _ _ _ (kgoC (is := KX3_judgeNumber_64) rfl ?_)
          refine k_aload_n rfl ?_
          obtain ⟨y49, e47, c48⟩ := cg71 (σ := σ0) (a := p1)
          refine k_get kg71 h_1_0 e47 ?_
          refine k_lload_n rfl ?_
          refine k_lcmp (fun x50 h51 g52 => ?_)
          refine k_if_le (fun h53 => ?_) (fun h53 => ?_)
          · refine hB _ _ _ _ (kgoC (is := KX3_judgeNumber_91) rfl ?_)
            refine k_aload_n rfl ?_
            refine k_iload_n rfl ?_
            refine k_if_eq (fun h54 => ?_) (fun h54 => by exfalso; omega)
            refine hB _ _ _ _ (kgoC (is := KX3_judgeNumber_100) rfl ?_)
            refine k_iconst (m := 3) rfl (fun x55 h56 => ?_)
            refine k_nil ?_
            refine hB _ _ _ _ (kgoC (is := KX3_judgeNumber_101) rfl ?_)
            refine k_putI kp68 H0 h_1_0 (Or.inl fk68) (tiC x55).1 (tiC x55).2 (fun σ57 H58 e59 c60 => ?_)
            refine k_aload_n rfl ?_
            refine k_aload_n rfl ?_
            have t61 := h_1_0.x e59
            refine k_get kg68 t61 (congrArg (Sum.inl : Int32 → AvC) c60) ?_
            refine k_aload_n rfl ?_
            obtain ⟨y64, e62, c63⟩ := cg71 (σ := σ57) (a := p1)
            refine k_get kg71 t61 e62 ?_
            refine k_stat (P := P_X11_narrowed) (Q := Q_X11_narrowed) rfl rfl (Nat.le_of_ble_eq_true rfl) rfl rfl (Nat.le_of_ble_eq_true rfl) ⟨_, _, rfl, H58⟩ (fun w65 σ66 q67 => ?_)
            obtain ⟨y68, rfl, rfl⟩ := q67
            refine k_st (st' := [.inr (.inl y68), .inr (.inr (some p1))]) rfl ?_
            refine k_putL kg71 H58 t61 fk71 (fun σ69 H70 e71 c72 => ?_)
            refine k_return ?_
            have X73 : ExC [68, 217, 218] σ0 σ57 := ExC.rf.tr (e59.mo (by decide))
            have X74 : ExC [68, 217, 218] σ0 σ69 := X73.tr (e71.mo (by decide))
            exact ⟨rfl, H70, X74⟩
          · refine k_nil ?_
            refine hB _ _ _ _ (kgoC (is := KX3_judgeNumber_73) rfl ?_)
            refine k_iload rfl ?_
            refine k_if_ne (fun h75 => by exfalso; omega) (fun h75 => ?_)
            refine k_nil ?_
            refine hB _ _ _ _ (kgoC (is := KX3_judgeNumber_78) rfl ?_)
            refine k_aload_n rfl ?_
            obtain ⟨a78, e76, c77, t79⟩ := cg121 H0.1 h_0_0
            refine k_get kg121 h_0_0 e76 ?_
            refine k_iconst (m := 4) rfl (fun x80 h81 => ?_)
            refine k_aload_n rfl ?_
            obtain ⟨x84, e82, c83, h85, h86⟩ := cg62 H0.1 h_1_0
            refine k_get kg62 h_1_0 e82 ?_
            refine k_inv (P := P_X6_tell) (Q := Q_X6_tell) rfl rfl rfl rfl (Nat.le_of_ble_eq_true rfl) (t79.rc (by decide)) ⟨_, _, _, rfl, H0, t79, (by omega), (by omega), (by omega), (by omega)⟩ (fun w87 σ88 q89 => ?_)
            obtain ⟨rfl, H90, e91⟩ := q89
            refine k_st (st' := []) rfl ?_
            refine k_return ?_
            have X92 : ExC [68, 217, 218] σ0 σ88 := ExC.rf.tr (e91.mo (by decide))
            exact ⟨rfl, H90, X92⟩
      · refine k_nil ?_
        refine hB _ _ _ _ (kgoC (is := KX3_judgeNumber_40) rfl ?_)
        refine k_aload_n rfl ?_
        obtain ⟨x95, e93, c94, h96, h97⟩ := cg67 H0.1 h_1_0
        refine k_get kg67 h_1_0 e93 ?_
        refine k_iconst (m := 1) rfl (fun x98 h99 => ?_)
        refine k_ic_ne (fun h100 => ?_) (fun h100 => ?_)
        · refine hB _ _ _ _ (kgoC (is := KX3_judgeNumber_52) rfl ?_)
          refine k_iconst (m := 0) rfl (fun x101 h102 => ?_)
          refine k_nil ?_
          refine hB _ _ _ _ (kgoC (is := KX3_judgeNumber_53) rfl ?_)
          refine k_istore (ls' := [(5, .inl x101), (3, .inr (.inl (Int64.ofInt 2147483647))), (2, .inl x9), (0, .inr (.inr (some p0))), (1, .inr (.inr (some p1)))]) rfl ?_
          refine k_aload_n rfl ?_
          obtain ⟨y105, e103, c104⟩ := cg71 (σ := σ0) (a := p1)
          refine k_get kg71 h_1_0 e103 ?_
          refine k_lconst ?_
          refine k_lcmp (fun x106 h107 g108 => ?_)
          refine k_if_lt (fun h109 => ?_) (fun h109 => ?_)
          · refine hB _ _ _ _ (kgoC (is := KX3_judgeNumber_73) rfl ?_)
            refine k_iload rfl ?_
            refine k_if_ne (fun h110 => by exfalso; omega) (fun h110 => ?_)
            refine k_nil ?_
            refine hB _ _ _ _ (kgoC (is := KX3_judgeNumber_78) rfl ?_)
            refine k_aload_n rfl ?_
            obtain ⟨a113, e111, c112, t114⟩ := cg121 H0.1 h_0_0
            refine k_get kg121 h_0_0 e111 ?_
            refine k_iconst (m := 4) rfl (fun x115 h116 => ?_)
            refine k_aload_n rfl ?_
            obtain ⟨x119, e117, c118, h120, h121⟩ := cg62 H0.1 h_1_0
            refine k_get kg62 h_1_0 e117 ?_
            refine k_inv (P := P_X6_tell) (Q := Q_X6_tell) rfl rfl rfl rfl (Nat.le_of_ble_eq_true rfl) (t114.rc (by decide)) ⟨_, _, _, rfl, H0, t114, (by omega), (by omega), (by omega), (by omega)⟩ (fun w122 σ123 q124 => ?_)
            obtain ⟨rfl, H125, e126⟩ := q124
            refine k_st (st' := []) rfl ?_
            refine k_return ?_
            have X127 : ExC [68, 217, 218] σ0 σ123 := ExC.rf.tr (e126.mo (by decide))
            exact ⟨rfl, H125, X127⟩
          · refine k_nil ?_
            refine hB _ _ _ _ (kgoC (is := KX3_judgeNumber_64) rfl ?_)
            refine k_aload_n rfl ?_
            obtain ⟨y130, e128, c129⟩ := cg71 (σ := σ0) (a := p1)
            refine k_get kg71 h_1_0 e128 ?_
            refine k_lload_n rfl ?_
            refine k_lcmp (fun x131 h132 g133 => ?_)
            refine k_if_le (fun h134 => ?_) (fun h134 => ?_)
            · refine hB _ _ _ _ (kgoC (is := KX3_judgeNumber_91) rfl ?_)
              refine k_aload_n rfl ?_
              refine k_iload_n rfl ?_
              refine k_if_eq (fun h135 => ?_) (fun h135 => by exfalso; omega)
              refine hB _ _ _ _ (kgoC (is := KX3_judgeNumber_100) rfl ?_)
              refine k_iconst (m := 3) rfl (fun x136 h137 => ?_)
              refine k_nil ?_
              refine hB _ _ _ _ (kgoC (is := KX3_judgeNumber_101) rfl ?_)
              refine k_putI kp68 H0 h_1_0 (Or.inl fk68) (tiC x136).1 (tiC x136).2 (fun σ138 H139 e140 c141 => ?_)
              refine k_aload_n rfl ?_
              refine k_aload_n rfl ?_
              have t142 := h_1_0.x e140
              refine k_get kg68 t142 (congrArg (Sum.inl : Int32 → AvC) c141) ?_
              refine k_aload_n rfl ?_
              obtain ⟨y145, e143, c144⟩ := cg71 (σ := σ138) (a := p1)
              refine k_get kg71 t142 e143 ?_
              refine k_stat (P := P_X11_narrowed) (Q := Q_X11_narrowed) rfl rfl (Nat.le_of_ble_eq_true rfl) rfl rfl (Nat.le_of_ble_eq_true rfl) ⟨_, _, rfl, H139⟩ (fun w146 σ147 q148 => ?_)
              obtain ⟨y149, rfl, rfl⟩ := q148
              refine k_st (st' := [.inr (.inl y149), .inr (.inr (some p1))]) rfl ?_
              refine k_putL kg71 H139 t142 fk71 (fun σ150 H151 e152 c153 => ?_)
              refine k_return ?_
              have X154 : ExC [68, 217, 218] σ0 σ138 := ExC.rf.tr (e140.mo (by decide))
              have X155 : ExC [68, 217, 218] σ0 σ150 := X154.tr (e152.mo (by decide))
              exact ⟨rfl, H151, X155⟩
            · refine k_nil ?_
              refine hB _ _ _ _ (kgoC (is := KX3_judgeNumber_73) rfl ?_)
              refine k_iload rfl ?_
              refine k_if_ne (fun h156 => by exfalso; omega) (fun h156 => ?_)
              refine k_nil ?_
              refine hB _ _ _ _ (kgoC (is := KX3_judgeNumber_78) rfl ?_)
              refine k_aload_n rfl ?_
              obtain ⟨a159, e157, c158, t160⟩ := cg121 H0.1 h_0_0
              refine k_get kg121 h_0_0 e157 ?_
              refine k_iconst (m := 4) rfl (fun x161 h162 => ?_)
              refine k_aload_n rfl ?_
              obtain ⟨x165, e163, c164, h166, h167⟩ := cg62 H0.1 h_1_0
              refine k_get kg62 h_1_0 e163 ?_
              refine k_inv (P := P_X6_tell) (Q := Q_X6_tell) rfl rfl rfl rfl (Nat.le_of_ble_eq_true rfl) (t160.rc (by decide)) ⟨_, _, _, rfl, H0, t160, (by omega), (by omega), (by omega), (by omega)⟩ (fun w168 σ169 q170 => ?_)
              obtain ⟨rfl, H171, e172⟩ := q170
              refine k_st (st' := []) rfl ?_
              refine k_return ?_
              have X173 : ExC [68, 217, 218] σ0 σ169 := ExC.rf.tr (e172.mo (by decide))
              exact ⟨rfl, H171, X173⟩
        · refine k_nil ?_
          refine hB _ _ _ _ (kgoC (is := KX3_judgeNumber_48) rfl ?_)
          refine k_iconst (m := 1) rfl (fun x174 h175 => ?_)
          refine k_goto ?_
          refine hB _ _ _ _ (kgoC (is := KX3_judgeNumber_53) rfl ?_)
          refine k_istore (ls' := [(5, .inl x174), (3, .inr (.inl (Int64.ofInt 2147483647))), (2, .inl x9), (0, .inr (.inr (some p0))), (1, .inr (.inr (some p1)))]) rfl ?_
          refine k_aload_n rfl ?_
          obtain ⟨y178, e176, c177⟩ := cg71 (σ := σ0) (a := p1)
          refine k_get kg71 h_1_0 e176 ?_
          refine k_lconst ?_
          refine k_lcmp (fun x179 h180 g181 => ?_)
          refine k_if_lt (fun h182 => ?_) (fun h182 => ?_)
          · refine hB _ _ _ _ (kgoC (is := KX3_judgeNumber_73) rfl ?_)
            refine k_iload rfl ?_
            refine k_if_ne (fun h183 => ?_) (fun h183 => by exfalso; omega)
            refine hB _ _ _ _ (kgoC (is := KX3_judgeNumber_91) rfl ?_)
            refine k_aload_n rfl ?_
            refine k_iload_n rfl ?_
            refine k_if_eq (fun h184 => ?_) (fun h184 => by exfalso; omega)
            refine hB _ _ _ _ (kgoC (is := KX3_judgeNumber_100) rfl ?_)
            refine k_iconst (m := 3) rfl (fun x185 h186 => ?_)
            refine k_nil ?_
            refine hB _ _ _ _ (kgoC (is := KX3_judgeNumber_101) rfl ?_)
            refine k_putI kp68 H0 h_1_0 (Or.inl fk68) (tiC x185).1 (tiC x185).2 (fun σ187 H188 e189 c190 => ?_)
            refine k_aload_n rfl ?_
            refine k_aload_n rfl ?_
            have t191 := h_1_0.x e189
            refine k_get kg68 t191 (congrArg (Sum.inl : Int32 → AvC) c190) ?_
            refine k_aload_n rfl ?_
            obtain ⟨y194, e192, c193⟩ := cg71 (σ := σ187) (a := p1)
            refine k_get kg71 t191 e192 ?_
            refine k_stat (P := P_X11_narrowed) (Q := Q_X11_narrowed) rfl rfl (Nat.le_of_ble_eq_true rfl) rfl rfl (Nat.le_of_ble_eq_true rfl) ⟨_, _, rfl, H188⟩ (fun w195 σ196 q197 => ?_)
            obtain ⟨y198, rfl, rfl⟩ := q197
            refine k_st (st' := [.inr (.inl y198), .inr (.inr (some p1))]) rfl ?_
            refine k_putL kg71 H188 t191 fk71 (fun σ199 H200 e201 c202 => ?_)
            refine k_return ?_
            have X203 : ExC [68, 217, 218] σ0 σ187 := ExC.rf.tr (e189.mo (by decide))
            have X204 : ExC [68, 217, 218] σ0 σ199 := X203.tr (e201.mo (by decide))
            exact ⟨rfl, H200, X204⟩
          · refine k_nil ?_
            refine hB _ _ _ _ (kgoC (is := KX3_judgeNumber_64) rfl ?_)
            refine k_aload_n rfl ?_
            obtain ⟨y207, e205, c206⟩ := cg71 (σ := σ0) (a := p1)
            refine k_get kg71 h_1_0 e205 ?_
            refine k_lload_n rfl ?_
            refine k_lcmp (fun x208 h209 g210 => ?_)
            refine k_if_le (fun h211 => ?_) (fun h211 => ?_)
            · refine hB _ _ _ _ (kgoC (is := KX3_judgeNumber_91) rfl ?_)
              refine k_aload_n rfl ?_
              refine k_iload_n rfl ?_
              refine k_if_eq (fun h212 => ?_) (fun h212 => by exfalso; omega)
              refine hB _ _ _ _ (kgoC (is := KX3_judgeNumber_100) rfl ?_)
              refine k_iconst (m := 3) rfl (fun x213 h214 => ?_)
              refine k_nil ?_
              refine hB _ _ _ _ (kgoC (is := KX3_judgeNumber_101) rfl ?_)
              refine k_putI kp68 H0 h_1_0 (Or.inl fk68) (tiC x213).1 (tiC x213).2 (fun σ215 H216 e217 c218 => ?_)
              refine k_aload_n rfl ?_
              refine k_aload_n rfl ?_
              have t219 := h_1_0.x e217
              refine k_get kg68 t219 (congrArg (Sum.inl : Int32 → AvC) c218) ?_
              refine k_aload_n rfl ?_
              obtain ⟨y222, e220, c221⟩ := cg71 (σ := σ215) (a := p1)
              refine k_get kg71 t219 e220 ?_
              refine k_stat (P := P_X11_narrowed) (Q := Q_X11_narrowed) rfl rfl (Nat.le_of_ble_eq_true rfl) rfl rfl (Nat.le_of_ble_eq_true rfl) ⟨_, _, rfl, H216⟩ (fun w223 σ224 q225 => ?_)
              obtain ⟨y226, rfl, rfl⟩ := q225
              refine k_st (st' := [.inr (.inl y226), .inr (.inr (some p1))]) rfl ?_
              refine k_putL kg71 H216 t219 fk71 (fun σ227 H228 e229 c230 => ?_)
              refine k_return ?_
              have X231 : ExC [68, 217, 218] σ0 σ215 := ExC.rf.tr (e217.mo (by decide))
              have X232 : ExC [68, 217, 218] σ0 σ227 := X231.tr (e229.mo (by decide))
              exact ⟨rfl, H228, X232⟩
            · refine k_nil ?_
              refine hB _ _ _ _ (kgoC (is := KX3_judgeNumber_73) rfl ?_)
              refine k_iload rfl ?_
              refine k_if_ne (fun h233 => ?_) (fun h233 => by exfalso; omega)
              refine hB _ _ _ _ (kgoC (is := KX3_judgeNumber_91) rfl ?_)
              refine k_aload_n rfl ?_
              refine k_iload_n rfl ?_
              refine k_if_eq (fun h234 => ?_) (fun h234 => by exfalso; omega)
              refine hB _ _ _ _ (kgoC (is := KX3_judgeNumber_100) rfl ?_)
              refine k_iconst (m := 3) rfl (fun x235 h236 => ?_)
              refine k_nil ?_
              refine hB _ _ _ _ (kgoC (is := KX3_judgeNumber_101) rfl ?_)
              refine k_putI kp68 H0 h_1_0 (Or.inl fk68) (tiC x235).1 (tiC x235).2 (fun σ237 H238 e239 c240 => ?_)
              refine k_aload_n rfl ?_
              refine k_aload_n rfl ?_
              have t241 := h_1_0.x e239
              refine k_get kg68 t241 (congrArg (Sum.inl : Int32 → AvC) c240) ?_
              refine k_aload_n rfl ?_
              obtain ⟨y244, e242, c243⟩ := cg71 (σ := σ237) (a := p1)
              refine k_get kg71 t241 e242 ?_
              refine k_stat (P := P_X11_narrowed) (Q := Q_X11_narrowed) rfl rfl (Nat.le_of_ble_eq_true rfl) rfl rfl (Nat.le_of_ble_eq_true rfl) ⟨_, _, rfl, H238⟩ (fun w245 σ246 q247 => ?_)
              obtain ⟨y248, rfl, rfl⟩ := q247
              refine k_st (st' := [.inr (.inl y248), .inr (.inr (some p1))]) rfl ?_
              refine k_putL kg71 H238 t241 fk71 (fun σ249 H250 e251 c252 => ?_)
              refine k_return ?_
              have X253 : ExC [68, 217, 218] σ0 σ237 := ExC.rf.tr (e239.mo (by decide))
              have X254 : ExC [68, 217, 218] σ0 σ249 := X253.tr (e251.mo (by decide))
              exact ⟨rfl, H250, X254⟩
    · refine k_nil ?_
      refine hB _ _ _ _ (kgoC (is := KX3_judgeNumber_9) rfl ?_)
      refine k_iconst (m := 1) rfl (fun x255 h256 => ?_)
      refine k_goto ?_
      refine hB _ _ _ _ (kgoC (is := KX3_judgeNumber_14) rfl ?_)
      refine k_istore_n (ls' := [(2, .inl x255), (0, .inr (.inr (some p0))), (1, .inr (.inr (some p1)))]) rfl ?_
      refine k_iload_n rfl ?_
      refine k_if_eq (fun h257 => by exfalso; omega) (fun h257 => ?_)
      refine k_nil ?_
      refine hB _ _ _ _ (kgoC (is := KX3_judgeNumber_19) rfl ?_)
      refine k_ldc2_w ?_
      refine k_goto ?_
      refine hB _ _ _ _ (kgoC (is := KX3_judgeNumber_28) rfl ?_)
      refine k_lstore_n (ls' := [(3, .inr (.inl (Int64.ofInt 9223372036854775807))), (2, .inl x255), (0, .inr (.inr (some p0))), (1, .inr (.inr (some p1)))]) rfl ?_
      refine k_aload_n rfl ?_
      obtain ⟨y260, e258, c259⟩ := cg71 (σ := σ0) (a := p1)
      refine k_get kg71 h_1_0 e258 ?_
      refine k_lload_n rfl ?_
      refine k_lconst ?_
      refine k_ladd (fun y261 => ?_)
      refine k_lcmp (fun x262 h263 g264 => ?_)
      refine k_if_ne (fun h265 => ?_) (fun h265 => ?_)
      · refine hB _ _ _ _ (kgoC (is := KX3_judgeNumber_52) rfl ?_)
        refine k_iconst (m := 0) rfl (fun x266 h267 => ?_)
        refine k_nil ?_
        refine hB _ _ _ _ (kgoC (is := KX3_judgeNumber_53) rfl ?_)
        refine k_istore (ls' := [(5, .inl x266), (3, .inr (.inl (Int64.ofInt 9223372036854775807))), (2, .inl x255), (0, .inr (.inr (some p0))), (1, .inr (.inr (some p1)))]) rfl ?_
        refine k_aload_n rfl ?_
        obtain ⟨y270, e268, c269⟩ := cg71 (σ := σ0) (a := p1)
        refine k_get kg71 h_1_0 e268 ?_
        refine k_lconst ?_
        refine k_lcmp (fun x271 h272 g273 => ?_)
        refine k_if_lt (fun h274 => ?_) (fun h274 => ?_)
        · refine hB _ _ _ _ (kgoC (is := KX3_judgeNumber_73) rfl ?_)
          refine k_iload rfl ?_
          refine k_if_ne (fun h275 => by exfalso; omega) (fun h275 => ?_)
          refine k_nil ?_
          refine hB _ _ _ _ (kgoC (is := KX3_judgeNumber_78) rfl ?_)
          refine k_aload_n rfl ?_
          obtain ⟨a278, e276, c277, t279⟩ := cg121 H0.1 h_0_0
          refine k_get kg121 h_0_0 e276 ?_
          refine k_iconst (m := 4) rfl (fun x280 h281 => ?_)
          refine k_aload_n rfl ?_
          obtain ⟨x284, e282, c283, h285, h286⟩ := cg62 H0.1 h_1_0
          refine k_get kg62 h_1_0 e282 ?_
          refine k_inv (P := P_X6_tell) (Q := Q_X6_tell) rfl rfl rfl rfl (Nat.le_of_ble_eq_true rfl) (t279.rc (by decide)) ⟨_, _, _, rfl, H0, t279, (by omega), (by omega), (by omega), (by omega)⟩ (fun w287 σ288 q289 => ?_)
          obtain ⟨rfl, H290, e291⟩ := q289
          refine k_st (st' := []) rfl ?_
          refine k_return ?_
          have X292 : ExC [68, 217, 218] σ0 σ288 := ExC.rf.tr (e291.mo (by decide))
          exact ⟨rfl, H290, X292⟩
        · refine k_nil ?_
          refine hB _ _ _ _ (kgoC (is := KX3_judgeNumber_64) rfl ?_)
          refine k_aload_n rfl ?_
          obtain ⟨y295, e293, c294⟩ := cg71 (σ := σ0) (a := p1)
          refine k_get kg71 h_1_0 e293 ?_
          refine k_lload_n rfl ?_
          refine k_lcmp (fun x296 h297 g298 => ?_)
          refine k_if_le (fun h299 => ?_) (fun h299 => ?_)
          · refine hB _ _ _ _ (kgoC (is := KX3_judgeNumber_91) rfl ?_)
            refine k_aload_n rfl ?_
            refine k_iload_n rfl ?_
            refine k_if_eq (fun h300 => by exfalso; omega) (fun h300 => ?_)
            refine k_nil ?_
            refine hB _ _ _ _ (kgoC (is := KX3_judgeNumber_96) rfl ?_)
            refine k_iconst (m := 4) rfl (fun x301 h302 => ?_)
            refine k_goto ?_
            refine hB _ _ _ _ (kgoC (is := KX3_judgeNumber_101) rfl ?_)
            refine k_putI kp68 H0 h_1_0 (Or.inl fk68) (tiC x301).1 (tiC x301).2 (fun σ303 H304 e305 c306 => ?_)
            refine k_aload_n rfl ?_
            refine k_aload_n rfl ?_
            have t307 := h_1_0.x e305
            refine k_get kg68 t307 (congrArg (Sum.inl : Int32 → AvC) c306) ?_
            refine k_aload_n rfl ?_
            obtain ⟨y310, e308, c309⟩ := cg71 (σ := σ303) (a := p1)
            refine k_get kg71 t307 e308 ?_
            refine k_stat (P := P_X11_narrowed) (Q := Q_X11_narrowed) rfl rfl (Nat.le_of_ble_eq_true rfl) rfl rfl (Nat.le_of_ble_eq_true rfl) ⟨_, _, rfl, H304⟩ (fun w311 σ312 q313 => ?_)
            obtain ⟨y314, rfl, rfl⟩ := q313
            refine k_st (st' := [.inr (.inl y314), .inr (.inr (some p1))]) rfl ?_
            refine k_putL kg71 H304 t307 fk71 (fun σ315 H316 e317 c318 => ?_)
            refine k_return ?_
            have X319 : ExC [68, 217, 218] σ0 σ303 := ExC.rf.tr (e305.mo (by decide))
            have X320 : ExC [68, 217, 218] σ0 σ315 := X319.tr (e317.mo (by decide))
            exact ⟨rfl, H316, X320⟩
          · refine k_nil ?_
            refine hB _ _ _ _ (kgoC (is := KX3_judgeNumber_73) rfl ?_)
            refine k_iload rfl ?_
            refine k_if_ne (fun h321 => by exfalso; omega) (fun h321 => ?_)
            refine k_nil ?_
            refine hB _ _ _ _ (kgoC (is := KX3_judgeNumber_78) rfl ?_)
            refine k_aload_n rfl ?_
            obtain ⟨a324, e322, c323, t325⟩ := cg121 H0.1 h_0_0
            refine k_get kg121 h_0_0 e322 ?_
            refine k_iconst (m := 4) rfl (fun x326 h327 => ?_)
            refine k_aload_n rfl ?_
            obtain ⟨x330, e328, c329, h331, h332⟩ := cg62 H0.1 h_1_0
            refine k_get kg62 h_1_0 e328 ?_
            refine k_inv (P := P_X6_tell) (Q := Q_X6_tell) rfl rfl rfl rfl (Nat.le_of_ble_eq_true rfl) (t325.rc (by decide)) ⟨_, _, _, rfl, H0, t325, (by omega), (by omega), (by omega), (by omega)⟩ (fun w333 σ334 q335 => ?_)
            obtain ⟨rfl, H336, e337⟩ := q335
            refine k_st (st' := []) rfl ?_
            refine k_return ?_
            have X338 : ExC [68, 217, 218] σ0 σ334 := ExC.rf.tr (e337.mo (by decide))
            exact ⟨rfl, H336, X338⟩
      · refine k_nil ?_
        refine hB _ _ _ _ (kgoC (is := KX3_judgeNumber_40) rfl ?_)
        refine k_aload_n rfl ?_
        obtain ⟨x341, e339, c340, h342, h343⟩ := cg67 H0.1 h_1_0
        refine k_get kg67 h_1_0 e339 ?_
        refine k_iconst (m := 1) rfl (fun x344 h345 => ?_)
        refine k_ic_ne (fun h346 => ?_) (fun h346 => ?_)
        · refine hB _ _ _ _ (kgoC (is := KX3_judgeNumber_52) rfl ?_)
          refine k_iconst (m := 0) rfl (fun x347 h348 => ?_)
          refine k_nil ?_
          refine hB _ _ _ _ (kgoC (is := KX3_judgeNumber_53) rfl ?_)
          refine k_istore (ls' := [(5, .inl x347), (3, .inr (.inl (Int64.ofInt 9223372036854775807))), (2, .inl x255), (0, .inr (.inr (some p0))), (1, .inr (.inr (some p1)))]) rfl ?_
          refine k_aload_n rfl ?_
          obtain ⟨y351, e349, c350⟩ := cg71 (σ := σ0) (a := p1)
          refine k_get kg71 h_1_0 e349 ?_
          refine k_lconst ?_
          refine k_lcmp (fun x352 h353 g354 => ?_)
          refine k_if_lt (fun h355 => ?_) (fun h355 => ?_)
          · refine hB _ _ _ _ (kgoC (is := KX3_judgeNumber_73) rfl ?_)
            refine k_iload rfl ?_
            refine k_if_ne (fun h356 => by exfalso; omega) (fun h356 => ?_)
            refine k_nil ?_
            refine hB _ _ _ _ (kgoC (is := KX3_judgeNumber_78) rfl ?_)
            refine k_aload_n rfl ?_
            obtain ⟨a359, e357, c358, t360⟩ := cg121 H0.1 h_0_0
            refine k_get kg121 h_0_0 e357 ?_
            refine k_iconst (m := 4) rfl (fun x361 h362 => ?_)
            refine k_aload_n rfl ?_
            obtain ⟨x365, e363, c364, h366, h367⟩ := cg62 H0.1 h_1_0
            refine k_get kg62 h_1_0 e363 ?_
            refine k_inv (P := P_X6_tell) (Q := Q_X6_tell) rfl rfl rfl rfl (Nat.le_of_ble_eq_true rfl) (t360.rc (by decide)) ⟨_, _, _, rfl, H0, t360, (by omega), (by omega), (by omega), (by omega)⟩ (fun w368 σ369 q370 => ?_)
            obtain ⟨rfl, H371, e372⟩ := q370
            refine k_st (st' := []) rfl ?_
            refine k_return ?_
            have X373 : ExC [68, 217, 218] σ0 σ369 := ExC.rf.tr (e372.mo (by decide))
            exact ⟨rfl, H371, X373⟩
          · refine k_nil ?_
            refine hB _ _ _ _ (kgoC (is := KX3_judgeNumber_64) rfl ?_)
            refine k_aload_n rfl ?_
            obtain ⟨y376, e374, c375⟩ := cg71 (σ := σ0) (a := p1)
            refine k_get kg71 h_1_0 e374 ?_
            refine k_lload_n rfl ?_
            refine k_lcmp (fun x377 h378 g379 => ?_)
            refine k_if_le (fun h380 => ?_) (fun h380 => ?_)
            · refine hB _ _ _ _ (kgoC (is := KX3_judgeNumber_91) rfl ?_)
              refine k_aload_n rfl ?_
              refine k_iload_n rfl ?_
              refine k_if_eq (fun h381 => by exfalso; omega) (fun h381 => ?_)
              refine k_nil ?_
              refine hB _ _ _ _ (kgoC (is := KX3_judgeNumber_96) rfl ?_)
              refine k_iconst (m := 4) rfl (fun x382 h383 => ?_)
              refine k_goto ?_
              refine hB _ _ _ _ (kgoC (is := KX3_judgeNumber_101) rfl ?_)
              refine k_putI kp68 H0 h_1_0 (Or.inl fk68) (tiC x382).1 (tiC x382).2 (fun σ384 H385 e386 c387 => ?_)
              refine k_aload_n rfl ?_
              refine k_aload_n rfl ?_
              have t388 := h_1_0.x e386
              refine k_get kg68 t388 (congrArg (Sum.inl : Int32 → AvC) c387) ?_
              refine k_aload_n rfl ?_
              obtain ⟨y391, e389, c390⟩ := cg71 (σ := σ384) (a := p1)
              refine k_get kg71 t388 e389 ?_
              refine k_stat (P := P_X11_narrowed) (Q := Q_X11_narrowed) rfl rfl (Nat.le_of_ble_eq_true rfl) rfl rfl (Nat.le_of_ble_eq_true rfl) ⟨_, _, rfl, H385⟩ (fun w392 σ393 q394 => ?_)
              obtain ⟨y395, rfl, rfl⟩ := q394
              refine k_st (st' := [.inr (.inl y395), .inr (.inr (some p1))]) rfl ?_
              refine k_putL kg71 H385 t388 fk71 (fun σ396 H397 e398 c399 => ?_)
              refine k_return ?_
              have X400 : ExC [68, 217, 218] σ0 σ384 := ExC.rf.tr (e386.mo (by decide))
              have X401 : ExC [68, 217, 218] σ0 σ396 := X400.tr (e398.mo (by decide))
              exact ⟨rfl, H397, X401⟩
            · refine k_nil ?_
              refine hB _ _ _ _ (kgoC (is := KX3_judgeNumber_73) rfl ?_)
              refine k_iload rfl ?_
              refine k_if_ne (fun h402 => by exfalso; omega) (fun h402 => ?_)
              refine k_nil ?_
              refine hB _ _ _ _ (kgoC (is := KX3_judgeNumber_78) rfl ?_)
              refine k_aload_n rfl ?_
              obtain ⟨a405, e403, c404, t406⟩ := cg121 H0.1 h_0_0
              refine k_get kg121 h_0_0 e403 ?_
              refine k_iconst (m := 4) rfl (fun x407 h408 => ?_)
              refine k_aload_n rfl ?_
              obtain ⟨x411, e409, c410, h412, h413⟩ := cg62 H0.1 h_1_0
              refine k_get kg62 h_1_0 e409 ?_
              refine k_inv (P := P_X6_tell) (Q := Q_X6_tell) rfl rfl rfl rfl (Nat.le_of_ble_eq_true rfl) (t406.rc (by decide)) ⟨_, _, _, rfl, H0, t406, (by omega), (by omega), (by omega), (by omega)⟩ (fun w414 σ415 q416 => ?_)
              obtain ⟨rfl, H417, e418⟩ := q416
              refine k_st (st' := []) rfl ?_
              refine k_return ?_
              have X419 : ExC [68, 217, 218] σ0 σ415 := ExC.rf.tr (e418.mo (by decide))
              exact ⟨rfl, H417, X419⟩
        · refine k_nil ?_
          refine hB _ _ _ _ (kgoC (is := KX3_judgeNumber_48) rfl ?_)
          refine k_iconst (m := 1) rfl (fun x420 h421 => ?_)
          refine k_goto ?_
          refine hB _ _ _ _ (kgoC (is := KX3_judgeNumber_53) rfl ?_)
          refine k_istore (ls' := [(5, .inl x420), (3, .inr (.inl (Int64.ofInt 9223372036854775807))), (2, .inl x255), (0, .inr (.inr (some p0))), (1, .inr (.inr (some p1)))]) rfl ?_
          refine k_aload_n rfl ?_
          obtain ⟨y424, e422, c423⟩ := cg71 (σ := σ0) (a := p1)
          refine k_get kg71 h_1_0 e422 ?_
          refine k_lconst ?_
          refine k_lcmp (fun x425 h426 g427 => ?_)
          refine k_if_lt (fun h428 => ?_) (fun h428 => ?_)
          · refine hB _ _ _ _ (kgoC (is := KX3_judgeNumber_73) rfl ?_)
            refine k_iload rfl ?_
            refine k_if_ne (fun h429 => ?_) (fun h429 => by exfalso; omega)
            refine hB _ _ _ _ (kgoC (is := KX3_judgeNumber_91) rfl ?_)
            refine k_aload_n rfl ?_
            refine k_iload_n rfl ?_
            refine k_if_eq (fun h430 => by exfalso; omega) (fun h430 => ?_)
            refine k_nil ?_
            refine hB _ _ _ _ (kgoC (is := KX3_judgeNumber_96) rfl ?_)
            refine k_iconst (m := 4) rfl (fun x431 h432 => ?_)
            refine k_goto ?_
            refine hB _ _ _ _ (kgoC (is := KX3_judgeNumber_101) rfl ?_)
            refine k_putI kp68 H0 h_1_0 (Or.inl fk68) (tiC x431).1 (tiC x431).2 (fun σ433 H434 e435 c436 => ?_)
            refine k_aload_n rfl ?_
            refine k_aload_n rfl ?_
            have t437 := h_1_0.x e435
            refine k_get kg68 t437 (congrArg (Sum.inl : Int32 → AvC) c436) ?_
            refine k_aload_n rfl ?_
            obtain ⟨y440, e438, c439⟩ := cg71 (σ := σ433) (a := p1)
            refine k_get kg71 t437 e438 ?_
            refine k_stat (P := P_X11_narrowed) (Q := Q_X11_narrowed) rfl rfl (Nat.le_of_ble_eq_true rfl) rfl rfl (Nat.le_of_ble_eq_true rfl) ⟨_, _, rfl, H434⟩ (fun w441 σ442 q443 => ?_)
            obtain ⟨y444, rfl, rfl⟩ := q443
            refine k_st (st' := [.inr (.inl y444), .inr (.inr (some p1))]) rfl ?_
            refine k_putL kg71 H434 t437 fk71 (fun σ445 H446 e447 c448 => ?_)
            refine k_return ?_
            have X449 : ExC [68, 217, 218] σ0 σ433 := ExC.rf.tr (e435.mo (by decide))
            have X450 : ExC [68, 217, 218] σ0 σ445 := X449.tr (e447.mo (by decide))
            exact ⟨rfl, H446, X450⟩
          · refine k_nil ?_
            refine hB _ _ _ _ (kgoC (is := KX3_judgeNumber_64) rfl ?_)
            refine k_aload_n rfl ?_
            obtain ⟨y453, e451, c452⟩ := cg71 (σ := σ0) (a := p1)
            refine k_get kg71 h_1_0 e451 ?_
            refine k_lload_n rfl ?_
            refine k_lcmp (fun x454 h455 g456 => ?_)
            refine k_if_le (fun h457 => ?_) (fun h457 => ?_)
            · refine hB _ _ _ _ (kgoC (is := KX3_judgeNumber_91) rfl ?_)
              refine k_aload_n rfl ?_
              refine k_iload_n rfl ?_
              refine k_if_eq (fun h458 => by exfalso; omega) (fun h458 => ?_)
              refine k_nil ?_
              refine hB _ _ _ _ (kgoC (is := KX3_judgeNumber_96) rfl ?_)
              refine k_iconst (m := 4) rfl (fun x459 h460 => ?_)
              refine k_goto ?_
              refine hB _ _ _ _ (kgoC (is := KX3_judgeNumber_101) rfl ?_)
              refine k_putI kp68 H0 h_1_0 (Or.inl fk68) (tiC x459).1 (tiC x459).2 (fun σ461 H462 e463 c464 => ?_)
              refine k_aload_n rfl ?_
              refine k_aload_n rfl ?_
              have t465 := h_1_0.x e463
              refine k_get kg68 t465 (congrArg (Sum.inl : Int32 → AvC) c464) ?_
              refine k_aload_n rfl ?_
              obtain ⟨y468, e466, c467⟩ := cg71 (σ := σ461) (a := p1)
              refine k_get kg71 t465 e466 ?_
              refine k_stat (P := P_X11_narrowed) (Q := Q_X11_narrowed) rfl rfl (Nat.le_of_ble_eq_true rfl) rfl rfl (Nat.le_of_ble_eq_true rfl) ⟨_, _, rfl, H462⟩ (fun w469 σ470 q471 => ?_)
              obtain ⟨y472, rfl, rfl⟩ := q471
              refine k_st (st' := [.inr (.inl y472), .inr (.inr (some p1))]) rfl ?_
              refine k_putL kg71 H462 t465 fk71 (fun σ473 H474 e475 c476 => ?_)
              refine k_return ?_
              have X477 : ExC [68, 217, 218] σ0 σ461 := ExC.rf.tr (e463.mo (by decide))
              have X478 : ExC [68, 217, 218] σ0 σ473 := X477.tr (e475.mo (by decide))
              exact ⟨rfl, H474, X478⟩
            · refine k_nil ?_
              refine hB _ _ _ _ (kgoC (is := KX3_judgeNumber_73) rfl ?_)
              refine k_iload rfl ?_
              refine k_if_ne (fun h479 => ?_) (fun h479 => by exfalso; omega)
              refine hB _ _ _ _ (kgoC (is := KX3_judgeNumber_91) rfl ?_)
              refine k_aload_n rfl ?_
              refine k_iload_n rfl ?_
              refine k_if_eq (fun h480 => by exfalso; omega) (fun h480 => ?_)
              refine k_nil ?_
              refine hB _ _ _ _ (kgoC (is := KX3_judgeNumber_96) rfl ?_)
              refine k_iconst (m := 4) rfl (fun x481 h482 => ?_)
              refine k_goto ?_
              refine hB _ _ _ _ (kgoC (is := KX3_judgeNumber_101) rfl ?_)
              refine k_putI kp68 H0 h_1_0 (Or.inl fk68) (tiC x481).1 (tiC x481).2 (fun σ483 H484 e485 c486 => ?_)
              refine k_aload_n rfl ?_
              refine k_aload_n rfl ?_
              have t487 := h_1_0.x e485
              refine k_get kg68 t487 (congrArg (Sum.inl : Int32 → AvC) c486) ?_
              refine k_aload_n rfl ?_
              obtain ⟨y490, e488, c489⟩ := cg71 (σ := σ483) (a := p1)
              refine k_get kg71 t487 e488 ?_
              refine k_stat (P := P_X11_narrowed) (Q := Q_X11_narrowed) rfl rfl (Nat.le_of_ble_eq_true rfl) rfl rfl (Nat.le_of_ble_eq_true rfl) ⟨_, _, rfl, H484⟩ (fun w491 σ492 q493 => ?_)
              obtain ⟨y494, rfl, rfl⟩ := q493
              refine k_st (st' := [.inr (.inl y494), .inr (.inr (some p1))]) rfl ?_
              refine k_putL kg71 H484 t487 fk71 (fun σ495 H496 e497 c498 => ?_)
              refine k_return ?_
              have X499 : ExC [68, 217, 218] σ0 σ483 := ExC.rf.tr (e485.mo (by decide))
              have X500 : ExC [68, 217, 218] σ0 σ495 := X499.tr (e497.mo (by decide))
              exact ⟨rfl, H496, X500⟩
theorem lg_X3_judgeNumber : ∀ (As : List AvC) (σ : CsC), P_X3_judgeNumber As σ → lgC As ≤ rX3_judgeNumber.2.2.1 := by
  rintro As σ ⟨p0, p1, rfl, -⟩
  exact Nat.le_of_ble_eq_true rfl
theorem m_X3_judgeNumber (l : Launch) : CMetC l 2 54 P_X3_judgeNumber Q_X3_judgeNumber :=
  CMetC.of KX3_judgeNumber [(118, P_X6_tell, Q_X6_tell), (228, P_X11_narrowed, Q_X11_narrowed)] hX3_judgeNumber (by decide) (by decide) okX3_judgeNumber (cc1C (m_X6_tell l) (by decide) (cc1C (m_X11_narrowed l) (by decide) cc0C)) (lg_X3_judgeNumber) (b_X3_judgeNumber)

abbrev P_X3_judgeName : CpC := fun As σ => ∃ (p0 : Nat) (p1 : Nat), As = [.inr (.inr (some p0)), .inr (.inr (some p1))] ∧ HIC σ ∧ TyC σ p0 4 ∧ TyC σ p1 2
abbrev Q_X3_judgeName : CqC := fun As σ w τ => match As with
  | [.inr (.inr (some p0)), .inr (.inr (some p1))] => w = none ∧ HIC τ ∧ ExC [68, 70, 217, 218] σ τ
  | _ => False
set_option maxRecDepth 100000 in
set_option maxHeartbeats 4000000 in
theorem b_X3_judgeName : TbC KX3_judgeName [(51, P_X3_variableOf, Q_X3_variableOf), (118, P_X6_tell, Q_X6_tell)] P_X3_judgeName Q_X3_judgeName := by
  · rintro As σ0 ⟨p0, p1, rfl, H0, h_0_0, h_1_0⟩ hgr G hB hW
    change G 0 [(0, .inr (.inr (some p0))), (1, .inr (.inr (some p1)))] [] σ0
    refine hB _ _ _ _ (kgoC (is := KX3_judgeName_0) rfl ?_)
    refine k_aload_n rfl ?_
    refine k_aload_n rfl ?_
    refine k_inv (P := P_X3_variableOf) (Q := Q_X3_variableOf) rfl rfl rfl rfl (Nat.le_of_ble_eq_true rfl) (h_0_0.rc (by decide)) ⟨_, _, rfl, H0, h_0_0, h_1_0⟩ (fun w1 σ2 q3 => ?_)
    obtain ⟨o4, rfl, rfl, h5⟩ := q3
    refine k_st (st' := [.inr (.inr o4)]) rfl ?_
    refine k_astore_n (ls' := [(2, .inr (.inr o4)), (0, .inr (.inr (some p0))), (1, .inr (.inr (some p1)))]) rfl ?_
    refine k_aload_n rfl ?_
    refine k_ifnonnull (fun b6 h7 => ?_) (fun h7 => ?_)
    · subst h7
      have t8 := h5 b6 rfl
      refine hB _ _ _ _ (kgoC (is := KX3_judgeName_23) rfl ?_)
      refine k_aload_n rfl ?_
      refine k_aload_n rfl ?_
      obtain ⟨x11, e9, c10, h12, h13⟩ := cg331 H0.1 t8
      refine k_get kg331 t8 e9 ?_
      refine k_putI kp68 H0 h_1_0 (Or.inl fk68) (tiC x11).1 (tiC x11).2 (fun σ14 H15 e16 c17 => ?_)
      refine k_aload_n rfl ?_
      have t18 := t8.x e16
      obtain ⟨x21, e19, c20, h22, h23⟩ := cg335 H15.1 t18
      refine k_get kg335 t18 e19 ?_
      refine k_if_eq (fun h24 => ?_) (fun h24 => ?_)
      · refine hB _ _ _ _ (kgoC (is := KX3_judgeName_51) rfl ?_)
        refine k_return ?_
        have X25 : ExC [68, 70, 217, 218] σ0 σ14 := ExC.rf.tr (e16.mo (by decide))
        exact ⟨rfl, H15, X25⟩
      · refine k_nil ?_
        refine hB _ _ _ _ (kgoC (is := KX3_judgeName_38) rfl ?_)
        refine k_aload_n rfl ?_
        refine k_iconst (m := 1) rfl (fun x26 h27 => ?_)
        have t28 := h_1_0.x e16
        refine k_putI kp70 H15 t28 (Or.inr ⟨fk70, b01C (by omega) (by omega)⟩) (by show 0 ≤ _; omega) (by show _ ≤ 1; omega) (fun σ29 H30 e31 c32 => ?_)
        refine k_aload_n rfl ?_
        refine k_aload_n rfl ?_
        have t33 := t18.x e31
        obtain ⟨y36, e34, c35⟩ := cg336 (σ := σ29) (a := b6)
        refine k_get kg336 t33 e34 ?_
        have t37 := t28.x e31
        refine k_putL kg71 H30 t37 fk71 (fun σ38 H39 e40 c41 => ?_)
        refine k_nil ?_
        refine hB _ _ _ _ (kgoC (is := KX3_judgeName_51) rfl ?_)
        refine k_return ?_
        have X42 : ExC [68, 70, 217, 218] σ0 σ14 := ExC.rf.tr (e16.mo (by decide))
        have X43 : ExC [68, 70, 217, 218] σ0 σ29 := X42.tr (e31.mo (by decide))
        have X44 : ExC [68, 70, 217, 218] σ0 σ38 := X43.tr (e40.mo (by decide))
        exact ⟨rfl, H39, X44⟩
    · subst h7
      refine k_nil ?_
      refine hB _ _ _ _ (kgoC (is := KX3_judgeName_10) rfl ?_)
      refine k_aload_n rfl ?_
      obtain ⟨a47, e45, c46, t48⟩ := cg121 H0.1 h_0_0
      refine k_get kg121 h_0_0 e45 ?_
      refine k_iconst (m := 3) rfl (fun x49 h50 => ?_)
      refine k_aload_n rfl ?_
      obtain ⟨x53, e51, c52, h54, h55⟩ := cg62 H0.1 h_1_0
      refine k_get kg62 h_1_0 e51 ?_
      refine k_inv (P := P_X6_tell) (Q := Q_X6_tell) rfl rfl rfl rfl (Nat.le_of_ble_eq_true rfl) (t48.rc (by decide)) ⟨_, _, _, rfl, H0, t48, (by omega), (by omega), (by omega), (by omega)⟩ (fun w56 σ57 q58 => ?_)
      obtain ⟨rfl, H59, e60⟩ := q58
      refine k_st (st' := []) rfl ?_
      refine k_return ?_
      have X61 : ExC [68, 70, 217, 218] σ0 σ57 := ExC.rf.tr (e60.mo (by decide))
      exact ⟨rfl, H59, X61⟩
theorem lg_X3_judgeName : ∀ (As : List AvC) (σ : CsC), P_X3_judgeName As σ → lgC As ≤ rX3_judgeName.2.2.1 := by
  rintro As σ ⟨p0, p1, rfl, -⟩
  exact Nat.le_of_ble_eq_true rfl
theorem m_X3_judgeName (l : Launch) : CMetC l 12 55 P_X3_judgeName Q_X3_judgeName :=
  CMetC.of KX3_judgeName [(51, P_X3_variableOf, Q_X3_variableOf), (118, P_X6_tell, Q_X6_tell)] hX3_judgeName (by decide) (by decide) okX3_judgeName (cc1C (m_X3_variableOf l) (by decide) (cc1C (m_X6_tell l) (by decide) cc0C)) (lg_X3_judgeName) (b_X3_judgeName)

abbrev P_X3_judgeOfOne : CpC := fun As σ => ∃ (p0 : Nat) (p1 : Nat), As = [.inr (.inr (some p0)), .inr (.inr (some p1))] ∧ HIC σ ∧ TyC σ p0 4 ∧ TyC σ p1 2
abbrev Q_X3_judgeOfOne : CqC := fun As σ w τ => match As with
  | [.inr (.inr (some p0)), .inr (.inr (some p1))] => w = none ∧ HIC τ ∧ ExC [68, 70, 217, 218] σ τ
  | _ => False
set_option maxRecDepth 100000 in
set_option maxHeartbeats 4000000 in
theorem b_X3_judgeOfOne : TbC KX3_judgeOfOne [(52, P_X3_isFaulty, Q_X3_isFaulty), (228, P_X11_narrowed, Q_X11_narrowed), (57, P_X3_isTakenAlone, Q_X3_isTakenAlone), (58, P_X3_promoted, Q_X3_promoted), (232, P_X11_workedAlone, Q_X11_workedAlone), (118, P_X6_tell, Q_X6_tell)] P_X3_judgeOfOne Q_X3_judgeOfOne := by
  · rintro As σ0 ⟨p0, p1, rfl, H0, h_0_0, h_1_0⟩ hgr G hB hW
    change G 0 [(0, .inr (.inr (some p0))), (1, .inr (.inr (some p1)))] [] σ0
    refine hB _ _ _ _ (kgoC (is := KX3_judgeOfOne_0) rfl ?_)
    refine k_aload_n rfl ?_
    obtain ⟨o3, e1, c2, t4⟩ := cg72 H0.1 h_1_0
    refine k_get kg72 h_1_0 e1 ?_
    refine k_astore_n (ls' := [(2, .inr (.inr o3)), (0, .inr (.inr (some p0))), (1, .inr (.inr (some p1)))]) rfl ?_
    refine k_aload_n rfl ?_
    refine k_stat (P := P_X3_isFaulty) (Q := Q_X3_isFaulty) rfl rfl (Nat.le_of_ble_eq_true rfl) rfl rfl (Nat.le_of_ble_eq_true rfl) ⟨o3, rfl, H0, t4⟩ (fun w5 σ6 q7 => ?_)
    obtain ⟨x8, rfl, rfl, h9, h10, q11⟩ := q7
    refine k_st (st' := [.inl x8]) rfl ?_
    rcases (by omega : x8.toInt = 0 ∨ x8.toInt = 1) with g12 | g12
    · obtain ⟨b13, h14⟩ := q11 (by omega)
      subst h14
      have t15 := t4 b13 rfl
      refine k_if_eq (fun h16 => ?_) (fun h16 => by exfalso; omega)
      refine hB _ _ _ _ (kgoC (is := KX3_judgeOfOne_13) rfl ?_)
      refine k_aload_n rfl ?_
      obtain ⟨x19, e17, c18, h20, h21⟩ := cg60 H0.1 h_1_0
      refine k_get kg60 h_1_0 e17 ?_
      refine k_iconst (m := 3) rfl (fun x22 h23 => ?_)
      refine k_ic_eq (fun h24 => ?_) (fun h24 => ?_)
      · refine hB _ _ _ _ (kgoC (is := KX3_judgeOfOne_45) rfl ?_)
        refine k_aload_n rfl ?_
        refine k_get kg60 h_1_0 (congrArg (Sum.inl : Int32 → AvC) c18) ?_
        refine k_iconst (m := 5) rfl (fun x25 h26 => ?_)
        refine k_ic_ne (fun h27 => ?_) (fun h27 => by exfalso; omega)
        refine hB _ _ _ _ (kgoC (is := KX3_judgeOfOne_64) rfl ?_)
        refine k_aload_n rfl ?_
        refine k_aload_n rfl ?_
        refine k_get kg60 h_1_0 (congrArg (Sum.inl : Int32 → AvC) c18) ?_
        refine k_iconst (m := 3) rfl (fun x28 h29 => ?_)
        refine k_ic_eq (fun h30 => ?_) (fun h30 => by exfalso; omega)
        refine hB _ _ _ _ (kgoC (is := KX3_judgeOfOne_82) rfl ?_)
        refine k_aload_n rfl ?_
        obtain ⟨x33, e31, c32, h34, h35⟩ := cg68 H0.1 t15
        refine k_get kg68 t15 e31 ?_
        refine k_goto ?_
        refine hB _ _ _ _ (kgoC (is := KX3_judgeOfOne_96) rfl ?_)
        refine k_putI kp68 H0 h_1_0 (Or.inl fk68) (tiC x33).1 (tiC x33).2 (fun σ36 H37 e38 c39 => ?_)
        refine k_nil ?_
        refine hB _ _ _ _ (kgoC (is := KX3_judgeOfOne_99) rfl ?_)
        refine k_aload_n rfl ?_
        refine k_aload_n rfl ?_
        have t40 := t15.x e38
        obtain ⟨x43, e41, c42, h44, h45⟩ := cg70 H37.1 t40
        refine k_get kg70 t40 e41 ?_
        have t46 := h_1_0.x e38
        refine k_putI kp70 H37 t46 (Or.inr ⟨fk70, b01C (by omega) (by omega)⟩) (by show 0 ≤ _; omega) (by show _ ≤ 1; omega) (fun σ47 H48 e49 c50 => ?_)
        refine k_aload_n rfl ?_
        refine k_aload_n rfl ?_
        have t51 := t46.x e49
        have c52 := (h_1_0.mi e38 (by decide)).trans c18
        have c53 := (t46.mi e49 (by decide)).trans c52
        refine k_get kg60 t51 (congrArg (Sum.inl : Int32 → AvC) c53) ?_
        refine k_iconst (m := 4) rfl (fun x54 h55 => ?_)
        refine k_ic_ne (fun h56 => ?_) (fun h56 => by exfalso; omega)
        refine hB _ _ _ _ (kgoC (is := KX3_judgeOfOne_134) rfl ?_)
        refine k_aload_n rfl ?_
        have c57 := (t46.mi e49 (by decide)).trans c39
        refine k_get kg68 t51 (congrArg (Sum.inl : Int32 → AvC) c57) ?_
        refine k_aload_n rfl ?_
        have t58 := t40.x e49
        obtain ⟨y61, e59, c60⟩ := cg71 (σ := σ47) (a := b13)
        refine k_get kg71 t58 e59 ?_
        refine k_stat (P := P_X11_narrowed) (Q := Q_X11_narrowed) rfl rfl (Nat.le_of_ble_eq_true rfl) rfl rfl (Nat.le_of_ble_eq_true rfl) ⟨_, _, rfl, H48⟩ (fun w62 σ63 q64 => ?_)
        obtain ⟨y65, rfl, rfl⟩ := q64
        refine k_st (st' := [.inr (.inl y65), .inr (.inr (some p1))]) rfl ?_
        refine k_nil ?_
        refine hB _ _ _ _ (kgoC (is := KX3_judgeOfOne_145) rfl ?_)
        refine k_putL kg71 H48 t51 fk71 (fun σ66 H67 e68 c69 => ?_)
        refine k_return ?_
        have X70 : ExC [68, 70, 217, 218] σ0 σ36 := ExC.rf.tr (e38.mo (by decide))
        have X71 : ExC [68, 70, 217, 218] σ0 σ47 := X70.tr (e49.mo (by decide))
        have X72 : ExC [68, 70, 217, 218] σ0 σ66 := X71.tr (e68.mo (by decide))
        exact ⟨rfl, H67, X72⟩
      · refine k_nil ?_
        refine hB _ _ _ _ (kgoC (is := KX3_judgeOfOne_21) rfl ?_)
        refine k_aload_n rfl ?_
        refine k_aload_n rfl ?_
        obtain ⟨x75, e73, c74, h76, h77⟩ := cg68 H0.1 t15
        refine k_get kg68 t15 e73 ?_
        refine k_stat (P := P_X3_isTakenAlone) (Q := Q_X3_isTakenAlone) rfl rfl (Nat.le_of_ble_eq_true rfl) rfl rfl (Nat.le_of_ble_eq_true rfl) ⟨_, _, rfl, H0, h_1_0⟩ (fun w78 σ79 q80 => ?_)
        obtain ⟨x81, rfl, rfl, h82, h83⟩ := q80
        refine k_st (st' := [.inl x81]) rfl ?_
        refine k_if_ne (fun h84 => ?_) (fun h84 => ?_)
        · refine hB _ _ _ _ (kgoC (is := KX3_judgeOfOne_45) rfl ?_)
          refine k_aload_n rfl ?_
          refine k_get kg60 h_1_0 (congrArg (Sum.inl : Int32 → AvC) c18) ?_
          refine k_iconst (m := 5) rfl (fun x85 h86 => ?_)
          refine k_ic_ne (fun h87 => ?_) (fun h87 => ?_)
          · refine hB _ _ _ _ (kgoC (is := KX3_judgeOfOne_64) rfl ?_)
            refine k_aload_n rfl ?_
            refine k_aload_n rfl ?_
            refine k_get kg60 h_1_0 (congrArg (Sum.inl : Int32 → AvC) c18) ?_
            refine k_iconst (m := 3) rfl (fun x88 h89 => ?_)
            refine k_ic_eq (fun h90 => ?_) (fun h90 => ?_)
            · refine hB _ _ _ _ (kgoC (is := KX3_judgeOfOne_82) rfl ?_)
              refine k_aload_n rfl ?_
              refine k_get kg68 t15 (congrArg (Sum.inl : Int32 → AvC) c74) ?_
              refine k_goto ?_
              refine hB _ _ _ _ (kgoC (is := KX3_judgeOfOne_96) rfl ?_)
              refine k_putI kp68 H0 h_1_0 (Or.inl fk68) (tiC x75).1 (tiC x75).2 (fun σ91 H92 e93 c94 => ?_)
              refine k_nil ?_
              refine hB _ _ _ _ (kgoC (is := KX3_judgeOfOne_99) rfl ?_)
              refine k_aload_n rfl ?_
              refine k_aload_n rfl ?_
              have t95 := t15.x e93
              obtain ⟨x98, e96, c97, h99, h100⟩ := cg70 H92.1 t95
              refine k_get kg70 t95 e96 ?_
              have t101 := h_1_0.x e93
              refine k_putI kp70 H92 t101 (Or.inr ⟨fk70, b01C (by omega) (by omega)⟩) (by show 0 ≤ _; omega) (by show _ ≤ 1; omega) (fun σ102 H103 e104 c105 => ?_)
              refine k_aload_n rfl ?_
              refine k_aload_n rfl ?_
              have t106 := t101.x e104
              have c107 := (h_1_0.mi e93 (by decide)).trans c18
              have c108 := (t101.mi e104 (by decide)).trans c107
              refine k_get kg60 t106 (congrArg (Sum.inl : Int32 → AvC) c108) ?_
              refine k_iconst (m := 4) rfl (fun x109 h110 => ?_)
              refine k_ic_ne (fun h111 => ?_) (fun h111 => by exfalso; omega)
              refine hB _ _ _ _ (kgoC (is := KX3_judgeOfOne_134) rfl ?_)
              refine k_aload_n rfl ?_
              have c112 := (t101.mi e104 (by decide)).trans c94
              refine k_get kg68 t106 (congrArg (Sum.inl : Int32 → AvC) c112) ?_
              refine k_aload_n rfl ?_
              have t113 := t95.x e104
              obtain ⟨y116, e114, c115⟩ := cg71 (σ := σ102) (a := b13)
              refine k_get kg71 t113 e114 ?_
              refine k_stat (P := P_X11_narrowed) (Q := Q_X11_narrowed) rfl rfl (Nat.le_of_ble_eq_true rfl) rfl rfl (Nat.le_of_ble_eq_true rfl) ⟨_, _, rfl, H103⟩ (fun w117 σ118 q119 => ?_)
              obtain ⟨y120, rfl, rfl⟩ := q119
              refine k_st (st' := [.inr (.inl y120), .inr (.inr (some p1))]) rfl ?_
              refine k_nil ?_
              refine hB _ _ _ _ (kgoC (is := KX3_judgeOfOne_145) rfl ?_)
              refine k_putL kg71 H103 t106 fk71 (fun σ121 H122 e123 c124 => ?_)
              refine k_return ?_
              have X125 : ExC [68, 70, 217, 218] σ0 σ91 := ExC.rf.tr (e93.mo (by decide))
              have X126 : ExC [68, 70, 217, 218] σ0 σ102 := X125.tr (e104.mo (by decide))
              have X127 : ExC [68, 70, 217, 218] σ0 σ121 := X126.tr (e123.mo (by decide))
              exact ⟨rfl, H122, X127⟩
            · refine k_nil ?_
              refine hB _ _ _ _ (kgoC (is := KX3_judgeOfOne_73) rfl ?_)
              refine k_aload_n rfl ?_
              obtain ⟨x130, e128, c129, h131, h132⟩ := cg61 H0.1 h_1_0
              refine k_get kg61 h_1_0 e128 ?_
              refine k_bipush (m := 39) rfl (fun x133 h134 => ?_)
              refine k_ic_ne (fun h135 => ?_) (fun h135 => ?_)
              · refine hB _ _ _ _ (kgoC (is := KX3_judgeOfOne_89) rfl ?_)
                refine k_aload_n rfl ?_
                refine k_get kg68 t15 (congrArg (Sum.inl : Int32 → AvC) c74) ?_
                refine k_stat (P := P_X3_promoted) (Q := Q_X3_promoted) rfl rfl (Nat.le_of_ble_eq_true rfl) rfl rfl (Nat.le_of_ble_eq_true rfl) ⟨_, rfl, H0⟩ (fun w136 σ137 q138 => ?_)
                obtain ⟨x139, rfl, rfl⟩ := q138
                refine k_st (st' := [.inl x139, .inr (.inr (some p1))]) rfl ?_
                refine k_nil ?_
                refine hB _ _ _ _ (kgoC (is := KX3_judgeOfOne_96) rfl ?_)
                refine k_putI kp68 H0 h_1_0 (Or.inl fk68) (tiC x139).1 (tiC x139).2 (fun σ140 H141 e142 c143 => ?_)
                refine k_nil ?_
                refine hB _ _ _ _ (kgoC (is := KX3_judgeOfOne_99) rfl ?_)
                refine k_aload_n rfl ?_
                refine k_aload_n rfl ?_
                have t144 := t15.x e142
                obtain ⟨x147, e145, c146, h148, h149⟩ := cg70 H141.1 t144
                refine k_get kg70 t144 e145 ?_
                have t150 := h_1_0.x e142
                refine k_putI kp70 H141 t150 (Or.inr ⟨fk70, b01C (by omega) (by omega)⟩) (by show 0 ≤ _; omega) (by show _ ≤ 1; omega) (fun σ151 H152 e153 c154 => ?_)
                refine k_aload_n rfl ?_
                refine k_aload_n rfl ?_
                have t155 := t150.x e153
                have c156 := (h_1_0.mi e142 (by decide)).trans c18
                have c157 := (t150.mi e153 (by decide)).trans c156
                refine k_get kg60 t155 (congrArg (Sum.inl : Int32 → AvC) c157) ?_
                refine k_iconst (m := 4) rfl (fun x158 h159 => ?_)
                refine k_ic_ne (fun h160 => ?_) (fun h160 => ?_)
                · refine hB _ _ _ _ (kgoC (is := KX3_judgeOfOne_134) rfl ?_)
                  refine k_aload_n rfl ?_
                  have c161 := (t150.mi e153 (by decide)).trans c143
                  refine k_get kg68 t155 (congrArg (Sum.inl : Int32 → AvC) c161) ?_
                  refine k_aload_n rfl ?_
                  have t162 := t144.x e153
                  obtain ⟨y165, e163, c164⟩ := cg71 (σ := σ151) (a := b13)
                  refine k_get kg71 t162 e163 ?_
                  refine k_stat (P := P_X11_narrowed) (Q := Q_X11_narrowed) rfl rfl (Nat.le_of_ble_eq_true rfl) rfl rfl (Nat.le_of_ble_eq_true rfl) ⟨_, _, rfl, H152⟩ (fun w166 σ167 q168 => ?_)
                  obtain ⟨y169, rfl, rfl⟩ := q168
                  refine k_st (st' := [.inr (.inl y169), .inr (.inr (some p1))]) rfl ?_
                  refine k_nil ?_
                  refine hB _ _ _ _ (kgoC (is := KX3_judgeOfOne_145) rfl ?_)
                  refine k_putL kg71 H152 t155 fk71 (fun σ170 H171 e172 c173 => ?_)
                  refine k_return ?_
                  have X174 : ExC [68, 70, 217, 218] σ0 σ140 := ExC.rf.tr (e142.mo (by decide))
                  have X175 : ExC [68, 70, 217, 218] σ0 σ151 := X174.tr (e153.mo (by decide))
                  have X176 : ExC [68, 70, 217, 218] σ0 σ170 := X175.tr (e172.mo (by decide))
                  exact ⟨rfl, H171, X176⟩
                · refine k_nil ?_
                  refine hB _ _ _ _ (kgoC (is := KX3_judgeOfOne_116) rfl ?_)
                  refine k_aload_n rfl ?_
                  have c177 := (h_1_0.mi e142 (by decide)).trans c129
                  have c178 := (t150.mi e153 (by decide)).trans c177
                  refine k_get kg61 t155 (congrArg (Sum.inl : Int32 → AvC) c178) ?_
                  refine k_aload_n rfl ?_
                  have c179 := (t150.mi e153 (by decide)).trans c143
                  refine k_get kg68 t155 (congrArg (Sum.inl : Int32 → AvC) c179) ?_
                  refine k_aload_n rfl ?_
                  have t180 := t144.x e153
                  obtain ⟨y183, e181, c182⟩ := cg71 (σ := σ151) (a := b13)
                  refine k_get kg71 t180 e181 ?_
                  refine k_stat (P := P_X11_workedAlone) (Q := Q_X11_workedAlone) rfl rfl (Nat.le_of_ble_eq_true rfl) rfl rfl (Nat.le_of_ble_eq_true rfl) ⟨_, _, _, rfl, H152⟩ (fun w184 σ185 q186 => ?_)
                  obtain ⟨y187, rfl, rfl⟩ := q186
                  refine k_st (st' := [.inr (.inl y187), .inr (.inr (some p1))]) rfl ?_
                  refine k_goto ?_
                  refine hB _ _ _ _ (kgoC (is := KX3_judgeOfOne_145) rfl ?_)
                  refine k_putL kg71 H152 t155 fk71 (fun σ188 H189 e190 c191 => ?_)
                  refine k_return ?_
                  have X192 : ExC [68, 70, 217, 218] σ0 σ140 := ExC.rf.tr (e142.mo (by decide))
                  have X193 : ExC [68, 70, 217, 218] σ0 σ151 := X192.tr (e153.mo (by decide))
                  have X194 : ExC [68, 70, 217, 218] σ0 σ188 := X193.tr (e190.mo (by decide))
                  exact ⟨rfl, H189, X194⟩
              · refine k_nil ?_
                refine hB _ _ _ _ (kgoC (is := KX3_judgeOfOne_82) rfl ?_)
                refine k_aload_n rfl ?_
                refine k_get kg68 t15 (congrArg (Sum.inl : Int32 → AvC) c74) ?_
                refine k_goto ?_
                refine hB _ _ _ _ (kgoC (is := KX3_judgeOfOne_96) rfl ?_)
                refine k_putI kp68 H0 h_1_0 (Or.inl fk68) (tiC x75).1 (tiC x75).2 (fun σ195 H196 e197 c198 => ?_)
                refine k_nil ?_
                refine hB _ _ _ _ (kgoC (is := KX3_judgeOfOne_99) rfl ?_)
                refine k_aload_n rfl ?_
                refine k_aload_n rfl ?_
                have t199 := t15.x e197
                obtain ⟨x202, e200, c201, h203, h204⟩ := cg70 H196.1 t199
                refine k_get kg70 t199 e200 ?_
                have t205 := h_1_0.x e197
                refine k_putI kp70 H196 t205 (Or.inr ⟨fk70, b01C (by omega) (by omega)⟩) (by show 0 ≤ _; omega) (by show _ ≤ 1; omega) (fun σ206 H207 e208 c209 => ?_)
                refine k_aload_n rfl ?_
                refine k_aload_n rfl ?_
                have t210 := t205.x e208
                have c211 := (h_1_0.mi e197 (by decide)).trans c18
                have c212 := (t205.mi e208 (by decide)).trans c211
                refine k_get kg60 t210 (congrArg (Sum.inl : Int32 → AvC) c212) ?_
                refine k_iconst (m := 4) rfl (fun x213 h214 => ?_)
                refine k_ic_ne (fun h215 => ?_) (fun h215 => ?_)
                · refine hB _ _ _ _ (kgoC (is := KX3_judgeOfOne_134) rfl ?_)
                  refine k_aload_n rfl ?_
                  have c216 := (t205.mi e208 (by decide)).trans c198
                  refine k_get kg68 t210 (congrArg (Sum.inl : Int32 → AvC) c216) ?_
                  refine k_aload_n rfl ?_
                  have t217 := t199.x e208
                  obtain ⟨y220, e218, c219⟩ := cg71 (σ := σ206) (a := b13)
                  refine k_get kg71 t217 e218 ?_
                  refine k_stat (P := P_X11_narrowed) (Q := Q_X11_narrowed) rfl rfl (Nat.le_of_ble_eq_true rfl) rfl rfl (Nat.le_of_ble_eq_true rfl) ⟨_, _, rfl, H207⟩ (fun w221 σ222 q223 => ?_)
                  obtain ⟨y224, rfl, rfl⟩ := q223
                  refine k_st (st' := [.inr (.inl y224), .inr (.inr (some p1))]) rfl ?_
                  refine k_nil ?_
                  refine hB _ _ _ _ (kgoC (is := KX3_judgeOfOne_145) rfl ?_)
                  refine k_putL kg71 H207 t210 fk71 (fun σ225 H226 e227 c228 => ?_)
                  refine k_return ?_
                  have X229 : ExC [68, 70, 217, 218] σ0 σ195 := ExC.rf.tr (e197.mo (by decide))
                  have X230 : ExC [68, 70, 217, 218] σ0 σ206 := X229.tr (e208.mo (by decide))
                  have X231 : ExC [68, 70, 217, 218] σ0 σ225 := X230.tr (e227.mo (by decide))
                  exact ⟨rfl, H226, X231⟩
                · refine k_nil ?_
                  refine hB _ _ _ _ (kgoC (is := KX3_judgeOfOne_116) rfl ?_)
                  refine k_aload_n rfl ?_
                  have c232 := (h_1_0.mi e197 (by decide)).trans c129
                  have c233 := (t205.mi e208 (by decide)).trans c232
                  refine k_get kg61 t210 (congrArg (Sum.inl : Int32 → AvC) c233) ?_
                  refine k_aload_n rfl ?_
                  have c234 := (t205.mi e208 (by decide)).trans c198
                  refine k_get kg68 t210 (congrArg (Sum.inl : Int32 → AvC) c234) ?_
                  refine k_aload_n rfl ?_
                  have t235 := t199.x e208
                  obtain ⟨y238, e236, c237⟩ := cg71 (σ := σ206) (a := b13)
                  refine k_get kg71 t235 e236 ?_
                  refine k_stat (P := P_X11_workedAlone) (Q := Q_X11_workedAlone) rfl rfl (Nat.le_of_ble_eq_true rfl) rfl rfl (Nat.le_of_ble_eq_true rfl) ⟨_, _, _, rfl, H207⟩ (fun w239 σ240 q241 => ?_)
                  obtain ⟨y242, rfl, rfl⟩ := q241
                  refine k_st (st' := [.inr (.inl y242), .inr (.inr (some p1))]) rfl ?_
                  refine k_goto ?_
                  refine hB _ _ _ _ (kgoC (is := KX3_judgeOfOne_145) rfl ?_)
                  refine k_putL kg71 H207 t210 fk71 (fun σ243 H244 e245 c246 => ?_)
                  refine k_return ?_
                  have X247 : ExC [68, 70, 217, 218] σ0 σ195 := ExC.rf.tr (e197.mo (by decide))
                  have X248 : ExC [68, 70, 217, 218] σ0 σ206 := X247.tr (e208.mo (by decide))
                  have X249 : ExC [68, 70, 217, 218] σ0 σ243 := X248.tr (e245.mo (by decide))
                  exact ⟨rfl, H244, X249⟩
          · refine k_nil ?_
            refine hB _ _ _ _ (kgoC (is := KX3_judgeOfOne_53) rfl ?_)
            refine k_aload_n rfl ?_
            refine k_aload_n rfl ?_
            obtain ⟨x252, e250, c251, h253, h254⟩ := cg69 H0.1 h_1_0
            refine k_get kg69 h_1_0 e250 ?_
            refine k_putI kp68 H0 h_1_0 (Or.inl fk68) (tiC x252).1 (tiC x252).2 (fun σ255 H256 e257 c258 => ?_)
            refine k_goto ?_
            refine hB _ _ _ _ (kgoC (is := KX3_judgeOfOne_99) rfl ?_)
            refine k_aload_n rfl ?_
            refine k_aload_n rfl ?_
            have t259 := t15.x e257
            obtain ⟨x262, e260, c261, h263, h264⟩ := cg70 H256.1 t259
            refine k_get kg70 t259 e260 ?_
            have t265 := h_1_0.x e257
            refine k_putI kp70 H256 t265 (Or.inr ⟨fk70, b01C (by omega) (by omega)⟩) (by show 0 ≤ _; omega) (by show _ ≤ 1; omega) (fun σ266 H267 e268 c269 => ?_)
            refine k_aload_n rfl ?_
            refine k_aload_n rfl ?_
            have t270 := t265.x e268
            have c271 := (h_1_0.mi e257 (by decide)).trans c18
            have c272 := (t265.mi e268 (by decide)).trans c271
            refine k_get kg60 t270 (congrArg (Sum.inl : Int32 → AvC) c272) ?_
            refine k_iconst (m := 4) rfl (fun x273 h274 => ?_)
            refine k_ic_ne (fun h275 => ?_) (fun h275 => by exfalso; omega)
            refine hB _ _ _ _ (kgoC (is := KX3_judgeOfOne_134) rfl ?_)
            refine k_aload_n rfl ?_
            have c276 := (t265.mi e268 (by decide)).trans c258
            refine k_get kg68 t270 (congrArg (Sum.inl : Int32 → AvC) c276) ?_
            refine k_aload_n rfl ?_
            have t277 := t259.x e268
            obtain ⟨y280, e278, c279⟩ := cg71 (σ := σ266) (a := b13)
            refine k_get kg71 t277 e278 ?_
            refine k_stat (P := P_X11_narrowed) (Q := Q_X11_narrowed) rfl rfl (Nat.le_of_ble_eq_true rfl) rfl rfl (Nat.le_of_ble_eq_true rfl) ⟨_, _, rfl, H267⟩ (fun w281 σ282 q283 => ?_)
            obtain ⟨y284, rfl, rfl⟩ := q283
            refine k_st (st' := [.inr (.inl y284), .inr (.inr (some p1))]) rfl ?_
            refine k_nil ?_
            refine hB _ _ _ _ (kgoC (is := KX3_judgeOfOne_145) rfl ?_)
            refine k_putL kg71 H267 t270 fk71 (fun σ285 H286 e287 c288 => ?_)
            refine k_return ?_
            have X289 : ExC [68, 70, 217, 218] σ0 σ255 := ExC.rf.tr (e257.mo (by decide))
            have X290 : ExC [68, 70, 217, 218] σ0 σ266 := X289.tr (e268.mo (by decide))
            have X291 : ExC [68, 70, 217, 218] σ0 σ285 := X290.tr (e287.mo (by decide))
            exact ⟨rfl, H286, X291⟩
        · refine k_nil ?_
          refine hB _ _ _ _ (kgoC (is := KX3_judgeOfOne_32) rfl ?_)
          refine k_aload_n rfl ?_
          obtain ⟨a294, e292, c293, t295⟩ := cg121 H0.1 h_0_0
          refine k_get kg121 h_0_0 e292 ?_
          refine k_iconst (m := 5) rfl (fun x296 h297 => ?_)
          refine k_aload_n rfl ?_
          obtain ⟨x300, e298, c299, h301, h302⟩ := cg62 H0.1 t15
          refine k_get kg62 t15 e298 ?_
          refine k_inv (P := P_X6_tell) (Q := Q_X6_tell) rfl rfl rfl rfl (Nat.le_of_ble_eq_true rfl) (t295.rc (by decide)) ⟨_, _, _, rfl, H0, t295, (by omega), (by omega), (by omega), (by omega)⟩ (fun w303 σ304 q305 => ?_)
          obtain ⟨rfl, H306, e307⟩ := q305
          refine k_st (st' := []) rfl ?_
          refine k_return ?_
          have X308 : ExC [68, 70, 217, 218] σ0 σ304 := ExC.rf.tr (e307.mo (by decide))
          exact ⟨rfl, H306, X308⟩
    · refine k_if_eq (fun h309 => by exfalso; omega) (fun h309 => ?_)
      refine k_nil ?_
      refine hB _ _ _ _ (kgoC (is := KX3_judgeOfOne_12) rfl ?_)
      refine k_return ?_
      exact ⟨rfl, H0, (ExC.rf : ExC [68, 70, 217, 218] σ0 σ0)⟩
theorem lg_X3_judgeOfOne : ∀ (As : List AvC) (σ : CsC), P_X3_judgeOfOne As σ → lgC As ≤ rX3_judgeOfOne.2.2.1 := by
  rintro As σ ⟨p0, p1, rfl, -⟩
  exact Nat.le_of_ble_eq_true rfl
theorem m_X3_judgeOfOne (l : Launch) : CMetC l 3 56 P_X3_judgeOfOne Q_X3_judgeOfOne :=
  CMetC.of KX3_judgeOfOne [(52, P_X3_isFaulty, Q_X3_isFaulty), (228, P_X11_narrowed, Q_X11_narrowed), (57, P_X3_isTakenAlone, Q_X3_isTakenAlone), (58, P_X3_promoted, Q_X3_promoted), (232, P_X11_workedAlone, Q_X11_workedAlone), (118, P_X6_tell, Q_X6_tell)] hX3_judgeOfOne (by decide) (by decide) okX3_judgeOfOne (cc1C (m_X3_isFaulty l) (by decide) (cc1C (m_X11_narrowed l) (by decide) (cc1C (m_X3_isTakenAlone l) (by decide) (cc1C (m_X3_promoted l) (by decide) (cc1C (m_X11_workedAlone l) (by decide) (cc1C (m_X6_tell l) (by decide) cc0C)))))) (lg_X3_judgeOfOne) (b_X3_judgeOfOne)

abbrev P_X3_judgeCount : CpC := fun As σ => ∃ (p0 : Nat) (p1 : Nat), As = [.inr (.inr (some p0)), .inr (.inr (some p1))] ∧ HIC σ ∧ TyC σ p0 4 ∧ TyC σ p1 2
abbrev Q_X3_judgeCount : CqC := fun As σ w τ => match As with
  | [.inr (.inr (some p0)), .inr (.inr (some p1))] => w = none ∧ HIC τ ∧ ExC [68, 217, 218] σ τ
  | _ => False
set_option maxRecDepth 100000 in
set_option maxHeartbeats 4000000 in
theorem b_X3_judgeCount : TbC KX3_judgeCount [(51, P_X3_variableOf, Q_X3_variableOf), (59, P_X3_mayChange, Q_X3_mayChange), (223, P_X11_isNumber, Q_X11_isNumber), (118, P_X6_tell, Q_X6_tell)] P_X3_judgeCount Q_X3_judgeCount := by
  · rintro As σ0 ⟨p0, p1, rfl, H0, h_0_0, h_1_0⟩ hgr G hB hW
    change G 0 [(0, .inr (.inr (some p0))), (1, .inr (.inr (some p1)))] [] σ0
    refine hB _ _ _ _ (kgoC (is := KX3_judgeCount_0) rfl ?_)
    refine k_aload_n rfl ?_
    refine k_aload_n rfl ?_
    refine k_inv (P := P_X3_variableOf) (Q := Q_X3_variableOf) rfl rfl rfl rfl (Nat.le_of_ble_eq_true rfl) (h_0_0.rc (by decide)) ⟨_, _, rfl, H0, h_0_0, h_1_0⟩ (fun w1 σ2 q3 => ?_)
    obtain ⟨o4, rfl, rfl, h5⟩ := q3
    refine k_st (st' := [.inr (.inr o4)]) rfl ?_
    refine k_astore_n (ls' := [(2, .inr (.inr o4)), (0, .inr (.inr (some p0))), (1, .inr (.inr (some p1)))]) rfl ?_
    refine k_aload_n rfl ?_
    refine k_aload_n rfl ?_
    refine k_aload_n rfl ?_
    refine k_inv (P := P_X3_mayChange) (Q := Q_X3_mayChange) rfl rfl rfl rfl (Nat.le_of_ble_eq_true rfl) (h_0_0.rc (by decide)) ⟨_, _, o4, rfl, H0, h_0_0, h_1_0, h5⟩ (fun w6 σ7 q8 => ?_)
    obtain ⟨x9, rfl, H10, e11, h12, h13, q14⟩ := q8
    refine k_st (st' := [.inl x9]) rfl ?_
    rcases (by omega : x9.toInt = 0 ∨ x9.toInt = 1) with g15 | g15
    · refine k_istore_n (ls' := [(3, .inl x9), (2, .inr (.inr o4)), (0, .inr (.inr (some p0))), (1, .inr (.inr (some p1)))]) rfl ?_
      refine k_aload_n rfl ?_
      have t18 := h5.x e11
      refine k_ifnonnull (fun b16 h17 => ?_) (fun h17 => ?_)
      · subst h17
        have t19 := h5 b16 rfl
        have t20 := t18 b16 rfl
        refine hB _ _ _ _ (kgoC (is := KX3_judgeCount_18) rfl ?_)
        refine k_aload_n rfl ?_
        obtain ⟨x23, e21, c22, h24, h25⟩ := cg331 H10.1 t20
        refine k_get kg331 t20 e21 ?_
        refine k_stat (P := P_X11_isNumber) (Q := Q_X11_isNumber) rfl rfl (Nat.le_of_ble_eq_true rfl) rfl rfl (Nat.le_of_ble_eq_true rfl) ⟨_, rfl, H10⟩ (fun w26 σ27 q28 => ?_)
        obtain ⟨x29, rfl, rfl, h30, h31⟩ := q28
        refine k_st (st' := [.inl x29]) rfl ?_
        refine k_if_ne (fun h32 => ?_) (fun h32 => ?_)
        · refine hB _ _ _ _ (kgoC (is := KX3_judgeCount_43) rfl ?_)
          refine k_iload_n rfl ?_
          refine k_if_eq (fun h33 => ?_) (fun h33 => by exfalso; omega)
          refine hB _ _ _ _ (kgoC (is := KX3_judgeCount_55) rfl ?_)
          refine k_return ?_
          have X34 : ExC [68, 217, 218] σ0 σ7 := ExC.rf.tr (e11.mo (by decide))
          exact ⟨rfl, H10, X34⟩
        · refine k_nil ?_
          refine hB _ _ _ _ (kgoC (is := KX3_judgeCount_28) rfl ?_)
          refine k_aload_n rfl ?_
          have t35 := h_0_0.x e11
          obtain ⟨a38, e36, c37, t39⟩ := cg121 H10.1 t35
          refine k_get kg121 t35 e36 ?_
          refine k_iconst (m := 5) rfl (fun x40 h41 => ?_)
          refine k_aload_n rfl ?_
          have t42 := h_1_0.x e11
          obtain ⟨x45, e43, c44, h46, h47⟩ := cg62 H10.1 t42
          refine k_get kg62 t42 e43 ?_
          refine k_inv (P := P_X6_tell) (Q := Q_X6_tell) rfl rfl rfl rfl (Nat.le_of_ble_eq_true rfl) (t39.rc (by decide)) ⟨_, _, _, rfl, H10, t39, (by omega), (by omega), (by omega), (by omega)⟩ (fun w48 σ49 q50 => ?_)
          obtain ⟨rfl, H51, e52⟩ := q50
          refine k_st (st' := []) rfl ?_
          refine k_goto ?_
          refine hB _ _ _ _ (kgoC (is := KX3_judgeCount_55) rfl ?_)
          refine k_return ?_
          have X53 : ExC [68, 217, 218] σ0 σ7 := ExC.rf.tr (e11.mo (by decide))
          have X54 : ExC [68, 217, 218] σ0 σ49 := X53.tr (e52.mo (by decide))
          exact ⟨rfl, H51, X54⟩
      · subst h17
        refine k_nil ?_
        refine hB _ _ _ _ (kgoC (is := KX3_judgeCount_17) rfl ?_)
        refine k_return ?_
        have X55 : ExC [68, 217, 218] σ0 σ7 := ExC.rf.tr (e11.mo (by decide))
        exact ⟨rfl, H10, X55⟩
    · obtain ⟨b56, h57⟩ := q14 (by omega)
      have t58 := h5.x e11
      subst h57
      have t59 := h5 b56 rfl
      have t60 := t58 b56 rfl
      refine k_istore_n (ls' := [(3, .inl x9), (2, .inr (.inr (some b56))), (0, .inr (.inr (some p0))), (1, .inr (.inr (some p1)))]) rfl ?_
      refine k_aload_n rfl ?_
      refine k_ifnonnull (fun _ _ => ?_) (fun hz => by cases hz)
      refine hB _ _ _ _ (kgoC (is := KX3_judgeCount_18) rfl ?_)
      refine k_aload_n rfl ?_
      obtain ⟨x63, e61, c62, h64, h65⟩ := cg331 H10.1 t60
      refine k_get kg331 t60 e61 ?_
      refine k_stat (P := P_X11_isNumber) (Q := Q_X11_isNumber) rfl rfl (Nat.le_of_ble_eq_true rfl) rfl rfl (Nat.le_of_ble_eq_true rfl) ⟨_, rfl, H10⟩ (fun w66 σ67 q68 => ?_)
      obtain ⟨x69, rfl, rfl, h70, h71⟩ := q68
      refine k_st (st' := [.inl x69]) rfl ?_
      refine k_if_ne (fun h72 => ?_) (fun h72 => ?_)
      · refine hB _ _ _ _ (kgoC (is := KX3_judgeCount_43) rfl ?_)
        refine k_iload_n rfl ?_
        refine k_if_eq (fun h73 => by exfalso; omega) (fun h73 => ?_)
        refine k_nil ?_
        refine hB _ _ _ _ (kgoC (is := KX3_judgeCount_47) rfl ?_)
        refine k_aload_n rfl ?_
        refine k_aload_n rfl ?_
        refine k_get kg331 t60 (congrArg (Sum.inl : Int32 → AvC) c62) ?_
        have t74 := h_1_0.x e11
        refine k_putI kp68 H10 t74 (Or.inl fk68) (tiC x63).1 (tiC x63).2 (fun σ75 H76 e77 c78 => ?_)
        refine k_nil ?_
        refine hB _ _ _ _ (kgoC (is := KX3_judgeCount_55) rfl ?_)
        refine k_return ?_
        have X79 : ExC [68, 217, 218] σ0 σ7 := ExC.rf.tr (e11.mo (by decide))
        have X80 : ExC [68, 217, 218] σ0 σ75 := X79.tr (e77.mo (by decide))
        exact ⟨rfl, H76, X80⟩
      · refine k_nil ?_
        refine hB _ _ _ _ (kgoC (is := KX3_judgeCount_28) rfl ?_)
        refine k_aload_n rfl ?_
        have t81 := h_0_0.x e11
        obtain ⟨a84, e82, c83, t85⟩ := cg121 H10.1 t81
        refine k_get kg121 t81 e82 ?_
        refine k_iconst (m := 5) rfl (fun x86 h87 => ?_)
        refine k_aload_n rfl ?_
        have t88 := h_1_0.x e11
        obtain ⟨x91, e89, c90, h92, h93⟩ := cg62 H10.1 t88
        refine k_get kg62 t88 e89 ?_
        refine k_inv (P := P_X6_tell) (Q := Q_X6_tell) rfl rfl rfl rfl (Nat.le_of_ble_eq_true rfl) (t85.rc (by decide)) ⟨_, _, _, rfl, H10, t85, (by omega), (by omega), (by omega), (by omega)⟩ (fun w94 σ95 q96 => ?_)
        obtain ⟨rfl, H97, e98⟩ := q96
        refine k_st (st' := []) rfl ?_
        refine k_goto ?_
        refine hB _ _ _ _ (kgoC (is := KX3_judgeCount_55) rfl ?_)
        refine k_return ?_
        have X99 : ExC [68, 217, 218] σ0 σ7 := ExC.rf.tr (e11.mo (by decide))
        have X100 : ExC [68, 217, 218] σ0 σ95 := X99.tr (e98.mo (by decide))
        exact ⟨rfl, H97, X100⟩
theorem lg_X3_judgeCount : ∀ (As : List AvC) (σ : CsC), P_X3_judgeCount As σ → lgC As ≤ rX3_judgeCount.2.2.1 := by
  rintro As σ ⟨p0, p1, rfl, -⟩
  exact Nat.le_of_ble_eq_true rfl
theorem m_X3_judgeCount (l : Launch) : CMetC l 12 60 P_X3_judgeCount Q_X3_judgeCount :=
  CMetC.of KX3_judgeCount [(51, P_X3_variableOf, Q_X3_variableOf), (59, P_X3_mayChange, Q_X3_mayChange), (223, P_X11_isNumber, Q_X11_isNumber), (118, P_X6_tell, Q_X6_tell)] hX3_judgeCount (by decide) (by decide) okX3_judgeCount (cc1C (m_X3_variableOf l) (by decide) (cc1C (m_X3_mayChange l) (by decide) (cc1C (m_X11_isNumber l) (by decide) (cc1C (m_X6_tell l) (by decide) cc0C)))) (lg_X3_judgeCount) (b_X3_judgeCount)

abbrev P_X3_judgeAssignment : CpC := fun As σ => ∃ (p0 : Nat) (p1 : Nat), As = [.inr (.inr (some p0)), .inr (.inr (some p1))] ∧ HIC σ ∧ TyC σ p0 4 ∧ TyC σ p1 2
abbrev Q_X3_judgeAssignment : CqC := fun As σ w τ => match As with
  | [.inr (.inr (some p0)), .inr (.inr (some p1))] => w = none ∧ HIC τ ∧ ExC [68, 69, 217, 218] σ τ
  | _ => False
set_option maxRecDepth 100000 in
set_option maxHeartbeats 4000000 in
theorem b_X3_judgeAssignment : TbC KX3_judgeAssignment [(51, P_X3_variableOf, Q_X3_variableOf), (59, P_X3_mayChange, Q_X3_mayChange), (63, P_X3_areTaken, Q_X3_areTaken), (52, P_X3_isFaulty, Q_X3_isFaulty), (75, P_X3_fits, Q_X3_fits), (62, P_X3_isWanted, Q_X3_isWanted), (68, P_X3_workType, Q_X3_workType)] P_X3_judgeAssignment Q_X3_judgeAssignment := by
  · rintro As σ0 ⟨p0, p1, rfl, H0, h_0_0, h_1_0⟩ hgr G hB hW
    change G 0 [(0, .inr (.inr (some p0))), (1, .inr (.inr (some p1)))] [] σ0
    refine hB _ _ _ _ (kgoC (is := KX3_judgeAssignment_0) rfl ?_)
    refine k_aload_n rfl ?_
    refine k_aload_n rfl ?_
    refine k_inv (P := P_X3_variableOf) (Q := Q_X3_variableOf) rfl rfl rfl rfl (Nat.le_of_ble_eq_true rfl) (h_0_0.rc (by decide)) ⟨_, _, rfl, H0, h_0_0, h_1_0⟩ (fun w1 σ2 q3 => ?_)
    obtain ⟨o4, rfl, rfl, h5⟩ := q3
    refine k_st (st' := [.inr (.inr o4)]) rfl ?_
    refine k_astore_n (ls' := [(2, .inr (.inr o4)), (0, .inr (.inr (some p0))), (1, .inr (.inr (some p1)))]) rfl ?_
    refine k_aload_n rfl ?_
    refine k_aload_n rfl ?_
    refine k_aload_n rfl ?_
    refine k_inv (P := P_X3_mayChange) (Q := Q_X3_mayChange) rfl rfl rfl rfl (Nat.le_of_ble_eq_true rfl) (h_0_0.rc (by decide)) ⟨_, _, o4, rfl, H0, h_0_0, h_1_0, h5⟩ (fun w6 σ7 q8 => ?_)
    obtain ⟨x9, rfl, H10, e11, h12, h13, q14⟩ := q8
    refine k_st (st' := [.inl x9]) rfl ?_
    rcases (by omega : x9.toInt = 0 ∨ x9.toInt = 1) with g15 | g15
    · refine k_istore_n (ls' := [(3, .inl x9), (2, .inr (.inr o4)), (0, .inr (.inr (some p0))), (1, .inr (.inr (some p1)))]) rfl ?_
      refine k_aload_n rfl ?_
      have t18 := h5.x e11
      refine k_ifnonnull (fun b16 h17 => ?_) (fun h17 => ?_)
      · subst h17
        have t19 := h5 b16 rfl
        have t20 := t18 b16 rfl
        refine hB _ _ _ _ (kgoC (is := KX3_judgeAssignment_18) rfl ?_)
        refine k_aload_n rfl ?_
        have t21 := h_1_0.x e11
        obtain ⟨x24, e22, c23, h25, h26⟩ := cg61 H10.1 t21
        refine k_get kg61 t21 e22 ?_
        refine k_bipush (m := 8) rfl (fun x27 h28 => ?_)
        refine k_ic_ne (fun h29 => ?_) (fun h29 => ?_)
        · refine hB _ _ _ _ (kgoC (is := KX3_judgeAssignment_73) rfl ?_)
          refine k_iload_n rfl ?_
          refine k_aload_n rfl ?_
          refine k_aload_n rfl ?_
          refine k_aload_n rfl ?_
          obtain ⟨x32, e30, c31, h33, h34⟩ := cg331 H10.1 t20
          refine k_get kg331 t20 e30 ?_
          refine k_aload_n rfl ?_
          obtain ⟨o37, e35, c36, t38⟩ := cg73 H10.1 t21
          refine k_get kg73 t21 e35 ?_
          have t39 := h_0_0.x e11
          refine k_inv (P := P_X3_areTaken) (Q := Q_X3_areTaken) rfl rfl rfl rfl (Nat.le_of_ble_eq_true rfl) (t39.rc (by decide)) ⟨_, _, _, o37, rfl, H10, t39, t21, t38⟩ (fun w40 σ41 q42 => ?_)
          obtain ⟨x43, rfl, H44, e45, h46, h47, q48⟩ := q42
          refine k_st (st' := [.inl x43, .inl x9]) rfl ?_
          rcases (by omega : x43.toInt = 0 ∨ x43.toInt = 1) with g49 | g49
          · refine k_iand_b (b01C (by omega) (by omega)) (b01C (by omega) (by omega)) (fun x50 h51 h52 h53 h54 => ?_)
            refine k_istore_n (ls' := [(3, .inl x50), (2, .inr (.inr (some b16))), (0, .inr (.inr (some p0))), (1, .inr (.inr (some p1)))]) rfl ?_
            refine k_nil ?_
            refine hB _ _ _ _ (kgoC (is := KX3_judgeAssignment_89) rfl ?_)
            refine k_iload_n rfl ?_
            refine k_if_eq (fun h55 => ?_) (fun h55 => by exfalso; omega)
            refine hB _ _ _ _ (kgoC (is := KX3_judgeAssignment_123) rfl ?_)
            refine k_return ?_
            have X56 : ExC [68, 69, 217, 218] σ0 σ7 := ExC.rf.tr (e11.mo (by decide))
            have X57 : ExC [68, 69, 217, 218] σ0 σ41 := X56.tr (e45.mo (by decide))
            exact ⟨rfl, H44, X57⟩
          · obtain ⟨b58, h59⟩ := q48 (by omega)
            have t60 := t38.x e45
            subst h59
            have t61 := t38 b58 rfl
            have t62 := t60 b58 rfl
            refine k_iand_b (b01C (by omega) (by omega)) (b01C (by omega) (by omega)) (fun x63 h64 h65 h66 h67 => ?_)
            refine k_istore_n (ls' := [(3, .inl x63), (2, .inr (.inr (some b16))), (0, .inr (.inr (some p0))), (1, .inr (.inr (some p1)))]) rfl ?_
            refine k_nil ?_
            refine hB _ _ _ _ (kgoC (is := KX3_judgeAssignment_89) rfl ?_)
            refine k_iload_n rfl ?_
            refine k_if_eq (fun h68 => ?_) (fun h68 => by exfalso; omega)
            refine hB _ _ _ _ (kgoC (is := KX3_judgeAssignment_123) rfl ?_)
            refine k_return ?_
            have X69 : ExC [68, 69, 217, 218] σ0 σ7 := ExC.rf.tr (e11.mo (by decide))
            have X70 : ExC [68, 69, 217, 218] σ0 σ41 := X69.tr (e45.mo (by decide))
            exact ⟨rfl, H44, X70⟩
        · refine k_nil ?_
          refine hB _ _ _ _ (kgoC (is := KX3_judgeAssignment_27) rfl ?_)
          refine k_iload_n rfl ?_
          refine k_aload_n rfl ?_
          obtain ⟨o73, e71, c72, t74⟩ := cg73 H10.1 t21
          refine k_get kg73 t21 e71 ?_
          refine k_stat (P := P_X3_isFaulty) (Q := Q_X3_isFaulty) rfl rfl (Nat.le_of_ble_eq_true rfl) rfl rfl (Nat.le_of_ble_eq_true rfl) ⟨o73, rfl, H10, t74⟩ (fun w75 σ76 q77 => ?_)
          obtain ⟨x78, rfl, rfl, h79, h80, q81⟩ := q77
          refine k_st (st' := [.inl x78, .inl x9]) rfl ?_
          rcases (by omega : x78.toInt = 0 ∨ x78.toInt = 1) with g82 | g82
          · obtain ⟨b83, h84⟩ := q81 (by omega)
            subst h84
            have t85 := t74 b83 rfl
            refine k_if_ne (fun h86 => by exfalso; omega) (fun h86 => ?_)
            refine k_nil ?_
            refine hB _ _ _ _ (kgoC (is := KX3_judgeAssignment_38) rfl ?_)
            refine k_aload_n rfl ?_
            refine k_aload_n rfl ?_
            refine k_get kg73 t21 (congrArg (fun z : Option Nat => (Sum.inr (Sum.inr z) : AvC)) c72) ?_
            refine k_aload_n rfl ?_
            obtain ⟨x89, e87, c88, h90, h91⟩ := cg331 H10.1 t20
            refine k_get kg331 t20 e87 ?_
            refine k_stat (P := P_X3_fits) (Q := Q_X3_fits) rfl rfl (Nat.le_of_ble_eq_true rfl) rfl rfl (Nat.le_of_ble_eq_true rfl) ⟨_, _, rfl, H10, t85⟩ (fun w92 σ93 q94 => ?_)
            obtain ⟨x95, rfl, rfl, h96, h97⟩ := q94
            refine k_st (st' := [.inl x95, .inr (.inr (some p0)), .inl x9]) rfl ?_
            refine k_aload_n rfl ?_
            refine k_get kg73 t21 (congrArg (fun z : Option Nat => (Sum.inr (Sum.inr z) : AvC)) c72) ?_
            obtain ⟨x100, e98, c99, h101, h102⟩ := cg62 H10.1 t85
            refine k_get kg62 t85 e98 ?_
            have t103 := h_0_0.x e11
            refine k_inv (P := P_X3_isWanted) (Q := Q_X3_isWanted) rfl rfl rfl rfl (Nat.le_of_ble_eq_true rfl) (t103.rc (by decide)) ⟨_, _, _, rfl, H10, t103, (by omega), (by omega), (by omega), (by omega)⟩ (fun w104 σ105 q106 => ?_)
            obtain ⟨x107, rfl, H108, e109, h110, h111⟩ := q106
            refine k_st (st' := [.inl x107, .inl x9]) rfl ?_
            refine k_if_eq (fun h112 => ?_) (fun h112 => ?_)
            · refine hB _ _ _ _ (kgoC (is := KX3_judgeAssignment_67) rfl ?_)
              refine k_iconst (m := 0) rfl (fun x113 h114 => ?_)
              refine k_nil ?_
              refine hB _ _ _ _ (kgoC (is := KX3_judgeAssignment_68) rfl ?_)
              refine k_iand_b (b01C (by omega) (by omega)) (b01C (by omega) (by omega)) (fun x115 h116 h117 h118 h119 => ?_)
              refine k_istore_n (ls' := [(3, .inl x115), (2, .inr (.inr (some b16))), (0, .inr (.inr (some p0))), (1, .inr (.inr (some p1)))]) rfl ?_
              refine k_goto ?_
              refine hB _ _ _ _ (kgoC (is := KX3_judgeAssignment_89) rfl ?_)
              refine k_iload_n rfl ?_
              refine k_if_eq (fun h120 => ?_) (fun h120 => by exfalso; omega)
              refine hB _ _ _ _ (kgoC (is := KX3_judgeAssignment_123) rfl ?_)
              refine k_return ?_
              have X121 : ExC [68, 69, 217, 218] σ0 σ7 := ExC.rf.tr (e11.mo (by decide))
              have X122 : ExC [68, 69, 217, 218] σ0 σ105 := X121.tr (e109.mo (by decide))
              exact ⟨rfl, H108, X122⟩
            · refine k_nil ?_
              refine hB _ _ _ _ (kgoC (is := KX3_judgeAssignment_63) rfl ?_)
              refine k_iconst (m := 1) rfl (fun x123 h124 => ?_)
              refine k_goto ?_
              refine hB _ _ _ _ (kgoC (is := KX3_judgeAssignment_68) rfl ?_)
              refine k_iand_b (b01C (by omega) (by omega)) (b01C (by omega) (by omega)) (fun x125 h126 h127 h128 h129 => ?_)
              refine k_istore_n (ls' := [(3, .inl x125), (2, .inr (.inr (some b16))), (0, .inr (.inr (some p0))), (1, .inr (.inr (some p1)))]) rfl ?_
              refine k_goto ?_
              refine hB _ _ _ _ (kgoC (is := KX3_judgeAssignment_89) rfl ?_)
              refine k_iload_n rfl ?_
              refine k_if_eq (fun h130 => ?_) (fun h130 => by exfalso; omega)
              refine hB _ _ _ _ (kgoC (is := KX3_judgeAssignment_123) rfl ?_)
              refine k_return ?_
              have X131 : ExC [68, 69, 217, 218] σ0 σ7 := ExC.rf.tr (e11.mo (by decide))
              have X132 : ExC [68, 69, 217, 218] σ0 σ105 := X131.tr (e109.mo (by decide))
              exact ⟨rfl, H108, X132⟩
          · refine k_if_ne (fun h133 => ?_) (fun h133 => by exfalso; omega)
            refine hB _ _ _ _ (kgoC (is := KX3_judgeAssignment_67) rfl ?_)
            refine k_iconst (m := 0) rfl (fun x134 h135 => ?_)
            refine k_nil ?_
            refine hB _ _ _ _ (kgoC (is := KX3_judgeAssignment_68) rfl ?_)
            refine k_iand_b (b01C (by omega) (by omega)) (b01C (by omega) (by omega)) (fun x136 h137 h138 h139 h140 => ?_)
            refine k_istore_n (ls' := [(3, .inl x136), (2, .inr (.inr (some b16))), (0, .inr (.inr (some p0))), (1, .inr (.inr (some p1)))]) rfl ?_
            refine k_goto ?_
            refine hB _ _ _ _ (kgoC (is := KX3_judgeAssignment_89) rfl ?_)
            refine k_iload_n rfl ?_
            refine k_if_eq (fun h141 => ?_) (fun h141 => by exfalso; omega)
            refine hB _ _ _ _ (kgoC (is := KX3_judgeAssignment_123) rfl ?_)
            refine k_return ?_
            have X142 : ExC [68, 69, 217, 218] σ0 σ7 := ExC.rf.tr (e11.mo (by decide))
            exact ⟨rfl, H10, X142⟩
      · subst h17
        refine k_nil ?_
        refine hB _ _ _ _ (kgoC (is := KX3_judgeAssignment_17) rfl ?_)
        refine k_return ?_
        have X143 : ExC [68, 69, 217, 218] σ0 σ7 := ExC.rf.tr (e11.mo (by decide))
        exact ⟨rfl, H10, X143⟩
    · obtain ⟨b144, h145⟩ := q14 (by omega)
      have t146 := h5.x e11
      subst h145
      have t147 := h5 b144 rfl
      have t148 := t146 b144 rfl
      refine k_istore_n (ls' := [(3, .inl x9), (2, .inr (.inr (some b144))), (0, .inr (.inr (some p0))), (1, .inr (.inr (some p1)))]) rfl ?_
      refine k_aload_n rfl ?_
      refine k_ifnonnull (fun _ _ => ?_) (fun hz => by cases hz)
      refine hB _ _ _ _ (kgoC (is := KX3_judgeAssignment_18) rfl ?_)
      refine k_aload_n rfl ?_
      have t149 := h_1_0.x e11
      obtain ⟨x152, e150, c151, h153, h154⟩ := cg61 H10.1 t149
      refine k_get kg61 t149 e150 ?_
      refine k_bipush (m := 8) rfl (fun x155 h156 => ?_)
      refine k_ic_ne (fun h157 => ?_) (fun h157 => ?_)
      · refine hB _ _ _ _ (kgoC (is := KX3_judgeAssignment_73) rfl ?_)
        refine k_iload_n rfl ?_
        refine k_aload_n rfl ?_
        refine k_aload_n rfl ?_
        refine k_aload_n rfl ?_
        obtain ⟨x160, e158, c159, h161, h162⟩ := cg331 H10.1 t148
        refine k_get kg331 t148 e158 ?_
        refine k_aload_n rfl ?_
        obtain ⟨o165, e163, c164, t166⟩ := cg73 H10.1 t149
        refine k_get kg73 t149 e163 ?_
        have t167 := h_0_0.x e11
        refine k_inv (P := P_X3_areTaken) (Q := Q_X3_areTaken) rfl rfl rfl rfl (Nat.le_of_ble_eq_true rfl) (t167.rc (by decide)) ⟨_, _, _, o165, rfl, H10, t167, t149, t166⟩ (fun w168 σ169 q170 => ?_)
        obtain ⟨x171, rfl, H172, e173, h174, h175, q176⟩ := q170
        refine k_st (st' := [.inl x171, .inl x9]) rfl ?_
        rcases (by omega : x171.toInt = 0 ∨ x171.toInt = 1) with g177 | g177
        · refine k_iand_b (b01C (by omega) (by omega)) (b01C (by omega) (by omega)) (fun x178 h179 h180 h181 h182 => ?_)
          refine k_istore_n (ls' := [(3, .inl x178), (2, .inr (.inr (some b144))), (0, .inr (.inr (some p0))), (1, .inr (.inr (some p1)))]) rfl ?_
          refine k_nil ?_
          refine hB _ _ _ _ (kgoC (is := KX3_judgeAssignment_89) rfl ?_)
          refine k_iload_n rfl ?_
          refine k_if_eq (fun h183 => ?_) (fun h183 => by exfalso; omega)
          refine hB _ _ _ _ (kgoC (is := KX3_judgeAssignment_123) rfl ?_)
          refine k_return ?_
          have X184 : ExC [68, 69, 217, 218] σ0 σ7 := ExC.rf.tr (e11.mo (by decide))
          have X185 : ExC [68, 69, 217, 218] σ0 σ169 := X184.tr (e173.mo (by decide))
          exact ⟨rfl, H172, X185⟩
        · obtain ⟨b186, h187⟩ := q176 (by omega)
          have t188 := t166.x e173
          subst h187
          have t189 := t166 b186 rfl
          have t190 := t188 b186 rfl
          refine k_iand_b (b01C (by omega) (by omega)) (b01C (by omega) (by omega)) (fun x191 h192 h193 h194 h195 => ?_)
          refine k_istore_n (ls' := [(3, .inl x191), (2, .inr (.inr (some b144))), (0, .inr (.inr (some p0))), (1, .inr (.inr (some p1)))]) rfl ?_
          refine k_nil ?_
          refine hB _ _ _ _ (kgoC (is := KX3_judgeAssignment_89) rfl ?_)
          refine k_iload_n rfl ?_
          refine k_if_eq (fun h196 => ?_) (fun h196 => ?_)
          · refine hB _ _ _ _ (kgoC (is := KX3_judgeAssignment_123) rfl ?_)
            refine k_return ?_
            have X197 : ExC [68, 69, 217, 218] σ0 σ7 := ExC.rf.tr (e11.mo (by decide))
            have X198 : ExC [68, 69, 217, 218] σ0 σ169 := X197.tr (e173.mo (by decide))
            exact ⟨rfl, H172, X198⟩
          · refine k_nil ?_
            refine hB _ _ _ _ (kgoC (is := KX3_judgeAssignment_93) rfl ?_)
            refine k_aload_n rfl ?_
            refine k_aload_n rfl ?_
            have t199 := t148.x e173
            have c200 := (t148.mi e173 (by decide)).trans c159
            refine k_get kg331 t199 (congrArg (Sum.inl : Int32 → AvC) c200) ?_
            have t201 := t149.x e173
            refine k_putI kp68 H172 t201 (Or.inl fk68) (tiC x160).1 (tiC x160).2 (fun σ202 H203 e204 c205 => ?_)
            refine k_aload_n rfl ?_
            refine k_aload_n rfl ?_
            have t206 := t201.x e204
            have c207 := (t149.mi e173 (by decide)).trans c151
            have c208 := (t201.mi e204 (by decide)).trans c207
            refine k_get kg61 t206 (congrArg (Sum.inl : Int32 → AvC) c208) ?_
            refine k_aload_n rfl ?_
            have t209 := t199.x e204
            have c210 := (t199.mi e204 (by decide)).trans c200
            refine k_get kg331 t209 (congrArg (Sum.inl : Int32 → AvC) c210) ?_
            refine k_aload_n rfl ?_
            have c211 := (t149.mr e173 (by decide)).trans c164
            have c212 := (t201.mr e204 (by decide)).trans c211
            refine k_get kg73 t206 (congrArg (fun z : Option Nat => (Sum.inr (Sum.inr z) : AvC)) c212) ?_
            have t213 := t190.x e204
            obtain ⟨x216, e214, c215, h217, h218⟩ := cg68 H203.1 t213
            refine k_get kg68 t213 e214 ?_
            refine k_stat (P := P_X3_workType) (Q := Q_X3_workType) rfl rfl (Nat.le_of_ble_eq_true rfl) rfl rfl (Nat.le_of_ble_eq_true rfl) ⟨_, _, _, rfl, H203⟩ (fun w219 σ220 q221 => ?_)
            obtain ⟨x222, rfl, rfl⟩ := q221
            refine k_st (st' := [.inl x222, .inr (.inr (some p1))]) rfl ?_
            refine k_putI kp69 H203 t206 (Or.inl fk69) (tiC x222).1 (tiC x222).2 (fun σ223 H224 e225 c226 => ?_)
            refine k_nil ?_
            refine hB _ _ _ _ (kgoC (is := KX3_judgeAssignment_123) rfl ?_)
            refine k_return ?_
            have X227 : ExC [68, 69, 217, 218] σ0 σ7 := ExC.rf.tr (e11.mo (by decide))
            have X228 : ExC [68, 69, 217, 218] σ0 σ169 := X227.tr (e173.mo (by decide))
            have X229 : ExC [68, 69, 217, 218] σ0 σ202 := X228.tr (e204.mo (by decide))
            have X230 : ExC [68, 69, 217, 218] σ0 σ223 := X229.tr (e225.mo (by decide))
            exact ⟨rfl, H224, X230⟩
      · refine k_nil ?_
        refine hB _ _ _ _ (kgoC (is := KX3_judgeAssignment_27) rfl ?_)
        refine k_iload_n rfl ?_
        refine k_aload_n rfl ?_
        obtain ⟨o233, e231, c232, t234⟩ := cg73 H10.1 t149
        refine k_get kg73 t149 e231 ?_
        refine k_stat (P := P_X3_isFaulty) (Q := Q_X3_isFaulty) rfl rfl (Nat.le_of_ble_eq_true rfl) rfl rfl (Nat.le_of_ble_eq_true rfl) ⟨o233, rfl, H10, t234⟩ (fun w235 σ236 q237 => ?_)
        obtain ⟨x238, rfl, rfl, h239, h240, q241⟩ := q237
        refine k_st (st' := [.inl x238, .inl x9]) rfl ?_
        rcases (by omega : x238.toInt = 0 ∨ x238.toInt = 1) with g242 | g242
        · obtain ⟨b243, h244⟩ := q241 (by omega)
          subst h244
          have t245 := t234 b243 rfl
          refine k_if_ne (fun h246 => by exfalso; omega) (fun h246 => ?_)
          refine k_nil ?_
          refine hB _ _ _ _ (kgoC (is := KX3_judgeAssignment_38) rfl ?_)
          refine k_aload_n rfl ?_
          refine k_aload_n rfl ?_
          refine k_get kg73 t149 (congrArg (fun z : Option Nat => (Sum.inr (Sum.inr z) : AvC)) c232) ?_
          refine k_aload_n rfl ?_
          obtain ⟨x249, e247, c248, h250, h251⟩ := cg331 H10.1 t148
          refine k_get kg331 t148 e247 ?_
          refine k_stat (P := P_X3_fits) (Q := Q_X3_fits) rfl rfl (Nat.le_of_ble_eq_true rfl) rfl rfl (Nat.le_of_ble_eq_true rfl) ⟨_, _, rfl, H10, t245⟩ (fun w252 σ253 q254 => ?_)
          obtain ⟨x255, rfl, rfl, h256, h257⟩ := q254
          refine k_st (st' := [.inl x255, .inr (.inr (some p0)), .inl x9]) rfl ?_
          refine k_aload_n rfl ?_
          refine k_get kg73 t149 (congrArg (fun z : Option Nat => (Sum.inr (Sum.inr z) : AvC)) c232) ?_
          obtain ⟨x260, e258, c259, h261, h262⟩ := cg62 H10.1 t245
          refine k_get kg62 t245 e258 ?_
          have t263 := h_0_0.x e11
          refine k_inv (P := P_X3_isWanted) (Q := Q_X3_isWanted) rfl rfl rfl rfl (Nat.le_of_ble_eq_true rfl) (t263.rc (by decide)) ⟨_, _, _, rfl, H10, t263, (by omega), (by omega), (by omega), (by omega)⟩ (fun w264 σ265 q266 => ?_)
          obtain ⟨x267, rfl, H268, e269, h270, h271⟩ := q266
          refine k_st (st' := [.inl x267, .inl x9]) rfl ?_
          refine k_if_eq (fun h272 => ?_) (fun h272 => ?_)
          · refine hB _ _ _ _ (kgoC (is := KX3_judgeAssignment_67) rfl ?_)
            refine k_iconst (m := 0) rfl (fun x273 h274 => ?_)
            refine k_nil ?_
            refine hB _ _ _ _ (kgoC (is := KX3_judgeAssignment_68) rfl ?_)
            refine k_iand_b (b01C (by omega) (by omega)) (b01C (by omega) (by omega)) (fun x275 h276 h277 h278 h279 => ?_)
            refine k_istore_n (ls' := [(3, .inl x275), (2, .inr (.inr (some b144))), (0, .inr (.inr (some p0))), (1, .inr (.inr (some p1)))]) rfl ?_
            refine k_goto ?_
            refine hB _ _ _ _ (kgoC (is := KX3_judgeAssignment_89) rfl ?_)
            refine k_iload_n rfl ?_
            refine k_if_eq (fun h280 => ?_) (fun h280 => by exfalso; omega)
            refine hB _ _ _ _ (kgoC (is := KX3_judgeAssignment_123) rfl ?_)
            refine k_return ?_
            have X281 : ExC [68, 69, 217, 218] σ0 σ7 := ExC.rf.tr (e11.mo (by decide))
            have X282 : ExC [68, 69, 217, 218] σ0 σ265 := X281.tr (e269.mo (by decide))
            exact ⟨rfl, H268, X282⟩
          · refine k_nil ?_
            refine hB _ _ _ _ (kgoC (is := KX3_judgeAssignment_63) rfl ?_)
            refine k_iconst (m := 1) rfl (fun x283 h284 => ?_)
            refine k_goto ?_
            refine hB _ _ _ _ (kgoC (is := KX3_judgeAssignment_68) rfl ?_)
            refine k_iand_b (b01C (by omega) (by omega)) (b01C (by omega) (by omega)) (fun x285 h286 h287 h288 h289 => ?_)
            refine k_istore_n (ls' := [(3, .inl x285), (2, .inr (.inr (some b144))), (0, .inr (.inr (some p0))), (1, .inr (.inr (some p1)))]) rfl ?_
            refine k_goto ?_
            refine hB _ _ _ _ (kgoC (is := KX3_judgeAssignment_89) rfl ?_)
            refine k_iload_n rfl ?_
            refine k_if_eq (fun h290 => ?_) (fun h290 => ?_)
            · refine hB _ _ _ _ (kgoC (is := KX3_judgeAssignment_123) rfl ?_)
              refine k_return ?_
              have X291 : ExC [68, 69, 217, 218] σ0 σ7 := ExC.rf.tr (e11.mo (by decide))
              have X292 : ExC [68, 69, 217, 218] σ0 σ265 := X291.tr (e269.mo (by decide))
              exact ⟨rfl, H268, X292⟩
            · refine k_nil ?_
              refine hB _ _ _ _ (kgoC (is := KX3_judgeAssignment_93) rfl ?_)
              refine k_aload_n rfl ?_
              refine k_aload_n rfl ?_
              have t293 := t148.x e269
              have c294 := (t148.mi e269 (by decide)).trans c248
              refine k_get kg331 t293 (congrArg (Sum.inl : Int32 → AvC) c294) ?_
              have t295 := t149.x e269
              refine k_putI kp68 H268 t295 (Or.inl fk68) (tiC x249).1 (tiC x249).2 (fun σ296 H297 e298 c299 => ?_)
              refine k_aload_n rfl ?_
              refine k_aload_n rfl ?_
              have t300 := t295.x e298
              have c301 := (t149.mi e269 (by decide)).trans c151
              have c302 := (t295.mi e298 (by decide)).trans c301
              refine k_get kg61 t300 (congrArg (Sum.inl : Int32 → AvC) c302) ?_
              refine k_aload_n rfl ?_
              have t303 := t293.x e298
              have c304 := (t293.mi e298 (by decide)).trans c294
              refine k_get kg331 t303 (congrArg (Sum.inl : Int32 → AvC) c304) ?_
              refine k_aload_n rfl ?_
              have c305 := (t149.mr e269 (by decide)).trans c232
              have c306 := (t295.mr e298 (by decide)).trans c305
              refine k_get kg73 t300 (congrArg (fun z : Option Nat => (Sum.inr (Sum.inr z) : AvC)) c306) ?_
              have t307 := t245.x e269
              have t308 := t307.x e298
              obtain ⟨x311, e309, c310, h312, h313⟩ := cg68 H297.1 t308
              refine k_get kg68 t308 e309 ?_
              refine k_stat (P := P_X3_workType) (Q := Q_X3_workType) rfl rfl (Nat.le_of_ble_eq_true rfl) rfl rfl (Nat.le_of_ble_eq_true rfl) ⟨_, _, _, rfl, H297⟩ (fun w314 σ315 q316 => ?_)
              obtain ⟨x317, rfl, rfl⟩ := q316
              refine k_st (st' := [.inl x317, .inr (.inr (some p1))]) rfl ?_
              refine k_putI kp69 H297 t300 (Or.inl fk69) (tiC x317).1 (tiC x317).2 (fun σ318 H319 e320 c321 => ?_)
              refine k_nil ?_
              refine hB _ _ _ _ (kgoC (is := KX3_judgeAssignment_123) rfl ?_)
              refine k_return ?_
              have X322 : ExC [68, 69, 217, 218] σ0 σ7 := ExC.rf.tr (e11.mo (by decide))
              have X323 : ExC [68, 69, 217, 218] σ0 σ265 := X322.tr (e269.mo (by decide))
              have X324 : ExC [68, 69, 217, 218] σ0 σ296 := X323.tr (e298.mo (by decide))
              have X325 : ExC [68, 69, 217, 218] σ0 σ318 := X324.tr (e320.mo (by decide))
              exact ⟨rfl, H319, X325⟩
        · refine k_if_ne (fun h326 => ?_) (fun h326 => by exfalso; omega)
          refine hB _ _ _ _ (kgoC (is := KX3_judgeAssignment_67) rfl ?_)
          refine k_iconst (m := 0) rfl (fun x327 h328 => ?_)
          refine k_nil ?_
          refine hB _ _ _ _ (kgoC (is := KX3_judgeAssignment_68) rfl ?_)
          refine k_iand_b (b01C (by omega) (by omega)) (b01C (by omega) (by omega)) (fun x329 h330 h331 h332 h333 => ?_)
          refine k_istore_n (ls' := [(3, .inl x329), (2, .inr (.inr (some b144))), (0, .inr (.inr (some p0))), (1, .inr (.inr (some p1)))]) rfl ?_
          refine k_goto ?_
          refine hB _ _ _ _ (kgoC (is := KX3_judgeAssignment_89) rfl ?_)
          refine k_iload_n rfl ?_
          refine k_if_eq (fun h334 => ?_) (fun h334 => by exfalso; omega)
          refine hB _ _ _ _ (kgoC (is := KX3_judgeAssignment_123) rfl ?_)
          refine k_return ?_
          have X335 : ExC [68, 69, 217, 218] σ0 σ7 := ExC.rf.tr (e11.mo (by decide))
          exact ⟨rfl, H10, X335⟩
theorem lg_X3_judgeAssignment : ∀ (As : List AvC) (σ : CsC), P_X3_judgeAssignment As σ → lgC As ≤ rX3_judgeAssignment.2.2.1 := by
  rintro As σ ⟨p0, p1, rfl, -⟩
  exact Nat.le_of_ble_eq_true rfl
theorem m_X3_judgeAssignment (l : Launch) : CMetC l 12 61 P_X3_judgeAssignment Q_X3_judgeAssignment :=
  CMetC.of KX3_judgeAssignment [(51, P_X3_variableOf, Q_X3_variableOf), (59, P_X3_mayChange, Q_X3_mayChange), (63, P_X3_areTaken, Q_X3_areTaken), (52, P_X3_isFaulty, Q_X3_isFaulty), (75, P_X3_fits, Q_X3_fits), (62, P_X3_isWanted, Q_X3_isWanted), (68, P_X3_workType, Q_X3_workType)] hX3_judgeAssignment (by decide) (by decide) okX3_judgeAssignment (cc1C (m_X3_variableOf l) (by decide) (cc1C (m_X3_mayChange l) (by decide) (cc1C (m_X3_areTaken l) (by decide) (cc1C (m_X3_isFaulty l) (by decide) (cc1C (m_X3_fits l) (by decide) (cc1C (m_X3_isWanted l) (by decide) (cc1C (m_X3_workType l) (by decide) cc0C))))))) (lg_X3_judgeAssignment) (b_X3_judgeAssignment)

abbrev P_X3_workedChain : CpC := fun As σ => ∃ (p0 : Nat) (p1 : Int64) (p2 : Int64), As = [.inr (.inr (some p0)), .inr (.inl p1), .inr (.inl p2)] ∧ HIC σ ∧ TyC σ p0 2
abbrev Q_X3_workedChain : CqC := fun As σ w τ => match As with
  | [.inr (.inr (some p0)), .inr (.inl p1), .inr (.inl p2)] => ∃ r : Int64, w = some (.inr (.inl r)) ∧ σ = τ
  | _ => False
set_option maxRecDepth 100000 in
set_option maxHeartbeats 4000000 in
theorem b_X3_workedChain : TbC KX3_workedChain [(229, P_X11_worked, Q_X11_worked)] P_X3_workedChain Q_X3_workedChain := by
  · rintro As σ0 ⟨p0, p1, p2, rfl, H0, h_0_0⟩ hgr G hB hW
    change G 0 [(0, .inr (.inr (some p0))), (1, .inr (.inl p1)), (3, .inr (.inl p2))] [] σ0
    refine hB _ _ _ _ (kgoC (is := KX3_workedChain_0) rfl ?_)
    refine k_aload_n rfl ?_
    obtain ⟨x3, e1, c2, h4, h5⟩ := cg61 H0.1 h_0_0
    refine k_get kg61 h_0_0 e1 ?_
    refine k_lsw ?_
    refine k_swc (fun h6 => ?_) (fun h6 => ?_)
    · refine hB _ _ _ _ (kgoC (is := KX3_workedChain_36) rfl ?_)
      refine k_lload_n rfl ?_
      refine k_lload_n rfl ?_
      refine k_lor (fun y7 => ?_)
      refine k_lreturn ?_
      exact ⟨_, rfl, rfl⟩
    refine k_swc (fun h8 => ?_) (fun h8 => ?_)
    · refine hB _ _ _ _ (kgoC (is := KX3_workedChain_32) rfl ?_)
      refine k_lload_n rfl ?_
      refine k_lload_n rfl ?_
      refine k_land (fun y9 => ?_)
      refine k_lreturn ?_
      exact ⟨_, rfl, rfl⟩
    refine k_swn ?_
    refine hB _ _ _ _ (kgoC (is := KX3_workedChain_40) rfl ?_)
    refine k_aload_n rfl ?_
    refine k_get kg61 h_0_0 (congrArg (Sum.inl : Int32 → AvC) c2) ?_
    refine k_aload_n rfl ?_
    obtain ⟨x12, e10, c11, h13, h14⟩ := cg69 H0.1 h_0_0
    refine k_get kg69 h_0_0 e10 ?_
    refine k_lload_n rfl ?_
    refine k_lload_n rfl ?_
    refine k_stat (P := P_X11_worked) (Q := Q_X11_worked) rfl rfl (Nat.le_of_ble_eq_true rfl) rfl rfl (Nat.le_of_ble_eq_true rfl) ⟨_, _, _, _, rfl, H0⟩ (fun w15 σ16 q17 => ?_)
    obtain ⟨y18, rfl, rfl⟩ := q17
    refine k_st (st' := [.inr (.inl y18)]) rfl ?_
    refine k_lreturn ?_
    exact ⟨_, rfl, rfl⟩
theorem lg_X3_workedChain : ∀ (As : List AvC) (σ : CsC), P_X3_workedChain As σ → lgC As ≤ rX3_workedChain.2.2.1 := by
  rintro As σ ⟨p0, p1, p2, rfl, -⟩
  exact Nat.le_of_ble_eq_true rfl
theorem m_X3_workedChain (l : Launch) : CMetC l 3 70 P_X3_workedChain Q_X3_workedChain :=
  CMetC.of KX3_workedChain [(229, P_X11_worked, Q_X11_worked)] hX3_workedChain (by decide) (by decide) okX3_workedChain (cc1C (m_X11_worked l) (by decide) cc0C) (lg_X3_workedChain) (b_X3_workedChain)

abbrev P_X3_judgeChain : CpC := fun As σ => ∃ (p0 : Nat) (p1 : Nat), As = [.inr (.inr (some p0)), .inr (.inr (some p1))] ∧ HIC σ ∧ TyC σ p0 4 ∧ TyC σ p1 2
abbrev Q_X3_judgeChain : CqC := fun As σ w τ => match As with
  | [.inr (.inr (some p0)), .inr (.inr (some p1))] => w = none ∧ HIC τ ∧ ExC [68, 69, 70, 217, 218] σ τ
  | _ => False
set_option maxRecDepth 100000 in
set_option maxHeartbeats 4000000 in
theorem b_X3_judgeChain : TbC KX3_judgeChain [(52, P_X3_isFaulty, Q_X3_isFaulty), (63, P_X3_areTaken, Q_X3_areTaken), (68, P_X3_workType, Q_X3_workType), (227, P_X11_isDivision, Q_X11_isDivision), (70, P_X3_workedChain, Q_X3_workedChain)] P_X3_judgeChain Q_X3_judgeChain := by
  · rintro As σ0 ⟨p0, p1, rfl, H0, h_0_0, h_1_0⟩ hgr G hB hW
    change G 0 [(0, .inr (.inr (some p0))), (1, .inr (.inr (some p1)))] [] σ0
    refine hB _ _ _ _ (kgoC (is := KX3_judgeChain_0) rfl ?_)
    refine k_aload_n rfl ?_
    obtain ⟨o3, e1, c2, t4⟩ := cg72 H0.1 h_1_0
    refine k_get kg72 h_1_0 e1 ?_
    refine k_astore_n (ls' := [(2, .inr (.inr o3)), (0, .inr (.inr (some p0))), (1, .inr (.inr (some p1)))]) rfl ?_
    refine k_aload_n rfl ?_
    obtain ⟨o7, e5, c6, t8⟩ := cg73 H0.1 h_1_0
    refine k_get kg73 h_1_0 e5 ?_
    refine k_astore_n (ls' := [(3, .inr (.inr o7)), (2, .inr (.inr o3)), (0, .inr (.inr (some p0))), (1, .inr (.inr (some p1)))]) rfl ?_
    refine k_aload_n rfl ?_
    refine k_stat (P := P_X3_isFaulty) (Q := Q_X3_isFaulty) rfl rfl (Nat.le_of_ble_eq_true rfl) rfl rfl (Nat.le_of_ble_eq_true rfl) ⟨o3, rfl, H0, t4⟩ (fun w9 σ10 q11 => ?_)
    obtain ⟨x12, rfl, rfl, h13, h14, q15⟩ := q11
    refine k_st (st' := [.inl x12]) rfl ?_
    rcases (by omega : x12.toInt = 0 ∨ x12.toInt = 1) with g16 | g16
    · obtain ⟨b17, h18⟩ := q15 (by omega)
      subst h18
      have t19 := t4 b17 rfl
      refine k_if_ne (fun h20 => by exfalso; omega) (fun h20 => ?_)
      refine k_nil ?_
      refine hB _ _ _ _ (kgoC (is := KX3_judgeChain_17) rfl ?_)
      refine k_aload_n rfl ?_
      refine k_aload_n rfl ?_
      refine k_aload_n rfl ?_
      obtain ⟨x23, e21, c22, h24, h25⟩ := cg68 H0.1 t19
      refine k_get kg68 t19 e21 ?_
      refine k_aload_n rfl ?_
      refine k_inv (P := P_X3_areTaken) (Q := Q_X3_areTaken) rfl rfl rfl rfl (Nat.le_of_ble_eq_true rfl) (h_0_0.rc (by decide)) ⟨_, _, _, o7, rfl, H0, h_0_0, h_1_0, t8⟩ (fun w26 σ27 q28 => ?_)
      obtain ⟨x29, rfl, H30, e31, h32, h33, q34⟩ := q28
      refine k_st (st' := [.inl x29]) rfl ?_
      rcases (by omega : x29.toInt = 0 ∨ x29.toInt = 1) with g35 | g35
      · refine k_if_ne (fun h36 => by exfalso; omega) (fun h36 => ?_)
        refine k_nil ?_
        refine hB _ _ _ _ (kgoC (is := KX3_judgeChain_30) rfl ?_)
        refine k_return ?_
        have X37 : ExC [68, 69, 70, 217, 218] σ0 σ27 := ExC.rf.tr (e31.mo (by decide))
        exact ⟨rfl, H30, X37⟩
      · obtain ⟨b38, h39⟩ := q34 (by omega)
        have t40 := t8.x e31
        subst h39
        have t41 := t8 b38 rfl
        have t42 := t40 b38 rfl
        refine k_if_ne (fun h43 => ?_) (fun h43 => by exfalso; omega)
        refine hB _ _ _ _ (kgoC (is := KX3_judgeChain_31) rfl ?_)
        refine k_aload_n rfl ?_
        refine k_aload_n rfl ?_
        have t44 := h_1_0.x e31
        obtain ⟨x47, e45, c46, h48, h49⟩ := cg61 H30.1 t44
        refine k_get kg61 t44 e45 ?_
        refine k_aload_n rfl ?_
        have t50 := t19.x e31
        have c51 := (t19.mi e31 (by decide)).trans c22
        refine k_get kg68 t50 (congrArg (Sum.inl : Int32 → AvC) c51) ?_
        refine k_aload_n rfl ?_
        obtain ⟨x54, e52, c53, h55, h56⟩ := cg68 H30.1 t42
        refine k_get kg68 t42 e52 ?_
        refine k_stat (P := P_X3_workType) (Q := Q_X3_workType) rfl rfl (Nat.le_of_ble_eq_true rfl) rfl rfl (Nat.le_of_ble_eq_true rfl) ⟨_, _, _, rfl, H30⟩ (fun w57 σ58 q59 => ?_)
        obtain ⟨x60, rfl, rfl⟩ := q59
        refine k_st (st' := [.inl x60, .inr (.inr (some p1))]) rfl ?_
        refine k_putI kp69 H30 t44 (Or.inl fk69) (tiC x60).1 (tiC x60).2 (fun σ61 H62 e63 c64 => ?_)
        refine k_aload_n rfl ?_
        refine k_aload_n rfl ?_
        have t65 := t44.x e63
        have c66 := (t44.mi e63 (by decide)).trans c46
        refine k_get kg61 t65 (congrArg (Sum.inl : Int32 → AvC) c66) ?_
        refine k_bipush (m := 25) rfl (fun x67 h68 => ?_)
        refine k_ic_lt (fun h69 => ?_) (fun h69 => ?_)
        · refine hB _ _ _ _ (kgoC (is := KX3_judgeChain_73) rfl ?_)
          refine k_aload_n rfl ?_
          refine k_get kg69 t65 (congrArg (Sum.inl : Int32 → AvC) c64) ?_
          refine k_nil ?_
          refine hB _ _ _ _ (kgoC (is := KX3_judgeChain_77) rfl ?_)
          refine k_putI kp68 H62 t65 (Or.inl fk68) (tiC x60).1 (tiC x60).2 (fun σ70 H71 e72 c73 => ?_)
          refine k_aload_n rfl ?_
          refine k_aload_n rfl ?_
          have t74 := t50.x e63
          have t75 := t74.x e72
          obtain ⟨x78, e76, c77, h79, h80⟩ := cg70 H71.1 t75
          refine k_get kg70 t75 e76 ?_
          refine k_if_eq (fun h81 => ?_) (fun h81 => ?_)
          · refine hB _ _ _ _ (kgoC (is := KX3_judgeChain_118) rfl ?_)
            refine k_iconst (m := 0) rfl (fun x82 h83 => ?_)
            refine k_nil ?_
            refine hB _ _ _ _ (kgoC (is := KX3_judgeChain_119) rfl ?_)
            have t84 := t65.x e72
            refine k_putI kp70 H71 t84 (Or.inr ⟨fk70, b01C (by omega) (by omega)⟩) (by show 0 ≤ _; omega) (by show _ ≤ 1; omega) (fun σ85 H86 e87 c88 => ?_)
            refine k_aload_n rfl ?_
            have t89 := t84.x e87
            refine k_get kg70 t89 (congrArg (Sum.inl : Int32 → AvC) c88) ?_
            refine k_if_eq (fun h90 => ?_) (fun h90 => by exfalso; omega)
            refine hB _ _ _ _ (kgoC (is := KX3_judgeChain_145) rfl ?_)
            refine k_return ?_
            have X91 : ExC [68, 69, 70, 217, 218] σ0 σ27 := ExC.rf.tr (e31.mo (by decide))
            have X92 : ExC [68, 69, 70, 217, 218] σ0 σ61 := X91.tr (e63.mo (by decide))
            have X93 : ExC [68, 69, 70, 217, 218] σ0 σ70 := X92.tr (e72.mo (by decide))
            have X94 : ExC [68, 69, 70, 217, 218] σ0 σ85 := X93.tr (e87.mo (by decide))
            exact ⟨rfl, H86, X94⟩
          · refine k_nil ?_
            refine hB _ _ _ _ (kgoC (is := KX3_judgeChain_88) rfl ?_)
            refine k_aload_n rfl ?_
            have t95 := t42.x e63
            have t96 := t95.x e72
            obtain ⟨x99, e97, c98, h100, h101⟩ := cg70 H71.1 t96
            refine k_get kg70 t96 e97 ?_
            refine k_if_eq (fun h102 => ?_) (fun h102 => ?_)
            · refine hB _ _ _ _ (kgoC (is := KX3_judgeChain_118) rfl ?_)
              refine k_iconst (m := 0) rfl (fun x103 h104 => ?_)
              refine k_nil ?_
              refine hB _ _ _ _ (kgoC (is := KX3_judgeChain_119) rfl ?_)
              have t105 := t65.x e72
              refine k_putI kp70 H71 t105 (Or.inr ⟨fk70, b01C (by omega) (by omega)⟩) (by show 0 ≤ _; omega) (by show _ ≤ 1; omega) (fun σ106 H107 e108 c109 => ?_)
              refine k_aload_n rfl ?_
              have t110 := t105.x e108
              refine k_get kg70 t110 (congrArg (Sum.inl : Int32 → AvC) c109) ?_
              refine k_if_eq (fun h111 => ?_) (fun h111 => by exfalso; omega)
              refine hB _ _ _ _ (kgoC (is := KX3_judgeChain_145) rfl ?_)
              refine k_return ?_
              have X112 : ExC [68, 69, 70, 217, 218] σ0 σ27 := ExC.rf.tr (e31.mo (by decide))
              have X113 : ExC [68, 69, 70, 217, 218] σ0 σ61 := X112.tr (e63.mo (by decide))
              have X114 : ExC [68, 69, 70, 217, 218] σ0 σ70 := X113.tr (e72.mo (by decide))
              have X115 : ExC [68, 69, 70, 217, 218] σ0 σ106 := X114.tr (e108.mo (by decide))
              exact ⟨rfl, H107, X115⟩
            · refine k_nil ?_
              refine hB _ _ _ _ (kgoC (is := KX3_judgeChain_95) rfl ?_)
              refine k_aload_n rfl ?_
              have t116 := t65.x e72
              have c117 := (t65.mi e72 (by decide)).trans c66
              refine k_get kg61 t116 (congrArg (Sum.inl : Int32 → AvC) c117) ?_
              refine k_stat (P := P_X11_isDivision) (Q := Q_X11_isDivision) rfl rfl (Nat.le_of_ble_eq_true rfl) rfl rfl (Nat.le_of_ble_eq_true rfl) ⟨_, rfl, H71⟩ (fun w118 σ119 q120 => ?_)
              obtain ⟨x121, rfl, rfl, h122, h123⟩ := q120
              refine k_st (st' := [.inl x121, .inr (.inr (some p1))]) rfl ?_
              refine k_if_eq (fun h124 => ?_) (fun h124 => ?_)
              · refine hB _ _ _ _ (kgoC (is := KX3_judgeChain_114) rfl ?_)
                refine k_iconst (m := 1) rfl (fun x125 h126 => ?_)
                refine k_goto ?_
                refine hB _ _ _ _ (kgoC (is := KX3_judgeChain_119) rfl ?_)
                refine k_putI kp70 H71 t116 (Or.inr ⟨fk70, b01C (by omega) (by omega)⟩) (by show 0 ≤ _; omega) (by show _ ≤ 1; omega) (fun σ127 H128 e129 c130 => ?_)
                refine k_aload_n rfl ?_
                have t131 := t116.x e129
                refine k_get kg70 t131 (congrArg (Sum.inl : Int32 → AvC) c130) ?_
                refine k_if_eq (fun h132 => by exfalso; omega) (fun h132 => ?_)
                refine k_nil ?_
                refine hB _ _ _ _ (kgoC (is := KX3_judgeChain_129) rfl ?_)
                refine k_aload_n rfl ?_
                refine k_aload_n rfl ?_
                refine k_aload_n rfl ?_
                have t133 := t75.x e129
                obtain ⟨y136, e134, c135⟩ := cg71 (σ := σ127) (a := b17)
                refine k_get kg71 t133 e134 ?_
                refine k_aload_n rfl ?_
                have t137 := t96.x e129
                obtain ⟨y140, e138, c139⟩ := cg71 (σ := σ127) (a := b38)
                refine k_get kg71 t137 e138 ?_
                refine k_stat (P := P_X3_workedChain) (Q := Q_X3_workedChain) rfl rfl (Nat.le_of_ble_eq_true rfl) rfl rfl (Nat.le_of_ble_eq_true rfl) ⟨_, _, _, rfl, H128, t131⟩ (fun w141 σ142 q143 => ?_)
                obtain ⟨y144, rfl, rfl⟩ := q143
                refine k_st (st' := [.inr (.inl y144), .inr (.inr (some p1))]) rfl ?_
                refine k_putL kg71 H128 t131 fk71 (fun σ145 H146 e147 c148 => ?_)
                refine k_nil ?_
                refine hB _ _ _ _ (kgoC (is := KX3_judgeChain_145) rfl ?_)
                refine k_return ?_
                have X149 : ExC [68, 69, 70, 217, 218] σ0 σ27 := ExC.rf.tr (e31.mo (by decide))
                have X150 : ExC [68, 69, 70, 217, 218] σ0 σ61 := X149.tr (e63.mo (by decide))
                have X151 : ExC [68, 69, 70, 217, 218] σ0 σ70 := X150.tr (e72.mo (by decide))
                have X152 : ExC [68, 69, 70, 217, 218] σ0 σ127 := X151.tr (e129.mo (by decide))
                have X153 : ExC [68, 69, 70, 217, 218] σ0 σ145 := X152.tr (e147.mo (by decide))
                exact ⟨rfl, H146, X153⟩
              · refine k_nil ?_
                refine hB _ _ _ _ (kgoC (is := KX3_judgeChain_105) rfl ?_)
                refine k_aload_n rfl ?_
                obtain ⟨y156, e154, c155⟩ := cg71 (σ := σ70) (a := b38)
                refine k_get kg71 t96 e154 ?_
                refine k_lconst ?_
                refine k_lcmp (fun x157 h158 g159 => ?_)
                refine k_if_eq (fun h160 => ?_) (fun h160 => ?_)
                · refine hB _ _ _ _ (kgoC (is := KX3_judgeChain_118) rfl ?_)
                  refine k_iconst (m := 0) rfl (fun x161 h162 => ?_)
                  refine k_nil ?_
                  refine hB _ _ _ _ (kgoC (is := KX3_judgeChain_119) rfl ?_)
                  refine k_putI kp70 H71 t116 (Or.inr ⟨fk70, b01C (by omega) (by omega)⟩) (by show 0 ≤ _; omega) (by show _ ≤ 1; omega) (fun σ163 H164 e165 c166 => ?_)
                  refine k_aload_n rfl ?_
                  have t167 := t116.x e165
                  refine k_get kg70 t167 (congrArg (Sum.inl : Int32 → AvC) c166) ?_
                  refine k_if_eq (fun h168 => ?_) (fun h168 => by exfalso; omega)
                  refine hB _ _ _ _ (kgoC (is := KX3_judgeChain_145) rfl ?_)
                  refine k_return ?_
                  have X169 : ExC [68, 69, 70, 217, 218] σ0 σ27 := ExC.rf.tr (e31.mo (by decide))
                  have X170 : ExC [68, 69, 70, 217, 218] σ0 σ61 := X169.tr (e63.mo (by decide))
                  have X171 : ExC [68, 69, 70, 217, 218] σ0 σ70 := X170.tr (e72.mo (by decide))
                  have X172 : ExC [68, 69, 70, 217, 218] σ0 σ163 := X171.tr (e165.mo (by decide))
                  exact ⟨rfl, H164, X172⟩
                · refine k_nil ?_
                  refine hB _ _ _ _ (kgoC (is := KX3_judgeChain_114) rfl ?_)
                  refine k_iconst (m := 1) rfl (fun x173 h174 => ?_)
                  refine k_goto ?_
                  refine hB _ _ _ _ (kgoC (is := KX3_judgeChain_119) rfl ?_)
                  refine k_putI kp70 H71 t116 (Or.inr ⟨fk70, b01C (by omega) (by omega)⟩) (by show 0 ≤ _; omega) (by show _ ≤ 1; omega) (fun σ175 H176 e177 c178 => ?_)
                  refine k_aload_n rfl ?_
                  have t179 := t116.x e177
                  refine k_get kg70 t179 (congrArg (Sum.inl : Int32 → AvC) c178) ?_
                  refine k_if_eq (fun h180 => by exfalso; omega) (fun h180 => ?_)
                  refine k_nil ?_
                  refine hB _ _ _ _ (kgoC (is := KX3_judgeChain_129) rfl ?_)
                  refine k_aload_n rfl ?_
                  refine k_aload_n rfl ?_
                  refine k_aload_n rfl ?_
                  have t181 := t75.x e177
                  obtain ⟨y184, e182, c183⟩ := cg71 (σ := σ175) (a := b17)
                  refine k_get kg71 t181 e182 ?_
                  refine k_aload_n rfl ?_
                  have t185 := t96.x e177
                  obtain ⟨y188, e186, c187⟩ := cg71 (σ := σ175) (a := b38)
                  refine k_get kg71 t185 e186 ?_
                  refine k_stat (P := P_X3_workedChain) (Q := Q_X3_workedChain) rfl rfl (Nat.le_of_ble_eq_true rfl) rfl rfl (Nat.le_of_ble_eq_true rfl) ⟨_, _, _, rfl, H176, t179⟩ (fun w189 σ190 q191 => ?_)
                  obtain ⟨y192, rfl, rfl⟩ := q191
                  refine k_st (st' := [.inr (.inl y192), .inr (.inr (some p1))]) rfl ?_
                  refine k_putL kg71 H176 t179 fk71 (fun σ193 H194 e195 c196 => ?_)
                  refine k_nil ?_
                  refine hB _ _ _ _ (kgoC (is := KX3_judgeChain_145) rfl ?_)
                  refine k_return ?_
                  have X197 : ExC [68, 69, 70, 217, 218] σ0 σ27 := ExC.rf.tr (e31.mo (by decide))
                  have X198 : ExC [68, 69, 70, 217, 218] σ0 σ61 := X197.tr (e63.mo (by decide))
                  have X199 : ExC [68, 69, 70, 217, 218] σ0 σ70 := X198.tr (e72.mo (by decide))
                  have X200 : ExC [68, 69, 70, 217, 218] σ0 σ175 := X199.tr (e177.mo (by decide))
                  have X201 : ExC [68, 69, 70, 217, 218] σ0 σ193 := X200.tr (e195.mo (by decide))
                  exact ⟨rfl, H194, X201⟩
        · refine k_nil ?_
          refine hB _ _ _ _ (kgoC (is := KX3_judgeChain_60) rfl ?_)
          refine k_aload_n rfl ?_
          refine k_get kg61 t65 (congrArg (Sum.inl : Int32 → AvC) c66) ?_
          refine k_bipush (m := 30) rfl (fun x202 h203 => ?_)
          refine k_ic_gt (fun h204 => ?_) (fun h204 => ?_)
          · refine hB _ _ _ _ (kgoC (is := KX3_judgeChain_73) rfl ?_)
            refine k_aload_n rfl ?_
            refine k_get kg69 t65 (congrArg (Sum.inl : Int32 → AvC) c64) ?_
            refine k_nil ?_
            refine hB _ _ _ _ (kgoC (is := KX3_judgeChain_77) rfl ?_)
            refine k_putI kp68 H62 t65 (Or.inl fk68) (tiC x60).1 (tiC x60).2 (fun σ205 H206 e207 c208 => ?_)
            refine k_aload_n rfl ?_
            refine k_aload_n rfl ?_
            have t209 := t50.x e63
            have t210 := t209.x e207
            obtain ⟨x213, e211, c212, h214, h215⟩ := cg70 H206.1 t210
            refine k_get kg70 t210 e211 ?_
            refine k_if_eq (fun h216 => ?_) (fun h216 => ?_)
            · refine hB _ _ _ _ (kgoC (is := KX3_judgeChain_118) rfl ?_)
              refine k_iconst (m := 0) rfl (fun x217 h218 => ?_)
              refine k_nil ?_
              refine hB _ _ _ _ (kgoC (is := KX3_judgeChain_119) rfl ?_)
              have t219 := t65.x e207
              refine k_putI kp70 H206 t219 (Or.inr ⟨fk70, b01C (by omega) (by omega)⟩) (by show 0 ≤ _; omega) (by show _ ≤ 1; omega) (fun σ220 H221 e222 c223 => ?_)
              refine k_aload_n rfl ?_
              have t224 := t219.x e222
              refine k_get kg70 t224 (congrArg (Sum.inl : Int32 → AvC) c223) ?_
              refine k_if_eq (fun h225 => ?_) (fun h225 => by exfalso; omega)
              refine hB _ _ _ _ (kgoC (is := KX3_judgeChain_145) rfl ?_)
              refine k_return ?_
              have X226 : ExC [68, 69, 70, 217, 218] σ0 σ27 := ExC.rf.tr (e31.mo (by decide))
              have X227 : ExC [68, 69, 70, 217, 218] σ0 σ61 := X226.tr (e63.mo (by decide))
              have X228 : ExC [68, 69, 70, 217, 218] σ0 σ205 := X227.tr (e207.mo (by decide))
              have X229 : ExC [68, 69, 70, 217, 218] σ0 σ220 := X228.tr (e222.mo (by decide))
              exact ⟨rfl, H221, X229⟩
            · refine k_nil ?_
              refine hB _ _ _ _ (kgoC (is := KX3_judgeChain_88) rfl ?_)
              refine k_aload_n rfl ?_
              have t230 := t42.x e63
              have t231 := t230.x e207
              obtain ⟨x234, e232, c233, h235, h236⟩ := cg70 H206.1 t231
              refine k_get kg70 t231 e232 ?_
              refine k_if_eq (fun h237 => ?_) (fun h237 => ?_)
              · refine hB _ _ _ _ (kgoC (is := KX3_judgeChain_118) rfl ?_)
                refine k_iconst (m := 0) rfl (fun x238 h239 => ?_)
                refine k_nil ?_
                refine hB _ _ _ _ (kgoC (is := KX3_judgeChain_119) rfl ?_)
                have t240 := t65.x e207
                refine k_putI kp70 H206 t240 (Or.inr ⟨fk70, b01C (by omega) (by omega)⟩) (by show 0 ≤ _; omega) (by show _ ≤ 1; omega) (fun σ241 H242 e243 c244 => ?_)
                refine k_aload_n rfl ?_
                have t245 := t240.x e243
                refine k_get kg70 t245 (congrArg (Sum.inl : Int32 → AvC) c244) ?_
                refine k_if_eq (fun h246 => ?_) (fun h246 => by exfalso; omega)
                refine hB _ _ _ _ (kgoC (is := KX3_judgeChain_145) rfl ?_)
                refine k_return ?_
                have X247 : ExC [68, 69, 70, 217, 218] σ0 σ27 := ExC.rf.tr (e31.mo (by decide))
                have X248 : ExC [68, 69, 70, 217, 218] σ0 σ61 := X247.tr (e63.mo (by decide))
                have X249 : ExC [68, 69, 70, 217, 218] σ0 σ205 := X248.tr (e207.mo (by decide))
                have X250 : ExC [68, 69, 70, 217, 218] σ0 σ241 := X249.tr (e243.mo (by decide))
                exact ⟨rfl, H242, X250⟩
              · refine k_nil ?_
                refine hB _ _ _ _ (kgoC (is := KX3_judgeChain_95) rfl ?_)
                refine k_aload_n rfl ?_
                have t251 := t65.x e207
                have c252 := (t65.mi e207 (by decide)).trans c66
                refine k_get kg61 t251 (congrArg (Sum.inl : Int32 → AvC) c252) ?_
                refine k_stat (P := P_X11_isDivision) (Q := Q_X11_isDivision) rfl rfl (Nat.le_of_ble_eq_true rfl) rfl rfl (Nat.le_of_ble_eq_true rfl) ⟨_, rfl, H206⟩ (fun w253 σ254 q255 => ?_)
                obtain ⟨x256, rfl, rfl, h257, h258⟩ := q255
                refine k_st (st' := [.inl x256, .inr (.inr (some p1))]) rfl ?_
                refine k_if_eq (fun h259 => ?_) (fun h259 => ?_)
                · refine hB _ _ _ _ (kgoC (is := KX3_judgeChain_114) rfl ?_)
                  refine k_iconst (m := 1) rfl (fun x260 h261 => ?_)
                  refine k_goto ?_
                  refine hB _ _ _ _ (kgoC (is := KX3_judgeChain_119) rfl ?_)
                  refine k_putI kp70 H206 t251 (Or.inr ⟨fk70, b01C (by omega) (by omega)⟩) (by show 0 ≤ _; omega) (by show _ ≤ 1; omega) (fun σ262 H263 e264 c265 => ?_)
                  refine k_aload_n rfl ?_
                  have t266 := t251.x e264
                  refine k_get kg70 t266 (congrArg (Sum.inl : Int32 → AvC) c265) ?_
                  refine k_if_eq (fun h267 => by exfalso; omega) (fun h267 => ?_)
                  refine k_nil ?_
                  refine hB _ _ _ _ (kgoC (is := KX3_judgeChain_129) rfl ?_)
                  refine k_aload_n rfl ?_
                  refine k_aload_n rfl ?_
                  refine k_aload_n rfl ?_
                  have t268 := t210.x e264
                  obtain ⟨y271, e269, c270⟩ := cg71 (σ := σ262) (a := b17)
                  refine k_get kg71 t268 e269 ?_
                  refine k_aload_n rfl ?_
                  have t272 := t231.x e264
                  obtain ⟨y275, e273, c274⟩ := cg71 (σ := σ262) (a := b38)
                  refine k_get kg71 t272 e273 ?_
                  refine k_stat (P := P_X3_workedChain) (Q := Q_X3_workedChain) rfl rfl (Nat.le_of_ble_eq_true rfl) rfl rfl (Nat.le_of_ble_eq_true rfl) ⟨_, _, _, rfl, H263, t266⟩ (fun w276 σ277 q278 => ?_)
                  obtain ⟨y279, rfl, rfl⟩ := q278
                  refine k_st (st' := [.inr (.inl y279), .inr (.inr (some p1))]) rfl ?_
                  refine k_putL kg71 H263 t266 fk71 (fun σ280 H281 e282 c283 => ?_)
                  refine k_nil ?_
                  refine hB _ _ _ _ (kgoC (is := KX3_judgeChain_145) rfl ?_)
                  refine k_return ?_
                  have X284 : ExC [68, 69, 70, 217, 218] σ0 σ27 := ExC.rf.tr (e31.mo (by decide))
                  have X285 : ExC [68, 69, 70, 217, 218] σ0 σ61 := X284.tr (e63.mo (by decide))
                  have X286 : ExC [68, 69, 70, 217, 218] σ0 σ205 := X285.tr (e207.mo (by decide))
                  have X287 : ExC [68, 69, 70, 217, 218] σ0 σ262 := X286.tr (e264.mo (by decide))
                  have X288 : ExC [68, 69, 70, 217, 218] σ0 σ280 := X287.tr (e282.mo (by decide))
                  exact ⟨rfl, H281, X288⟩
                · refine k_nil ?_
                  refine hB _ _ _ _ (kgoC (is := KX3_judgeChain_105) rfl ?_)
                  refine k_aload_n rfl ?_
                  obtain ⟨y291, e289, c290⟩ := cg71 (σ := σ205) (a := b38)
                  refine k_get kg71 t231 e289 ?_
                  refine k_lconst ?_
                  refine k_lcmp (fun x292 h293 g294 => ?_)
                  refine k_if_eq (fun h295 => ?_) (fun h295 => ?_)
                  · refine hB _ _ _ _ (kgoC (is := KX3_judgeChain_118) rfl ?_)
                    refine k_iconst (m := 0) rfl (fun x296 h297 => ?_)
                    refine k_nil ?_
                    refine hB _ _ _ _ (kgoC (is := KX3_judgeChain_119) rfl ?_)
                    refine k_putI kp70 H206 t251 (Or.inr ⟨fk70, b01C (by omega) (by omega)⟩) (by show 0 ≤ _; omega) (by show _ ≤ 1; omega) (fun σ298 H299 e300 c301 => ?_)
                    refine k_aload_n rfl ?_
                    have t302 := t251.x e300
                    refine k_get kg70 t302 (congrArg (Sum.inl : Int32 → AvC) c301) ?_
                    refine k_if_eq (fun h303 => ?_) (fun h303 => by exfalso; omega)
                    refine hB _ _ _ _ (kgoC (is := KX3_judgeChain_145) rfl ?_)
                    refine k_return ?_
                    have X304 : ExC [68, 69, 70, 217, 218] σ0 σ27 := ExC.rf.tr (e31.mo (by decide))
                    have X305 : ExC [68, 69, 70, 217, 218] σ0 σ61 := X304.tr (e63.mo (by decide))
                    have X306 : ExC [68, 69, 70, 217, 218] σ0 σ205 := X305.tr (e207.mo (by decide))
                    have X307 : ExC [68, 69, 70, 217, 218] σ0 σ298 := X306.tr (e300.mo (by decide))
                    exact ⟨rfl, H299, X307⟩
                  · refine k_nil ?_
                    refine hB _ _ _ _ (kgoC (is := KX3_judgeChain_114) rfl ?_)
                    refine k_iconst (m := 1) rfl (fun x308 h309 => ?_)
                    refine k_goto ?_
                    refine hB _ _ _ _ (kgoC (is := KX3_judgeChain_119) rfl ?_)
                    refine k_putI kp70 H206 t251 (Or.inr ⟨fk70, b01C (by omega) (by omega)⟩) (by show 0 ≤ _; omega) (by show _ ≤ 1; omega) (fun σ310 H311 e312 c313 => ?_)
                    refine k_aload_n rfl ?_
                    have t314 := t251.x e312
                    refine k_get kg70 t314 (congrArg (Sum.inl : Int32 → AvC) c313) ?_
                    refine k_if_eq (fun h315 => by exfalso; omega) (fun h315 => ?_)
                    refine k_nil ?_
                    refine hB _ _ _ _ (kgoC (is := KX3_judgeChain_129) rfl ?_)
                    refine k_aload_n rfl ?_
                    refine k_aload_n rfl ?_
                    refine k_aload_n rfl ?_
                    have t316 := t210.x e312
                    obtain ⟨y319, e317, c318⟩ := cg71 (σ := σ310) (a := b17)
                    refine k_get kg71 t316 e317 ?_
                    refine k_aload_n rfl ?_
                    have t320 := t231.x e312
                    obtain ⟨y323, e321, c322⟩ := cg71 (σ := σ310) (a := b38)
                    refine k_get kg71 t320 e321 ?_
                    refine k_stat (P := P_X3_workedChain) (Q := Q_X3_workedChain) rfl rfl (Nat.le_of_ble_eq_true rfl) rfl rfl (Nat.le_of_ble_eq_true rfl) ⟨_, _, _, rfl, H311, t314⟩ (fun w324 σ325 q326 => ?_)
                    obtain ⟨y327, rfl, rfl⟩ := q326
                    refine k_st (st' := [.inr (.inl y327), .inr (.inr (some p1))]) rfl ?_
                    refine k_putL kg71 H311 t314 fk71 (fun σ328 H329 e330 c331 => ?_)
                    refine k_nil ?_
                    refine hB _ _ _ _ (kgoC (is := KX3_judgeChain_145) rfl ?_)
                    refine k_return ?_
                    have X332 : ExC [68, 69, 70, 217, 218] σ0 σ27 := ExC.rf.tr (e31.mo (by decide))
                    have X333 : ExC [68, 69, 70, 217, 218] σ0 σ61 := X332.tr (e63.mo (by decide))
                    have X334 : ExC [68, 69, 70, 217, 218] σ0 σ205 := X333.tr (e207.mo (by decide))
                    have X335 : ExC [68, 69, 70, 217, 218] σ0 σ310 := X334.tr (e312.mo (by decide))
                    have X336 : ExC [68, 69, 70, 217, 218] σ0 σ328 := X335.tr (e330.mo (by decide))
                    exact ⟨rfl, H329, X336⟩
          · refine k_nil ?_
            refine hB _ _ _ _ (kgoC (is := KX3_judgeChain_69) rfl ?_)
            refine k_iconst (m := 0) rfl (fun x337 h338 => ?_)
            refine k_goto ?_
            refine hB _ _ _ _ (kgoC (is := KX3_judgeChain_77) rfl ?_)
            refine k_putI kp68 H62 t65 (Or.inl fk68) (tiC x337).1 (tiC x337).2 (fun σ339 H340 e341 c342 => ?_)
            refine k_aload_n rfl ?_
            refine k_aload_n rfl ?_
            have t343 := t50.x e63
            have t344 := t343.x e341
            obtain ⟨x347, e345, c346, h348, h349⟩ := cg70 H340.1 t344
            refine k_get kg70 t344 e345 ?_
            refine k_if_eq (fun h350 => ?_) (fun h350 => ?_)
            · refine hB _ _ _ _ (kgoC (is := KX3_judgeChain_118) rfl ?_)
              refine k_iconst (m := 0) rfl (fun x351 h352 => ?_)
              refine k_nil ?_
              refine hB _ _ _ _ (kgoC (is := KX3_judgeChain_119) rfl ?_)
              have t353 := t65.x e341
              refine k_putI kp70 H340 t353 (Or.inr ⟨fk70, b01C (by omega) (by omega)⟩) (by show 0 ≤ _; omega) (by show _ ≤ 1; omega) (fun σ354 H355 e356 c357 => ?_)
              refine k_aload_n rfl ?_
              have t358 := t353.x e356
              refine k_get kg70 t358 (congrArg (Sum.inl : Int32 → AvC) c357) ?_
              refine k_if_eq (fun h359 => ?_) (fun h359 => by exfalso; omega)
              refine hB _ _ _ _ (kgoC (is := KX3_judgeChain_145) rfl ?_)
              refine k_return ?_
              have X360 : ExC [68, 69, 70, 217, 218] σ0 σ27 := ExC.rf.tr (e31.mo (by decide))
              have X361 : ExC [68, 69, 70, 217, 218] σ0 σ61 := X360.tr (e63.mo (by decide))
              have X362 : ExC [68, 69, 70, 217, 218] σ0 σ339 := X361.tr (e341.mo (by decide))
              have X363 : ExC [68, 69, 70, 217, 218] σ0 σ354 := X362.tr (e356.mo (by decide))
              exact ⟨rfl, H355, X363⟩
            · refine k_nil ?_
              refine hB _ _ _ _ (kgoC (is := KX3_judgeChain_88) rfl ?_)
              refine k_aload_n rfl ?_
              have t364 := t42.x e63
              have t365 := t364.x e341
              obtain ⟨x368, e366, c367, h369, h370⟩ := cg70 H340.1 t365
              refine k_get kg70 t365 e366 ?_
              refine k_if_eq (fun h371 => ?_) (fun h371 => ?_)
              · refine hB _ _ _ _ (kgoC (is := KX3_judgeChain_118) rfl ?_)
                refine k_iconst (m := 0) rfl (fun x372 h373 => ?_)
                refine k_nil ?_
                refine hB _ _ _ _ (kgoC (is := KX3_judgeChain_119) rfl ?_)
                have t374 := t65.x e341
                refine k_putI kp70 H340 t374 (Or.inr ⟨fk70, b01C (by omega) (by omega)⟩) (by show 0 ≤ _; omega) (by show _ ≤ 1; omega) (fun σ375 H376 e377 c378 => ?_)
                refine k_aload_n rfl ?_
                have t379 := t374.x e377
                refine k_get kg70 t379 (congrArg (Sum.inl : Int32 → AvC) c378) ?_
                refine k_if_eq (fun h380 => ?_) (fun h380 => by exfalso; omega)
                refine hB _ _ _ _ (kgoC (is := KX3_judgeChain_145) rfl ?_)
                refine k_return ?_
                have X381 : ExC [68, 69, 70, 217, 218] σ0 σ27 := ExC.rf.tr (e31.mo (by decide))
                have X382 : ExC [68, 69, 70, 217, 218] σ0 σ61 := X381.tr (e63.mo (by decide))
                have X383 : ExC [68, 69, 70, 217, 218] σ0 σ339 := X382.tr (e341.mo (by decide))
                have X384 : ExC [68, 69, 70, 217, 218] σ0 σ375 := X383.tr (e377.mo (by decide))
                exact ⟨rfl, H376, X384⟩
              · refine k_nil ?_
                refine hB _ _ _ _ (kgoC (is := KX3_judgeChain_95) rfl ?_)
                refine k_aload_n rfl ?_
                have t385 := t65.x e341
                have c386 := (t65.mi e341 (by decide)).trans c66
                refine k_get kg61 t385 (congrArg (Sum.inl : Int32 → AvC) c386) ?_
                refine k_stat (P := P_X11_isDivision) (Q := Q_X11_isDivision) rfl rfl (Nat.le_of_ble_eq_true rfl) rfl rfl (Nat.le_of_ble_eq_true rfl) ⟨_, rfl, H340⟩ (fun w387 σ388 q389 => ?_)
                obtain ⟨x390, rfl, rfl, h391, h392⟩ := q389
                refine k_st (st' := [.inl x390, .inr (.inr (some p1))]) rfl ?_
                refine k_if_eq (fun h393 => ?_) (fun h393 => ?_)
                · refine hB _ _ _ _ (kgoC (is := KX3_judgeChain_114) rfl ?_)
                  refine k_iconst (m := 1) rfl (fun x394 h395 => ?_)
                  refine k_goto ?_
                  refine hB _ _ _ _ (kgoC (is := KX3_judgeChain_119) rfl ?_)
                  refine k_putI kp70 H340 t385 (Or.inr ⟨fk70, b01C (by omega) (by omega)⟩) (by show 0 ≤ _; omega) (by show _ ≤ 1; omega) (fun σ396 H397 e398 c399 => ?_)
                  refine k_aload_n rfl ?_
                  have t400 := t385.x e398
                  refine k_get kg70 t400 (congrArg (Sum.inl : Int32 → AvC) c399) ?_
                  refine k_if_eq (fun h401 => by exfalso; omega) (fun h401 => ?_)
                  refine k_nil ?_
                  refine hB _ _ _ _ (kgoC (is := KX3_judgeChain_129) rfl ?_)
                  refine k_aload_n rfl ?_
                  refine k_aload_n rfl ?_
                  refine k_aload_n rfl ?_
                  have t402 := t344.x e398
                  obtain ⟨y405, e403, c404⟩ := cg71 (σ := σ396) (a := b17)
                  refine k_get kg71 t402 e403 ?_
                  refine k_aload_n rfl ?_
                  have t406 := t365.x e398
                  obtain ⟨y409, e407, c408⟩ := cg71 (σ := σ396) (a := b38)
                  refine k_get kg71 t406 e407 ?_
                  refine k_stat (P := P_X3_workedChain) (Q := Q_X3_workedChain) rfl rfl (Nat.le_of_ble_eq_true rfl) rfl rfl (Nat.le_of_ble_eq_true rfl) ⟨_, _, _, rfl, H397, t400⟩ (fun w410 σ411 q412 => ?_)
                  obtain ⟨y413, rfl, rfl⟩ := q412
                  refine k_st (st' := [.inr (.inl y413), .inr (.inr (some p1))]) rfl ?_
                  refine k_putL kg71 H397 t400 fk71 (fun σ414 H415 e416 c417 => ?_)
                  refine k_nil ?_
                  refine hB _ _ _ _ (kgoC (is := KX3_judgeChain_145) rfl ?_)
                  refine k_return ?_
                  have X418 : ExC [68, 69, 70, 217, 218] σ0 σ27 := ExC.rf.tr (e31.mo (by decide))
                  have X419 : ExC [68, 69, 70, 217, 218] σ0 σ61 := X418.tr (e63.mo (by decide))
                  have X420 : ExC [68, 69, 70, 217, 218] σ0 σ339 := X419.tr (e341.mo (by decide))
                  have X421 : ExC [68, 69, 70, 217, 218] σ0 σ396 := X420.tr (e398.mo (by decide))
                  have X422 : ExC [68, 69, 70, 217, 218] σ0 σ414 := X421.tr (e416.mo (by decide))
                  exact ⟨rfl, H415, X422⟩
                · refine k_nil ?_
                  refine hB _ _ _ _ (kgoC (is := KX3_judgeChain_105) rfl ?_)
                  refine k_aload_n rfl ?_
                  obtain ⟨y425, e423, c424⟩ := cg71 (σ := σ339) (a := b38)
                  refine k_get kg71 t365 e423 ?_
                  refine k_lconst ?_
                  refine k_lcmp (fun x426 h427 g428 => ?_)
                  refine k_if_eq (fun h429 => ?_) (fun h429 => ?_)
                  · refine hB _ _ _ _ (kgoC (is := KX3_judgeChain_118) rfl ?_)
                    refine k_iconst (m := 0) rfl (fun x430 h431 => ?_)
                    refine k_nil ?_
                    refine hB _ _ _ _ (kgoC (is := KX3_judgeChain_119) rfl ?_)
                    refine k_putI kp70 H340 t385 (Or.inr ⟨fk70, b01C (by omega) (by omega)⟩) (by show 0 ≤ _; omega) (by show _ ≤ 1; omega) (fun σ432 H433 e434 c435 => ?_)
                    refine k_aload_n rfl ?_
                    have t436 := t385.x e434
                    refine k_get kg70 t436 (congrArg (Sum.inl : Int32 → AvC) c435) ?_
                    refine k_if_eq (fun h437 => ?_) (fun h437 => by exfalso; omega)
                    refine hB _ _ _ _ (kgoC (is := KX3_judgeChain_145) rfl ?_)
                    refine k_return ?_
                    have X438 : ExC [68, 69, 70, 217, 218] σ0 σ27 := ExC.rf.tr (e31.mo (by decide))
                    have X439 : ExC [68, 69, 70, 217, 218] σ0 σ61 := X438.tr (e63.mo (by decide))
                    have X440 : ExC [68, 69, 70, 217, 218] σ0 σ339 := X439.tr (e341.mo (by decide))
                    have X441 : ExC [68, 69, 70, 217, 218] σ0 σ432 := X440.tr (e434.mo (by decide))
                    exact ⟨rfl, H433, X441⟩
                  · refine k_nil ?_
                    refine hB _ _ _ _ (kgoC (is := KX3_judgeChain_114) rfl ?_)
                    refine k_iconst (m := 1) rfl (fun x442 h443 => ?_)
                    refine k_goto ?_
                    refine hB _ _ _ _ (kgoC (is := KX3_judgeChain_119) rfl ?_)
                    refine k_putI kp70 H340 t385 (Or.inr ⟨fk70, b01C (by omega) (by omega)⟩) (by show 0 ≤ _; omega) (by show _ ≤ 1; omega) (fun σ444 H445 e446 c447 => ?_)
                    refine k_aload_n rfl ?_
                    have t448 := t385.x e446
                    refine k_get kg70 t448 (congrArg (Sum.inl : Int32 → AvC) c447) ?_
                    refine k_if_eq (fun h449 => by exfalso; omega) (fun h449 => ?_)
                    refine k_nil ?_
                    refine hB _ _ _ _ (kgoC (is := KX3_judgeChain_129) rfl ?_)
                    refine k_aload_n rfl ?_
                    refine k_aload_n rfl ?_
                    refine k_aload_n rfl ?_
                    have t450 := t344.x e446
                    obtain ⟨y453, e451, c452⟩ := cg71 (σ := σ444) (a := b17)
                    refine k_get kg71 t450 e451 ?_
                    refine k_aload_n rfl ?_
                    have t454 := t365.x e446
                    obtain ⟨y457, e455, c456⟩ := cg71 (σ := σ444) (a := b38)
                    refine k_get kg71 t454 e455 ?_
                    refine k_stat (P := P_X3_workedChain) (Q := Q_X3_workedChain) rfl rfl (Nat.le_of_ble_eq_true rfl) rfl rfl (Nat.le_of_ble_eq_true rfl) ⟨_, _, _, rfl, H445, t448⟩ (fun w458 σ459 q460 => ?_)
                    obtain ⟨y461, rfl, rfl⟩ := q460
                    refine k_st (st' := [.inr (.inl y461), .inr (.inr (some p1))]) rfl ?_
                    refine k_putL kg71 H445 t448 fk71 (fun σ462 H463 e464 c465 => ?_)
                    refine k_nil ?_
                    refine hB _ _ _ _ (kgoC (is := KX3_judgeChain_145) rfl ?_)
                    refine k_return ?_
                    have X466 : ExC [68, 69, 70, 217, 218] σ0 σ27 := ExC.rf.tr (e31.mo (by decide))
                    have X467 : ExC [68, 69, 70, 217, 218] σ0 σ61 := X466.tr (e63.mo (by decide))
                    have X468 : ExC [68, 69, 70, 217, 218] σ0 σ339 := X467.tr (e341.mo (by decide))
                    have X469 : ExC [68, 69, 70, 217, 218] σ0 σ444 := X468.tr (e446.mo (by decide))
                    have X470 : ExC [68, 69, 70, 217, 218] σ0 σ462 := X469.tr (e464.mo (by decide))
                    exact ⟨rfl, H463, X470⟩
    · refine k_if_ne (fun h471 => ?_) (fun h471 => by exfalso; omega)
      refine hB _ _ _ _ (kgoC (is := KX3_judgeChain_30) rfl ?_)
      refine k_return ?_
      exact ⟨rfl, H0, (ExC.rf : ExC [68, 69, 70, 217, 218] σ0 σ0)⟩
theorem lg_X3_judgeChain : ∀ (As : List AvC) (σ : CsC), P_X3_judgeChain As σ → lgC As ≤ rX3_judgeChain.2.2.1 := by
  rintro As σ ⟨p0, p1, rfl, -⟩
  exact Nat.le_of_ble_eq_true rfl
theorem m_X3_judgeChain (l : Launch) : CMetC l 4 69 P_X3_judgeChain Q_X3_judgeChain :=
  CMetC.of KX3_judgeChain [(52, P_X3_isFaulty, Q_X3_isFaulty), (63, P_X3_areTaken, Q_X3_areTaken), (68, P_X3_workType, Q_X3_workType), (227, P_X11_isDivision, Q_X11_isDivision), (70, P_X3_workedChain, Q_X3_workedChain)] hX3_judgeChain (by decide) (by decide) okX3_judgeChain (cc1C (m_X3_isFaulty l) (by decide) (cc1C (m_X3_areTaken l) (by decide) (cc1C (m_X3_workType l) (by decide) (cc1C (m_X11_isDivision l) (by decide) (cc1C (m_X3_workedChain l) (by decide) cc0C))))) (lg_X3_judgeChain) (b_X3_judgeChain)

abbrev P_X3_choiceType : CpC := fun As σ => ∃ (p0 : Nat) (p1 : Nat), As = [.inr (.inr (some p0)), .inr (.inr (some p1))] ∧ HIC σ ∧ TyC σ p0 2 ∧ TyC σ p1 2
abbrev Q_X3_choiceType : CqC := fun As σ w τ => match As with
  | [.inr (.inr (some p0)), .inr (.inr (some p1))] => ∃ r : Int32, w = some (.inl r) ∧ σ = τ
  | _ => False
set_option maxRecDepth 100000 in
set_option maxHeartbeats 4000000 in
theorem b_X3_choiceType : TbC KX3_choiceType [(73, P_X3_isSmall, Q_X3_isSmall), (74, P_X3_isHeld, Q_X3_isHeld)] P_X3_choiceType Q_X3_choiceType := by
  · rintro As σ0 ⟨p0, p1, rfl, H0, h_0_0, h_1_0⟩ hgr G hB hW
    change G 0 [(0, .inr (.inr (some p0))), (1, .inr (.inr (some p1)))] [] σ0
    refine hB _ _ _ _ (kgoC (is := KX3_choiceType_0) rfl ?_)
    refine k_aload_n rfl ?_
    obtain ⟨x3, e1, c2, h4, h5⟩ := cg68 H0.1 h_0_0
    refine k_get kg68 h_0_0 e1 ?_
    refine k_aload_n rfl ?_
    obtain ⟨x8, e6, c7, h9, h10⟩ := cg68 H0.1 h_1_0
    refine k_get kg68 h_1_0 e6 ?_
    refine k_ic_ne (fun h11 => ?_) (fun h11 => ?_)
    · refine hB _ _ _ _ (kgoC (is := KX3_choiceType_16) rfl ?_)
      refine k_aload_n rfl ?_
      refine k_get kg68 h_0_0 (congrArg (Sum.inl : Int32 → AvC) c2) ?_
      refine k_stat (P := P_X3_isSmall) (Q := Q_X3_isSmall) rfl rfl (Nat.le_of_ble_eq_true rfl) rfl rfl (Nat.le_of_ble_eq_true rfl) ⟨_, rfl, H0⟩ (fun w12 σ13 q14 => ?_)
      obtain ⟨x15, rfl, rfl, h16, h17⟩ := q14
      refine k_st (st' := [.inl x15]) rfl ?_
      refine k_if_eq (fun h18 => ?_) (fun h18 => ?_)
      · refine hB _ _ _ _ (kgoC (is := KX3_choiceType_50) rfl ?_)
        refine k_aload_n rfl ?_
        refine k_get kg68 h_1_0 (congrArg (Sum.inl : Int32 → AvC) c7) ?_
        refine k_stat (P := P_X3_isSmall) (Q := Q_X3_isSmall) rfl rfl (Nat.le_of_ble_eq_true rfl) rfl rfl (Nat.le_of_ble_eq_true rfl) ⟨_, rfl, H0⟩ (fun w19 σ20 q21 => ?_)
        obtain ⟨x22, rfl, rfl, h23, h24⟩ := q21
        refine k_st (st' := [.inl x22]) rfl ?_
        refine k_if_eq (fun h25 => ?_) (fun h25 => ?_)
        · refine hB _ _ _ _ (kgoC (is := KX3_choiceType_84) rfl ?_)
          refine k_aload_n rfl ?_
          refine k_get kg68 h_0_0 (congrArg (Sum.inl : Int32 → AvC) c2) ?_
          refine k_iconst (m := 4) rfl (fun x26 h27 => ?_)
          refine k_ic_eq (fun h28 => ?_) (fun h28 => ?_)
          · refine hB _ _ _ _ (kgoC (is := KX3_choiceType_100) rfl ?_)
            refine k_iconst (m := 4) rfl (fun x29 h30 => ?_)
            refine k_goto ?_
            refine hB _ _ _ _ (kgoC (is := KX3_choiceType_105) rfl ?_)
            refine k_ireturn (fun hz => absurd hz (by decide)) ?_
            exact ⟨_, rfl, rfl⟩
          · refine k_nil ?_
            refine hB _ _ _ _ (kgoC (is := KX3_choiceType_92) rfl ?_)
            refine k_aload_n rfl ?_
            refine k_get kg68 h_1_0 (congrArg (Sum.inl : Int32 → AvC) c7) ?_
            refine k_iconst (m := 4) rfl (fun x31 h32 => ?_)
            refine k_ic_ne (fun h33 => ?_) (fun h33 => ?_)
            · refine hB _ _ _ _ (kgoC (is := KX3_choiceType_104) rfl ?_)
              refine k_iconst (m := 3) rfl (fun x34 h35 => ?_)
              refine k_nil ?_
              refine hB _ _ _ _ (kgoC (is := KX3_choiceType_105) rfl ?_)
              refine k_ireturn (fun hz => absurd hz (by decide)) ?_
              exact ⟨_, rfl, rfl⟩
            · refine k_nil ?_
              refine hB _ _ _ _ (kgoC (is := KX3_choiceType_100) rfl ?_)
              refine k_iconst (m := 4) rfl (fun x36 h37 => ?_)
              refine k_goto ?_
              refine hB _ _ _ _ (kgoC (is := KX3_choiceType_105) rfl ?_)
              refine k_ireturn (fun hz => absurd hz (by decide)) ?_
              exact ⟨_, rfl, rfl⟩
        · refine k_nil ?_
          refine hB _ _ _ _ (kgoC (is := KX3_choiceType_60) rfl ?_)
          refine k_aload_n rfl ?_
          refine k_get kg68 h_0_0 (congrArg (Sum.inl : Int32 → AvC) c2) ?_
          refine k_iconst (m := 3) rfl (fun x38 h39 => ?_)
          refine k_ic_ne (fun h40 => ?_) (fun h40 => ?_)
          · refine hB _ _ _ _ (kgoC (is := KX3_choiceType_84) rfl ?_)
            refine k_aload_n rfl ?_
            refine k_get kg68 h_0_0 (congrArg (Sum.inl : Int32 → AvC) c2) ?_
            refine k_iconst (m := 4) rfl (fun x41 h42 => ?_)
            refine k_ic_eq (fun h43 => ?_) (fun h43 => ?_)
            · refine hB _ _ _ _ (kgoC (is := KX3_choiceType_100) rfl ?_)
              refine k_iconst (m := 4) rfl (fun x44 h45 => ?_)
              refine k_goto ?_
              refine hB _ _ _ _ (kgoC (is := KX3_choiceType_105) rfl ?_)
              refine k_ireturn (fun hz => absurd hz (by decide)) ?_
              exact ⟨_, rfl, rfl⟩
            · refine k_nil ?_
              refine hB _ _ _ _ (kgoC (is := KX3_choiceType_92) rfl ?_)
              refine k_aload_n rfl ?_
              refine k_get kg68 h_1_0 (congrArg (Sum.inl : Int32 → AvC) c7) ?_
              refine k_iconst (m := 4) rfl (fun x46 h47 => ?_)
              refine k_ic_ne (fun h48 => ?_) (fun h48 => ?_)
              · refine hB _ _ _ _ (kgoC (is := KX3_choiceType_104) rfl ?_)
                refine k_iconst (m := 3) rfl (fun x49 h50 => ?_)
                refine k_nil ?_
                refine hB _ _ _ _ (kgoC (is := KX3_choiceType_105) rfl ?_)
                refine k_ireturn (fun hz => absurd hz (by decide)) ?_
                exact ⟨_, rfl, rfl⟩
              · refine k_nil ?_
                refine hB _ _ _ _ (kgoC (is := KX3_choiceType_100) rfl ?_)
                refine k_iconst (m := 4) rfl (fun x51 h52 => ?_)
                refine k_goto ?_
                refine hB _ _ _ _ (kgoC (is := KX3_choiceType_105) rfl ?_)
                refine k_ireturn (fun hz => absurd hz (by decide)) ?_
                exact ⟨_, rfl, rfl⟩
          · refine k_nil ?_
            refine hB _ _ _ _ (kgoC (is := KX3_choiceType_68) rfl ?_)
            refine k_aload_n rfl ?_
            refine k_aload_n rfl ?_
            refine k_get kg68 h_1_0 (congrArg (Sum.inl : Int32 → AvC) c7) ?_
            refine k_stat (P := P_X3_isHeld) (Q := Q_X3_isHeld) rfl rfl (Nat.le_of_ble_eq_true rfl) rfl rfl (Nat.le_of_ble_eq_true rfl) ⟨_, _, rfl, H0, h_0_0⟩ (fun w53 σ54 q55 => ?_)
            obtain ⟨x56, rfl, rfl, h57, h58⟩ := q55
            refine k_st (st' := [.inl x56]) rfl ?_
            refine k_if_eq (fun h59 => ?_) (fun h59 => ?_)
            · refine hB _ _ _ _ (kgoC (is := KX3_choiceType_84) rfl ?_)
              refine k_aload_n rfl ?_
              refine k_get kg68 h_0_0 (congrArg (Sum.inl : Int32 → AvC) c2) ?_
              refine k_iconst (m := 4) rfl (fun x60 h61 => ?_)
              refine k_ic_eq (fun h62 => by exfalso; omega) (fun h62 => ?_)
              refine k_nil ?_
              refine hB _ _ _ _ (kgoC (is := KX3_choiceType_92) rfl ?_)
              refine k_aload_n rfl ?_
              refine k_get kg68 h_1_0 (congrArg (Sum.inl : Int32 → AvC) c7) ?_
              refine k_iconst (m := 4) rfl (fun x63 h64 => ?_)
              refine k_ic_ne (fun h65 => ?_) (fun h65 => ?_)
              · refine hB _ _ _ _ (kgoC (is := KX3_choiceType_104) rfl ?_)
                refine k_iconst (m := 3) rfl (fun x66 h67 => ?_)
                refine k_nil ?_
                refine hB _ _ _ _ (kgoC (is := KX3_choiceType_105) rfl ?_)
                refine k_ireturn (fun hz => absurd hz (by decide)) ?_
                exact ⟨_, rfl, rfl⟩
              · refine k_nil ?_
                refine hB _ _ _ _ (kgoC (is := KX3_choiceType_100) rfl ?_)
                refine k_iconst (m := 4) rfl (fun x68 h69 => ?_)
                refine k_goto ?_
                refine hB _ _ _ _ (kgoC (is := KX3_choiceType_105) rfl ?_)
                refine k_ireturn (fun hz => absurd hz (by decide)) ?_
                exact ⟨_, rfl, rfl⟩
            · refine k_nil ?_
              refine hB _ _ _ _ (kgoC (is := KX3_choiceType_79) rfl ?_)
              refine k_aload_n rfl ?_
              refine k_get kg68 h_1_0 (congrArg (Sum.inl : Int32 → AvC) c7) ?_
              refine k_ireturn (fun hz => absurd hz (by decide)) ?_
              exact ⟨_, rfl, rfl⟩
      · refine k_nil ?_
        refine hB _ _ _ _ (kgoC (is := KX3_choiceType_26) rfl ?_)
        refine k_aload_n rfl ?_
        refine k_get kg68 h_1_0 (congrArg (Sum.inl : Int32 → AvC) c7) ?_
        refine k_iconst (m := 3) rfl (fun x70 h71 => ?_)
        refine k_ic_ne (fun h72 => ?_) (fun h72 => ?_)
        · refine hB _ _ _ _ (kgoC (is := KX3_choiceType_50) rfl ?_)
          refine k_aload_n rfl ?_
          refine k_get kg68 h_1_0 (congrArg (Sum.inl : Int32 → AvC) c7) ?_
          refine k_stat (P := P_X3_isSmall) (Q := Q_X3_isSmall) rfl rfl (Nat.le_of_ble_eq_true rfl) rfl rfl (Nat.le_of_ble_eq_true rfl) ⟨_, rfl, H0⟩ (fun w73 σ74 q75 => ?_)
          obtain ⟨x76, rfl, rfl, h77, h78⟩ := q75
          refine k_st (st' := [.inl x76]) rfl ?_
          refine k_if_eq (fun h79 => ?_) (fun h79 => ?_)
          · refine hB _ _ _ _ (kgoC (is := KX3_choiceType_84) rfl ?_)
            refine k_aload_n rfl ?_
            refine k_get kg68 h_0_0 (congrArg (Sum.inl : Int32 → AvC) c2) ?_
            refine k_iconst (m := 4) rfl (fun x80 h81 => ?_)
            refine k_ic_eq (fun h82 => ?_) (fun h82 => ?_)
            · refine hB _ _ _ _ (kgoC (is := KX3_choiceType_100) rfl ?_)
              refine k_iconst (m := 4) rfl (fun x83 h84 => ?_)
              refine k_goto ?_
              refine hB _ _ _ _ (kgoC (is := KX3_choiceType_105) rfl ?_)
              refine k_ireturn (fun hz => absurd hz (by decide)) ?_
              exact ⟨_, rfl, rfl⟩
            · refine k_nil ?_
              refine hB _ _ _ _ (kgoC (is := KX3_choiceType_92) rfl ?_)
              refine k_aload_n rfl ?_
              refine k_get kg68 h_1_0 (congrArg (Sum.inl : Int32 → AvC) c7) ?_
              refine k_iconst (m := 4) rfl (fun x85 h86 => ?_)
              refine k_ic_ne (fun h87 => ?_) (fun h87 => ?_)
              · refine hB _ _ _ _ (kgoC (is := KX3_choiceType_104) rfl ?_)
                refine k_iconst (m := 3) rfl (fun x88 h89 => ?_)
                refine k_nil ?_
                refine hB _ _ _ _ (kgoC (is := KX3_choiceType_105) rfl ?_)
                refine k_ireturn (fun hz => absurd hz (by decide)) ?_
                exact ⟨_, rfl, rfl⟩
              · refine k_nil ?_
                refine hB _ _ _ _ (kgoC (is := KX3_choiceType_100) rfl ?_)
                refine k_iconst (m := 4) rfl (fun x90 h91 => ?_)
                refine k_goto ?_
                refine hB _ _ _ _ (kgoC (is := KX3_choiceType_105) rfl ?_)
                refine k_ireturn (fun hz => absurd hz (by decide)) ?_
                exact ⟨_, rfl, rfl⟩
          · refine k_nil ?_
            refine hB _ _ _ _ (kgoC (is := KX3_choiceType_60) rfl ?_)
            refine k_aload_n rfl ?_
            refine k_get kg68 h_0_0 (congrArg (Sum.inl : Int32 → AvC) c2) ?_
            refine k_iconst (m := 3) rfl (fun x92 h93 => ?_)
            refine k_ic_ne (fun h94 => ?_) (fun h94 => ?_)
            · refine hB _ _ _ _ (kgoC (is := KX3_choiceType_84) rfl ?_)
              refine k_aload_n rfl ?_
              refine k_get kg68 h_0_0 (congrArg (Sum.inl : Int32 → AvC) c2) ?_
              refine k_iconst (m := 4) rfl (fun x95 h96 => ?_)
              refine k_ic_eq (fun h97 => ?_) (fun h97 => ?_)
              · refine hB _ _ _ _ (kgoC (is := KX3_choiceType_100) rfl ?_)
                refine k_iconst (m := 4) rfl (fun x98 h99 => ?_)
                refine k_goto ?_
                refine hB _ _ _ _ (kgoC (is := KX3_choiceType_105) rfl ?_)
                refine k_ireturn (fun hz => absurd hz (by decide)) ?_
                exact ⟨_, rfl, rfl⟩
              · refine k_nil ?_
                refine hB _ _ _ _ (kgoC (is := KX3_choiceType_92) rfl ?_)
                refine k_aload_n rfl ?_
                refine k_get kg68 h_1_0 (congrArg (Sum.inl : Int32 → AvC) c7) ?_
                refine k_iconst (m := 4) rfl (fun x100 h101 => ?_)
                refine k_ic_ne (fun h102 => ?_) (fun h102 => ?_)
                · refine hB _ _ _ _ (kgoC (is := KX3_choiceType_104) rfl ?_)
                  refine k_iconst (m := 3) rfl (fun x103 h104 => ?_)
                  refine k_nil ?_
                  refine hB _ _ _ _ (kgoC (is := KX3_choiceType_105) rfl ?_)
                  refine k_ireturn (fun hz => absurd hz (by decide)) ?_
                  exact ⟨_, rfl, rfl⟩
                · refine k_nil ?_
                  refine hB _ _ _ _ (kgoC (is := KX3_choiceType_100) rfl ?_)
                  refine k_iconst (m := 4) rfl (fun x105 h106 => ?_)
                  refine k_goto ?_
                  refine hB _ _ _ _ (kgoC (is := KX3_choiceType_105) rfl ?_)
                  refine k_ireturn (fun hz => absurd hz (by decide)) ?_
                  exact ⟨_, rfl, rfl⟩
            · refine k_nil ?_
              refine hB _ _ _ _ (kgoC (is := KX3_choiceType_68) rfl ?_)
              refine k_aload_n rfl ?_
              refine k_aload_n rfl ?_
              refine k_get kg68 h_1_0 (congrArg (Sum.inl : Int32 → AvC) c7) ?_
              refine k_stat (P := P_X3_isHeld) (Q := Q_X3_isHeld) rfl rfl (Nat.le_of_ble_eq_true rfl) rfl rfl (Nat.le_of_ble_eq_true rfl) ⟨_, _, rfl, H0, h_0_0⟩ (fun w107 σ108 q109 => ?_)
              obtain ⟨x110, rfl, rfl, h111, h112⟩ := q109
              refine k_st (st' := [.inl x110]) rfl ?_
              refine k_if_eq (fun h113 => ?_) (fun h113 => ?_)
              · refine hB _ _ _ _ (kgoC (is := KX3_choiceType_84) rfl ?_)
                refine k_aload_n rfl ?_
                refine k_get kg68 h_0_0 (congrArg (Sum.inl : Int32 → AvC) c2) ?_
                refine k_iconst (m := 4) rfl (fun x114 h115 => ?_)
                refine k_ic_eq (fun h116 => by exfalso; omega) (fun h116 => ?_)
                refine k_nil ?_
                refine hB _ _ _ _ (kgoC (is := KX3_choiceType_92) rfl ?_)
                refine k_aload_n rfl ?_
                refine k_get kg68 h_1_0 (congrArg (Sum.inl : Int32 → AvC) c7) ?_
                refine k_iconst (m := 4) rfl (fun x117 h118 => ?_)
                refine k_ic_ne (fun h119 => ?_) (fun h119 => ?_)
                · refine hB _ _ _ _ (kgoC (is := KX3_choiceType_104) rfl ?_)
                  refine k_iconst (m := 3) rfl (fun x120 h121 => ?_)
                  refine k_nil ?_
                  refine hB _ _ _ _ (kgoC (is := KX3_choiceType_105) rfl ?_)
                  refine k_ireturn (fun hz => absurd hz (by decide)) ?_
                  exact ⟨_, rfl, rfl⟩
                · refine k_nil ?_
                  refine hB _ _ _ _ (kgoC (is := KX3_choiceType_100) rfl ?_)
                  refine k_iconst (m := 4) rfl (fun x122 h123 => ?_)
                  refine k_goto ?_
                  refine hB _ _ _ _ (kgoC (is := KX3_choiceType_105) rfl ?_)
                  refine k_ireturn (fun hz => absurd hz (by decide)) ?_
                  exact ⟨_, rfl, rfl⟩
              · refine k_nil ?_
                refine hB _ _ _ _ (kgoC (is := KX3_choiceType_79) rfl ?_)
                refine k_aload_n rfl ?_
                refine k_get kg68 h_1_0 (congrArg (Sum.inl : Int32 → AvC) c7) ?_
                refine k_ireturn (fun hz => absurd hz (by decide)) ?_
                exact ⟨_, rfl, rfl⟩
        · refine k_nil ?_
          refine hB _ _ _ _ (kgoC (is := KX3_choiceType_34) rfl ?_)
          refine k_aload_n rfl ?_
          refine k_aload_n rfl ?_
          refine k_get kg68 h_0_0 (congrArg (Sum.inl : Int32 → AvC) c2) ?_
          refine k_stat (P := P_X3_isHeld) (Q := Q_X3_isHeld) rfl rfl (Nat.le_of_ble_eq_true rfl) rfl rfl (Nat.le_of_ble_eq_true rfl) ⟨_, _, rfl, H0, h_1_0⟩ (fun w124 σ125 q126 => ?_)
          obtain ⟨x127, rfl, rfl, h128, h129⟩ := q126
          refine k_st (st' := [.inl x127]) rfl ?_
          refine k_if_eq (fun h130 => ?_) (fun h130 => ?_)
          · refine hB _ _ _ _ (kgoC (is := KX3_choiceType_50) rfl ?_)
            refine k_aload_n rfl ?_
            refine k_get kg68 h_1_0 (congrArg (Sum.inl : Int32 → AvC) c7) ?_
            refine k_stat (P := P_X3_isSmall) (Q := Q_X3_isSmall) rfl rfl (Nat.le_of_ble_eq_true rfl) rfl rfl (Nat.le_of_ble_eq_true rfl) ⟨_, rfl, H0⟩ (fun w131 σ132 q133 => ?_)
            obtain ⟨x134, rfl, rfl, h135, h136⟩ := q133
            refine k_st (st' := [.inl x134]) rfl ?_
            refine k_if_eq (fun h137 => ?_) (fun h137 => ?_)
            · refine hB _ _ _ _ (kgoC (is := KX3_choiceType_84) rfl ?_)
              refine k_aload_n rfl ?_
              refine k_get kg68 h_0_0 (congrArg (Sum.inl : Int32 → AvC) c2) ?_
              refine k_iconst (m := 4) rfl (fun x138 h139 => ?_)
              refine k_ic_eq (fun h140 => ?_) (fun h140 => ?_)
              · refine hB _ _ _ _ (kgoC (is := KX3_choiceType_100) rfl ?_)
                refine k_iconst (m := 4) rfl (fun x141 h142 => ?_)
                refine k_goto ?_
                refine hB _ _ _ _ (kgoC (is := KX3_choiceType_105) rfl ?_)
                refine k_ireturn (fun hz => absurd hz (by decide)) ?_
                exact ⟨_, rfl, rfl⟩
              · refine k_nil ?_
                refine hB _ _ _ _ (kgoC (is := KX3_choiceType_92) rfl ?_)
                refine k_aload_n rfl ?_
                refine k_get kg68 h_1_0 (congrArg (Sum.inl : Int32 → AvC) c7) ?_
                refine k_iconst (m := 4) rfl (fun x143 h144 => ?_)
                refine k_ic_ne (fun h145 => ?_) (fun h145 => by exfalso; omega)
                refine hB _ _ _ _ (kgoC (is := KX3_choiceType_104) rfl ?_)
                refine k_iconst (m := 3) rfl (fun x146 h147 => ?_)
                refine k_nil ?_
                refine hB _ _ _ _ (kgoC (is := KX3_choiceType_105) rfl ?_)
                refine k_ireturn (fun hz => absurd hz (by decide)) ?_
                exact ⟨_, rfl, rfl⟩
            · refine k_nil ?_
              refine hB _ _ _ _ (kgoC (is := KX3_choiceType_60) rfl ?_)
              refine k_aload_n rfl ?_
              refine k_get kg68 h_0_0 (congrArg (Sum.inl : Int32 → AvC) c2) ?_
              refine k_iconst (m := 3) rfl (fun x148 h149 => ?_)
              refine k_ic_ne (fun h150 => ?_) (fun h150 => ?_)
              · refine hB _ _ _ _ (kgoC (is := KX3_choiceType_84) rfl ?_)
                refine k_aload_n rfl ?_
                refine k_get kg68 h_0_0 (congrArg (Sum.inl : Int32 → AvC) c2) ?_
                refine k_iconst (m := 4) rfl (fun x151 h152 => ?_)
                refine k_ic_eq (fun h153 => ?_) (fun h153 => ?_)
                · refine hB _ _ _ _ (kgoC (is := KX3_choiceType_100) rfl ?_)
                  refine k_iconst (m := 4) rfl (fun x154 h155 => ?_)
                  refine k_goto ?_
                  refine hB _ _ _ _ (kgoC (is := KX3_choiceType_105) rfl ?_)
                  refine k_ireturn (fun hz => absurd hz (by decide)) ?_
                  exact ⟨_, rfl, rfl⟩
                · refine k_nil ?_
                  refine hB _ _ _ _ (kgoC (is := KX3_choiceType_92) rfl ?_)
                  refine k_aload_n rfl ?_
                  refine k_get kg68 h_1_0 (congrArg (Sum.inl : Int32 → AvC) c7) ?_
                  refine k_iconst (m := 4) rfl (fun x156 h157 => ?_)
                  refine k_ic_ne (fun h158 => ?_) (fun h158 => by exfalso; omega)
                  refine hB _ _ _ _ (kgoC (is := KX3_choiceType_104) rfl ?_)
                  refine k_iconst (m := 3) rfl (fun x159 h160 => ?_)
                  refine k_nil ?_
                  refine hB _ _ _ _ (kgoC (is := KX3_choiceType_105) rfl ?_)
                  refine k_ireturn (fun hz => absurd hz (by decide)) ?_
                  exact ⟨_, rfl, rfl⟩
              · refine k_nil ?_
                refine hB _ _ _ _ (kgoC (is := KX3_choiceType_68) rfl ?_)
                refine k_aload_n rfl ?_
                refine k_aload_n rfl ?_
                refine k_get kg68 h_1_0 (congrArg (Sum.inl : Int32 → AvC) c7) ?_
                refine k_stat (P := P_X3_isHeld) (Q := Q_X3_isHeld) rfl rfl (Nat.le_of_ble_eq_true rfl) rfl rfl (Nat.le_of_ble_eq_true rfl) ⟨_, _, rfl, H0, h_0_0⟩ (fun w161 σ162 q163 => ?_)
                obtain ⟨x164, rfl, rfl, h165, h166⟩ := q163
                refine k_st (st' := [.inl x164]) rfl ?_
                refine k_if_eq (fun h167 => ?_) (fun h167 => ?_)
                · refine hB _ _ _ _ (kgoC (is := KX3_choiceType_84) rfl ?_)
                  refine k_aload_n rfl ?_
                  refine k_get kg68 h_0_0 (congrArg (Sum.inl : Int32 → AvC) c2) ?_
                  refine k_iconst (m := 4) rfl (fun x168 h169 => ?_)
                  refine k_ic_eq (fun h170 => by exfalso; omega) (fun h170 => ?_)
                  refine k_nil ?_
                  refine hB _ _ _ _ (kgoC (is := KX3_choiceType_92) rfl ?_)
                  refine k_aload_n rfl ?_
                  refine k_get kg68 h_1_0 (congrArg (Sum.inl : Int32 → AvC) c7) ?_
                  refine k_iconst (m := 4) rfl (fun x171 h172 => ?_)
                  refine k_ic_ne (fun h173 => ?_) (fun h173 => by exfalso; omega)
                  refine hB _ _ _ _ (kgoC (is := KX3_choiceType_104) rfl ?_)
                  refine k_iconst (m := 3) rfl (fun x174 h175 => ?_)
                  refine k_nil ?_
                  refine hB _ _ _ _ (kgoC (is := KX3_choiceType_105) rfl ?_)
                  refine k_ireturn (fun hz => absurd hz (by decide)) ?_
                  exact ⟨_, rfl, rfl⟩
                · refine k_nil ?_
                  refine hB _ _ _ _ (kgoC (is := KX3_choiceType_79) rfl ?_)
                  refine k_aload_n rfl ?_
                  refine k_get kg68 h_1_0 (congrArg (Sum.inl : Int32 → AvC) c7) ?_
                  refine k_ireturn (fun hz => absurd hz (by decide)) ?_
                  exact ⟨_, rfl, rfl⟩
          · refine k_nil ?_
            refine hB _ _ _ _ (kgoC (is := KX3_choiceType_45) rfl ?_)
            refine k_aload_n rfl ?_
            refine k_get kg68 h_0_0 (congrArg (Sum.inl : Int32 → AvC) c2) ?_
            refine k_ireturn (fun hz => absurd hz (by decide)) ?_
            exact ⟨_, rfl, rfl⟩
    · refine k_nil ?_
      refine hB _ _ _ _ (kgoC (is := KX3_choiceType_11) rfl ?_)
      refine k_aload_n rfl ?_
      refine k_get kg68 h_0_0 (congrArg (Sum.inl : Int32 → AvC) c2) ?_
      refine k_ireturn (fun hz => absurd hz (by decide)) ?_
      exact ⟨_, rfl, rfl⟩
theorem lg_X3_choiceType : ∀ (As : List AvC) (σ : CsC), P_X3_choiceType As σ → lgC As ≤ rX3_choiceType.2.2.1 := by
  rintro As σ ⟨p0, p1, rfl, -⟩
  exact Nat.le_of_ble_eq_true rfl
theorem m_X3_choiceType (l : Launch) : CMetC l 3 72 P_X3_choiceType Q_X3_choiceType :=
  CMetC.of KX3_choiceType [(73, P_X3_isSmall, Q_X3_isSmall), (74, P_X3_isHeld, Q_X3_isHeld)] hX3_choiceType (by decide) (by decide) okX3_choiceType (cc1C (m_X3_isSmall l) (by decide) (cc1C (m_X3_isHeld l) (by decide) cc0C)) (lg_X3_choiceType) (b_X3_choiceType)

abbrev P_X3_judgeChoice : CpC := fun As σ => ∃ (p0 : Nat) (p1 : Nat), As = [.inr (.inr (some p0)), .inr (.inr (some p1))] ∧ HIC σ ∧ TyC σ p0 4 ∧ TyC σ p1 2
abbrev Q_X3_judgeChoice : CqC := fun As σ w τ => match As with
  | [.inr (.inr (some p0)), .inr (.inr (some p1))] => w = none ∧ HIC τ ∧ ExC [68, 70, 217, 218] σ τ
  | _ => False
set_option maxRecDepth 100000 in
set_option maxHeartbeats 4000000 in
theorem b_X3_judgeChoice : TbC KX3_judgeChoice [(52, P_X3_isFaulty, Q_X3_isFaulty), (62, P_X3_isWanted, Q_X3_isWanted), (67, P_X3_isRightTaken, Q_X3_isRightTaken), (72, P_X3_choiceType, Q_X3_choiceType)] P_X3_judgeChoice Q_X3_judgeChoice := by
  · rintro As σ0 ⟨p0, p1, rfl, H0, h_0_0, h_1_0⟩ hgr G hB hW
    change G 0 [(0, .inr (.inr (some p0))), (1, .inr (.inr (some p1)))] [] σ0
    refine hB _ _ _ _ (kgoC (is := KX3_judgeChoice_0) rfl ?_)
    refine k_aload_n rfl ?_
    obtain ⟨o3, e1, c2, t4⟩ := cg72 H0.1 h_1_0
    refine k_get kg72 h_1_0 e1 ?_
    refine k_stat (P := P_X3_isFaulty) (Q := Q_X3_isFaulty) rfl rfl (Nat.le_of_ble_eq_true rfl) rfl rfl (Nat.le_of_ble_eq_true rfl) ⟨o3, rfl, H0, t4⟩ (fun w5 σ6 q7 => ?_)
    obtain ⟨x8, rfl, rfl, h9, h10, q11⟩ := q7
    refine k_st (st' := [.inl x8]) rfl ?_
    rcases (by omega : x8.toInt = 0 ∨ x8.toInt = 1) with g12 | g12
    · obtain ⟨b13, h14⟩ := q11 (by omega)
      subst h14
      have t15 := t4 b13 rfl
      refine k_if_ne (fun h16 => by exfalso; omega) (fun h16 => ?_)
      refine k_nil ?_
      refine hB _ _ _ _ (kgoC (is := KX3_judgeChoice_10) rfl ?_)
      refine k_aload_n rfl ?_
      refine k_aload_n rfl ?_
      refine k_get kg72 h_1_0 (congrArg (fun z : Option Nat => (Sum.inr (Sum.inr z) : AvC)) c2) ?_
      obtain ⟨x19, e17, c18, h20, h21⟩ := cg68 H0.1 t15
      refine k_get kg68 t15 e17 ?_
      refine k_if_ne (fun h22 => ?_) (fun h22 => ?_)
      · refine hB _ _ _ _ (kgoC (is := KX3_judgeChoice_25) rfl ?_)
        refine k_iconst (m := 0) rfl (fun x23 h24 => ?_)
        refine k_nil ?_
        refine hB _ _ _ _ (kgoC (is := KX3_judgeChoice_26) rfl ?_)
        refine k_aload_n rfl ?_
        refine k_get kg72 h_1_0 (congrArg (fun z : Option Nat => (Sum.inr (Sum.inr z) : AvC)) c2) ?_
        obtain ⟨x27, e25, c26, h28, h29⟩ := cg62 H0.1 t15
        refine k_get kg62 t15 e25 ?_
        refine k_inv (P := P_X3_isWanted) (Q := Q_X3_isWanted) rfl rfl rfl rfl (Nat.le_of_ble_eq_true rfl) (h_0_0.rc (by decide)) ⟨_, _, _, rfl, H0, h_0_0, (by omega), (by omega), (by omega), (by omega)⟩ (fun w30 σ31 q32 => ?_)
        obtain ⟨x33, rfl, H34, e35, h36, h37⟩ := q32
        refine k_st (st' := [.inl x33]) rfl ?_
        refine k_if_eq (fun h38 => ?_) (fun h38 => ?_)
        · refine hB _ _ _ _ (kgoC (is := KX3_judgeChoice_126) rfl ?_)
          refine k_iconst (m := 0) rfl (fun x39 h40 => ?_)
          refine k_nil ?_
          refine hB _ _ _ _ (kgoC (is := KX3_judgeChoice_127) rfl ?_)
          refine k_istore_n (ls' := [(2, .inl x39), (0, .inr (.inr (some p0))), (1, .inr (.inr (some p1)))]) rfl ?_
          refine k_iload_n rfl ?_
          refine k_if_ne (fun h41 => by exfalso; omega) (fun h41 => ?_)
          refine k_nil ?_
          refine hB _ _ _ _ (kgoC (is := KX3_judgeChoice_132) rfl ?_)
          refine k_return ?_
          have X42 : ExC [68, 70, 217, 218] σ0 σ31 := ExC.rf.tr (e35.mo (by decide))
          exact ⟨rfl, H34, X42⟩
        · refine k_nil ?_
          refine hB _ _ _ _ (kgoC (is := KX3_judgeChoice_39) rfl ?_)
          refine k_aload_n rfl ?_
          have t43 := h_1_0.x e35
          obtain ⟨o46, e44, c45, t47⟩ := cg73 H34.1 t43
          refine k_get kg73 t43 e44 ?_
          refine k_stat (P := P_X3_isFaulty) (Q := Q_X3_isFaulty) rfl rfl (Nat.le_of_ble_eq_true rfl) rfl rfl (Nat.le_of_ble_eq_true rfl) ⟨o46, rfl, H34, t47⟩ (fun w48 σ49 q50 => ?_)
          obtain ⟨x51, rfl, rfl, h52, h53, q54⟩ := q50
          refine k_st (st' := [.inl x51]) rfl ?_
          rcases (by omega : x51.toInt = 0 ∨ x51.toInt = 1) with g55 | g55
          · obtain ⟨b56, h57⟩ := q54 (by omega)
            subst h57
            have t58 := t47 b56 rfl
            refine k_if_ne (fun h59 => by exfalso; omega) (fun h59 => ?_)
            refine k_nil ?_
            refine hB _ _ _ _ (kgoC (is := KX3_judgeChoice_49) rfl ?_)
            refine k_aload_n rfl ?_
            refine k_aload_n rfl ?_
            refine k_get kg73 t43 (congrArg (fun z : Option Nat => (Sum.inr (Sum.inr z) : AvC)) c45) ?_
            obtain ⟨x62, e60, c61, h63, h64⟩ := cg68 H34.1 t58
            refine k_get kg68 t58 e60 ?_
            refine k_iconst (m := 5) rfl (fun x65 h66 => ?_)
            refine k_ic_eq (fun h67 => ?_) (fun h67 => ?_)
            · refine hB _ _ _ _ (kgoC (is := KX3_judgeChoice_65) rfl ?_)
              refine k_iconst (m := 0) rfl (fun x68 h69 => ?_)
              refine k_nil ?_
              refine hB _ _ _ _ (kgoC (is := KX3_judgeChoice_66) rfl ?_)
              refine k_aload_n rfl ?_
              refine k_get kg73 t43 (congrArg (fun z : Option Nat => (Sum.inr (Sum.inr z) : AvC)) c45) ?_
              obtain ⟨x72, e70, c71, h73, h74⟩ := cg62 H34.1 t58
              refine k_get kg62 t58 e70 ?_
              have t75 := h_0_0.x e35
              refine k_inv (P := P_X3_isWanted) (Q := Q_X3_isWanted) rfl rfl rfl rfl (Nat.le_of_ble_eq_true rfl) (t75.rc (by decide)) ⟨_, _, _, rfl, H34, t75, (by omega), (by omega), (by omega), (by omega)⟩ (fun w76 σ77 q78 => ?_)
              obtain ⟨x79, rfl, H80, e81, h82, h83⟩ := q78
              refine k_st (st' := [.inl x79]) rfl ?_
              refine k_if_eq (fun h84 => ?_) (fun h84 => ?_)
              · refine hB _ _ _ _ (kgoC (is := KX3_judgeChoice_126) rfl ?_)
                refine k_iconst (m := 0) rfl (fun x85 h86 => ?_)
                refine k_nil ?_
                refine hB _ _ _ _ (kgoC (is := KX3_judgeChoice_127) rfl ?_)
                refine k_istore_n (ls' := [(2, .inl x85), (0, .inr (.inr (some p0))), (1, .inr (.inr (some p1)))]) rfl ?_
                refine k_iload_n rfl ?_
                refine k_if_ne (fun h87 => by exfalso; omega) (fun h87 => ?_)
                refine k_nil ?_
                refine hB _ _ _ _ (kgoC (is := KX3_judgeChoice_132) rfl ?_)
                refine k_return ?_
                have X88 : ExC [68, 70, 217, 218] σ0 σ31 := ExC.rf.tr (e35.mo (by decide))
                have X89 : ExC [68, 70, 217, 218] σ0 σ77 := X88.tr (e81.mo (by decide))
                exact ⟨rfl, H80, X89⟩
              · refine k_nil ?_
                refine hB _ _ _ _ (kgoC (is := KX3_judgeChoice_79) rfl ?_)
                refine k_aload_n rfl ?_
                have t90 := t43.x e81
                obtain ⟨o93, e91, c92, t94⟩ := cg74 H80.1 t90
                refine k_get kg74 t90 e91 ?_
                refine k_stat (P := P_X3_isFaulty) (Q := Q_X3_isFaulty) rfl rfl (Nat.le_of_ble_eq_true rfl) rfl rfl (Nat.le_of_ble_eq_true rfl) ⟨o93, rfl, H80, t94⟩ (fun w95 σ96 q97 => ?_)
                obtain ⟨x98, rfl, rfl, h99, h100, q101⟩ := q97
                refine k_st (st' := [.inl x98]) rfl ?_
                rcases (by omega : x98.toInt = 0 ∨ x98.toInt = 1) with g102 | g102
                · obtain ⟨b103, h104⟩ := q101 (by omega)
                  subst h104
                  have t105 := t94 b103 rfl
                  refine k_if_ne (fun h106 => by exfalso; omega) (fun h106 => ?_)
                  refine k_nil ?_
                  refine hB _ _ _ _ (kgoC (is := KX3_judgeChoice_89) rfl ?_)
                  refine k_aload_n rfl ?_
                  refine k_bipush (m := 7) rfl (fun x107 h108 => ?_)
                  refine k_aload_n rfl ?_
                  have c109 := (t43.mr e81 (by decide)).trans c45
                  refine k_get kg73 t90 (congrArg (fun z : Option Nat => (Sum.inr (Sum.inr z) : AvC)) c109) ?_
                  have t110 := t58.x e81
                  have c111 := (t58.mi e81 (by decide)).trans c61
                  refine k_get kg68 t110 (congrArg (Sum.inl : Int32 → AvC) c111) ?_
                  refine k_aload_n rfl ?_
                  refine k_get kg74 t90 (congrArg (fun z : Option Nat => (Sum.inr (Sum.inr z) : AvC)) c92) ?_
                  obtain ⟨x114, e112, c113, h115, h116⟩ := cg68 H80.1 t105
                  refine k_get kg68 t105 e112 ?_
                  refine k_stat (P := P_X3_isRightTaken) (Q := Q_X3_isRightTaken) rfl rfl (Nat.le_of_ble_eq_true rfl) rfl rfl (Nat.le_of_ble_eq_true rfl) ⟨_, _, _, rfl, H80⟩ (fun w117 σ118 q119 => ?_)
                  obtain ⟨x120, rfl, rfl, h121, h122⟩ := q119
                  refine k_st (st' := [.inl x120, .inr (.inr (some p0))]) rfl ?_
                  refine k_aload_n rfl ?_
                  refine k_get kg74 t90 (congrArg (fun z : Option Nat => (Sum.inr (Sum.inr z) : AvC)) c92) ?_
                  obtain ⟨x125, e123, c124, h126, h127⟩ := cg62 H80.1 t105
                  refine k_get kg62 t105 e123 ?_
                  have t128 := t75.x e81
                  refine k_inv (P := P_X3_isWanted) (Q := Q_X3_isWanted) rfl rfl rfl rfl (Nat.le_of_ble_eq_true rfl) (t128.rc (by decide)) ⟨_, _, _, rfl, H80, t128, (by omega), (by omega), (by omega), (by omega)⟩ (fun w129 σ130 q131 => ?_)
                  obtain ⟨x132, rfl, H133, e134, h135, h136⟩ := q131
                  refine k_st (st' := [.inl x132]) rfl ?_
                  refine k_if_eq (fun h137 => ?_) (fun h137 => ?_)
                  · refine hB _ _ _ _ (kgoC (is := KX3_judgeChoice_126) rfl ?_)
                    refine k_iconst (m := 0) rfl (fun x138 h139 => ?_)
                    refine k_nil ?_
                    refine hB _ _ _ _ (kgoC (is := KX3_judgeChoice_127) rfl ?_)
                    refine k_istore_n (ls' := [(2, .inl x138), (0, .inr (.inr (some p0))), (1, .inr (.inr (some p1)))]) rfl ?_
                    refine k_iload_n rfl ?_
                    refine k_if_ne (fun h140 => by exfalso; omega) (fun h140 => ?_)
                    refine k_nil ?_
                    refine hB _ _ _ _ (kgoC (is := KX3_judgeChoice_132) rfl ?_)
                    refine k_return ?_
                    have X141 : ExC [68, 70, 217, 218] σ0 σ31 := ExC.rf.tr (e35.mo (by decide))
                    have X142 : ExC [68, 70, 217, 218] σ0 σ77 := X141.tr (e81.mo (by decide))
                    have X143 : ExC [68, 70, 217, 218] σ0 σ130 := X142.tr (e134.mo (by decide))
                    exact ⟨rfl, H133, X143⟩
                  · refine k_nil ?_
                    refine hB _ _ _ _ (kgoC (is := KX3_judgeChoice_122) rfl ?_)
                    refine k_iconst (m := 1) rfl (fun x144 h145 => ?_)
                    refine k_goto ?_
                    refine hB _ _ _ _ (kgoC (is := KX3_judgeChoice_127) rfl ?_)
                    refine k_istore_n (ls' := [(2, .inl x144), (0, .inr (.inr (some p0))), (1, .inr (.inr (some p1)))]) rfl ?_
                    refine k_iload_n rfl ?_
                    refine k_if_ne (fun h146 => ?_) (fun h146 => by exfalso; omega)
                    refine hB _ _ _ _ (kgoC (is := KX3_judgeChoice_133) rfl ?_)
                    refine k_aload_n rfl ?_
                    refine k_aload_n rfl ?_
                    have t147 := t90.x e134
                    have c148 := (t90.mr e134 (by decide)).trans c109
                    refine k_get kg73 t147 (congrArg (fun z : Option Nat => (Sum.inr (Sum.inr z) : AvC)) c148) ?_
                    refine k_aload_n rfl ?_
                    have c149 := (t90.mr e134 (by decide)).trans c92
                    refine k_get kg74 t147 (congrArg (fun z : Option Nat => (Sum.inr (Sum.inr z) : AvC)) c149) ?_
                    have t150 := t110.x e134
                    have t151 := t105.x e134
                    refine k_stat (P := P_X3_choiceType) (Q := Q_X3_choiceType) rfl rfl (Nat.le_of_ble_eq_true rfl) rfl rfl (Nat.le_of_ble_eq_true rfl) ⟨_, _, rfl, H133, t150, t151⟩ (fun w152 σ153 q154 => ?_)
                    obtain ⟨x155, rfl, rfl⟩ := q154
                    refine k_st (st' := [.inl x155, .inr (.inr (some p1))]) rfl ?_
                    refine k_putI kp68 H133 t147 (Or.inl fk68) (tiC x155).1 (tiC x155).2 (fun σ156 H157 e158 c159 => ?_)
                    refine k_aload_n rfl ?_
                    refine k_aload_n rfl ?_
                    have t160 := t147.x e158
                    have c161 := (h_1_0.mr e35 (by decide)).trans c2
                    have c162 := (t43.mr e81 (by decide)).trans c161
                    have c163 := (t90.mr e134 (by decide)).trans c162
                    have c164 := (t147.mr e158 (by decide)).trans c163
                    refine k_get kg72 t160 (congrArg (fun z : Option Nat => (Sum.inr (Sum.inr z) : AvC)) c164) ?_
                    have t165 := t15.x e35
                    have t166 := t165.x e81
                    have t167 := t166.x e134
                    have t168 := t167.x e158
                    obtain ⟨x171, e169, c170, h172, h173⟩ := cg70 H157.1 t168
                    refine k_get kg70 t168 e169 ?_
                    refine k_if_eq (fun h174 => ?_) (fun h174 => ?_)
                    · refine hB _ _ _ _ (kgoC (is := KX3_judgeChoice_183) rfl ?_)
                      refine k_iconst (m := 0) rfl (fun x175 h176 => ?_)
                      refine k_nil ?_
                      refine hB _ _ _ _ (kgoC (is := KX3_judgeChoice_184) rfl ?_)
                      refine k_putI kp70 H157 t160 (Or.inr ⟨fk70, b01C (by omega) (by omega)⟩) (by show 0 ≤ _; omega) (by show _ ≤ 1; omega) (fun σ177 H178 e179 c180 => ?_)
                      refine k_aload_n rfl ?_
                      refine k_aload_n rfl ?_
                      have t181 := t160.x e179
                      have c182 := (t160.mr e179 (by decide)).trans c164
                      refine k_get kg72 t181 (congrArg (fun z : Option Nat => (Sum.inr (Sum.inr z) : AvC)) c182) ?_
                      have t183 := t168.x e179
                      obtain ⟨y186, e184, c185⟩ := cg71 (σ := σ177) (a := b13)
                      refine k_get kg71 t183 e184 ?_
                      refine k_lconst ?_
                      refine k_lcmp (fun x187 h188 g189 => ?_)
                      refine k_if_ne (fun h190 => ?_) (fun h190 => ?_)
                      · refine hB _ _ _ _ (kgoC (is := KX3_judgeChoice_210) rfl ?_)
                        refine k_aload_n rfl ?_
                        have c191 := (t147.mr e158 (by decide)).trans c149
                        have c192 := (t160.mr e179 (by decide)).trans c191
                        refine k_get kg74 t181 (congrArg (fun z : Option Nat => (Sum.inr (Sum.inr z) : AvC)) c192) ?_
                        have t193 := t151.x e158
                        have t194 := t193.x e179
                        obtain ⟨y197, e195, c196⟩ := cg71 (σ := σ177) (a := b103)
                        refine k_get kg71 t194 e195 ?_
                        refine k_nil ?_
                        refine hB _ _ _ _ (kgoC (is := KX3_judgeChoice_217) rfl ?_)
                        refine k_putL kg71 H178 t181 fk71 (fun σ198 H199 e200 c201 => ?_)
                        refine k_return ?_
                        have X202 : ExC [68, 70, 217, 218] σ0 σ31 := ExC.rf.tr (e35.mo (by decide))
                        have X203 : ExC [68, 70, 217, 218] σ0 σ77 := X202.tr (e81.mo (by decide))
                        have X204 : ExC [68, 70, 217, 218] σ0 σ130 := X203.tr (e134.mo (by decide))
                        have X205 : ExC [68, 70, 217, 218] σ0 σ156 := X204.tr (e158.mo (by decide))
                        have X206 : ExC [68, 70, 217, 218] σ0 σ177 := X205.tr (e179.mo (by decide))
                        have X207 : ExC [68, 70, 217, 218] σ0 σ198 := X206.tr (e200.mo (by decide))
                        exact ⟨rfl, H199, X207⟩
                      · refine k_nil ?_
                        refine hB _ _ _ _ (kgoC (is := KX3_judgeChoice_200) rfl ?_)
                        refine k_aload_n rfl ?_
                        have c208 := (t147.mr e158 (by decide)).trans c148
                        have c209 := (t160.mr e179 (by decide)).trans c208
                        refine k_get kg73 t181 (congrArg (fun z : Option Nat => (Sum.inr (Sum.inr z) : AvC)) c209) ?_
                        have t210 := t150.x e158
                        have t211 := t210.x e179
                        obtain ⟨y214, e212, c213⟩ := cg71 (σ := σ177) (a := b56)
                        refine k_get kg71 t211 e212 ?_
                        refine k_goto ?_
                        refine hB _ _ _ _ (kgoC (is := KX3_judgeChoice_217) rfl ?_)
                        refine k_putL kg71 H178 t181 fk71 (fun σ215 H216 e217 c218 => ?_)
                        refine k_return ?_
                        have X219 : ExC [68, 70, 217, 218] σ0 σ31 := ExC.rf.tr (e35.mo (by decide))
                        have X220 : ExC [68, 70, 217, 218] σ0 σ77 := X219.tr (e81.mo (by decide))
                        have X221 : ExC [68, 70, 217, 218] σ0 σ130 := X220.tr (e134.mo (by decide))
                        have X222 : ExC [68, 70, 217, 218] σ0 σ156 := X221.tr (e158.mo (by decide))
                        have X223 : ExC [68, 70, 217, 218] σ0 σ177 := X222.tr (e179.mo (by decide))
                        have X224 : ExC [68, 70, 217, 218] σ0 σ215 := X223.tr (e217.mo (by decide))
                        exact ⟨rfl, H216, X224⟩
                    · refine k_nil ?_
                      refine hB _ _ _ _ (kgoC (is := KX3_judgeChoice_159) rfl ?_)
                      refine k_aload_n rfl ?_
                      have c225 := (t147.mr e158 (by decide)).trans c148
                      refine k_get kg73 t160 (congrArg (fun z : Option Nat => (Sum.inr (Sum.inr z) : AvC)) c225) ?_
                      have t226 := t150.x e158
                      obtain ⟨x229, e227, c228, h230, h231⟩ := cg70 H157.1 t226
                      refine k_get kg70 t226 e227 ?_
                      refine k_if_eq (fun h232 => ?_) (fun h232 => ?_)
                      · refine hB _ _ _ _ (kgoC (is := KX3_judgeChoice_183) rfl ?_)
                        refine k_iconst (m := 0) rfl (fun x233 h234 => ?_)
                        refine k_nil ?_
                        refine hB _ _ _ _ (kgoC (is := KX3_judgeChoice_184) rfl ?_)
                        refine k_putI kp70 H157 t160 (Or.inr ⟨fk70, b01C (by omega) (by omega)⟩) (by show 0 ≤ _; omega) (by show _ ≤ 1; omega) (fun σ235 H236 e237 c238 => ?_)
                        refine k_aload_n rfl ?_
                        refine k_aload_n rfl ?_
                        have t239 := t160.x e237
                        have c240 := (t160.mr e237 (by decide)).trans c164
                        refine k_get kg72 t239 (congrArg (fun z : Option Nat => (Sum.inr (Sum.inr z) : AvC)) c240) ?_
                        have t241 := t168.x e237
                        obtain ⟨y244, e242, c243⟩ := cg71 (σ := σ235) (a := b13)
                        refine k_get kg71 t241 e242 ?_
                        refine k_lconst ?_
                        refine k_lcmp (fun x245 h246 g247 => ?_)
                        refine k_if_ne (fun h248 => ?_) (fun h248 => ?_)
                        · refine hB _ _ _ _ (kgoC (is := KX3_judgeChoice_210) rfl ?_)
                          refine k_aload_n rfl ?_
                          have c249 := (t147.mr e158 (by decide)).trans c149
                          have c250 := (t160.mr e237 (by decide)).trans c249
                          refine k_get kg74 t239 (congrArg (fun z : Option Nat => (Sum.inr (Sum.inr z) : AvC)) c250) ?_
                          have t251 := t151.x e158
                          have t252 := t251.x e237
                          obtain ⟨y255, e253, c254⟩ := cg71 (σ := σ235) (a := b103)
                          refine k_get kg71 t252 e253 ?_
                          refine k_nil ?_
                          refine hB _ _ _ _ (kgoC (is := KX3_judgeChoice_217) rfl ?_)
                          refine k_putL kg71 H236 t239 fk71 (fun σ256 H257 e258 c259 => ?_)
                          refine k_return ?_
                          have X260 : ExC [68, 70, 217, 218] σ0 σ31 := ExC.rf.tr (e35.mo (by decide))
                          have X261 : ExC [68, 70, 217, 218] σ0 σ77 := X260.tr (e81.mo (by decide))
                          have X262 : ExC [68, 70, 217, 218] σ0 σ130 := X261.tr (e134.mo (by decide))
                          have X263 : ExC [68, 70, 217, 218] σ0 σ156 := X262.tr (e158.mo (by decide))
                          have X264 : ExC [68, 70, 217, 218] σ0 σ235 := X263.tr (e237.mo (by decide))
                          have X265 : ExC [68, 70, 217, 218] σ0 σ256 := X264.tr (e258.mo (by decide))
                          exact ⟨rfl, H257, X265⟩
                        · refine k_nil ?_
                          refine hB _ _ _ _ (kgoC (is := KX3_judgeChoice_200) rfl ?_)
                          refine k_aload_n rfl ?_
                          have c266 := (t160.mr e237 (by decide)).trans c225
                          refine k_get kg73 t239 (congrArg (fun z : Option Nat => (Sum.inr (Sum.inr z) : AvC)) c266) ?_
                          have t267 := t226.x e237
                          obtain ⟨y270, e268, c269⟩ := cg71 (σ := σ235) (a := b56)
                          refine k_get kg71 t267 e268 ?_
                          refine k_goto ?_
                          refine hB _ _ _ _ (kgoC (is := KX3_judgeChoice_217) rfl ?_)
                          refine k_putL kg71 H236 t239 fk71 (fun σ271 H272 e273 c274 => ?_)
                          refine k_return ?_
                          have X275 : ExC [68, 70, 217, 218] σ0 σ31 := ExC.rf.tr (e35.mo (by decide))
                          have X276 : ExC [68, 70, 217, 218] σ0 σ77 := X275.tr (e81.mo (by decide))
                          have X277 : ExC [68, 70, 217, 218] σ0 σ130 := X276.tr (e134.mo (by decide))
                          have X278 : ExC [68, 70, 217, 218] σ0 σ156 := X277.tr (e158.mo (by decide))
                          have X279 : ExC [68, 70, 217, 218] σ0 σ235 := X278.tr (e237.mo (by decide))
                          have X280 : ExC [68, 70, 217, 218] σ0 σ271 := X279.tr (e273.mo (by decide))
                          exact ⟨rfl, H272, X280⟩
                      · refine k_nil ?_
                        refine hB _ _ _ _ (kgoC (is := KX3_judgeChoice_169) rfl ?_)
                        refine k_aload_n rfl ?_
                        have c281 := (t147.mr e158 (by decide)).trans c149
                        refine k_get kg74 t160 (congrArg (fun z : Option Nat => (Sum.inr (Sum.inr z) : AvC)) c281) ?_
                        have t282 := t151.x e158
                        obtain ⟨x285, e283, c284, h286, h287⟩ := cg70 H157.1 t282
                        refine k_get kg70 t282 e283 ?_
                        refine k_if_eq (fun h288 => ?_) (fun h288 => ?_)
                        · refine hB _ _ _ _ (kgoC (is := KX3_judgeChoice_183) rfl ?_)
                          refine k_iconst (m := 0) rfl (fun x289 h290 => ?_)
                          refine k_nil ?_
                          refine hB _ _ _ _ (kgoC (is := KX3_judgeChoice_184) rfl ?_)
                          refine k_putI kp70 H157 t160 (Or.inr ⟨fk70, b01C (by omega) (by omega)⟩) (by show 0 ≤ _; omega) (by show _ ≤ 1; omega) (fun σ291 H292 e293 c294 => ?_)
                          refine k_aload_n rfl ?_
                          refine k_aload_n rfl ?_
                          have t295 := t160.x e293
                          have c296 := (t160.mr e293 (by decide)).trans c164
                          refine k_get kg72 t295 (congrArg (fun z : Option Nat => (Sum.inr (Sum.inr z) : AvC)) c296) ?_
                          have t297 := t168.x e293
                          obtain ⟨y300, e298, c299⟩ := cg71 (σ := σ291) (a := b13)
                          refine k_get kg71 t297 e298 ?_
                          refine k_lconst ?_
                          refine k_lcmp (fun x301 h302 g303 => ?_)
                          refine k_if_ne (fun h304 => ?_) (fun h304 => ?_)
                          · refine hB _ _ _ _ (kgoC (is := KX3_judgeChoice_210) rfl ?_)
                            refine k_aload_n rfl ?_
                            have c305 := (t160.mr e293 (by decide)).trans c281
                            refine k_get kg74 t295 (congrArg (fun z : Option Nat => (Sum.inr (Sum.inr z) : AvC)) c305) ?_
                            have t306 := t282.x e293
                            obtain ⟨y309, e307, c308⟩ := cg71 (σ := σ291) (a := b103)
                            refine k_get kg71 t306 e307 ?_
                            refine k_nil ?_
                            refine hB _ _ _ _ (kgoC (is := KX3_judgeChoice_217) rfl ?_)
                            refine k_putL kg71 H292 t295 fk71 (fun σ310 H311 e312 c313 => ?_)
                            refine k_return ?_
                            have X314 : ExC [68, 70, 217, 218] σ0 σ31 := ExC.rf.tr (e35.mo (by decide))
                            have X315 : ExC [68, 70, 217, 218] σ0 σ77 := X314.tr (e81.mo (by decide))
                            have X316 : ExC [68, 70, 217, 218] σ0 σ130 := X315.tr (e134.mo (by decide))
                            have X317 : ExC [68, 70, 217, 218] σ0 σ156 := X316.tr (e158.mo (by decide))
                            have X318 : ExC [68, 70, 217, 218] σ0 σ291 := X317.tr (e293.mo (by decide))
                            have X319 : ExC [68, 70, 217, 218] σ0 σ310 := X318.tr (e312.mo (by decide))
                            exact ⟨rfl, H311, X319⟩
                          · refine k_nil ?_
                            refine hB _ _ _ _ (kgoC (is := KX3_judgeChoice_200) rfl ?_)
                            refine k_aload_n rfl ?_
                            have c320 := (t160.mr e293 (by decide)).trans c225
                            refine k_get kg73 t295 (congrArg (fun z : Option Nat => (Sum.inr (Sum.inr z) : AvC)) c320) ?_
                            have t321 := t226.x e293
                            obtain ⟨y324, e322, c323⟩ := cg71 (σ := σ291) (a := b56)
                            refine k_get kg71 t321 e322 ?_
                            refine k_goto ?_
                            refine hB _ _ _ _ (kgoC (is := KX3_judgeChoice_217) rfl ?_)
                            refine k_putL kg71 H292 t295 fk71 (fun σ325 H326 e327 c328 => ?_)
                            refine k_return ?_
                            have X329 : ExC [68, 70, 217, 218] σ0 σ31 := ExC.rf.tr (e35.mo (by decide))
                            have X330 : ExC [68, 70, 217, 218] σ0 σ77 := X329.tr (e81.mo (by decide))
                            have X331 : ExC [68, 70, 217, 218] σ0 σ130 := X330.tr (e134.mo (by decide))
                            have X332 : ExC [68, 70, 217, 218] σ0 σ156 := X331.tr (e158.mo (by decide))
                            have X333 : ExC [68, 70, 217, 218] σ0 σ291 := X332.tr (e293.mo (by decide))
                            have X334 : ExC [68, 70, 217, 218] σ0 σ325 := X333.tr (e327.mo (by decide))
                            exact ⟨rfl, H326, X334⟩
                        · refine k_nil ?_
                          refine hB _ _ _ _ (kgoC (is := KX3_judgeChoice_179) rfl ?_)
                          refine k_iconst (m := 1) rfl (fun x335 h336 => ?_)
                          refine k_goto ?_
                          refine hB _ _ _ _ (kgoC (is := KX3_judgeChoice_184) rfl ?_)
                          refine k_putI kp70 H157 t160 (Or.inr ⟨fk70, b01C (by omega) (by omega)⟩) (by show 0 ≤ _; omega) (by show _ ≤ 1; omega) (fun σ337 H338 e339 c340 => ?_)
                          refine k_aload_n rfl ?_
                          refine k_aload_n rfl ?_
                          have t341 := t160.x e339
                          have c342 := (t160.mr e339 (by decide)).trans c164
                          refine k_get kg72 t341 (congrArg (fun z : Option Nat => (Sum.inr (Sum.inr z) : AvC)) c342) ?_
                          have t343 := t168.x e339
                          obtain ⟨y346, e344, c345⟩ := cg71 (σ := σ337) (a := b13)
                          refine k_get kg71 t343 e344 ?_
                          refine k_lconst ?_
                          refine k_lcmp (fun x347 h348 g349 => ?_)
                          refine k_if_ne (fun h350 => ?_) (fun h350 => ?_)
                          · refine hB _ _ _ _ (kgoC (is := KX3_judgeChoice_210) rfl ?_)
                            refine k_aload_n rfl ?_
                            have c351 := (t160.mr e339 (by decide)).trans c281
                            refine k_get kg74 t341 (congrArg (fun z : Option Nat => (Sum.inr (Sum.inr z) : AvC)) c351) ?_
                            have t352 := t282.x e339
                            obtain ⟨y355, e353, c354⟩ := cg71 (σ := σ337) (a := b103)
                            refine k_get kg71 t352 e353 ?_
                            refine k_nil ?_
                            refine hB _ _ _ _ (kgoC (is := KX3_judgeChoice_217) rfl ?_)
                            refine k_putL kg71 H338 t341 fk71 (fun σ356 H357 e358 c359 => ?_)
                            refine k_return ?_
                            have X360 : ExC [68, 70, 217, 218] σ0 σ31 := ExC.rf.tr (e35.mo (by decide))
                            have X361 : ExC [68, 70, 217, 218] σ0 σ77 := X360.tr (e81.mo (by decide))
                            have X362 : ExC [68, 70, 217, 218] σ0 σ130 := X361.tr (e134.mo (by decide))
                            have X363 : ExC [68, 70, 217, 218] σ0 σ156 := X362.tr (e158.mo (by decide))
                            have X364 : ExC [68, 70, 217, 218] σ0 σ337 := X363.tr (e339.mo (by decide))
                            have X365 : ExC [68, 70, 217, 218] σ0 σ356 := X364.tr (e358.mo (by decide))
                            exact ⟨rfl, H357, X365⟩
                          · refine k_nil ?_
                            refine hB _ _ _ _ (kgoC (is := KX3_judgeChoice_200) rfl ?_)
                            refine k_aload_n rfl ?_
                            have c366 := (t160.mr e339 (by decide)).trans c225
                            refine k_get kg73 t341 (congrArg (fun z : Option Nat => (Sum.inr (Sum.inr z) : AvC)) c366) ?_
                            have t367 := t226.x e339
                            obtain ⟨y370, e368, c369⟩ := cg71 (σ := σ337) (a := b56)
                            refine k_get kg71 t367 e368 ?_
                            refine k_goto ?_
                            refine hB _ _ _ _ (kgoC (is := KX3_judgeChoice_217) rfl ?_)
                            refine k_putL kg71 H338 t341 fk71 (fun σ371 H372 e373 c374 => ?_)
                            refine k_return ?_
                            have X375 : ExC [68, 70, 217, 218] σ0 σ31 := ExC.rf.tr (e35.mo (by decide))
                            have X376 : ExC [68, 70, 217, 218] σ0 σ77 := X375.tr (e81.mo (by decide))
                            have X377 : ExC [68, 70, 217, 218] σ0 σ130 := X376.tr (e134.mo (by decide))
                            have X378 : ExC [68, 70, 217, 218] σ0 σ156 := X377.tr (e158.mo (by decide))
                            have X379 : ExC [68, 70, 217, 218] σ0 σ337 := X378.tr (e339.mo (by decide))
                            have X380 : ExC [68, 70, 217, 218] σ0 σ371 := X379.tr (e373.mo (by decide))
                            exact ⟨rfl, H372, X380⟩
                · refine k_if_ne (fun h381 => ?_) (fun h381 => by exfalso; omega)
                  refine hB _ _ _ _ (kgoC (is := KX3_judgeChoice_126) rfl ?_)
                  refine k_iconst (m := 0) rfl (fun x382 h383 => ?_)
                  refine k_nil ?_
                  refine hB _ _ _ _ (kgoC (is := KX3_judgeChoice_127) rfl ?_)
                  refine k_istore_n (ls' := [(2, .inl x382), (0, .inr (.inr (some p0))), (1, .inr (.inr (some p1)))]) rfl ?_
                  refine k_iload_n rfl ?_
                  refine k_if_ne (fun h384 => by exfalso; omega) (fun h384 => ?_)
                  refine k_nil ?_
                  refine hB _ _ _ _ (kgoC (is := KX3_judgeChoice_132) rfl ?_)
                  refine k_return ?_
                  have X385 : ExC [68, 70, 217, 218] σ0 σ31 := ExC.rf.tr (e35.mo (by decide))
                  have X386 : ExC [68, 70, 217, 218] σ0 σ77 := X385.tr (e81.mo (by decide))
                  exact ⟨rfl, H80, X386⟩
            · refine k_nil ?_
              refine hB _ _ _ _ (kgoC (is := KX3_judgeChoice_61) rfl ?_)
              refine k_iconst (m := 1) rfl (fun x387 h388 => ?_)
              refine k_goto ?_
              refine hB _ _ _ _ (kgoC (is := KX3_judgeChoice_66) rfl ?_)
              refine k_aload_n rfl ?_
              refine k_get kg73 t43 (congrArg (fun z : Option Nat => (Sum.inr (Sum.inr z) : AvC)) c45) ?_
              obtain ⟨x391, e389, c390, h392, h393⟩ := cg62 H34.1 t58
              refine k_get kg62 t58 e389 ?_
              have t394 := h_0_0.x e35
              refine k_inv (P := P_X3_isWanted) (Q := Q_X3_isWanted) rfl rfl rfl rfl (Nat.le_of_ble_eq_true rfl) (t394.rc (by decide)) ⟨_, _, _, rfl, H34, t394, (by omega), (by omega), (by omega), (by omega)⟩ (fun w395 σ396 q397 => ?_)
              obtain ⟨x398, rfl, H399, e400, h401, h402⟩ := q397
              refine k_st (st' := [.inl x398]) rfl ?_
              refine k_if_eq (fun h403 => ?_) (fun h403 => ?_)
              · refine hB _ _ _ _ (kgoC (is := KX3_judgeChoice_126) rfl ?_)
                refine k_iconst (m := 0) rfl (fun x404 h405 => ?_)
                refine k_nil ?_
                refine hB _ _ _ _ (kgoC (is := KX3_judgeChoice_127) rfl ?_)
                refine k_istore_n (ls' := [(2, .inl x404), (0, .inr (.inr (some p0))), (1, .inr (.inr (some p1)))]) rfl ?_
                refine k_iload_n rfl ?_
                refine k_if_ne (fun h406 => by exfalso; omega) (fun h406 => ?_)
                refine k_nil ?_
                refine hB _ _ _ _ (kgoC (is := KX3_judgeChoice_132) rfl ?_)
                refine k_return ?_
                have X407 : ExC [68, 70, 217, 218] σ0 σ31 := ExC.rf.tr (e35.mo (by decide))
                have X408 : ExC [68, 70, 217, 218] σ0 σ396 := X407.tr (e400.mo (by decide))
                exact ⟨rfl, H399, X408⟩
              · refine k_nil ?_
                refine hB _ _ _ _ (kgoC (is := KX3_judgeChoice_79) rfl ?_)
                refine k_aload_n rfl ?_
                have t409 := t43.x e400
                obtain ⟨o412, e410, c411, t413⟩ := cg74 H399.1 t409
                refine k_get kg74 t409 e410 ?_
                refine k_stat (P := P_X3_isFaulty) (Q := Q_X3_isFaulty) rfl rfl (Nat.le_of_ble_eq_true rfl) rfl rfl (Nat.le_of_ble_eq_true rfl) ⟨o412, rfl, H399, t413⟩ (fun w414 σ415 q416 => ?_)
                obtain ⟨x417, rfl, rfl, h418, h419, q420⟩ := q416
                refine k_st (st' := [.inl x417]) rfl ?_
                rcases (by omega : x417.toInt = 0 ∨ x417.toInt = 1) with g421 | g421
                · obtain ⟨b422, h423⟩ := q420 (by omega)
                  subst h423
                  have t424 := t413 b422 rfl
                  refine k_if_ne (fun h425 => by exfalso; omega) (fun h425 => ?_)
                  refine k_nil ?_
                  refine hB _ _ _ _ (kgoC (is := KX3_judgeChoice_89) rfl ?_)
                  refine k_aload_n rfl ?_
                  refine k_bipush (m := 7) rfl (fun x426 h427 => ?_)
                  refine k_aload_n rfl ?_
                  have c428 := (t43.mr e400 (by decide)).trans c45
                  refine k_get kg73 t409 (congrArg (fun z : Option Nat => (Sum.inr (Sum.inr z) : AvC)) c428) ?_
                  have t429 := t58.x e400
                  have c430 := (t58.mi e400 (by decide)).trans c61
                  refine k_get kg68 t429 (congrArg (Sum.inl : Int32 → AvC) c430) ?_
                  refine k_aload_n rfl ?_
                  refine k_get kg74 t409 (congrArg (fun z : Option Nat => (Sum.inr (Sum.inr z) : AvC)) c411) ?_
                  obtain ⟨x433, e431, c432, h434, h435⟩ := cg68 H399.1 t424
                  refine k_get kg68 t424 e431 ?_
                  refine k_stat (P := P_X3_isRightTaken) (Q := Q_X3_isRightTaken) rfl rfl (Nat.le_of_ble_eq_true rfl) rfl rfl (Nat.le_of_ble_eq_true rfl) ⟨_, _, _, rfl, H399⟩ (fun w436 σ437 q438 => ?_)
                  obtain ⟨x439, rfl, rfl, h440, h441⟩ := q438
                  refine k_st (st' := [.inl x439, .inr (.inr (some p0))]) rfl ?_
                  refine k_aload_n rfl ?_
                  refine k_get kg74 t409 (congrArg (fun z : Option Nat => (Sum.inr (Sum.inr z) : AvC)) c411) ?_
                  obtain ⟨x444, e442, c443, h445, h446⟩ := cg62 H399.1 t424
                  refine k_get kg62 t424 e442 ?_
                  have t447 := t394.x e400
                  refine k_inv (P := P_X3_isWanted) (Q := Q_X3_isWanted) rfl rfl rfl rfl (Nat.le_of_ble_eq_true rfl) (t447.rc (by decide)) ⟨_, _, _, rfl, H399, t447, (by omega), (by omega), (by omega), (by omega)⟩ (fun w448 σ449 q450 => ?_)
                  obtain ⟨x451, rfl, H452, e453, h454, h455⟩ := q450
                  refine k_st (st' := [.inl x451]) rfl ?_
                  refine k_if_eq (fun h456 => ?_) (fun h456 => ?_)
                  · refine hB _ _ _ _ (kgoC (is := KX3_judgeChoice_126) rfl ?_)
                    refine k_iconst (m := 0) rfl (fun x457 h458 => ?_)
                    refine k_nil ?_
                    refine hB _ _ _ _ (kgoC (is := KX3_judgeChoice_127) rfl ?_)
                    refine k_istore_n (ls' := [(2, .inl x457), (0, .inr (.inr (some p0))), (1, .inr (.inr (some p1)))]) rfl ?_
                    refine k_iload_n rfl ?_
                    refine k_if_ne (fun h459 => by exfalso; omega) (fun h459 => ?_)
                    refine k_nil ?_
                    refine hB _ _ _ _ (kgoC (is := KX3_judgeChoice_132) rfl ?_)
                    refine k_return ?_
                    have X460 : ExC [68, 70, 217, 218] σ0 σ31 := ExC.rf.tr (e35.mo (by decide))
                    have X461 : ExC [68, 70, 217, 218] σ0 σ396 := X460.tr (e400.mo (by decide))
                    have X462 : ExC [68, 70, 217, 218] σ0 σ449 := X461.tr (e453.mo (by decide))
                    exact ⟨rfl, H452, X462⟩
                  · refine k_nil ?_
                    refine hB _ _ _ _ (kgoC (is := KX3_judgeChoice_122) rfl ?_)
                    refine k_iconst (m := 1) rfl (fun x463 h464 => ?_)
                    refine k_goto ?_
                    refine hB _ _ _ _ (kgoC (is := KX3_judgeChoice_127) rfl ?_)
                    refine k_istore_n (ls' := [(2, .inl x463), (0, .inr (.inr (some p0))), (1, .inr (.inr (some p1)))]) rfl ?_
                    refine k_iload_n rfl ?_
                    refine k_if_ne (fun h465 => ?_) (fun h465 => by exfalso; omega)
                    refine hB _ _ _ _ (kgoC (is := KX3_judgeChoice_133) rfl ?_)
                    refine k_aload_n rfl ?_
                    refine k_aload_n rfl ?_
                    have t466 := t409.x e453
                    have c467 := (t409.mr e453 (by decide)).trans c428
                    refine k_get kg73 t466 (congrArg (fun z : Option Nat => (Sum.inr (Sum.inr z) : AvC)) c467) ?_
                    refine k_aload_n rfl ?_
                    have c468 := (t409.mr e453 (by decide)).trans c411
                    refine k_get kg74 t466 (congrArg (fun z : Option Nat => (Sum.inr (Sum.inr z) : AvC)) c468) ?_
                    have t469 := t429.x e453
                    have t470 := t424.x e453
                    refine k_stat (P := P_X3_choiceType) (Q := Q_X3_choiceType) rfl rfl (Nat.le_of_ble_eq_true rfl) rfl rfl (Nat.le_of_ble_eq_true rfl) ⟨_, _, rfl, H452, t469, t470⟩ (fun w471 σ472 q473 => ?_)
                    obtain ⟨x474, rfl, rfl⟩ := q473
                    refine k_st (st' := [.inl x474, .inr (.inr (some p1))]) rfl ?_
                    refine k_putI kp68 H452 t466 (Or.inl fk68) (tiC x474).1 (tiC x474).2 (fun σ475 H476 e477 c478 => ?_)
                    refine k_aload_n rfl ?_
                    refine k_aload_n rfl ?_
                    have t479 := t466.x e477
                    have c480 := (h_1_0.mr e35 (by decide)).trans c2
                    have c481 := (t43.mr e400 (by decide)).trans c480
                    have c482 := (t409.mr e453 (by decide)).trans c481
                    have c483 := (t466.mr e477 (by decide)).trans c482
                    refine k_get kg72 t479 (congrArg (fun z : Option Nat => (Sum.inr (Sum.inr z) : AvC)) c483) ?_
                    have t484 := t15.x e35
                    have t485 := t484.x e400
                    have t486 := t485.x e453
                    have t487 := t486.x e477
                    obtain ⟨x490, e488, c489, h491, h492⟩ := cg70 H476.1 t487
                    refine k_get kg70 t487 e488 ?_
                    refine k_if_eq (fun h493 => ?_) (fun h493 => ?_)
                    · refine hB _ _ _ _ (kgoC (is := KX3_judgeChoice_183) rfl ?_)
                      refine k_iconst (m := 0) rfl (fun x494 h495 => ?_)
                      refine k_nil ?_
                      refine hB _ _ _ _ (kgoC (is := KX3_judgeChoice_184) rfl ?_)
                      refine k_putI kp70 H476 t479 (Or.inr ⟨fk70, b01C (by omega) (by omega)⟩) (by show 0 ≤ _; omega) (by show _ ≤ 1; omega) (fun σ496 H497 e498 c499 => ?_)
                      refine k_aload_n rfl ?_
                      refine k_aload_n rfl ?_
                      have t500 := t479.x e498
                      have c501 := (t479.mr e498 (by decide)).trans c483
                      refine k_get kg72 t500 (congrArg (fun z : Option Nat => (Sum.inr (Sum.inr z) : AvC)) c501) ?_
                      have t502 := t487.x e498
                      obtain ⟨y505, e503, c504⟩ := cg71 (σ := σ496) (a := b13)
                      refine k_get kg71 t502 e503 ?_
                      refine k_lconst ?_
                      refine k_lcmp (fun x506 h507 g508 => ?_)
                      refine k_if_ne (fun h509 => ?_) (fun h509 => ?_)
                      · refine hB _ _ _ _ (kgoC (is := KX3_judgeChoice_210) rfl ?_)
                        refine k_aload_n rfl ?_
                        have c510 := (t466.mr e477 (by decide)).trans c468
                        have c511 := (t479.mr e498 (by decide)).trans c510
                        refine k_get kg74 t500 (congrArg (fun z : Option Nat => (Sum.inr (Sum.inr z) : AvC)) c511) ?_
                        have t512 := t470.x e477
                        have t513 := t512.x e498
                        obtain ⟨y516, e514, c515⟩ := cg71 (σ := σ496) (a := b422)
                        refine k_get kg71 t513 e514 ?_
                        refine k_nil ?_
                        refine hB _ _ _ _ (kgoC (is := KX3_judgeChoice_217) rfl ?_)
                        refine k_putL kg71 H497 t500 fk71 (fun σ517 H518 e519 c520 => ?_)
                        refine k_return ?_
                        have X521 : ExC [68, 70, 217, 218] σ0 σ31 := ExC.rf.tr (e35.mo (by decide))
                        have X522 : ExC [68, 70, 217, 218] σ0 σ396 := X521.tr (e400.mo (by decide))
                        have X523 : ExC [68, 70, 217, 218] σ0 σ449 := X522.tr (e453.mo (by decide))
                        have X524 : ExC [68, 70, 217, 218] σ0 σ475 := X523.tr (e477.mo (by decide))
                        have X525 : ExC [68, 70, 217, 218] σ0 σ496 := X524.tr (e498.mo (by decide))
                        have X526 : ExC [68, 70, 217, 218] σ0 σ517 := X525.tr (e519.mo (by decide))
                        exact ⟨rfl, H518, X526⟩
                      · refine k_nil ?_
                        refine hB _ _ _ _ (kgoC (is := KX3_judgeChoice_200) rfl ?_)
                        refine k_aload_n rfl ?_
                        have c527 := (t466.mr e477 (by decide)).trans c467
                        have c528 := (t479.mr e498 (by decide)).trans c527
                        refine k_get kg73 t500 (congrArg (fun z : Option Nat => (Sum.inr (Sum.inr z) : AvC)) c528) ?_
                        have t529 := t469.x e477
                        have t530 := t529.x e498
                        obtain ⟨y533, e531, c532⟩ := cg71 (σ := σ496) (a := b56)
                        refine k_get kg71 t530 e531 ?_
                        refine k_goto ?_
                        refine hB _ _ _ _ (kgoC (is := KX3_judgeChoice_217) rfl ?_)
                        refine k_putL kg71 H497 t500 fk71 (fun σ534 H535 e536 c537 => ?_)
                        refine k_return ?_
                        have X538 : ExC [68, 70, 217, 218] σ0 σ31 := ExC.rf.tr (e35.mo (by decide))
                        have X539 : ExC [68, 70, 217, 218] σ0 σ396 := X538.tr (e400.mo (by decide))
                        have X540 : ExC [68, 70, 217, 218] σ0 σ449 := X539.tr (e453.mo (by decide))
                        have X541 : ExC [68, 70, 217, 218] σ0 σ475 := X540.tr (e477.mo (by decide))
                        have X542 : ExC [68, 70, 217, 218] σ0 σ496 := X541.tr (e498.mo (by decide))
                        have X543 : ExC [68, 70, 217, 218] σ0 σ534 := X542.tr (e536.mo (by decide))
                        exact ⟨rfl, H535, X543⟩
                    · refine k_nil ?_
                      refine hB _ _ _ _ (kgoC (is := KX3_judgeChoice_159) rfl ?_)
                      refine k_aload_n rfl ?_
                      have c544 := (t466.mr e477 (by decide)).trans c467
                      refine k_get kg73 t479 (congrArg (fun z : Option Nat => (Sum.inr (Sum.inr z) : AvC)) c544) ?_
                      have t545 := t469.x e477
                      obtain ⟨x548, e546, c547, h549, h550⟩ := cg70 H476.1 t545
                      refine k_get kg70 t545 e546 ?_
                      refine k_if_eq (fun h551 => ?_) (fun h551 => ?_)
                      · refine hB _ _ _ _ (kgoC (is := KX3_judgeChoice_183) rfl ?_)
                        refine k_iconst (m := 0) rfl (fun x552 h553 => ?_)
                        refine k_nil ?_
                        refine hB _ _ _ _ (kgoC (is := KX3_judgeChoice_184) rfl ?_)
                        refine k_putI kp70 H476 t479 (Or.inr ⟨fk70, b01C (by omega) (by omega)⟩) (by show 0 ≤ _; omega) (by show _ ≤ 1; omega) (fun σ554 H555 e556 c557 => ?_)
                        refine k_aload_n rfl ?_
                        refine k_aload_n rfl ?_
                        have t558 := t479.x e556
                        have c559 := (t479.mr e556 (by decide)).trans c483
                        refine k_get kg72 t558 (congrArg (fun z : Option Nat => (Sum.inr (Sum.inr z) : AvC)) c559) ?_
                        have t560 := t487.x e556
                        obtain ⟨y563, e561, c562⟩ := cg71 (σ := σ554) (a := b13)
                        refine k_get kg71 t560 e561 ?_
                        refine k_lconst ?_
                        refine k_lcmp (fun x564 h565 g566 => ?_)
                        refine k_if_ne (fun h567 => ?_) (fun h567 => ?_)
                        · refine hB _ _ _ _ (kgoC (is := KX3_judgeChoice_210) rfl ?_)
                          refine k_aload_n rfl ?_
                          have c568 := (t466.mr e477 (by decide)).trans c468
                          have c569 := (t479.mr e556 (by decide)).trans c568
                          refine k_get kg74 t558 (congrArg (fun z : Option Nat => (Sum.inr (Sum.inr z) : AvC)) c569) ?_
                          have t570 := t470.x e477
                          have t571 := t570.x e556
                          obtain ⟨y574, e572, c573⟩ := cg71 (σ := σ554) (a := b422)
                          refine k_get kg71 t571 e572 ?_
                          refine k_nil ?_
                          refine hB _ _ _ _ (kgoC (is := KX3_judgeChoice_217) rfl ?_)
                          refine k_putL kg71 H555 t558 fk71 (fun σ575 H576 e577 c578 => ?_)
                          refine k_return ?_
                          have X579 : ExC [68, 70, 217, 218] σ0 σ31 := ExC.rf.tr (e35.mo (by decide))
                          have X580 : ExC [68, 70, 217, 218] σ0 σ396 := X579.tr (e400.mo (by decide))
                          have X581 : ExC [68, 70, 217, 218] σ0 σ449 := X580.tr (e453.mo (by decide))
                          have X582 : ExC [68, 70, 217, 218] σ0 σ475 := X581.tr (e477.mo (by decide))
                          have X583 : ExC [68, 70, 217, 218] σ0 σ554 := X582.tr (e556.mo (by decide))
                          have X584 : ExC [68, 70, 217, 218] σ0 σ575 := X583.tr (e577.mo (by decide))
                          exact ⟨rfl, H576, X584⟩
                        · refine k_nil ?_
                          refine hB _ _ _ _ (kgoC (is := KX3_judgeChoice_200) rfl ?_)
                          refine k_aload_n rfl ?_
                          have c585 := (t479.mr e556 (by decide)).trans c544
                          refine k_get kg73 t558 (congrArg (fun z : Option Nat => (Sum.inr (Sum.inr z) : AvC)) c585) ?_
                          have t586 := t545.x e556
                          obtain ⟨y589, e587, c588⟩ := cg71 (σ := σ554) (a := b56)
                          refine k_get kg71 t586 e587 ?_
                          refine k_goto ?_
                          refine hB _ _ _ _ (kgoC (is := KX3_judgeChoice_217) rfl ?_)
                          refine k_putL kg71 H555 t558 fk71 (fun σ590 H591 e592 c593 => ?_)
                          refine k_return ?_
                          have X594 : ExC [68, 70, 217, 218] σ0 σ31 := ExC.rf.tr (e35.mo (by decide))
                          have X595 : ExC [68, 70, 217, 218] σ0 σ396 := X594.tr (e400.mo (by decide))
                          have X596 : ExC [68, 70, 217, 218] σ0 σ449 := X595.tr (e453.mo (by decide))
                          have X597 : ExC [68, 70, 217, 218] σ0 σ475 := X596.tr (e477.mo (by decide))
                          have X598 : ExC [68, 70, 217, 218] σ0 σ554 := X597.tr (e556.mo (by decide))
                          have X599 : ExC [68, 70, 217, 218] σ0 σ590 := X598.tr (e592.mo (by decide))
                          exact ⟨rfl, H591, X599⟩
                      · refine k_nil ?_
                        refine hB _ _ _ _ (kgoC (is := KX3_judgeChoice_169) rfl ?_)
                        refine k_aload_n rfl ?_
                        have c600 := (t466.mr e477 (by decide)).trans c468
                        refine k_get kg74 t479 (congrArg (fun z : Option Nat => (Sum.inr (Sum.inr z) : AvC)) c600) ?_
                        have t601 := t470.x e477
                        obtain ⟨x604, e602, c603, h605, h606⟩ := cg70 H476.1 t601
                        refine k_get kg70 t601 e602 ?_
                        refine k_if_eq (fun h607 => ?_) (fun h607 => ?_)
                        · refine hB _ _ _ _ (kgoC (is := KX3_judgeChoice_183) rfl ?_)
                          refine k_iconst (m := 0) rfl (fun x608 h609 => ?_)
                          refine k_nil ?_
                          refine hB _ _ _ _ (kgoC (is := KX3_judgeChoice_184) rfl ?_)
                          refine k_putI kp70 H476 t479 (Or.inr ⟨fk70, b01C (by omega) (by omega)⟩) (by show 0 ≤ _; omega) (by show _ ≤ 1; omega) (fun σ610 H611 e612 c613 => ?_)
                          refine k_aload_n rfl ?_
                          refine k_aload_n rfl ?_
                          have t614 := t479.x e612
                          have c615 := (t479.mr e612 (by decide)).trans c483
                          refine k_get kg72 t614 (congrArg (fun z : Option Nat => (Sum.inr (Sum.inr z) : AvC)) c615) ?_
                          have t616 := t487.x e612
                          obtain ⟨y619, e617, c618⟩ := cg71 (σ := σ610) (a := b13)
                          refine k_get kg71 t616 e617 ?_
                          refine k_lconst ?_
                          refine k_lcmp (fun x620 h621 g622 => ?_)
                          refine k_if_ne (fun h623 => ?_) (fun h623 => ?_)
                          · refine hB _ _ _ _ (kgoC (is := KX3_judgeChoice_210) rfl ?_)
                            refine k_aload_n rfl ?_
                            have c624 := (t479.mr e612 (by decide)).trans c600
                            refine k_get kg74 t614 (congrArg (fun z : Option Nat => (Sum.inr (Sum.inr z) : AvC)) c624) ?_
                            have t625 := t601.x e612
                            obtain ⟨y628, e626, c627⟩ := cg71 (σ := σ610) (a := b422)
                            refine k_get kg71 t625 e626 ?_
                            refine k_nil ?_
                            refine hB _ _ _ _ (kgoC (is := KX3_judgeChoice_217) rfl ?_)
                            refine k_putL kg71 H611 t614 fk71 (fun σ629 H630 e631 c632 => ?_)
                            refine k_return ?_
                            have X633 : ExC [68, 70, 217, 218] σ0 σ31 := ExC.rf.tr (e35.mo (by decide))
                            have X634 : ExC [68, 70, 217, 218] σ0 σ396 := X633.tr (e400.mo (by decide))
                            have X635 : ExC [68, 70, 217, 218] σ0 σ449 := X634.tr (e453.mo (by decide))
                            have X636 : ExC [68, 70, 217, 218] σ0 σ475 := X635.tr (e477.mo (by decide))
                            have X637 : ExC [68, 70, 217, 218] σ0 σ610 := X636.tr (e612.mo (by decide))
                            have X638 : ExC [68, 70, 217, 218] σ0 σ629 := X637.tr (e631.mo (by decide))
                            exact ⟨rfl, H630, X638⟩
                          · refine k_nil ?_
                            refine hB _ _ _ _ (kgoC (is := KX3_judgeChoice_200) rfl ?_)
                            refine k_aload_n rfl ?_
                            have c639 := (t479.mr e612 (by decide)).trans c544
                            refine k_get kg73 t614 (congrArg (fun z : Option Nat => (Sum.inr (Sum.inr z) : AvC)) c639) ?_
                            have t640 := t545.x e612
                            obtain ⟨y643, e641, c642⟩ := cg71 (σ := σ610) (a := b56)
                            refine k_get kg71 t640 e641 ?_
                            refine k_goto ?_
                            refine hB _ _ _ _ (kgoC (is := KX3_judgeChoice_217) rfl ?_)
                            refine k_putL kg71 H611 t614 fk71 (fun σ644 H645 e646 c647 => ?_)
                            refine k_return ?_
                            have X648 : ExC [68, 70, 217, 218] σ0 σ31 := ExC.rf.tr (e35.mo (by decide))
                            have X649 : ExC [68, 70, 217, 218] σ0 σ396 := X648.tr (e400.mo (by decide))
                            have X650 : ExC [68, 70, 217, 218] σ0 σ449 := X649.tr (e453.mo (by decide))
                            have X651 : ExC [68, 70, 217, 218] σ0 σ475 := X650.tr (e477.mo (by decide))
                            have X652 : ExC [68, 70, 217, 218] σ0 σ610 := X651.tr (e612.mo (by decide))
                            have X653 : ExC [68, 70, 217, 218] σ0 σ644 := X652.tr (e646.mo (by decide))
                            exact ⟨rfl, H645, X653⟩
                        · refine k_nil ?_
                          refine hB _ _ _ _ (kgoC (is := KX3_judgeChoice_179) rfl ?_)
                          refine k_iconst (m := 1) rfl (fun x654 h655 => ?_)
                          refine k_goto ?_
                          refine hB _ _ _ _ (kgoC (is := KX3_judgeChoice_184) rfl ?_)
                          refine k_putI kp70 H476 t479 (Or.inr ⟨fk70, b01C (by omega) (by omega)⟩) (by show 0 ≤ _; omega) (by show _ ≤ 1; omega) (fun σ656 H657 e658 c659 => ?_)
                          refine k_aload_n rfl ?_
                          refine k_aload_n rfl ?_
                          have t660 := t479.x e658
                          have c661 := (t479.mr e658 (by decide)).trans c483
                          refine k_get kg72 t660 (congrArg (fun z : Option Nat => (Sum.inr (Sum.inr z) : AvC)) c661) ?_
                          have t662 := t487.x e658
                          obtain ⟨y665, e663, c664⟩ := cg71 (σ := σ656) (a := b13)
                          refine k_get kg71 t662 e663 ?_
                          refine k_lconst ?_
                          refine k_lcmp (fun x666 h667 g668 => ?_)
                          refine k_if_ne (fun h669 => ?_) (fun h669 => ?_)
                          · refine hB _ _ _ _ (kgoC (is := KX3_judgeChoice_210) rfl ?_)
                            refine k_aload_n rfl ?_
                            have c670 := (t479.mr e658 (by decide)).trans c600
                            refine k_get kg74 t660 (congrArg (fun z : Option Nat => (Sum.inr (Sum.inr z) : AvC)) c670) ?_
                            have t671 := t601.x e658
                            obtain ⟨y674, e672, c673⟩ := cg71 (σ := σ656) (a := b422)
                            refine k_get kg71 t671 e672 ?_
                            refine k_nil ?_
                            refine hB _ _ _ _ (kgoC (is := KX3_judgeChoice_217) rfl ?_)
                            refine k_putL kg71 H657 t660 fk71 (fun σ675 H676 e677 c678 => ?_)
                            refine k_return ?_
                            have X679 : ExC [68, 70, 217, 218] σ0 σ31 := ExC.rf.tr (e35.mo (by decide))
                            have X680 : ExC [68, 70, 217, 218] σ0 σ396 := X679.tr (e400.mo (by decide))
                            have X681 : ExC [68, 70, 217, 218] σ0 σ449 := X680.tr (e453.mo (by decide))
                            have X682 : ExC [68, 70, 217, 218] σ0 σ475 := X681.tr (e477.mo (by decide))
                            have X683 : ExC [68, 70, 217, 218] σ0 σ656 := X682.tr (e658.mo (by decide))
                            have X684 : ExC [68, 70, 217, 218] σ0 σ675 := X683.tr (e677.mo (by decide))
                            exact ⟨rfl, H676, X684⟩
                          · refine k_nil ?_
                            refine hB _ _ _ _ (kgoC (is := KX3_judgeChoice_200) rfl ?_)
                            refine k_aload_n rfl ?_
                            have c685 := (t479.mr e658 (by decide)).trans c544
                            refine k_get kg73 t660 (congrArg (fun z : Option Nat => (Sum.inr (Sum.inr z) : AvC)) c685) ?_
                            have t686 := t545.x e658
                            obtain ⟨y689, e687, c688⟩ := cg71 (σ := σ656) (a := b56)
                            refine k_get kg71 t686 e687 ?_
                            refine k_goto ?_
                            refine hB _ _ _ _ (kgoC (is := KX3_judgeChoice_217) rfl ?_)
                            refine k_putL kg71 H657 t660 fk71 (fun σ690 H691 e692 c693 => ?_)
                            refine k_return ?_
                            have X694 : ExC [68, 70, 217, 218] σ0 σ31 := ExC.rf.tr (e35.mo (by decide))
                            have X695 : ExC [68, 70, 217, 218] σ0 σ396 := X694.tr (e400.mo (by decide))
                            have X696 : ExC [68, 70, 217, 218] σ0 σ449 := X695.tr (e453.mo (by decide))
                            have X697 : ExC [68, 70, 217, 218] σ0 σ475 := X696.tr (e477.mo (by decide))
                            have X698 : ExC [68, 70, 217, 218] σ0 σ656 := X697.tr (e658.mo (by decide))
                            have X699 : ExC [68, 70, 217, 218] σ0 σ690 := X698.tr (e692.mo (by decide))
                            exact ⟨rfl, H691, X699⟩
                · refine k_if_ne (fun h700 => ?_) (fun h700 => by exfalso; omega)
                  refine hB _ _ _ _ (kgoC (is := KX3_judgeChoice_126) rfl ?_)
                  refine k_iconst (m := 0) rfl (fun x701 h702 => ?_)
                  refine k_nil ?_
                  refine hB _ _ _ _ (kgoC (is := KX3_judgeChoice_127) rfl ?_)
                  refine k_istore_n (ls' := [(2, .inl x701), (0, .inr (.inr (some p0))), (1, .inr (.inr (some p1)))]) rfl ?_
                  refine k_iload_n rfl ?_
                  refine k_if_ne (fun h703 => by exfalso; omega) (fun h703 => ?_)
                  refine k_nil ?_
                  refine hB _ _ _ _ (kgoC (is := KX3_judgeChoice_132) rfl ?_)
                  refine k_return ?_
                  have X704 : ExC [68, 70, 217, 218] σ0 σ31 := ExC.rf.tr (e35.mo (by decide))
                  have X705 : ExC [68, 70, 217, 218] σ0 σ396 := X704.tr (e400.mo (by decide))
                  exact ⟨rfl, H399, X705⟩
          · refine k_if_ne (fun h706 => ?_) (fun h706 => by exfalso; omega)
            refine hB _ _ _ _ (kgoC (is := KX3_judgeChoice_126) rfl ?_)
            refine k_iconst (m := 0) rfl (fun x707 h708 => ?_)
            refine k_nil ?_
            refine hB _ _ _ _ (kgoC (is := KX3_judgeChoice_127) rfl ?_)
            refine k_istore_n (ls' := [(2, .inl x707), (0, .inr (.inr (some p0))), (1, .inr (.inr (some p1)))]) rfl ?_
            refine k_iload_n rfl ?_
            refine k_if_ne (fun h709 => by exfalso; omega) (fun h709 => ?_)
            refine k_nil ?_
            refine hB _ _ _ _ (kgoC (is := KX3_judgeChoice_132) rfl ?_)
            refine k_return ?_
            have X710 : ExC [68, 70, 217, 218] σ0 σ31 := ExC.rf.tr (e35.mo (by decide))
            exact ⟨rfl, H34, X710⟩
      · refine k_nil ?_
        refine hB _ _ _ _ (kgoC (is := KX3_judgeChoice_21) rfl ?_)
        refine k_iconst (m := 1) rfl (fun x711 h712 => ?_)
        refine k_goto ?_
        refine hB _ _ _ _ (kgoC (is := KX3_judgeChoice_26) rfl ?_)
        refine k_aload_n rfl ?_
        refine k_get kg72 h_1_0 (congrArg (fun z : Option Nat => (Sum.inr (Sum.inr z) : AvC)) c2) ?_
        obtain ⟨x715, e713, c714, h716, h717⟩ := cg62 H0.1 t15
        refine k_get kg62 t15 e713 ?_
        refine k_inv (P := P_X3_isWanted) (Q := Q_X3_isWanted) rfl rfl rfl rfl (Nat.le_of_ble_eq_true rfl) (h_0_0.rc (by decide)) ⟨_, _, _, rfl, H0, h_0_0, (by omega), (by omega), (by omega), (by omega)⟩ (fun w718 σ719 q720 => ?_)
        obtain ⟨x721, rfl, H722, e723, h724, h725⟩ := q720
        refine k_st (st' := [.inl x721]) rfl ?_
        refine k_if_eq (fun h726 => ?_) (fun h726 => ?_)
        · refine hB _ _ _ _ (kgoC (is := KX3_judgeChoice_126) rfl ?_)
          refine k_iconst (m := 0) rfl (fun x727 h728 => ?_)
          refine k_nil ?_
          refine hB _ _ _ _ (kgoC (is := KX3_judgeChoice_127) rfl ?_)
          refine k_istore_n (ls' := [(2, .inl x727), (0, .inr (.inr (some p0))), (1, .inr (.inr (some p1)))]) rfl ?_
          refine k_iload_n rfl ?_
          refine k_if_ne (fun h729 => by exfalso; omega) (fun h729 => ?_)
          refine k_nil ?_
          refine hB _ _ _ _ (kgoC (is := KX3_judgeChoice_132) rfl ?_)
          refine k_return ?_
          have X730 : ExC [68, 70, 217, 218] σ0 σ719 := ExC.rf.tr (e723.mo (by decide))
          exact ⟨rfl, H722, X730⟩
        · refine k_nil ?_
          refine hB _ _ _ _ (kgoC (is := KX3_judgeChoice_39) rfl ?_)
          refine k_aload_n rfl ?_
          have t731 := h_1_0.x e723
          obtain ⟨o734, e732, c733, t735⟩ := cg73 H722.1 t731
          refine k_get kg73 t731 e732 ?_
          refine k_stat (P := P_X3_isFaulty) (Q := Q_X3_isFaulty) rfl rfl (Nat.le_of_ble_eq_true rfl) rfl rfl (Nat.le_of_ble_eq_true rfl) ⟨o734, rfl, H722, t735⟩ (fun w736 σ737 q738 => ?_)
          obtain ⟨x739, rfl, rfl, h740, h741, q742⟩ := q738
          refine k_st (st' := [.inl x739]) rfl ?_
          rcases (by omega : x739.toInt = 0 ∨ x739.toInt = 1) with g743 | g743
          · obtain ⟨b744, h745⟩ := q742 (by omega)
            subst h745
            have t746 := t735 b744 rfl
            refine k_if_ne (fun h747 => by exfalso; omega) (fun h747 => ?_)
            refine k_nil ?_
            refine hB _ _ _ _ (kgoC (is := KX3_judgeChoice_49) rfl ?_)
            refine k_aload_n rfl ?_
            refine k_aload_n rfl ?_
            refine k_get kg73 t731 (congrArg (fun z : Option Nat => (Sum.inr (Sum.inr z) : AvC)) c733) ?_
            obtain ⟨x750, e748, c749, h751, h752⟩ := cg68 H722.1 t746
            refine k_get kg68 t746 e748 ?_
            refine k_iconst (m := 5) rfl (fun x753 h754 => ?_)
            refine k_ic_eq (fun h755 => ?_) (fun h755 => ?_)
            · refine hB _ _ _ _ (kgoC (is := KX3_judgeChoice_65) rfl ?_)
              refine k_iconst (m := 0) rfl (fun x756 h757 => ?_)
              refine k_nil ?_
              refine hB _ _ _ _ (kgoC (is := KX3_judgeChoice_66) rfl ?_)
              refine k_aload_n rfl ?_
              refine k_get kg73 t731 (congrArg (fun z : Option Nat => (Sum.inr (Sum.inr z) : AvC)) c733) ?_
              obtain ⟨x760, e758, c759, h761, h762⟩ := cg62 H722.1 t746
              refine k_get kg62 t746 e758 ?_
              have t763 := h_0_0.x e723
              refine k_inv (P := P_X3_isWanted) (Q := Q_X3_isWanted) rfl rfl rfl rfl (Nat.le_of_ble_eq_true rfl) (t763.rc (by decide)) ⟨_, _, _, rfl, H722, t763, (by omega), (by omega), (by omega), (by omega)⟩ (fun w764 σ765 q766 => ?_)
              obtain ⟨x767, rfl, H768, e769, h770, h771⟩ := q766
              refine k_st (st' := [.inl x767]) rfl ?_
              refine k_if_eq (fun h772 => ?_) (fun h772 => ?_)
              · refine hB _ _ _ _ (kgoC (is := KX3_judgeChoice_126) rfl ?_)
                refine k_iconst (m := 0) rfl (fun x773 h774 => ?_)
                refine k_nil ?_
                refine hB _ _ _ _ (kgoC (is := KX3_judgeChoice_127) rfl ?_)
                refine k_istore_n (ls' := [(2, .inl x773), (0, .inr (.inr (some p0))), (1, .inr (.inr (some p1)))]) rfl ?_
                refine k_iload_n rfl ?_
                refine k_if_ne (fun h775 => by exfalso; omega) (fun h775 => ?_)
                refine k_nil ?_
                refine hB _ _ _ _ (kgoC (is := KX3_judgeChoice_132) rfl ?_)
                refine k_return ?_
                have X776 : ExC [68, 70, 217, 218] σ0 σ719 := ExC.rf.tr (e723.mo (by decide))
                have X777 : ExC [68, 70, 217, 218] σ0 σ765 := X776.tr (e769.mo (by decide))
                exact ⟨rfl, H768, X777⟩
              · refine k_nil ?_
                refine hB _ _ _ _ (kgoC (is := KX3_judgeChoice_79) rfl ?_)
                refine k_aload_n rfl ?_
                have t778 := t731.x e769
                obtain ⟨o781, e779, c780, t782⟩ := cg74 H768.1 t778
                refine k_get kg74 t778 e779 ?_
                refine k_stat (P := P_X3_isFaulty) (Q := Q_X3_isFaulty) rfl rfl (Nat.le_of_ble_eq_true rfl) rfl rfl (Nat.le_of_ble_eq_true rfl) ⟨o781, rfl, H768, t782⟩ (fun w783 σ784 q785 => ?_)
                obtain ⟨x786, rfl, rfl, h787, h788, q789⟩ := q785
                refine k_st (st' := [.inl x786]) rfl ?_
                rcases (by omega : x786.toInt = 0 ∨ x786.toInt = 1) with g790 | g790
                · obtain ⟨b791, h792⟩ := q789 (by omega)
                  subst h792
                  have t793 := t782 b791 rfl
                  refine k_if_ne (fun h794 => by exfalso; omega) (fun h794 => ?_)
                  refine k_nil ?_
                  refine hB _ _ _ _ (kgoC (is := KX3_judgeChoice_89) rfl ?_)
                  refine k_aload_n rfl ?_
                  refine k_bipush (m := 7) rfl (fun x795 h796 => ?_)
                  refine k_aload_n rfl ?_
                  have c797 := (t731.mr e769 (by decide)).trans c733
                  refine k_get kg73 t778 (congrArg (fun z : Option Nat => (Sum.inr (Sum.inr z) : AvC)) c797) ?_
                  have t798 := t746.x e769
                  have c799 := (t746.mi e769 (by decide)).trans c749
                  refine k_get kg68 t798 (congrArg (Sum.inl : Int32 → AvC) c799) ?_
                  refine k_aload_n rfl ?_
                  refine k_get kg74 t778 (congrArg (fun z : Option Nat => (Sum.inr (Sum.inr z) : AvC)) c780) ?_
                  obtain ⟨x802, e800, c801, h803, h804⟩ := cg68 H768.1 t793
                  refine k_get kg68 t793 e800 ?_
                  refine k_stat (P := P_X3_isRightTaken) (Q := Q_X3_isRightTaken) rfl rfl (Nat.le_of_ble_eq_true rfl) rfl rfl (Nat.le_of_ble_eq_true rfl) ⟨_, _, _, rfl, H768⟩ (fun w805 σ806 q807 => ?_)
                  obtain ⟨x808, rfl, rfl, h809, h810⟩ := q807
                  refine k_st (st' := [.inl x808, .inr (.inr (some p0))]) rfl ?_
                  refine k_aload_n rfl ?_
                  refine k_get kg74 t778 (congrArg (fun z : Option Nat => (Sum.inr (Sum.inr z) : AvC)) c780) ?_
                  obtain ⟨x813, e811, c812, h814, h815⟩ := cg62 H768.1 t793
                  refine k_get kg62 t793 e811 ?_
                  have t816 := t763.x e769
                  refine k_inv (P := P_X3_isWanted) (Q := Q_X3_isWanted) rfl rfl rfl rfl (Nat.le_of_ble_eq_true rfl) (t816.rc (by decide)) ⟨_, _, _, rfl, H768, t816, (by omega), (by omega), (by omega), (by omega)⟩ (fun w817 σ818 q819 => ?_)
                  obtain ⟨x820, rfl, H821, e822, h823, h824⟩ := q819
                  refine k_st (st' := [.inl x820]) rfl ?_
                  refine k_if_eq (fun h825 => ?_) (fun h825 => ?_)
                  · refine hB _ _ _ _ (kgoC (is := KX3_judgeChoice_126) rfl ?_)
                    refine k_iconst (m := 0) rfl (fun x826 h827 => ?_)
                    refine k_nil ?_
                    refine hB _ _ _ _ (kgoC (is := KX3_judgeChoice_127) rfl ?_)
                    refine k_istore_n (ls' := [(2, .inl x826), (0, .inr (.inr (some p0))), (1, .inr (.inr (some p1)))]) rfl ?_
                    refine k_iload_n rfl ?_
                    refine k_if_ne (fun h828 => by exfalso; omega) (fun h828 => ?_)
                    refine k_nil ?_
                    refine hB _ _ _ _ (kgoC (is := KX3_judgeChoice_132) rfl ?_)
                    refine k_return ?_
                    have X829 : ExC [68, 70, 217, 218] σ0 σ719 := ExC.rf.tr (e723.mo (by decide))
                    have X830 : ExC [68, 70, 217, 218] σ0 σ765 := X829.tr (e769.mo (by decide))
                    have X831 : ExC [68, 70, 217, 218] σ0 σ818 := X830.tr (e822.mo (by decide))
                    exact ⟨rfl, H821, X831⟩
                  · refine k_nil ?_
                    refine hB _ _ _ _ (kgoC (is := KX3_judgeChoice_122) rfl ?_)
                    refine k_iconst (m := 1) rfl (fun x832 h833 => ?_)
                    refine k_goto ?_
                    refine hB _ _ _ _ (kgoC (is := KX3_judgeChoice_127) rfl ?_)
                    refine k_istore_n (ls' := [(2, .inl x832), (0, .inr (.inr (some p0))), (1, .inr (.inr (some p1)))]) rfl ?_
                    refine k_iload_n rfl ?_
                    refine k_if_ne (fun h834 => ?_) (fun h834 => by exfalso; omega)
                    refine hB _ _ _ _ (kgoC (is := KX3_judgeChoice_133) rfl ?_)
                    refine k_aload_n rfl ?_
                    refine k_aload_n rfl ?_
                    have t835 := t778.x e822
                    have c836 := (t778.mr e822 (by decide)).trans c797
                    refine k_get kg73 t835 (congrArg (fun z : Option Nat => (Sum.inr (Sum.inr z) : AvC)) c836) ?_
                    refine k_aload_n rfl ?_
                    have c837 := (t778.mr e822 (by decide)).trans c780
                    refine k_get kg74 t835 (congrArg (fun z : Option Nat => (Sum.inr (Sum.inr z) : AvC)) c837) ?_
                    have t838 := t798.x e822
                    have t839 := t793.x e822
                    refine k_stat (P := P_X3_choiceType) (Q := Q_X3_choiceType) rfl rfl (Nat.le_of_ble_eq_true rfl) rfl rfl (Nat.le_of_ble_eq_true rfl) ⟨_, _, rfl, H821, t838, t839⟩ (fun w840 σ841 q842 => ?_)
                    obtain ⟨x843, rfl, rfl⟩ := q842
                    refine k_st (st' := [.inl x843, .inr (.inr (some p1))]) rfl ?_
                    refine k_putI kp68 H821 t835 (Or.inl fk68) (tiC x843).1 (tiC x843).2 (fun σ844 H845 e846 c847 => ?_)
                    refine k_aload_n rfl ?_
                    refine k_aload_n rfl ?_
                    have t848 := t835.x e846
                    have c849 := (h_1_0.mr e723 (by decide)).trans c2
                    have c850 := (t731.mr e769 (by decide)).trans c849
                    have c851 := (t778.mr e822 (by decide)).trans c850
                    have c852 := (t835.mr e846 (by decide)).trans c851
                    refine k_get kg72 t848 (congrArg (fun z : Option Nat => (Sum.inr (Sum.inr z) : AvC)) c852) ?_
                    have t853 := t15.x e723
                    have t854 := t853.x e769
                    have t855 := t854.x e822
                    have t856 := t855.x e846
                    obtain ⟨x859, e857, c858, h860, h861⟩ := cg70 H845.1 t856
                    refine k_get kg70 t856 e857 ?_
                    refine k_if_eq (fun h862 => ?_) (fun h862 => ?_)
                    · refine hB _ _ _ _ (kgoC (is := KX3_judgeChoice_183) rfl ?_)
                      refine k_iconst (m := 0) rfl (fun x863 h864 => ?_)
                      refine k_nil ?_
                      refine hB _ _ _ _ (kgoC (is := KX3_judgeChoice_184) rfl ?_)
                      refine k_putI kp70 H845 t848 (Or.inr ⟨fk70, b01C (by omega) (by omega)⟩) (by show 0 ≤ _; omega) (by show _ ≤ 1; omega) (fun σ865 H866 e867 c868 => ?_)
                      refine k_aload_n rfl ?_
                      refine k_aload_n rfl ?_
                      have t869 := t848.x e867
                      have c870 := (t848.mr e867 (by decide)).trans c852
                      refine k_get kg72 t869 (congrArg (fun z : Option Nat => (Sum.inr (Sum.inr z) : AvC)) c870) ?_
                      have t871 := t856.x e867
                      obtain ⟨y874, e872, c873⟩ := cg71 (σ := σ865) (a := b13)
                      refine k_get kg71 t871 e872 ?_
                      refine k_lconst ?_
                      refine k_lcmp (fun x875 h876 g877 => ?_)
                      refine k_if_ne (fun h878 => ?_) (fun h878 => ?_)
                      · refine hB _ _ _ _ (kgoC (is := KX3_judgeChoice_210) rfl ?_)
                        refine k_aload_n rfl ?_
                        have c879 := (t835.mr e846 (by decide)).trans c837
                        have c880 := (t848.mr e867 (by decide)).trans c879
                        refine k_get kg74 t869 (congrArg (fun z : Option Nat => (Sum.inr (Sum.inr z) : AvC)) c880) ?_
                        have t881 := t839.x e846
                        have t882 := t881.x e867
                        obtain ⟨y885, e883, c884⟩ := cg71 (σ := σ865) (a := b791)
                        refine k_get kg71 t882 e883 ?_
                        refine k_nil ?_
                        refine hB _ _ _ _ (kgoC (is := KX3_judgeChoice_217) rfl ?_)
                        refine k_putL kg71 H866 t869 fk71 (fun σ886 H887 e888 c889 => ?_)
                        refine k_return ?_
                        have X890 : ExC [68, 70, 217, 218] σ0 σ719 := ExC.rf.tr (e723.mo (by decide))
                        have X891 : ExC [68, 70, 217, 218] σ0 σ765 := X890.tr (e769.mo (by decide))
                        have X892 : ExC [68, 70, 217, 218] σ0 σ818 := X891.tr (e822.mo (by decide))
                        have X893 : ExC [68, 70, 217, 218] σ0 σ844 := X892.tr (e846.mo (by decide))
                        have X894 : ExC [68, 70, 217, 218] σ0 σ865 := X893.tr (e867.mo (by decide))
                        have X895 : ExC [68, 70, 217, 218] σ0 σ886 := X894.tr (e888.mo (by decide))
                        exact ⟨rfl, H887, X895⟩
                      · refine k_nil ?_
                        refine hB _ _ _ _ (kgoC (is := KX3_judgeChoice_200) rfl ?_)
                        refine k_aload_n rfl ?_
                        have c896 := (t835.mr e846 (by decide)).trans c836
                        have c897 := (t848.mr e867 (by decide)).trans c896
                        refine k_get kg73 t869 (congrArg (fun z : Option Nat => (Sum.inr (Sum.inr z) : AvC)) c897) ?_
                        have t898 := t838.x e846
                        have t899 := t898.x e867
                        obtain ⟨y902, e900, c901⟩ := cg71 (σ := σ865) (a := b744)
                        refine k_get kg71 t899 e900 ?_
                        refine k_goto ?_
                        refine hB _ _ _ _ (kgoC (is := KX3_judgeChoice_217) rfl ?_)
                        refine k_putL kg71 H866 t869 fk71 (fun σ903 H904 e905 c906 => ?_)
                        refine k_return ?_
                        have X907 : ExC [68, 70, 217, 218] σ0 σ719 := ExC.rf.tr (e723.mo (by decide))
                        have X908 : ExC [68, 70, 217, 218] σ0 σ765 := X907.tr (e769.mo (by decide))
                        have X909 : ExC [68, 70, 217, 218] σ0 σ818 := X908.tr (e822.mo (by decide))
                        have X910 : ExC [68, 70, 217, 218] σ0 σ844 := X909.tr (e846.mo (by decide))
                        have X911 : ExC [68, 70, 217, 218] σ0 σ865 := X910.tr (e867.mo (by decide))
                        have X912 : ExC [68, 70, 217, 218] σ0 σ903 := X911.tr (e905.mo (by decide))
                        exact ⟨rfl, H904, X912⟩
                    · refine k_nil ?_
                      refine hB _ _ _ _ (kgoC (is := KX3_judgeChoice_159) rfl ?_)
                      refine k_aload_n rfl ?_
                      have c913 := (t835.mr e846 (by decide)).trans c836
                      refine k_get kg73 t848 (congrArg (fun z : Option Nat => (Sum.inr (Sum.inr z) : AvC)) c913) ?_
                      have t914 := t838.x e846
                      obtain ⟨x917, e915, c916, h918, h919⟩ := cg70 H845.1 t914
                      refine k_get kg70 t914 e915 ?_
                      refine k_if_eq (fun h920 => ?_) (fun h920 => ?_)
                      · refine hB _ _ _ _ (kgoC (is := KX3_judgeChoice_183) rfl ?_)
                        refine k_iconst (m := 0) rfl (fun x921 h922 => ?_)
                        refine k_nil ?_
                        refine hB _ _ _ _ (kgoC (is := KX3_judgeChoice_184) rfl ?_)
                        refine k_putI kp70 H845 t848 (Or.inr ⟨fk70, b01C (by omega) (by omega)⟩) (by show 0 ≤ _; omega) (by show _ ≤ 1; omega) (fun σ923 H924 e925 c926 => ?_)
                        refine k_aload_n rfl ?_
                        refine k_aload_n rfl ?_
                        have t927 := t848.x e925
                        have c928 := (t848.mr e925 (by decide)).trans c852
                        refine k_get kg72 t927 (congrArg (fun z : Option Nat => (Sum.inr (Sum.inr z) : AvC)) c928) ?_
                        have t929 := t856.x e925
                        obtain ⟨y932, e930, c931⟩ := cg71 (σ := σ923) (a := b13)
                        refine k_get kg71 t929 e930 ?_
                        refine k_lconst ?_
                        refine k_lcmp (fun x933 h934 g935 => ?_)
                        refine k_if_ne (fun h936 => ?_) (fun h936 => ?_)
                        · refine hB _ _ _ _ (kgoC (is := KX3_judgeChoice_210) rfl ?_)
                          refine k_aload_n rfl ?_
                          have c937 := (t835.mr e846 (by decide)).trans c837
                          have c938 := (t848.mr e925 (by decide)).trans c937
                          refine k_get kg74 t927 (congrArg (fun z : Option Nat => (Sum.inr (Sum.inr z) : AvC)) c938) ?_
                          have t939 := t839.x e846
                          have t940 := t939.x e925
                          obtain ⟨y943, e941, c942⟩ := cg71 (σ := σ923) (a := b791)
                          refine k_get kg71 t940 e941 ?_
                          refine k_nil ?_
                          refine hB _ _ _ _ (kgoC (is := KX3_judgeChoice_217) rfl ?_)
                          refine k_putL kg71 H924 t927 fk71 (fun σ944 H945 e946 c947 => ?_)
                          refine k_return ?_
                          have X948 : ExC [68, 70, 217, 218] σ0 σ719 := ExC.rf.tr (e723.mo (by decide))
                          have X949 : ExC [68, 70, 217, 218] σ0 σ765 := X948.tr (e769.mo (by decide))
                          have X950 : ExC [68, 70, 217, 218] σ0 σ818 := X949.tr (e822.mo (by decide))
                          have X951 : ExC [68, 70, 217, 218] σ0 σ844 := X950.tr (e846.mo (by decide))
                          have X952 : ExC [68, 70, 217, 218] σ0 σ923 := X951.tr (e925.mo (by decide))
                          have X953 : ExC [68, 70, 217, 218] σ0 σ944 := X952.tr (e946.mo (by decide))
                          exact ⟨rfl, H945, X953⟩
                        · refine k_nil ?_
                          refine hB _ _ _ _ (kgoC (is := KX3_judgeChoice_200) rfl ?_)
                          refine k_aload_n rfl ?_
                          have c954 := (t848.mr e925 (by decide)).trans c913
                          refine k_get kg73 t927 (congrArg (fun z : Option Nat => (Sum.inr (Sum.inr z) : AvC)) c954) ?_
                          have t955 := t914.x e925
                          obtain ⟨y958, e956, c957⟩ := cg71 (σ := σ923) (a := b744)
                          refine k_get kg71 t955 e956 ?_
                          refine k_goto ?_
                          refine hB _ _ _ _ (kgoC (is := KX3_judgeChoice_217) rfl ?_)
                          refine k_putL kg71 H924 t927 fk71 (fun σ959 H960 e961 c962 => ?_)
                          refine k_return ?_
                          have X963 : ExC [68, 70, 217, 218] σ0 σ719 := ExC.rf.tr (e723.mo (by decide))
                          have X964 : ExC [68, 70, 217, 218] σ0 σ765 := X963.tr (e769.mo (by decide))
                          have X965 : ExC [68, 70, 217, 218] σ0 σ818 := X964.tr (e822.mo (by decide))
                          have X966 : ExC [68, 70, 217, 218] σ0 σ844 := X965.tr (e846.mo (by decide))
                          have X967 : ExC [68, 70, 217, 218] σ0 σ923 := X966.tr (e925.mo (by decide))
                          have X968 : ExC [68, 70, 217, 218] σ0 σ959 := X967.tr (e961.mo (by decide))
                          exact ⟨rfl, H960, X968⟩
                      · refine k_nil ?_
                        refine hB _ _ _ _ (kgoC (is := KX3_judgeChoice_169) rfl ?_)
                        refine k_aload_n rfl ?_
                        have c969 := (t835.mr e846 (by decide)).trans c837
                        refine k_get kg74 t848 (congrArg (fun z : Option Nat => (Sum.inr (Sum.inr z) : AvC)) c969) ?_
                        have t970 := t839.x e846
                        obtain ⟨x973, e971, c972, h974, h975⟩ := cg70 H845.1 t970
                        refine k_get kg70 t970 e971 ?_
                        refine k_if_eq (fun h976 => ?_) (fun h976 => ?_)
                        · refine hB _ _ _ _ (kgoC (is := KX3_judgeChoice_183) rfl ?_)
                          refine k_iconst (m := 0) rfl (fun x977 h978 => ?_)
                          refine k_nil ?_
                          refine hB _ _ _ _ (kgoC (is := KX3_judgeChoice_184) rfl ?_)
                          refine k_putI kp70 H845 t848 (Or.inr ⟨fk70, b01C (by omega) (by omega)⟩) (by show 0 ≤ _; omega) (by show _ ≤ 1; omega) (fun σ979 H980 e981 c982 => ?_)
                          refine k_aload_n rfl ?_
                          refine k_aload_n rfl ?_
                          have t983 := t848.x e981
                          have c984 := (t848.mr e981 (by decide)).trans c852
                          refine k_get kg72 t983 (congrArg (fun z : Option Nat => (Sum.inr (Sum.inr z) : AvC)) c984) ?_
                          have t985 := t856.x e981
                          obtain ⟨y988, e986, c987⟩ := cg71 (σ := σ979) (a := b13)
                          refine k_get kg71 t985 e986 ?_
                          refine k_lconst ?_
                          refine k_lcmp (fun x989 h990 g991 => ?_)
                          refine k_if_ne (fun h992 => ?_) (fun h992 => ?_)
                          · refine hB _ _ _ _ (kgoC (is := KX3_judgeChoice_210) rfl ?_)
                            refine k_aload_n rfl ?_
                            have c993 := (t848.mr e981 (by decide)).trans c969
                            refine k_get kg74 t983 (congrArg (fun z : Option Nat => (Sum.inr (Sum.inr z) : AvC)) c993) ?_
                            have t994 := t970.x e981
                            obtain ⟨y997, e995, c996⟩ := cg71 (σ := σ979) (a := b791)
                            refine k_get kg71 t994 e995 ?_
                            refine k_nil ?_
                            refine hB _ _ _ _ (kgoC (is := KX3_judgeChoice_217) rfl ?_)
                            refine k_putL kg71 H980 t983 fk71 (fun σ998 H999 e1000 c1001 => ?_)
                            refine k_return ?_
                            have X1002 : ExC [68, 70, 217, 218] σ0 σ719 := ExC.rf.tr (e723.mo (by decide))
                            have X1003 : ExC [68, 70, 217, 218] σ0 σ765 := X1002.tr (e769.mo (by decide))
                            have X1004 : ExC [68, 70, 217, 218] σ0 σ818 := X1003.tr (e822.mo (by decide))
                            have X1005 : ExC [68, 70, 217, 218] σ0 σ844 := X1004.tr (e846.mo (by decide))
                            have X1006 : ExC [68, 70, 217, 218] σ0 σ979 := X1005.tr (e981.mo (by decide))
                            have X1007 : ExC [68, 70, 217, 218] σ0 σ998 := X1006.tr (e1000.mo (by decide))
                            exact ⟨rfl, H999, X1007⟩
                          · refine k_nil ?_
                            refine hB _ _ _ _ (kgoC (is := KX3_judgeChoice_200) rfl ?_)
                            refine k_aload_n rfl ?_
                            have c1008 := (t848.mr e981 (by decide)).trans c913
                            refine k_get kg73 t983 (congrArg (fun z : Option Nat => (Sum.inr (Sum.inr z) : AvC)) c1008) ?_
                            have t1009 := t914.x e981
                            obtain ⟨y1012, e1010, c1011⟩ := cg71 (σ := σ979) (a := b744)
                            refine k_get kg71 t1009 e1010 ?_
                            refine k_goto ?_
                            refine hB _ _ _ _ (kgoC (is := KX3_judgeChoice_217) rfl ?_)
                            refine k_putL kg71 H980 t983 fk71 (fun σ1013 H1014 e1015 c1016 => ?_)
                            refine k_return ?_
                            have X1017 : ExC [68, 70, 217, 218] σ0 σ719 := ExC.rf.tr (e723.mo (by decide))
                            have X1018 : ExC [68, 70, 217, 218] σ0 σ765 := X1017.tr (e769.mo (by decide))
                            have X1019 : ExC [68, 70, 217, 218] σ0 σ818 := X1018.tr (e822.mo (by decide))
                            have X1020 : ExC [68, 70, 217, 218] σ0 σ844 := X1019.tr (e846.mo (by decide))
                            have X1021 : ExC [68, 70, 217, 218] σ0 σ979 := X1020.tr (e981.mo (by decide))
                            have X1022 : ExC [68, 70, 217, 218] σ0 σ1013 := X1021.tr (e1015.mo (by decide))
                            exact ⟨rfl, H1014, X1022⟩
                        · refine k_nil ?_
                          refine hB _ _ _ _ (kgoC (is := KX3_judgeChoice_179) rfl ?_)
                          refine k_iconst (m := 1) rfl (fun x1023 h1024 => ?_)
                          refine k_goto ?_
                          refine hB _ _ _ _ (kgoC (is := KX3_judgeChoice_184) rfl ?_)
                          refine k_putI kp70 H845 t848 (Or.inr ⟨fk70, b01C (by omega) (by omega)⟩) (by show 0 ≤ _; omega) (by show _ ≤ 1; omega) (fun σ1025 H1026 e1027 c1028 => ?_)
                          refine k_aload_n rfl ?_
                          refine k_aload_n rfl ?_
                          have t1029 := t848.x e1027
                          have c1030 := (t848.mr e1027 (by decide)).trans c852
                          refine k_get kg72 t1029 (congrArg (fun z : Option Nat => (Sum.inr (Sum.inr z) : AvC)) c1030) ?_
                          have t1031 := t856.x e1027
                          obtain ⟨y1034, e1032, c1033⟩ := cg71 (σ := σ1025) (a := b13)
                          refine k_get kg71 t1031 e1032 ?_
                          refine k_lconst ?_
                          refine k_lcmp (fun x1035 h1036 g1037 => ?_)
                          refine k_if_ne (fun h1038 => ?_) (fun h1038 => ?_)
                          · refine hB _ _ _ _ (kgoC (is := KX3_judgeChoice_210) rfl ?_)
                            refine k_aload_n rfl ?_
                            have c1039 := (t848.mr e1027 (by decide)).trans c969
                            refine k_get kg74 t1029 (congrArg (fun z : Option Nat => (Sum.inr (Sum.inr z) : AvC)) c1039) ?_
                            have t1040 := t970.x e1027
                            obtain ⟨y1043, e1041, c1042⟩ := cg71 (σ := σ1025) (a := b791)
                            refine k_get kg71 t1040 e1041 ?_
                            refine k_nil ?_
                            refine hB _ _ _ _ (kgoC (is := KX3_judgeChoice_217) rfl ?_)
                            refine k_putL kg71 H1026 t1029 fk71 (fun σ1044 H1045 e1046 c1047 => ?_)
                            refine k_return ?_
                            have X1048 : ExC [68, 70, 217, 218] σ0 σ719 := ExC.rf.tr (e723.mo (by decide))
                            have X1049 : ExC [68, 70, 217, 218] σ0 σ765 := X1048.tr (e769.mo (by decide))
                            have X1050 : ExC [68, 70, 217, 218] σ0 σ818 := X1049.tr (e822.mo (by decide))
                            have X1051 : ExC [68, 70, 217, 218] σ0 σ844 := X1050.tr (e846.mo (by decide))
                            have X1052 : ExC [68, 70, 217, 218] σ0 σ1025 := X1051.tr (e1027.mo (by decide))
                            have X1053 : ExC [68, 70, 217, 218] σ0 σ1044 := X1052.tr (e1046.mo (by decide))
                            exact ⟨rfl, H1045, X1053⟩
                          · refine k_nil ?_
                            refine hB _ _ _ _ (kgoC (is := KX3_judgeChoice_200) rfl ?_)
                            refine k_aload_n rfl ?_
                            have c1054 := (t848.mr e1027 (by decide)).trans c913
                            refine k_get kg73 t1029 (congrArg (fun z : Option Nat => (Sum.inr (Sum.inr z) : AvC)) c1054) ?_
                            have t1055 := t914.x e1027
                            obtain ⟨y1058, e1056, c1057⟩ := cg71 (σ := σ1025) (a := b744)
                            refine k_get kg71 t1055 e1056 ?_
                            refine k_goto ?_
                            refine hB _ _ _ _ (kgoC (is := KX3_judgeChoice_217) rfl ?_)
                            refine k_putL kg71 H1026 t1029 fk71 (fun σ1059 H1060 e1061 c1062 => ?_)
                            refine k_return ?_
                            have X1063 : ExC [68, 70, 217, 218] σ0 σ719 := ExC.rf.tr (e723.mo (by decide))
                            have X1064 : ExC [68, 70, 217, 218] σ0 σ765 := X1063.tr (e769.mo (by decide))
                            have X1065 : ExC [68, 70, 217, 218] σ0 σ818 := X1064.tr (e822.mo (by decide))
                            have X1066 : ExC [68, 70, 217, 218] σ0 σ844 := X1065.tr (e846.mo (by decide))
                            have X1067 : ExC [68, 70, 217, 218] σ0 σ1025 := X1066.tr (e1027.mo (by decide))
                            have X1068 : ExC [68, 70, 217, 218] σ0 σ1059 := X1067.tr (e1061.mo (by decide))
                            exact ⟨rfl, H1060, X1068⟩
                · refine k_if_ne (fun h1069 => ?_) (fun h1069 => by exfalso; omega)
                  refine hB _ _ _ _ (kgoC (is := KX3_judgeChoice_126) rfl ?_)
                  refine k_iconst (m := 0) rfl (fun x1070 h1071 => ?_)
                  refine k_nil ?_
                  refine hB _ _ _ _ (kgoC (is := KX3_judgeChoice_127) rfl ?_)
                  refine k_istore_n (ls' := [(2, .inl x1070), (0, .inr (.inr (some p0))), (1, .inr (.inr (some p1)))]) rfl ?_
                  refine k_iload_n rfl ?_
                  refine k_if_ne (fun h1072 => by exfalso; omega) (fun h1072 => ?_)
                  refine k_nil ?_
                  refine hB _ _ _ _ (kgoC (is := KX3_judgeChoice_132) rfl ?_)
                  refine k_return ?_
                  have X1073 : ExC [68, 70, 217, 218] σ0 σ719 := ExC.rf.tr (e723.mo (by decide))
                  have X1074 : ExC [68, 70, 217, 218] σ0 σ765 := X1073.tr (e769.mo (by decide))
                  exact ⟨rfl, H768, X1074⟩
            · refine k_nil ?_
              refine hB _ _ _ _ (kgoC (is := KX3_judgeChoice_61) rfl ?_)
              refine k_iconst (m := 1) rfl (fun x1075 h1076 => ?_)
              refine k_goto ?_
              refine hB _ _ _ _ (kgoC (is := KX3_judgeChoice_66) rfl ?_)
              refine k_aload_n rfl ?_
              refine k_get kg73 t731 (congrArg (fun z : Option Nat => (Sum.inr (Sum.inr z) : AvC)) c733) ?_
              obtain ⟨x1079, e1077, c1078, h1080, h1081⟩ := cg62 H722.1 t746
              refine k_get kg62 t746 e1077 ?_
              have t1082 := h_0_0.x e723
              refine k_inv (P := P_X3_isWanted) (Q := Q_X3_isWanted) rfl rfl rfl rfl (Nat.le_of_ble_eq_true rfl) (t1082.rc (by decide)) ⟨_, _, _, rfl, H722, t1082, (by omega), (by omega), (by omega), (by omega)⟩ (fun w1083 σ1084 q1085 => ?_)
              obtain ⟨x1086, rfl, H1087, e1088, h1089, h1090⟩ := q1085
              refine k_st (st' := [.inl x1086]) rfl ?_
              refine k_if_eq (fun h1091 => ?_) (fun h1091 => ?_)
              · refine hB _ _ _ _ (kgoC (is := KX3_judgeChoice_126) rfl ?_)
                refine k_iconst (m := 0) rfl (fun x1092 h1093 => ?_)
                refine k_nil ?_
                refine hB _ _ _ _ (kgoC (is := KX3_judgeChoice_127) rfl ?_)
                refine k_istore_n (ls' := [(2, .inl x1092), (0, .inr (.inr (some p0))), (1, .inr (.inr (some p1)))]) rfl ?_
                refine k_iload_n rfl ?_
                refine k_if_ne (fun h1094 => by exfalso; omega) (fun h1094 => ?_)
                refine k_nil ?_
                refine hB _ _ _ _ (kgoC (is := KX3_judgeChoice_132) rfl ?_)
                refine k_return ?_
                have X1095 : ExC [68, 70, 217, 218] σ0 σ719 := ExC.rf.tr (e723.mo (by decide))
                have X1096 : ExC [68, 70, 217, 218] σ0 σ1084 := X1095.tr (e1088.mo (by decide))
                exact ⟨rfl, H1087, X1096⟩
              · refine k_nil ?_
                refine hB _ _ _ _ (kgoC (is := KX3_judgeChoice_79) rfl ?_)
                refine k_aload_n rfl ?_
                have t1097 := t731.x e1088
                obtain ⟨o1100, e1098, c1099, t1101⟩ := cg74 H1087.1 t1097
                refine k_get kg74 t1097 e1098 ?_
                refine k_stat (P := P_X3_isFaulty) (Q := Q_X3_isFaulty) rfl rfl (Nat.le_of_ble_eq_true rfl) rfl rfl (Nat.le_of_ble_eq_true rfl) ⟨o1100, rfl, H1087, t1101⟩ (fun w1102 σ1103 q1104 => ?_)
                obtain ⟨x1105, rfl, rfl, h1106, h1107, q1108⟩ := q1104
                refine k_st (st' := [.inl x1105]) rfl ?_
                rcases (by omega : x1105.toInt = 0 ∨ x1105.toInt = 1) with g1109 | g1109
                · obtain ⟨b1110, h1111⟩ := q1108 (by omega)
                  subst h1111
                  have t1112 := t1101 b1110 rfl
                  refine k_if_ne (fun h1113 => by exfalso; omega) (fun h1113 => ?_)
                  refine k_nil ?_
                  refine hB _ _ _ _ (kgoC (is := KX3_judgeChoice_89) rfl ?_)
                  refine k_aload_n rfl ?_
                  refine k_bipush (m := 7) rfl (fun x1114 h1115 => ?_)
                  refine k_aload_n rfl ?_
                  have c1116 := (t731.mr e1088 (by decide)).trans c733
                  refine k_get kg73 t1097 (congrArg (fun z : Option Nat => (Sum.inr (Sum.inr z) : AvC)) c1116) ?_
                  have t1117 := t746.x e1088
                  have c1118 := (t746.mi e1088 (by decide)).trans c749
                  refine k_get kg68 t1117 (congrArg (Sum.inl : Int32 → AvC) c1118) ?_
                  refine k_aload_n rfl ?_
                  refine k_get kg74 t1097 (congrArg (fun z : Option Nat => (Sum.inr (Sum.inr z) : AvC)) c1099) ?_
                  obtain ⟨x1121, e1119, c1120, h1122, h1123⟩ := cg68 H1087.1 t1112
                  refine k_get kg68 t1112 e1119 ?_
                  refine k_stat (P := P_X3_isRightTaken) (Q := Q_X3_isRightTaken) rfl rfl (Nat.le_of_ble_eq_true rfl) rfl rfl (Nat.le_of_ble_eq_true rfl) ⟨_, _, _, rfl, H1087⟩ (fun w1124 σ1125 q1126 => ?_)
                  obtain ⟨x1127, rfl, rfl, h1128, h1129⟩ := q1126
                  refine k_st (st' := [.inl x1127, .inr (.inr (some p0))]) rfl ?_
                  refine k_aload_n rfl ?_
                  refine k_get kg74 t1097 (congrArg (fun z : Option Nat => (Sum.inr (Sum.inr z) : AvC)) c1099) ?_
                  obtain ⟨x1132, e1130, c1131, h1133, h1134⟩ := cg62 H1087.1 t1112
                  refine k_get kg62 t1112 e1130 ?_
                  have t1135 := t1082.x e1088
                  refine k_inv (P := P_X3_isWanted) (Q := Q_X3_isWanted) rfl rfl rfl rfl (Nat.le_of_ble_eq_true rfl) (t1135.rc (by decide)) ⟨_, _, _, rfl, H1087, t1135, (by omega), (by omega), (by omega), (by omega)⟩ (fun w1136 σ1137 q1138 => ?_)
                  obtain ⟨x1139, rfl, H1140, e1141, h1142, h1143⟩ := q1138
                  refine k_st (st' := [.inl x1139]) rfl ?_
                  refine k_if_eq (fun h1144 => ?_) (fun h1144 => ?_)
                  · refine hB _ _ _ _ (kgoC (is := KX3_judgeChoice_126) rfl ?_)
                    refine k_iconst (m := 0) rfl (fun x1145 h1146 => ?_)
                    refine k_nil ?_
                    refine hB _ _ _ _ (kgoC (is := KX3_judgeChoice_127) rfl ?_)
                    refine k_istore_n (ls' := [(2, .inl x1145), (0, .inr (.inr (some p0))), (1, .inr (.inr (some p1)))]) rfl ?_
                    refine k_iload_n rfl ?_
                    refine k_if_ne (fun h1147 => by exfalso; omega) (fun h1147 => ?_)
                    refine k_nil ?_
                    refine hB _ _ _ _ (kgoC (is := KX3_judgeChoice_132) rfl ?_)
                    refine k_return ?_
                    have X1148 : ExC [68, 70, 217, 218] σ0 σ719 := ExC.rf.tr (e723.mo (by decide))
                    have X1149 : ExC [68, 70, 217, 218] σ0 σ1084 := X1148.tr (e1088.mo (by decide))
                    have X1150 : ExC [68, 70, 217, 218] σ0 σ1137 := X1149.tr (e1141.mo (by decide))
                    exact ⟨rfl, H1140, X1150⟩
                  · refine k_nil ?_
                    refine hB _ _ _ _ (kgoC (is := KX3_judgeChoice_122) rfl ?_)
                    refine k_iconst (m := 1) rfl (fun x1151 h1152 => ?_)
                    refine k_goto ?_
                    refine hB _ _ _ _ (kgoC (is := KX3_judgeChoice_127) rfl ?_)
                    refine k_istore_n (ls' := [(2, .inl x1151), (0, .inr (.inr (some p0))), (1, .inr (.inr (some p1)))]) rfl ?_
                    refine k_iload_n rfl ?_
                    refine k_if_ne (fun h1153 => ?_) (fun h1153 => by exfalso; omega)
                    refine hB _ _ _ _ (kgoC (is := KX3_judgeChoice_133) rfl ?_)
                    refine k_aload_n rfl ?_
                    refine k_aload_n rfl ?_
                    have t1154 := t1097.x e1141
                    have c1155 := (t1097.mr e1141 (by decide)).trans c1116
                    refine k_get kg73 t1154 (congrArg (fun z : Option Nat => (Sum.inr (Sum.inr z) : AvC)) c1155) ?_
                    refine k_aload_n rfl ?_
                    have c1156 := (t1097.mr e1141 (by decide)).trans c1099
                    refine k_get kg74 t1154 (congrArg (fun z : Option Nat => (Sum.inr (Sum.inr z) : AvC)) c1156) ?_
                    have t1157 := t1117.x e1141
                    have t1158 := t1112.x e1141
                    refine k_stat (P := P_X3_choiceType) (Q := Q_X3_choiceType) rfl rfl (Nat.le_of_ble_eq_true rfl) rfl rfl (Nat.le_of_ble_eq_true rfl) ⟨_, _, rfl, H1140, t1157, t1158⟩ (fun w1159 σ1160 q1161 => ?_)
                    obtain ⟨x1162, rfl, rfl⟩ := q1161
                    refine k_st (st' := [.inl x1162, .inr (.inr (some p1))]) rfl ?_
                    refine k_putI kp68 H1140 t1154 (Or.inl fk68) (tiC x1162).1 (tiC x1162).2 (fun σ1163 H1164 e1165 c1166 => ?_)
                    refine k_aload_n rfl ?_
                    refine k_aload_n rfl ?_
                    have t1167 := t1154.x e1165
                    have c1168 := (h_1_0.mr e723 (by decide)).trans c2
                    have c1169 := (t731.mr e1088 (by decide)).trans c1168
                    have c1170 := (t1097.mr e1141 (by decide)).trans c1169
                    have c1171 := (t1154.mr e1165 (by decide)).trans c1170
                    refine k_get kg72 t1167 (congrArg (fun z : Option Nat => (Sum.inr (Sum.inr z) : AvC)) c1171) ?_
                    have t1172 := t15.x e723
                    have t1173 := t1172.x e1088
                    have t1174 := t1173.x e1141
                    have t1175 := t1174.x e1165
                    obtain ⟨x1178, e1176, c1177, h1179, h1180⟩ := cg70 H1164.1 t1175
                    refine k_get kg70 t1175 e1176 ?_
                    refine k_if_eq (fun h1181 => ?_) (fun h1181 => ?_)
                    · refine hB _ _ _ _ (kgoC (is := KX3_judgeChoice_183) rfl ?_)
                      refine k_iconst (m := 0) rfl (fun x1182 h1183 => ?_)
                      refine k_nil ?_
                      refine hB _ _ _ _ (kgoC (is := KX3_judgeChoice_184) rfl ?_)
                      refine k_putI kp70 H1164 t1167 (Or.inr ⟨fk70, b01C (by omega) (by omega)⟩) (by show 0 ≤ _; omega) (by show _ ≤ 1; omega) (fun σ1184 H1185 e1186 c1187 => ?_)
                      refine k_aload_n rfl ?_
                      refine k_aload_n rfl ?_
                      have t1188 := t1167.x e1186
                      have c1189 := (t1167.mr e1186 (by decide)).trans c1171
                      refine k_get kg72 t1188 (congrArg (fun z : Option Nat => (Sum.inr (Sum.inr z) : AvC)) c1189) ?_
                      have t1190 := t1175.x e1186
                      obtain ⟨y1193, e1191, c1192⟩ := cg71 (σ := σ1184) (a := b13)
                      refine k_get kg71 t1190 e1191 ?_
                      refine k_lconst ?_
                      refine k_lcmp (fun x1194 h1195 g1196 => ?_)
                      refine k_if_ne (fun h1197 => ?_) (fun h1197 => ?_)
                      · refine hB _ _ _ _ (kgoC (is := KX3_judgeChoice_210) rfl ?_)
                        refine k_aload_n rfl ?_
                        have c1198 := (t1154.mr e1165 (by decide)).trans c1156
                        have c1199 := (t1167.mr e1186 (by decide)).trans c1198
                        refine k_get kg74 t1188 (congrArg (fun z : Option Nat => (Sum.inr (Sum.inr z) : AvC)) c1199) ?_
                        have t1200 := t1158.x e1165
                        have t1201 := t1200.x e1186
                        obtain ⟨y1204, e1202, c1203⟩ := cg71 (σ := σ1184) (a := b1110)
                        refine k_get kg71 t1201 e1202 ?_
                        refine k_nil ?_
                        refine hB _ _ _ _ (kgoC (is := KX3_judgeChoice_217) rfl ?_)
                        refine k_putL kg71 H1185 t1188 fk71 (fun σ1205 H1206 e1207 c1208 => ?_)
                        refine k_return ?_
                        have X1209 : ExC [68, 70, 217, 218] σ0 σ719 := ExC.rf.tr (e723.mo (by decide))
                        have X1210 : ExC [68, 70, 217, 218] σ0 σ1084 := X1209.tr (e1088.mo (by decide))
                        have X1211 : ExC [68, 70, 217, 218] σ0 σ1137 := X1210.tr (e1141.mo (by decide))
                        have X1212 : ExC [68, 70, 217, 218] σ0 σ1163 := X1211.tr (e1165.mo (by decide))
                        have X1213 : ExC [68, 70, 217, 218] σ0 σ1184 := X1212.tr (e1186.mo (by decide))
                        have X1214 : ExC [68, 70, 217, 218] σ0 σ1205 := X1213.tr (e1207.mo (by decide))
                        exact ⟨rfl, H1206, X1214⟩
                      · refine k_nil ?_
                        refine hB _ _ _ _ (kgoC (is := KX3_judgeChoice_200) rfl ?_)
                        refine k_aload_n rfl ?_
                        have c1215 := (t1154.mr e1165 (by decide)).trans c1155
                        have c1216 := (t1167.mr e1186 (by decide)).trans c1215
                        refine k_get kg73 t1188 (congrArg (fun z : Option Nat => (Sum.inr (Sum.inr z) : AvC)) c1216) ?_
                        have t1217 := t1157.x e1165
                        have t1218 := t1217.x e1186
                        obtain ⟨y1221, e1219, c1220⟩ := cg71 (σ := σ1184) (a := b744)
                        refine k_get kg71 t1218 e1219 ?_
                        refine k_goto ?_
                        refine hB _ _ _ _ (kgoC (is := KX3_judgeChoice_217) rfl ?_)
                        refine k_putL kg71 H1185 t1188 fk71 (fun σ1222 H1223 e1224 c1225 => ?_)
                        refine k_return ?_
                        have X1226 : ExC [68, 70, 217, 218] σ0 σ719 := ExC.rf.tr (e723.mo (by decide))
                        have X1227 : ExC [68, 70, 217, 218] σ0 σ1084 := X1226.tr (e1088.mo (by decide))
                        have X1228 : ExC [68, 70, 217, 218] σ0 σ1137 := X1227.tr (e1141.mo (by decide))
                        have X1229 : ExC [68, 70, 217, 218] σ0 σ1163 := X1228.tr (e1165.mo (by decide))
                        have X1230 : ExC [68, 70, 217, 218] σ0 σ1184 := X1229.tr (e1186.mo (by decide))
                        have X1231 : ExC [68, 70, 217, 218] σ0 σ1222 := X1230.tr (e1224.mo (by decide))
                        exact ⟨rfl, H1223, X1231⟩
                    · refine k_nil ?_
                      refine hB _ _ _ _ (kgoC (is := KX3_judgeChoice_159) rfl ?_)
                      refine k_aload_n rfl ?_
                      have c1232 := (t1154.mr e1165 (by decide)).trans c1155
                      refine k_get kg73 t1167 (congrArg (fun z : Option Nat => (Sum.inr (Sum.inr z) : AvC)) c1232) ?_
                      have t1233 := t1157.x e1165
                      obtain ⟨x1236, e1234, c1235, h1237, h1238⟩ := cg70 H1164.1 t1233
                      refine k_get kg70 t1233 e1234 ?_
                      refine k_if_eq (fun h1239 => ?_) (fun h1239 => ?_)
                      · refine hB _ _ _ _ (kgoC (is := KX3_judgeChoice_183) rfl ?_)
                        refine k_iconst (m := 0) rfl (fun x1240 h1241 => ?_)
                        refine k_nil ?_
                        refine hB _ _ _ _ (kgoC (is := KX3_judgeChoice_184) rfl ?_)
                        refine k_putI kp70 H1164 t1167 (Or.inr ⟨fk70, b01C (by omega) (by omega)⟩) (by show 0 ≤ _; omega) (by show _ ≤ 1; omega) (fun σ1242 H1243 e1244 c1245 => ?_)
                        refine k_aload_n rfl ?_
                        refine k_aload_n rfl ?_
                        have t1246 := t1167.x e1244
                        have c1247 := (t1167.mr e1244 (by decide)).trans c1171
                        refine k_get kg72 t1246 (congrArg (fun z : Option Nat => (Sum.inr (Sum.inr z) : AvC)) c1247) ?_
                        have t1248 := t1175.x e1244
                        obtain ⟨y1251, e1249, c1250⟩ := cg71 (σ := σ1242) (a := b13)
                        refine k_get kg71 t1248 e1249 ?_
                        refine k_lconst ?_
                        refine k_lcmp (fun x1252 h1253 g1254 => ?_)
                        refine k_if_ne (fun h1255 => ?_) (fun h1255 => ?_)
                        · refine hB _ _ _ _ (kgoC (is := KX3_judgeChoice_210) rfl ?_)
                          refine k_aload_n rfl ?_
                          have c1256 := (t1154.mr e1165 (by decide)).trans c1156
                          have c1257 := (t1167.mr e1244 (by decide)).trans c1256
                          refine k_get kg74 t1246 (congrArg (fun z : Option Nat => (Sum.inr (Sum.inr z) : AvC)) c1257) ?_
                          have t1258 := t1158.x e1165
                          have t1259 := t1258.x e1244
                          obtain ⟨y1262, e1260, c1261⟩ := cg71 (σ := σ1242) (a := b1110)
                          refine k_get kg71 t1259 e1260 ?_
                          refine k_nil ?_
                          refine hB _ _ _ _ (kgoC (is := KX3_judgeChoice_217) rfl ?_)
                          refine k_putL kg71 H1243 t1246 fk71 (fun σ1263 H1264 e1265 c1266 => ?_)
                          refine k_return ?_
                          have X1267 : ExC [68, 70, 217, 218] σ0 σ719 := ExC.rf.tr (e723.mo (by decide))
                          have X1268 : ExC [68, 70, 217, 218] σ0 σ1084 := X1267.tr (e1088.mo (by decide))
                          have X1269 : ExC [68, 70, 217, 218] σ0 σ1137 := X1268.tr (e1141.mo (by decide))
                          have X1270 : ExC [68, 70, 217, 218] σ0 σ1163 := X1269.tr (e1165.mo (by decide))
                          have X1271 : ExC [68, 70, 217, 218] σ0 σ1242 := X1270.tr (e1244.mo (by decide))
                          have X1272 : ExC [68, 70, 217, 218] σ0 σ1263 := X1271.tr (e1265.mo (by decide))
                          exact ⟨rfl, H1264, X1272⟩
                        · refine k_nil ?_
                          refine hB _ _ _ _ (kgoC (is := KX3_judgeChoice_200) rfl ?_)
                          refine k_aload_n rfl ?_
                          have c1273 := (t1167.mr e1244 (by decide)).trans c1232
                          refine k_get kg73 t1246 (congrArg (fun z : Option Nat => (Sum.inr (Sum.inr z) : AvC)) c1273) ?_
                          have t1274 := t1233.x e1244
                          obtain ⟨y1277, e1275, c1276⟩ := cg71 (σ := σ1242) (a := b744)
                          refine k_get kg71 t1274 e1275 ?_
                          refine k_goto ?_
                          refine hB _ _ _ _ (kgoC (is := KX3_judgeChoice_217) rfl ?_)
                          refine k_putL kg71 H1243 t1246 fk71 (fun σ1278 H1279 e1280 c1281 => ?_)
                          refine k_return ?_
                          have X1282 : ExC [68, 70, 217, 218] σ0 σ719 := ExC.rf.tr (e723.mo (by decide))
                          have X1283 : ExC [68, 70, 217, 218] σ0 σ1084 := X1282.tr (e1088.mo (by decide))
                          have X1284 : ExC [68, 70, 217, 218] σ0 σ1137 := X1283.tr (e1141.mo (by decide))
                          have X1285 : ExC [68, 70, 217, 218] σ0 σ1163 := X1284.tr (e1165.mo (by decide))
                          have X1286 : ExC [68, 70, 217, 218] σ0 σ1242 := X1285.tr (e1244.mo (by decide))
                          have X1287 : ExC [68, 70, 217, 218] σ0 σ1278 := X1286.tr (e1280.mo (by decide))
                          exact ⟨rfl, H1279, X1287⟩
                      · refine k_nil ?_
                        refine hB _ _ _ _ (kgoC (is := KX3_judgeChoice_169) rfl ?_)
                        refine k_aload_n rfl ?_
                        have c1288 := (t1154.mr e1165 (by decide)).trans c1156
                        refine k_get kg74 t1167 (congrArg (fun z : Option Nat => (Sum.inr (Sum.inr z) : AvC)) c1288) ?_
                        have t1289 := t1158.x e1165
                        obtain ⟨x1292, e1290, c1291, h1293, h1294⟩ := cg70 H1164.1 t1289
                        refine k_get kg70 t1289 e1290 ?_
                        refine k_if_eq (fun h1295 => ?_) (fun h1295 => ?_)
                        · refine hB _ _ _ _ (kgoC (is := KX3_judgeChoice_183) rfl ?_)
                          refine k_iconst (m := 0) rfl (fun x1296 h1297 => ?_)
                          refine k_nil ?_
                          refine hB _ _ _ _ (kgoC (is := KX3_judgeChoice_184) rfl ?_)
                          refine k_putI kp70 H1164 t1167 (Or.inr ⟨fk70, b01C (by omega) (by omega)⟩) (by show 0 ≤ _; omega) (by show _ ≤ 1; omega) (fun σ1298 H1299 e1300 c1301 => ?_)
                          refine k_aload_n rfl ?_
                          refine k_aload_n rfl ?_
                          have t1302 := t1167.x e1300
                          have c1303 := (t1167.mr e1300 (by decide)).trans c1171
                          refine k_get kg72 t1302 (congrArg (fun z : Option Nat => (Sum.inr (Sum.inr z) : AvC)) c1303) ?_
                          have t1304 := t1175.x e1300
                          obtain ⟨y1307, e1305, c1306⟩ := cg71 (σ := σ1298) (a := b13)
                          refine k_get kg71 t1304 e1305 ?_
                          refine k_lconst ?_
                          refine k_lcmp (fun x1308 h1309 g1310 => ?_)
                          refine k_if_ne (fun h1311 => ?_) (fun h1311 => ?_)
                          · refine hB _ _ _ _ (kgoC (is := KX3_judgeChoice_210) rfl ?_)
                            refine k_aload_n rfl ?_
                            have c1312 := (t1167.mr e1300 (by decide)).trans c1288
                            refine k_get kg74 t1302 (congrArg (fun z : Option Nat => (Sum.inr (Sum.inr z) : AvC)) c1312) ?_
                            have t1313 := t1289.x e1300
                            obtain ⟨y1316, e1314, c1315⟩ := cg71 (σ := σ1298) (a := b1110)
                            refine k_get kg71 t1313 e1314 ?_
                            refine k_nil ?_
                            refine hB _ _ _ _ (kgoC (is := KX3_judgeChoice_217) rfl ?_)
                            refine k_putL kg71 H1299 t1302 fk71 (fun σ1317 H1318 e1319 c1320 => ?_)
                            refine k_return ?_
                            have X1321 : ExC [68, 70, 217, 218] σ0 σ719 := ExC.rf.tr (e723.mo (by decide))
                            have X1322 : ExC [68, 70, 217, 218] σ0 σ1084 := X1321.tr (e1088.mo (by decide))
                            have X1323 : ExC [68, 70, 217, 218] σ0 σ1137 := X1322.tr (e1141.mo (by decide))
                            have X1324 : ExC [68, 70, 217, 218] σ0 σ1163 := X1323.tr (e1165.mo (by decide))
                            have X1325 : ExC [68, 70, 217, 218] σ0 σ1298 := X1324.tr (e1300.mo (by decide))
                            have X1326 : ExC [68, 70, 217, 218] σ0 σ1317 := X1325.tr (e1319.mo (by decide))
                            exact ⟨rfl, H1318, X1326⟩
                          · refine k_nil ?_
                            refine hB _ _ _ _ (kgoC (is := KX3_judgeChoice_200) rfl ?_)
                            refine k_aload_n rfl ?_
                            have c1327 := (t1167.mr e1300 (by decide)).trans c1232
                            refine k_get kg73 t1302 (congrArg (fun z : Option Nat => (Sum.inr (Sum.inr z) : AvC)) c1327) ?_
                            have t1328 := t1233.x e1300
                            obtain ⟨y1331, e1329, c1330⟩ := cg71 (σ := σ1298) (a := b744)
                            refine k_get kg71 t1328 e1329 ?_
                            refine k_goto ?_
                            refine hB _ _ _ _ (kgoC (is := KX3_judgeChoice_217) rfl ?_)
                            refine k_putL kg71 H1299 t1302 fk71 (fun σ1332 H1333 e1334 c1335 => ?_)
                            refine k_return ?_
                            have X1336 : ExC [68, 70, 217, 218] σ0 σ719 := ExC.rf.tr (e723.mo (by decide))
                            have X1337 : ExC [68, 70, 217, 218] σ0 σ1084 := X1336.tr (e1088.mo (by decide))
                            have X1338 : ExC [68, 70, 217, 218] σ0 σ1137 := X1337.tr (e1141.mo (by decide))
                            have X1339 : ExC [68, 70, 217, 218] σ0 σ1163 := X1338.tr (e1165.mo (by decide))
                            have X1340 : ExC [68, 70, 217, 218] σ0 σ1298 := X1339.tr (e1300.mo (by decide))
                            have X1341 : ExC [68, 70, 217, 218] σ0 σ1332 := X1340.tr (e1334.mo (by decide))
                            exact ⟨rfl, H1333, X1341⟩
                        · refine k_nil ?_
                          refine hB _ _ _ _ (kgoC (is := KX3_judgeChoice_179) rfl ?_)
                          refine k_iconst (m := 1) rfl (fun x1342 h1343 => ?_)
                          refine k_goto ?_
                          refine hB _ _ _ _ (kgoC (is := KX3_judgeChoice_184) rfl ?_)
                          refine k_putI kp70 H1164 t1167 (Or.inr ⟨fk70, b01C (by omega) (by omega)⟩) (by show 0 ≤ _; omega) (by show _ ≤ 1; omega) (fun σ1344 H1345 e1346 c1347 => ?_)
                          refine k_aload_n rfl ?_
                          refine k_aload_n rfl ?_
                          have t1348 := t1167.x e1346
                          have c1349 := (t1167.mr e1346 (by decide)).trans c1171
                          refine k_get kg72 t1348 (congrArg (fun z : Option Nat => (Sum.inr (Sum.inr z) : AvC)) c1349) ?_
                          have t1350 := t1175.x e1346
                          obtain ⟨y1353, e1351, c1352⟩ := cg71 (σ := σ1344) (a := b13)
                          refine k_get kg71 t1350 e1351 ?_
                          refine k_lconst ?_
                          refine k_lcmp (fun x1354 h1355 g1356 => ?_)
                          refine k_if_ne (fun h1357 => ?_) (fun h1357 => ?_)
                          · refine hB _ _ _ _ (kgoC (is := KX3_judgeChoice_210) rfl ?_)
                            refine k_aload_n rfl ?_
                            have c1358 := (t1167.mr e1346 (by decide)).trans c1288
                            refine k_get kg74 t1348 (congrArg (fun z : Option Nat => (Sum.inr (Sum.inr z) : AvC)) c1358) ?_
                            have t1359 := t1289.x e1346
                            obtain ⟨y1362, e1360, c1361⟩ := cg71 (σ := σ1344) (a := b1110)
                            refine k_get kg71 t1359 e1360 ?_
                            refine k_nil ?_
                            refine hB _ _ _ _ (kgoC (is := KX3_judgeChoice_217) rfl ?_)
                            refine k_putL kg71 H1345 t1348 fk71 (fun σ1363 H1364 e1365 c1366 => ?_)
                            refine k_return ?_
                            have X1367 : ExC [68, 70, 217, 218] σ0 σ719 := ExC.rf.tr (e723.mo (by decide))
                            have X1368 : ExC [68, 70, 217, 218] σ0 σ1084 := X1367.tr (e1088.mo (by decide))
                            have X1369 : ExC [68, 70, 217, 218] σ0 σ1137 := X1368.tr (e1141.mo (by decide))
                            have X1370 : ExC [68, 70, 217, 218] σ0 σ1163 := X1369.tr (e1165.mo (by decide))
                            have X1371 : ExC [68, 70, 217, 218] σ0 σ1344 := X1370.tr (e1346.mo (by decide))
                            have X1372 : ExC [68, 70, 217, 218] σ0 σ1363 := X1371.tr (e1365.mo (by decide))
                            exact ⟨rfl, H1364, X1372⟩
                          · refine k_nil ?_
                            refine hB _ _ _ _ (kgoC (is := KX3_judgeChoice_200) rfl ?_)
                            refine k_aload_n rfl ?_
                            have c1373 := (t1167.mr e1346 (by decide)).trans c1232
                            refine k_get kg73 t1348 (congrArg (fun z : Option Nat => (Sum.inr (Sum.inr z) : AvC)) c1373) ?_
                            have t1374 := t1233.x e1346
                            obtain ⟨y1377, e1375, c1376⟩ := cg71 (σ := σ1344) (a := b744)
                            refine k_get kg71 t1374 e1375 ?_
                            refine k_goto ?_
                            refine hB _ _ _ _ (kgoC (is := KX3_judgeChoice_217) rfl ?_)
                            refine k_putL kg71 H1345 t1348 fk71 (fun σ1378 H1379 e1380 c1381 => ?_)
                            refine k_return ?_
                            have X1382 : ExC [68, 70, 217, 218] σ0 σ719 := ExC.rf.tr (e723.mo (by decide))
                            have X1383 : ExC [68, 70, 217, 218] σ0 σ1084 := X1382.tr (e1088.mo (by decide))
                            have X1384 : ExC [68, 70, 217, 218] σ0 σ1137 := X1383.tr (e1141.mo (by decide))
                            have X1385 : ExC [68, 70, 217, 218] σ0 σ1163 := X1384.tr (e1165.mo (by decide))
                            have X1386 : ExC [68, 70, 217, 218] σ0 σ1344 := X1385.tr (e1346.mo (by decide))
                            have X1387 : ExC [68, 70, 217, 218] σ0 σ1378 := X1386.tr (e1380.mo (by decide))
                            exact ⟨rfl, H1379, X1387⟩
                · refine k_if_ne (fun h1388 => ?_) (fun h1388 => by exfalso; omega)
                  refine hB _ _ _ _ (kgoC (is := KX3_judgeChoice_126) rfl ?_)
                  refine k_iconst (m := 0) rfl (fun x1389 h1390 => ?_)
                  refine k_nil ?_
                  refine hB _ _ _ _ (kgoC (is := KX3_judgeChoice_127) rfl ?_)
                  refine k_istore_n (ls' := [(2, .inl x1389), (0, .inr (.inr (some p0))), (1, .inr (.inr (some p1)))]) rfl ?_
                  refine k_iload_n rfl ?_
                  refine k_if_ne (fun h1391 => by exfalso; omega) (fun h1391 => ?_)
                  refine k_nil ?_
                  refine hB _ _ _ _ (kgoC (is := KX3_judgeChoice_132) rfl ?_)
                  refine k_return ?_
                  have X1392 : ExC [68, 70, 217, 218] σ0 σ719 := ExC.rf.tr (e723.mo (by decide))
                  have X1393 : ExC [68, 70, 217, 218] σ0 σ1084 := X1392.tr (e1088.mo (by decide))
                  exact ⟨rfl, H1087, X1393⟩
          · refine k_if_ne (fun h1394 => ?_) (fun h1394 => by exfalso; omega)
            refine hB _ _ _ _ (kgoC (is := KX3_judgeChoice_126) rfl ?_)
            refine k_iconst (m := 0) rfl (fun x1395 h1396 => ?_)
            refine k_nil ?_
            refine hB _ _ _ _ (kgoC (is := KX3_judgeChoice_127) rfl ?_)
            refine k_istore_n (ls' := [(2, .inl x1395), (0, .inr (.inr (some p0))), (1, .inr (.inr (some p1)))]) rfl ?_
            refine k_iload_n rfl ?_
            refine k_if_ne (fun h1397 => by exfalso; omega) (fun h1397 => ?_)
            refine k_nil ?_
            refine hB _ _ _ _ (kgoC (is := KX3_judgeChoice_132) rfl ?_)
            refine k_return ?_
            have X1398 : ExC [68, 70, 217, 218] σ0 σ719 := ExC.rf.tr (e723.mo (by decide))
            exact ⟨rfl, H722, X1398⟩
    · refine k_if_ne (fun h1399 => ?_) (fun h1399 => by exfalso; omega)
      refine hB _ _ _ _ (kgoC (is := KX3_judgeChoice_126) rfl ?_)
      refine k_iconst (m := 0) rfl (fun x1400 h1401 => ?_)
      refine k_nil ?_
      refine hB _ _ _ _ (kgoC (is := KX3_judgeChoice_127) rfl ?_)
      refine k_istore_n (ls' := [(2, .inl x1400), (0, .inr (.inr (some p0))), (1, .inr (.inr (some p1)))]) rfl ?_
      refine k_iload_n rfl ?_
      refine k_if_ne (fun h1402 => by exfalso; omega) (fun h1402 => ?_)
      refine k_nil ?_
      refine hB _ _ _ _ (kgoC (is := KX3_judgeChoice_132) rfl ?_)
      refine k_return ?_
      exact ⟨rfl, H0, (ExC.rf : ExC [68, 70, 217, 218] σ0 σ0)⟩
theorem lg_X3_judgeChoice : ∀ (As : List AvC) (σ : CsC), P_X3_judgeChoice As σ → lgC As ≤ rX3_judgeChoice.2.2.1 := by
  rintro As σ ⟨p0, p1, rfl, -⟩
  exact Nat.le_of_ble_eq_true rfl
theorem m_X3_judgeChoice (l : Launch) : CMetC l 4 71 P_X3_judgeChoice Q_X3_judgeChoice :=
  CMetC.of KX3_judgeChoice [(52, P_X3_isFaulty, Q_X3_isFaulty), (62, P_X3_isWanted, Q_X3_isWanted), (67, P_X3_isRightTaken, Q_X3_isRightTaken), (72, P_X3_choiceType, Q_X3_choiceType)] hX3_judgeChoice (by decide) (by decide) okX3_judgeChoice (cc1C (m_X3_isFaulty l) (by decide) (cc1C (m_X3_isWanted l) (by decide) (cc1C (m_X3_isRightTaken l) (by decide) (cc1C (m_X3_choiceType l) (by decide) cc0C)))) (lg_X3_judgeChoice) (b_X3_judgeChoice)

abbrev P_X3_isNarrowest : CpC := fun As σ => ∃ (p0 : Nat) (p1 : Nat) (p2 : Int64) (p3 : Int32) (p4 : Option Nat), As = [.inr (.inr (some p0)), .inr (.inr (some p1)), .inr (.inl p2), .inl p3, .inr (.inr p4)] ∧ HIC σ ∧ TyC σ p0 4 ∧ TyC σ p1 6 ∧ OtC σ p4 2
abbrev Q_X3_isNarrowest : CqC := fun As σ w τ => match As with
  | [.inr (.inr (some p0)), .inr (.inr (some p1)), .inr (.inl p2), .inl p3, .inr (.inr p4)] => ∃ r : Int32, w = some (.inl r) ∧ σ = τ ∧ 0 ≤ r.toInt ∧ r.toInt ≤ 1
  | _ => False
set_option maxRecDepth 100000 in
set_option maxHeartbeats 4000000 in
theorem b_X3_isNarrowest : TbC KX3_isNarrowest [(119, P_X6_methodOf, Q_X6_methodOf), (115, P_X5_takes, Q_X5_takes), (114, P_X5_isAsNarrowAs, Q_X5_isAsNarrowAs)] P_X3_isNarrowest Q_X3_isNarrowest := by
  · rintro As σ0 ⟨p0, p1, p2, p3, p4, rfl, H0, h_0_0, h_1_0, h_4_0⟩ hgr G hB hW
    change G 0 [(0, .inr (.inr (some p0))), (1, .inr (.inr (some p1))), (2, .inr (.inl p2)), (4, .inl p3), (5, .inr (.inr p4))] [] σ0
    have L3 : ∀ (n3 : Nat), ∀ (v3_6 : Int32), (2147483647 - v3_6.toInt).toNat = n3 → 0 ≤ v3_6.toInt → v3_6.toInt ≤ 24 → G 3 [(0, .inr (.inr (some p0))), (1, .inr (.inr (some p1))), (2, .inr (.inl p2)), (4, .inl p3), (5, .inr (.inr p4)), (6, .inl v3_6)] [] σ0 := by
      intro n3
      induction n3 using Nat.strongRecOn with
      | _ n3 ih3 =>
        intro v3_6 n3_ h1 h2
        refine hB _ _ _ _ (kgoC (is := KX3_isNarrowest_3) rfl ?_)
        refine k_iload rfl ?_
        refine k_bipush (m := 11) rfl (fun x3 h4 => ?_)
        refine k_ic_gt (fun h5 => ?_) (fun h5 => ?_)
        · refine hB _ _ _ _ (kgoC (is := KX3_isNarrowest_56) rfl ?_)
          refine k_iconst (m := 1) rfl (fun x6 h7 => ?_)
          refine k_ireturn (fun _ => b01C (by omega) (by omega)) ?_
          exact ⟨_, rfl, rfl, (by omega), (by omega)⟩
        · refine k_nil ?_
          refine hB _ _ _ _ (kgoC (is := KX3_isNarrowest_10) rfl ?_)
          refine k_aload_n rfl ?_
          obtain ⟨a10, e8, c9, t11⟩ := cg121 H0.1 h_0_0
          refine k_get kg121 h_0_0 e8 ?_
          refine k_iload rfl ?_
          refine k_inv (P := P_X6_methodOf) (Q := Q_X6_methodOf) rfl rfl rfl rfl (Nat.le_of_ble_eq_true rfl) (t11.rc (by decide)) ⟨_, _, rfl, H0, t11⟩ (fun w12 σ13 q14 => ?_)
          obtain ⟨o15, rfl, rfl, h16⟩ := q14
          refine k_st (st' := [.inr (.inr o15)]) rfl ?_
          refine k_astore (ls' := [(7, .inr (.inr o15)), (0, .inr (.inr (some p0))), (1, .inr (.inr (some p1))), (2, .inr (.inl p2)), (4, .inl p3), (5, .inr (.inr p4)), (6, .inl v3_6)]) rfl ?_
          refine k_aload rfl ?_
          refine k_ifnull (fun h18 => ?_) (fun b17 h18 => ?_)
          · subst h18
            refine hB _ _ _ _ (kgoC (is := KX3_isNarrowest_50) rfl ?_)
            obtain ⟨x19, e21, h20⟩ := iincC (n := 1) (m := 1) (v := v3_6) rfl (by omega) (by omega)
            refine k_iinc (ls' := [(6, .inl x19), (7, .inr (.inr none)), (0, .inr (.inr (some p0))), (1, .inr (.inr (some p1))), (2, .inr (.inl p2)), (4, .inl p3), (5, .inr (.inr p4))]) rfl e21 rfl ?_
            refine k_goto ?_
            exact hW _ _ _ _ _ (List.forall_mem_cons.2 ⟨List.Mem.tail _ (List.Mem.tail _ (List.Mem.head _)), (List.forall_mem_cons.2 ⟨List.Mem.tail _ (List.Mem.tail _ (List.Mem.tail _ (List.Mem.head _))), (List.forall_mem_cons.2 ⟨List.Mem.tail _ (List.Mem.tail _ (List.Mem.tail _ (List.Mem.tail _ (List.Mem.head _)))), (List.forall_mem_cons.2 ⟨List.Mem.tail _ (List.Mem.tail _ (List.Mem.tail _ (List.Mem.tail _ (List.Mem.tail _ (List.Mem.head _))))), (List.forall_mem_cons.2 ⟨List.Mem.tail _ (List.Mem.tail _ (List.Mem.tail _ (List.Mem.tail _ (List.Mem.tail _ (List.Mem.tail _ (List.Mem.head _)))))), (List.forall_mem_cons.2 ⟨List.Mem.head _, fun _ h => absurd h List.not_mem_nil⟩)⟩)⟩)⟩)⟩)⟩) (ih3 ((2147483647 - x19.toInt).toNat) (by omega) x19 rfl (by omega) (by omega))
          · subst h18
            have t22 := h16 b17 rfl
            refine k_nil ?_
            refine hB _ _ _ _ (kgoC (is := KX3_isNarrowest_26) rfl ?_)
            refine k_aload rfl ?_
            refine k_lload_n rfl ?_
            refine k_iload rfl ?_
            refine k_aload rfl ?_
            refine k_inv (P := P_X5_takes) (Q := Q_X5_takes) rfl rfl rfl rfl (Nat.le_of_ble_eq_true rfl) (t22.rc (by decide)) ⟨_, _, _, p4, rfl, H0, t22, h_4_0⟩ (fun w23 σ24 q25 => ?_)
            obtain ⟨x26, rfl, rfl, h27, h28⟩ := q25
            refine k_st (st' := [.inl x26]) rfl ?_
            refine k_if_eq (fun h29 => ?_) (fun h29 => ?_)
            · refine hB _ _ _ _ (kgoC (is := KX3_isNarrowest_50) rfl ?_)
              obtain ⟨x30, e32, h31⟩ := iincC (n := 1) (m := 1) (v := v3_6) rfl (by omega) (by omega)
              refine k_iinc (ls' := [(6, .inl x30), (7, .inr (.inr (some b17))), (0, .inr (.inr (some p0))), (1, .inr (.inr (some p1))), (2, .inr (.inl p2)), (4, .inl p3), (5, .inr (.inr p4))]) rfl e32 rfl ?_
              refine k_goto ?_
              exact hW _ _ _ _ _ (List.forall_mem_cons.2 ⟨List.Mem.tail _ (List.Mem.tail _ (List.Mem.head _)), (List.forall_mem_cons.2 ⟨List.Mem.tail _ (List.Mem.tail _ (List.Mem.tail _ (List.Mem.head _))), (List.forall_mem_cons.2 ⟨List.Mem.tail _ (List.Mem.tail _ (List.Mem.tail _ (List.Mem.tail _ (List.Mem.head _)))), (List.forall_mem_cons.2 ⟨List.Mem.tail _ (List.Mem.tail _ (List.Mem.tail _ (List.Mem.tail _ (List.Mem.tail _ (List.Mem.head _))))), (List.forall_mem_cons.2 ⟨List.Mem.tail _ (List.Mem.tail _ (List.Mem.tail _ (List.Mem.tail _ (List.Mem.tail _ (List.Mem.tail _ (List.Mem.head _)))))), (List.forall_mem_cons.2 ⟨List.Mem.head _, fun _ h => absurd h List.not_mem_nil⟩)⟩)⟩)⟩)⟩)⟩) (ih3 ((2147483647 - x30.toInt).toNat) (by omega) x30 rfl (by omega) (by omega))
            · refine k_nil ?_
              refine hB _ _ _ _ (kgoC (is := KX3_isNarrowest_39) rfl ?_)
              refine k_aload_n rfl ?_
              refine k_aload rfl ?_
              refine k_inv (P := P_X5_isAsNarrowAs) (Q := Q_X5_isAsNarrowAs) rfl rfl rfl rfl (Nat.le_of_ble_eq_true rfl) (h_1_0.rc (by decide)) ⟨_, _, rfl, H0, h_1_0, t22⟩ (fun w33 σ34 q35 => ?_)
              obtain ⟨x36, rfl, rfl, h37, h38⟩ := q35
              refine k_st (st' := [.inl x36]) rfl ?_
              refine k_if_ne (fun h39 => ?_) (fun h39 => ?_)
              · refine hB _ _ _ _ (kgoC (is := KX3_isNarrowest_50) rfl ?_)
                obtain ⟨x40, e42, h41⟩ := iincC (n := 1) (m := 1) (v := v3_6) rfl (by omega) (by omega)
                refine k_iinc (ls' := [(6, .inl x40), (7, .inr (.inr (some b17))), (0, .inr (.inr (some p0))), (1, .inr (.inr (some p1))), (2, .inr (.inl p2)), (4, .inl p3), (5, .inr (.inr p4))]) rfl e42 rfl ?_
                refine k_goto ?_
                exact hW _ _ _ _ _ (List.forall_mem_cons.2 ⟨List.Mem.tail _ (List.Mem.tail _ (List.Mem.head _)), (List.forall_mem_cons.2 ⟨List.Mem.tail _ (List.Mem.tail _ (List.Mem.tail _ (List.Mem.head _))), (List.forall_mem_cons.2 ⟨List.Mem.tail _ (List.Mem.tail _ (List.Mem.tail _ (List.Mem.tail _ (List.Mem.head _)))), (List.forall_mem_cons.2 ⟨List.Mem.tail _ (List.Mem.tail _ (List.Mem.tail _ (List.Mem.tail _ (List.Mem.tail _ (List.Mem.head _))))), (List.forall_mem_cons.2 ⟨List.Mem.tail _ (List.Mem.tail _ (List.Mem.tail _ (List.Mem.tail _ (List.Mem.tail _ (List.Mem.tail _ (List.Mem.head _)))))), (List.forall_mem_cons.2 ⟨List.Mem.head _, fun _ h => absurd h List.not_mem_nil⟩)⟩)⟩)⟩)⟩)⟩) (ih3 ((2147483647 - x40.toInt).toNat) (by omega) x40 rfl (by omega) (by omega))
              · refine k_nil ?_
                refine hB _ _ _ _ (kgoC (is := KX3_isNarrowest_48) rfl ?_)
                refine k_iconst (m := 0) rfl (fun x43 h44 => ?_)
                refine k_ireturn (fun _ => b01C (by omega) (by omega)) ?_
                exact ⟨_, rfl, rfl, (by omega), (by omega)⟩
    refine hB _ _ _ _ (kgoC (is := KX3_isNarrowest_0) rfl ?_)
    refine k_iconst (m := 0) rfl (fun x45 h46 => ?_)
    refine k_istore (ls' := [(6, .inl x45), (0, .inr (.inr (some p0))), (1, .inr (.inr (some p1))), (2, .inr (.inl p2)), (4, .inl p3), (5, .inr (.inr p4))]) rfl ?_
    refine k_nil ?_
    exact hW _ _ _ _ _ (List.forall_mem_cons.2 ⟨List.Mem.tail _ (List.Mem.head _), (List.forall_mem_cons.2 ⟨List.Mem.tail _ (List.Mem.tail _ (List.Mem.head _)), (List.forall_mem_cons.2 ⟨List.Mem.tail _ (List.Mem.tail _ (List.Mem.tail _ (List.Mem.head _))), (List.forall_mem_cons.2 ⟨List.Mem.tail _ (List.Mem.tail _ (List.Mem.tail _ (List.Mem.tail _ (List.Mem.head _)))), (List.forall_mem_cons.2 ⟨List.Mem.tail _ (List.Mem.tail _ (List.Mem.tail _ (List.Mem.tail _ (List.Mem.tail _ (List.Mem.head _))))), (List.forall_mem_cons.2 ⟨List.Mem.head _, fun _ h => absurd h List.not_mem_nil⟩)⟩)⟩)⟩)⟩)⟩) (L3 _ x45 rfl (by omega) (by omega))
theorem lg_X3_isNarrowest : ∀ (As : List AvC) (σ : CsC), P_X3_isNarrowest As σ → lgC As ≤ rX3_isNarrowest.2.2.1 := by
  rintro As σ ⟨p0, p1, p2, p3, p4, rfl, -⟩
  exact Nat.le_of_ble_eq_true rfl
theorem m_X3_isNarrowest (l : Launch) : CMetC l 12 78 P_X3_isNarrowest Q_X3_isNarrowest :=
  CMetC.of KX3_isNarrowest [(119, P_X6_methodOf, Q_X6_methodOf), (115, P_X5_takes, Q_X5_takes), (114, P_X5_isAsNarrowAs, Q_X5_isAsNarrowAs)] hX3_isNarrowest (by decide) (by decide) okX3_isNarrowest (cc1C (m_X6_methodOf l) (by decide) (cc1C (m_X5_takes l) (by decide) (cc1C (m_X5_isAsNarrowAs l) (by decide) cc0C))) (lg_X3_isNarrowest) (b_X3_isNarrowest)

abbrev P_X3_calledMethod : CpC := fun As σ => ∃ (p0 : Nat) (p1 : Nat) (p2 : Int32), As = [.inr (.inr (some p0)), .inr (.inr (some p1)), .inl p2] ∧ HIC σ ∧ TyC σ p0 4 ∧ TyC σ p1 2
abbrev Q_X3_calledMethod : CqC := fun As σ w τ => match As with
  | [.inr (.inr (some p0)), .inr (.inr (some p1)), .inl p2] => ∃ r : Int32, w = some (.inl r) ∧ σ = τ
  | _ => False
set_option maxRecDepth 100000 in
set_option maxHeartbeats 4000000 in
theorem b_X3_calledMethod : TbC KX3_calledMethod [(119, P_X6_methodOf, Q_X6_methodOf), (115, P_X5_takes, Q_X5_takes), (78, P_X3_isNarrowest, Q_X3_isNarrowest)] P_X3_calledMethod Q_X3_calledMethod := by
  · rintro As σ0 ⟨p0, p1, p2, rfl, H0, h_0_0, h_1_0⟩ hgr G hB hW
    change G 0 [(0, .inr (.inr (some p0))), (1, .inr (.inr (some p1))), (2, .inl p2)] [] σ0
    have L19 : ∀ (n19 : Nat), ∀ (v19_3 : Int64) (v19_5 : Int32), (2147483647 - v19_5.toInt).toNat = n19 → 0 ≤ v19_5.toInt → v19_5.toInt ≤ 24 → G 19 [(0, .inr (.inr (some p0))), (1, .inr (.inr (some p1))), (2, .inl p2), (3, .inr (.inl v19_3)), (5, .inl v19_5)] [] σ0 := by
      intro n19
      induction n19 using Nat.strongRecOn with
      | _ n19 ih19 =>
        intro v19_3 v19_5 n19_ h1 h2
        refine hB _ _ _ _ (kgoC (is := KX3_calledMethod_19) rfl ?_)
        refine k_iload rfl ?_
        refine k_bipush (m := 11) rfl (fun x3 h4 => ?_)
        refine k_ic_gt (fun h5 => ?_) (fun h5 => ?_)
        · refine hB _ _ _ _ (kgoC (is := KX3_calledMethod_90) rfl ?_)
          refine k_iconst (m := (-1)) rfl (fun x6 h7 => ?_)
          refine k_ireturn (fun hz => absurd hz (by decide)) ?_
          exact ⟨_, rfl, rfl⟩
        · refine k_nil ?_
          refine hB _ _ _ _ (kgoC (is := KX3_calledMethod_26) rfl ?_)
          refine k_iload rfl ?_
          refine k_bipush (m := 10) rfl (fun x8 h9 => ?_)
          refine k_iadd (by omega) (by omega) (fun x10 h11 => ?_)
          refine k_bipush (m := 12) rfl (fun x12 h13 => ?_)
          refine k_irem_u (fun hz => by subst hz; simp at *) (fun x14 => ?_)
          refine k_istore (ls' := [(6, .inl x14), (0, .inr (.inr (some p0))), (1, .inr (.inr (some p1))), (2, .inl p2), (3, .inr (.inl v19_3)), (5, .inl v19_5)]) rfl ?_
          refine k_aload_n rfl ?_
          obtain ⟨a17, e15, c16, t18⟩ := cg121 H0.1 h_0_0
          refine k_get kg121 h_0_0 e15 ?_
          refine k_iload rfl ?_
          refine k_inv (P := P_X6_methodOf) (Q := Q_X6_methodOf) rfl rfl rfl rfl (Nat.le_of_ble_eq_true rfl) (t18.rc (by decide)) ⟨_, _, rfl, H0, t18⟩ (fun w19 σ20 q21 => ?_)
          obtain ⟨o22, rfl, rfl, h23⟩ := q21
          refine k_st (st' := [.inr (.inr o22)]) rfl ?_
          refine k_astore (ls' := [(7, .inr (.inr o22)), (6, .inl x14), (0, .inr (.inr (some p0))), (1, .inr (.inr (some p1))), (2, .inl p2), (3, .inr (.inl v19_3)), (5, .inl v19_5)]) rfl ?_
          refine k_aload rfl ?_
          refine k_ifnull (fun h25 => ?_) (fun b24 h25 => ?_)
          · subst h25
            refine hB _ _ _ _ (kgoC (is := KX3_calledMethod_84) rfl ?_)
            obtain ⟨x26, e28, h27⟩ := iincC (n := 1) (m := 1) (v := v19_5) rfl (by omega) (by omega)
            refine k_iinc (ls' := [(5, .inl x26), (7, .inr (.inr none)), (6, .inl x14), (0, .inr (.inr (some p0))), (1, .inr (.inr (some p1))), (2, .inl p2), (3, .inr (.inl v19_3))]) rfl e28 rfl ?_
            refine k_goto ?_
            exact hW _ _ _ _ _ (List.forall_mem_cons.2 ⟨List.Mem.tail _ (List.Mem.tail _ (List.Mem.tail _ (List.Mem.head _))), (List.forall_mem_cons.2 ⟨List.Mem.tail _ (List.Mem.tail _ (List.Mem.tail _ (List.Mem.tail _ (List.Mem.head _)))), (List.forall_mem_cons.2 ⟨List.Mem.tail _ (List.Mem.tail _ (List.Mem.tail _ (List.Mem.tail _ (List.Mem.tail _ (List.Mem.head _))))), (List.forall_mem_cons.2 ⟨List.Mem.tail _ (List.Mem.tail _ (List.Mem.tail _ (List.Mem.tail _ (List.Mem.tail _ (List.Mem.tail _ (List.Mem.head _)))))), (List.forall_mem_cons.2 ⟨List.Mem.head _, fun _ h => absurd h List.not_mem_nil⟩)⟩)⟩)⟩)⟩) (ih19 ((2147483647 - x26.toInt).toNat) (by omega) v19_3 x26 rfl (by omega) (by omega))
          · subst h25
            have t29 := h23 b24 rfl
            refine k_nil ?_
            refine hB _ _ _ _ (kgoC (is := KX3_calledMethod_52) rfl ?_)
            refine k_aload rfl ?_
            refine k_lload_n rfl ?_
            refine k_iload_n rfl ?_
            refine k_aload_n rfl ?_
            obtain ⟨o32, e30, c31, t33⟩ := cg72 H0.1 h_1_0
            refine k_get kg72 h_1_0 e30 ?_
            refine k_inv (P := P_X5_takes) (Q := Q_X5_takes) rfl rfl rfl rfl (Nat.le_of_ble_eq_true rfl) (t29.rc (by decide)) ⟨_, _, _, o32, rfl, H0, t29, t33⟩ (fun w34 σ35 q36 => ?_)
            obtain ⟨x37, rfl, rfl, h38, h39⟩ := q36
            refine k_st (st' := [.inl x37]) rfl ?_
            refine k_if_eq (fun h40 => ?_) (fun h40 => ?_)
            · refine hB _ _ _ _ (kgoC (is := KX3_calledMethod_84) rfl ?_)
              obtain ⟨x41, e43, h42⟩ := iincC (n := 1) (m := 1) (v := v19_5) rfl (by omega) (by omega)
              refine k_iinc (ls' := [(5, .inl x41), (7, .inr (.inr (some b24))), (6, .inl x14), (0, .inr (.inr (some p0))), (1, .inr (.inr (some p1))), (2, .inl p2), (3, .inr (.inl v19_3))]) rfl e43 rfl ?_
              refine k_goto ?_
              exact hW _ _ _ _ _ (List.forall_mem_cons.2 ⟨List.Mem.tail _ (List.Mem.tail _ (List.Mem.tail _ (List.Mem.head _))), (List.forall_mem_cons.2 ⟨List.Mem.tail _ (List.Mem.tail _ (List.Mem.tail _ (List.Mem.tail _ (List.Mem.head _)))), (List.forall_mem_cons.2 ⟨List.Mem.tail _ (List.Mem.tail _ (List.Mem.tail _ (List.Mem.tail _ (List.Mem.tail _ (List.Mem.head _))))), (List.forall_mem_cons.2 ⟨List.Mem.tail _ (List.Mem.tail _ (List.Mem.tail _ (List.Mem.tail _ (List.Mem.tail _ (List.Mem.tail _ (List.Mem.head _)))))), (List.forall_mem_cons.2 ⟨List.Mem.head _, fun _ h => absurd h List.not_mem_nil⟩)⟩)⟩)⟩)⟩) (ih19 ((2147483647 - x41.toInt).toNat) (by omega) v19_3 x41 rfl (by omega) (by omega))
            · refine k_nil ?_
              refine hB _ _ _ _ (kgoC (is := KX3_calledMethod_66) rfl ?_)
              refine k_aload_n rfl ?_
              refine k_aload rfl ?_
              refine k_lload_n rfl ?_
              refine k_iload_n rfl ?_
              refine k_aload_n rfl ?_
              refine k_get kg72 h_1_0 (congrArg (fun z : Option Nat => (Sum.inr (Sum.inr z) : AvC)) c31) ?_
              refine k_inv (P := P_X3_isNarrowest) (Q := Q_X3_isNarrowest) rfl rfl rfl rfl (Nat.le_of_ble_eq_true rfl) (h_0_0.rc (by decide)) ⟨_, _, _, _, o32, rfl, H0, h_0_0, t29, t33⟩ (fun w44 σ45 q46 => ?_)
              obtain ⟨x47, rfl, rfl, h48, h49⟩ := q46
              refine k_st (st' := [.inl x47]) rfl ?_
              refine k_if_eq (fun h50 => ?_) (fun h50 => ?_)
              · refine hB _ _ _ _ (kgoC (is := KX3_calledMethod_84) rfl ?_)
                obtain ⟨x51, e53, h52⟩ := iincC (n := 1) (m := 1) (v := v19_5) rfl (by omega) (by omega)
                refine k_iinc (ls' := [(5, .inl x51), (7, .inr (.inr (some b24))), (6, .inl x14), (0, .inr (.inr (some p0))), (1, .inr (.inr (some p1))), (2, .inl p2), (3, .inr (.inl v19_3))]) rfl e53 rfl ?_
                refine k_goto ?_
                exact hW _ _ _ _ _ (List.forall_mem_cons.2 ⟨List.Mem.tail _ (List.Mem.tail _ (List.Mem.tail _ (List.Mem.head _))), (List.forall_mem_cons.2 ⟨List.Mem.tail _ (List.Mem.tail _ (List.Mem.tail _ (List.Mem.tail _ (List.Mem.head _)))), (List.forall_mem_cons.2 ⟨List.Mem.tail _ (List.Mem.tail _ (List.Mem.tail _ (List.Mem.tail _ (List.Mem.tail _ (List.Mem.head _))))), (List.forall_mem_cons.2 ⟨List.Mem.tail _ (List.Mem.tail _ (List.Mem.tail _ (List.Mem.tail _ (List.Mem.tail _ (List.Mem.tail _ (List.Mem.head _)))))), (List.forall_mem_cons.2 ⟨List.Mem.head _, fun _ h => absurd h List.not_mem_nil⟩)⟩)⟩)⟩)⟩) (ih19 ((2147483647 - x51.toInt).toNat) (by omega) v19_3 x51 rfl (by omega) (by omega))
              · refine k_nil ?_
                refine hB _ _ _ _ (kgoC (is := KX3_calledMethod_81) rfl ?_)
                refine k_iload rfl ?_
                refine k_ireturn (fun hz => absurd hz (by decide)) ?_
                exact ⟨_, rfl, rfl⟩
    refine hB _ _ _ _ (kgoC (is := KX3_calledMethod_0) rfl ?_)
    refine k_aload_n rfl ?_
    obtain ⟨a56, e54, c55, t57⟩ := cg121 H0.1 h_0_0
    refine k_get kg121 h_0_0 e54 ?_
    obtain ⟨a60, e58, c59, t61⟩ := cg210 H0.1 t57
    refine k_get kg210 t57 e58 ?_
    obtain ⟨a64, e62, c63, t65, l66, l67⟩ := cg304 H0.1 t61
    refine k_get kg304 t61 e62 ?_
    refine k_aload_n rfl ?_
    obtain ⟨x70, e68, c69, h71, h72⟩ := cg62 H0.1 h_1_0
    refine k_get kg62 h_1_0 e68 ?_
    refine k_laload t65 (by omega) (by omega) (fun y73 => ?_)
    refine k_lstore_n (ls' := [(3, .inr (.inl y73)), (0, .inr (.inr (some p0))), (1, .inr (.inr (some p1))), (2, .inl p2)]) rfl ?_
    refine k_iconst (m := 0) rfl (fun x74 h75 => ?_)
    refine k_istore (ls' := [(5, .inl x74), (3, .inr (.inl y73)), (0, .inr (.inr (some p0))), (1, .inr (.inr (some p1))), (2, .inl p2)]) rfl ?_
    refine k_nil ?_
    exact hW _ _ _ _ _ (List.forall_mem_cons.2 ⟨List.Mem.tail _ (List.Mem.tail _ (List.Mem.head _)), (List.forall_mem_cons.2 ⟨List.Mem.tail _ (List.Mem.tail _ (List.Mem.tail _ (List.Mem.head _))), (List.forall_mem_cons.2 ⟨List.Mem.tail _ (List.Mem.tail _ (List.Mem.tail _ (List.Mem.tail _ (List.Mem.head _)))), (List.forall_mem_cons.2 ⟨List.Mem.tail _ (List.Mem.head _), (List.forall_mem_cons.2 ⟨List.Mem.head _, fun _ h => absurd h List.not_mem_nil⟩)⟩)⟩)⟩)⟩) (L19 _ y73 x74 rfl (by omega) (by omega))
theorem lg_X3_calledMethod : ∀ (As : List AvC) (σ : CsC), P_X3_calledMethod As σ → lgC As ≤ rX3_calledMethod.2.2.1 := by
  rintro As σ ⟨p0, p1, p2, rfl, -⟩
  exact Nat.le_of_ble_eq_true rfl
theorem m_X3_calledMethod (l : Launch) : CMetC l 13 77 P_X3_calledMethod Q_X3_calledMethod :=
  CMetC.of KX3_calledMethod [(119, P_X6_methodOf, Q_X6_methodOf), (115, P_X5_takes, Q_X5_takes), (78, P_X3_isNarrowest, Q_X3_isNarrowest)] hX3_calledMethod (by decide) (by decide) okX3_calledMethod (cc1C (m_X6_methodOf l) (by decide) (cc1C (m_X5_takes l) (by decide) (cc1C (m_X3_isNarrowest l) (by decide) cc0C))) (lg_X3_calledMethod) (b_X3_calledMethod)

abbrev P_X3_judgeCall : CpC := fun As σ => ∃ (p0 : Nat) (p1 : Nat), As = [.inr (.inr (some p0)), .inr (.inr (some p1))] ∧ HIC σ ∧ TyC σ p0 4 ∧ TyC σ p1 2
abbrev Q_X3_judgeCall : CqC := fun As σ w τ => match As with
  | [.inr (.inr (some p0)), .inr (.inr (some p1))] => w = none ∧ HIC τ ∧ ExC [67, 68, 217, 218] σ τ
  | _ => False
set_option maxRecDepth 100000 in
set_option maxHeartbeats 4000000 in
theorem b_X3_judgeCall : TbC KX3_judgeCall [(77, P_X3_calledMethod, Q_X3_calledMethod), (119, P_X6_methodOf, Q_X6_methodOf), (118, P_X6_tell, Q_X6_tell), (52, P_X3_isFaulty, Q_X3_isFaulty), (62, P_X3_isWanted, Q_X3_isWanted)] P_X3_judgeCall Q_X3_judgeCall := by
  · rintro As σ0 ⟨p0, p1, rfl, H0, h_0_0, h_1_0⟩ hgr G hB hW
    change G 0 [(0, .inr (.inr (some p0))), (1, .inr (.inr (some p1)))] [] σ0
    have L10 : ∀ (n10 : Nat), ∀ (σ1 : CsC) (v10_2 : Int32) (v10_3 : Int32) (v10_4 : Option Nat), msNC (cnC σ0) v10_4 = n10 → HIC σ1 → ExC [67, 68, 217, 218] σ0 σ1 → 0 ≤ v10_3.toInt → v10_3.toInt ≤ 1 → OtC σ1 v10_4 2 → G 10 [(0, .inr (.inr (some p0))), (1, .inr (.inr (some p1))), (2, .inl v10_2), (3, .inl v10_3), (4, .inr (.inr v10_4))] [] σ1 := by
      intro n10
      induction n10 using Nat.strongRecOn with
      | _ n10 ih10 =>
        intro σ1 v10_2 v10_3 v10_4 n10_ H2 e3 h4 h5 h6
        refine hB _ _ _ _ (kgoC (is := KX3_judgeCall_10) rfl ?_)
        refine k_aload rfl ?_
        refine k_ifnull (fun h8 => ?_) (fun b7 h8 => ?_)
        · subst h8
          refine hB _ _ _ _ (kgoC (is := KX3_judgeCall_70) rfl ?_)
          refine k_iload_n rfl ?_
          refine k_if_ne (fun h9 => ?_) (fun h9 => ?_)
          · refine hB _ _ _ _ (kgoC (is := KX3_judgeCall_75) rfl ?_)
            refine k_aload_n rfl ?_
            refine k_aload_n rfl ?_
            refine k_aload_n rfl ?_
            refine k_iload_n rfl ?_
            have t10 := h_0_0.x e3
            have t11 := h_1_0.x e3
            refine k_inv (P := P_X3_calledMethod) (Q := Q_X3_calledMethod) rfl rfl rfl rfl (Nat.le_of_ble_eq_true rfl) (t10.rc (by decide)) ⟨_, _, _, rfl, H2, t10, t11⟩ (fun w12 σ13 q14 => ?_)
            obtain ⟨x15, rfl, rfl⟩ := q14
            refine k_st (st' := [.inl x15, .inr (.inr (some p1))]) rfl ?_
            refine k_putI kp67 H2 t11 (Or.inl fk67) (tiC x15).1 (tiC x15).2 (fun σ16 H17 e18 c19 => ?_)
            refine k_aload_n rfl ?_
            have t20 := t10.x e18
            obtain ⟨a23, e21, c22, t24⟩ := cg121 H17.1 t20
            refine k_get kg121 t20 e21 ?_
            refine k_aload_n rfl ?_
            have t25 := t11.x e18
            refine k_get kg67 t25 (congrArg (Sum.inl : Int32 → AvC) c19) ?_
            refine k_inv (P := P_X6_methodOf) (Q := Q_X6_methodOf) rfl rfl rfl rfl (Nat.le_of_ble_eq_true rfl) (t24.rc (by decide)) ⟨_, _, rfl, H17, t24⟩ (fun w26 σ27 q28 => ?_)
            obtain ⟨o29, rfl, rfl, h30⟩ := q28
            refine k_st (st' := [.inr (.inr o29)]) rfl ?_
            refine k_astore (ls' := [(4, .inr (.inr o29)), (0, .inr (.inr (some p0))), (1, .inr (.inr (some p1))), (2, .inl v10_2), (3, .inl v10_3)]) rfl ?_
            refine k_aload rfl ?_
            refine k_ifnonnull (fun b31 h32 => ?_) (fun h32 => ?_)
            · subst h32
              have t33 := h30 b31 rfl
              refine hB _ _ _ _ (kgoC (is := KX3_judgeCall_117) rfl ?_)
              refine k_aload_n rfl ?_
              refine k_aload rfl ?_
              obtain ⟨x36, e34, c35, h37, h38⟩ := cg182 H17.1 t33
              refine k_get kg182 t33 e34 ?_
              refine k_putI kp68 H17 t25 (Or.inl fk68) (tiC x36).1 (tiC x36).2 (fun σ39 H40 e41 c42 => ?_)
              refine k_aload_n rfl ?_
              have t43 := t20.x e41
              have c44 := (t20.mr e41 (by decide)).trans c22
              refine k_get kg121 t43 (congrArg (fun z : Option Nat => (Sum.inr (Sum.inr z) : AvC)) c44) ?_
              have t45 := t24.x e41
              obtain ⟨a48, e46, c47, t49⟩ := cg210 H40.1 t45
              refine k_get kg210 t45 e46 ?_
              obtain ⟨a52, e50, c51, t53, l54, l55⟩ := cg303 H40.1 t49
              refine k_get kg303 t49 e50 ?_
              refine k_aload_n rfl ?_
              have t56 := t25.x e41
              obtain ⟨x59, e57, c58, h60, h61⟩ := cg62 H40.1 t56
              refine k_get kg62 t56 e57 ?_
              refine k_bipush (m := 100) rfl (fun x62 h63 => ?_)
              refine k_aload_n rfl ?_
              have c64 := (t25.mi e41 (by decide)).trans c19
              refine k_get kg67 t56 (congrArg (Sum.inl : Int32 → AvC) c64) ?_
              have z67 := tiC x15
              refine k_iadd_u (fun x65 => ?_)
              refine k_iastore H40 t53 l55 (by omega) (by omega) (fun σ68 H69 e70 => ?_)
              refine k_return ?_
              have X71 : ExC [67, 68, 217, 218] σ0 σ1 := ExC.rf.tr (e3.mo (by decide))
              have X72 : ExC [67, 68, 217, 218] σ0 σ16 := X71.tr (e18.mo (by decide))
              have X73 : ExC [67, 68, 217, 218] σ0 σ39 := X72.tr (e41.mo (by decide))
              have X74 : ExC [67, 68, 217, 218] σ0 σ68 := X73.tr (e70.mo (by decide))
              exact ⟨rfl, H69, X74⟩
            · subst h32
              refine k_nil ?_
              refine hB _ _ _ _ (kgoC (is := KX3_judgeCall_103) rfl ?_)
              refine k_aload_n rfl ?_
              refine k_get kg121 t20 (congrArg (fun z : Option Nat => (Sum.inr (Sum.inr z) : AvC)) c22) ?_
              refine k_bipush (m := 6) rfl (fun x75 h76 => ?_)
              refine k_aload_n rfl ?_
              obtain ⟨x79, e77, c78, h80, h81⟩ := cg62 H17.1 t25
              refine k_get kg62 t25 e77 ?_
              refine k_inv (P := P_X6_tell) (Q := Q_X6_tell) rfl rfl rfl rfl (Nat.le_of_ble_eq_true rfl) (t24.rc (by decide)) ⟨_, _, _, rfl, H17, t24, (by omega), (by omega), (by omega), (by omega)⟩ (fun w82 σ83 q84 => ?_)
              obtain ⟨rfl, H85, e86⟩ := q84
              refine k_st (st' := []) rfl ?_
              refine k_return ?_
              have X87 : ExC [67, 68, 217, 218] σ0 σ1 := ExC.rf.tr (e3.mo (by decide))
              have X88 : ExC [67, 68, 217, 218] σ0 σ16 := X87.tr (e18.mo (by decide))
              have X89 : ExC [67, 68, 217, 218] σ0 σ83 := X88.tr (e86.mo (by decide))
              exact ⟨rfl, H85, X89⟩
          · refine k_nil ?_
            refine hB _ _ _ _ (kgoC (is := KX3_judgeCall_74) rfl ?_)
            refine k_return ?_
            have X90 : ExC [67, 68, 217, 218] σ0 σ1 := ExC.rf.tr (e3.mo (by decide))
            exact ⟨rfl, H2, X90⟩
        · subst h8
          have t91 := h6 b7 rfl
          refine k_nil ?_
          refine hB _ _ _ _ (kgoC (is := KX3_judgeCall_15) rfl ?_)
          refine k_iload_n rfl ?_
          refine k_aload rfl ?_
          refine k_stat (P := P_X3_isFaulty) (Q := Q_X3_isFaulty) rfl rfl (Nat.le_of_ble_eq_true rfl) rfl rfl (Nat.le_of_ble_eq_true rfl) ⟨(some b7), rfl, H2, t91.ot⟩ (fun w92 σ93 q94 => ?_)
          obtain ⟨x95, rfl, rfl, h96, h97, q98⟩ := q94
          refine k_st (st' := [.inl x95, .inl v10_3]) rfl ?_
          rcases (by omega : x95.toInt = 0 ∨ x95.toInt = 1) with g99 | g99
          · refine k_if_ne (fun h100 => by exfalso; omega) (fun h100 => ?_)
            refine k_nil ?_
            refine hB _ _ _ _ (kgoC (is := KX3_judgeCall_24) rfl ?_)
            refine k_aload_n rfl ?_
            refine k_aload rfl ?_
            obtain ⟨x103, e101, c102, h104, h105⟩ := cg68 H2.1 t91
            refine k_get kg68 t91 e101 ?_
            refine k_iconst (m := 5) rfl (fun x106 h107 => ?_)
            refine k_ic_eq (fun h108 => ?_) (fun h108 => ?_)
            · refine hB _ _ _ _ (kgoC (is := KX3_judgeCall_38) rfl ?_)
              refine k_iconst (m := 0) rfl (fun x109 h110 => ?_)
              refine k_nil ?_
              refine hB _ _ _ _ (kgoC (is := KX3_judgeCall_39) rfl ?_)
              refine k_aload rfl ?_
              obtain ⟨x113, e111, c112, h114, h115⟩ := cg62 H2.1 t91
              refine k_get kg62 t91 e111 ?_
              have t116 := h_0_0.x e3
              refine k_inv (P := P_X3_isWanted) (Q := Q_X3_isWanted) rfl rfl rfl rfl (Nat.le_of_ble_eq_true rfl) (t116.rc (by decide)) ⟨_, _, _, rfl, H2, t116, (by omega), (by omega), (by omega), (by omega)⟩ (fun w117 σ118 q119 => ?_)
              obtain ⟨x120, rfl, H121, e122, h123, h124⟩ := q119
              refine k_st (st' := [.inl x120, .inl v10_3]) rfl ?_
              refine k_if_eq (fun h125 => ?_) (fun h125 => ?_)
              · refine hB _ _ _ _ (kgoC (is := KX3_judgeCall_54) rfl ?_)
                refine k_iconst (m := 0) rfl (fun x126 h127 => ?_)
                refine k_nil ?_
                refine hB _ _ _ _ (kgoC (is := KX3_judgeCall_55) rfl ?_)
                refine k_iand_b (b01C (by omega) (by omega)) (b01C (by omega) (by omega)) (fun x128 h129 h130 h131 h132 => ?_)
                refine k_istore_n (ls' := [(3, .inl x128), (0, .inr (.inr (some p0))), (1, .inr (.inr (some p1))), (2, .inl v10_2), (4, .inr (.inr (some b7)))]) rfl ?_
                have z136 := tiC v10_2
                obtain ⟨x133, e135⟩ : ∃ w, v10_2 + Int32.ofInt 1 = w := ⟨_, rfl⟩
                refine k_iinc (ls' := [(2, .inl x133), (3, .inl x128), (0, .inr (.inr (some p0))), (1, .inr (.inr (some p1))), (4, .inr (.inr (some b7)))]) rfl e135 rfl ?_
                refine k_aload rfl ?_
                have t137 := t91.x e122
                obtain ⟨o140, e138, c139, t141, f142⟩ := cg75 H121.1 t137
                refine k_get kg75 t137 e138 ?_
                refine k_astore (ls' := [(4, .inr (.inr o140)), (2, .inl x133), (3, .inl x128), (0, .inr (.inr (some p0))), (1, .inr (.inr (some p1)))]) rfl ?_
                refine k_goto ?_
                have X143 : ExC [67, 68, 217, 218] σ0 σ1 := ExC.rf.tr (e3.mo (by decide))
                have X144 : ExC [67, 68, 217, 218] σ0 σ118 := X143.tr (e122.mo (by decide))
                exact hW _ _ _ _ _ (List.forall_mem_cons.2 ⟨List.Mem.tail _ (List.Mem.tail _ (List.Mem.tail _ (List.Mem.head _))), (List.forall_mem_cons.2 ⟨List.Mem.tail _ (List.Mem.tail _ (List.Mem.tail _ (List.Mem.tail _ (List.Mem.head _)))), (List.forall_mem_cons.2 ⟨List.Mem.tail _ (List.Mem.head _), (List.forall_mem_cons.2 ⟨List.Mem.tail _ (List.Mem.tail _ (List.Mem.head _)), (List.forall_mem_cons.2 ⟨List.Mem.head _, fun _ h => absurd h List.not_mem_nil⟩)⟩)⟩)⟩)⟩) (ih10 (msNC (cnC σ0) o140) (by have qb := t137.1; have qc := (X144.cn (by decide) : cnC σ118 = cnC σ0); have qm := n10_; cases o140 with
                                  | none => dsimp only [msNC] at qm ⊢; omega
                                  | some bz => have := (t141 bz rfl).1; have qf := (f142 bz rfl).2; have qg := (show _ < bz from by first | exact qf | exact qf.1); dsimp only [msNC] at qm ⊢; omega) σ118 x133 x128 o140 rfl H121 X144 (by omega) (by omega) t141)
              · refine k_nil ?_
                refine hB _ _ _ _ (kgoC (is := KX3_judgeCall_50) rfl ?_)
                refine k_iconst (m := 1) rfl (fun x145 h146 => ?_)
                refine k_goto ?_
                refine hB _ _ _ _ (kgoC (is := KX3_judgeCall_55) rfl ?_)
                refine k_iand_b (b01C (by omega) (by omega)) (b01C (by omega) (by omega)) (fun x147 h148 h149 h150 h151 => ?_)
                refine k_istore_n (ls' := [(3, .inl x147), (0, .inr (.inr (some p0))), (1, .inr (.inr (some p1))), (2, .inl v10_2), (4, .inr (.inr (some b7)))]) rfl ?_
                have z155 := tiC v10_2
                obtain ⟨x152, e154⟩ : ∃ w, v10_2 + Int32.ofInt 1 = w := ⟨_, rfl⟩
                refine k_iinc (ls' := [(2, .inl x152), (3, .inl x147), (0, .inr (.inr (some p0))), (1, .inr (.inr (some p1))), (4, .inr (.inr (some b7)))]) rfl e154 rfl ?_
                refine k_aload rfl ?_
                have t156 := t91.x e122
                obtain ⟨o159, e157, c158, t160, f161⟩ := cg75 H121.1 t156
                refine k_get kg75 t156 e157 ?_
                refine k_astore (ls' := [(4, .inr (.inr o159)), (2, .inl x152), (3, .inl x147), (0, .inr (.inr (some p0))), (1, .inr (.inr (some p1)))]) rfl ?_
                refine k_goto ?_
                have X162 : ExC [67, 68, 217, 218] σ0 σ1 := ExC.rf.tr (e3.mo (by decide))
                have X163 : ExC [67, 68, 217, 218] σ0 σ118 := X162.tr (e122.mo (by decide))
                exact hW _ _ _ _ _ (List.forall_mem_cons.2 ⟨List.Mem.tail _ (List.Mem.tail _ (List.Mem.tail _ (List.Mem.head _))), (List.forall_mem_cons.2 ⟨List.Mem.tail _ (List.Mem.tail _ (List.Mem.tail _ (List.Mem.tail _ (List.Mem.head _)))), (List.forall_mem_cons.2 ⟨List.Mem.tail _ (List.Mem.head _), (List.forall_mem_cons.2 ⟨List.Mem.tail _ (List.Mem.tail _ (List.Mem.head _)), (List.forall_mem_cons.2 ⟨List.Mem.head _, fun _ h => absurd h List.not_mem_nil⟩)⟩)⟩)⟩)⟩) (ih10 (msNC (cnC σ0) o159) (by have qb := t156.1; have qc := (X163.cn (by decide) : cnC σ118 = cnC σ0); have qm := n10_; cases o159 with
                                  | none => dsimp only [msNC] at qm ⊢; omega
                                  | some bz => have := (t160 bz rfl).1; have qf := (f161 bz rfl).2; have qg := (show _ < bz from by first | exact qf | exact qf.1); dsimp only [msNC] at qm ⊢; omega) σ118 x152 x147 o159 rfl H121 X163 (by omega) (by omega) t160)
            · refine k_nil ?_
              refine hB _ _ _ _ (kgoC (is := KX3_judgeCall_34) rfl ?_)
              refine k_iconst (m := 1) rfl (fun x164 h165 => ?_)
              refine k_goto ?_
              refine hB _ _ _ _ (kgoC (is := KX3_judgeCall_39) rfl ?_)
              refine k_aload rfl ?_
              obtain ⟨x168, e166, c167, h169, h170⟩ := cg62 H2.1 t91
              refine k_get kg62 t91 e166 ?_
              have t171 := h_0_0.x e3
              refine k_inv (P := P_X3_isWanted) (Q := Q_X3_isWanted) rfl rfl rfl rfl (Nat.le_of_ble_eq_true rfl) (t171.rc (by decide)) ⟨_, _, _, rfl, H2, t171, (by omega), (by omega), (by omega), (by omega)⟩ (fun w172 σ173 q174 => ?_)
              obtain ⟨x175, rfl, H176, e177, h178, h179⟩ := q174
              refine k_st (st' := [.inl x175, .inl v10_3]) rfl ?_
              refine k_if_eq (fun h180 => ?_) (fun h180 => ?_)
              · refine hB _ _ _ _ (kgoC (is := KX3_judgeCall_54) rfl ?_)
                refine k_iconst (m := 0) rfl (fun x181 h182 => ?_)
                refine k_nil ?_
                refine hB _ _ _ _ (kgoC (is := KX3_judgeCall_55) rfl ?_)
                refine k_iand_b (b01C (by omega) (by omega)) (b01C (by omega) (by omega)) (fun x183 h184 h185 h186 h187 => ?_)
                refine k_istore_n (ls' := [(3, .inl x183), (0, .inr (.inr (some p0))), (1, .inr (.inr (some p1))), (2, .inl v10_2), (4, .inr (.inr (some b7)))]) rfl ?_
                have z191 := tiC v10_2
                obtain ⟨x188, e190⟩ : ∃ w, v10_2 + Int32.ofInt 1 = w := ⟨_, rfl⟩
                refine k_iinc (ls' := [(2, .inl x188), (3, .inl x183), (0, .inr (.inr (some p0))), (1, .inr (.inr (some p1))), (4, .inr (.inr (some b7)))]) rfl e190 rfl ?_
                refine k_aload rfl ?_
                have t192 := t91.x e177
                obtain ⟨o195, e193, c194, t196, f197⟩ := cg75 H176.1 t192
                refine k_get kg75 t192 e193 ?_
                refine k_astore (ls' := [(4, .inr (.inr o195)), (2, .inl x188), (3, .inl x183), (0, .inr (.inr (some p0))), (1, .inr (.inr (some p1)))]) rfl ?_
                refine k_goto ?_
                have X198 : ExC [67, 68, 217, 218] σ0 σ1 := ExC.rf.tr (e3.mo (by decide))
                have X199 : ExC [67, 68, 217, 218] σ0 σ173 := X198.tr (e177.mo (by decide))
                exact hW _ _ _ _ _ (List.forall_mem_cons.2 ⟨List.Mem.tail _ (List.Mem.tail _ (List.Mem.tail _ (List.Mem.head _))), (List.forall_mem_cons.2 ⟨List.Mem.tail _ (List.Mem.tail _ (List.Mem.tail _ (List.Mem.tail _ (List.Mem.head _)))), (List.forall_mem_cons.2 ⟨List.Mem.tail _ (List.Mem.head _), (List.forall_mem_cons.2 ⟨List.Mem.tail _ (List.Mem.tail _ (List.Mem.head _)), (List.forall_mem_cons.2 ⟨List.Mem.head _, fun _ h => absurd h List.not_mem_nil⟩)⟩)⟩)⟩)⟩) (ih10 (msNC (cnC σ0) o195) (by have qb := t192.1; have qc := (X199.cn (by decide) : cnC σ173 = cnC σ0); have qm := n10_; cases o195 with
                                  | none => dsimp only [msNC] at qm ⊢; omega
                                  | some bz => have := (t196 bz rfl).1; have qf := (f197 bz rfl).2; have qg := (show _ < bz from by first | exact qf | exact qf.1); dsimp only [msNC] at qm ⊢; omega) σ173 x188 x183 o195 rfl H176 X199 (by omega) (by omega) t196)
              · refine k_nil ?_
                refine hB _ _ _ _ (kgoC (is := KX3_judgeCall_50) rfl ?_)
                refine k_iconst (m := 1) rfl (fun x200 h201 => ?_)
                refine k_goto ?_
                refine hB _ _ _ _ (kgoC (is := KX3_judgeCall_55) rfl ?_)
                refine k_iand_b (b01C (by omega) (by omega)) (b01C (by omega) (by omega)) (fun x202 h203 h204 h205 h206 => ?_)
                refine k_istore_n (ls' := [(3, .inl x202), (0, .inr (.inr (some p0))), (1, .inr (.inr (some p1))), (2, .inl v10_2), (4, .inr (.inr (some b7)))]) rfl ?_
                have z210 := tiC v10_2
                obtain ⟨x207, e209⟩ : ∃ w, v10_2 + Int32.ofInt 1 = w := ⟨_, rfl⟩
                refine k_iinc (ls' := [(2, .inl x207), (3, .inl x202), (0, .inr (.inr (some p0))), (1, .inr (.inr (some p1))), (4, .inr (.inr (some b7)))]) rfl e209 rfl ?_
                refine k_aload rfl ?_
                have t211 := t91.x e177
                obtain ⟨o214, e212, c213, t215, f216⟩ := cg75 H176.1 t211
                refine k_get kg75 t211 e212 ?_
                refine k_astore (ls' := [(4, .inr (.inr o214)), (2, .inl x207), (3, .inl x202), (0, .inr (.inr (some p0))), (1, .inr (.inr (some p1)))]) rfl ?_
                refine k_goto ?_
                have X217 : ExC [67, 68, 217, 218] σ0 σ1 := ExC.rf.tr (e3.mo (by decide))
                have X218 : ExC [67, 68, 217, 218] σ0 σ173 := X217.tr (e177.mo (by decide))
                exact hW _ _ _ _ _ (List.forall_mem_cons.2 ⟨List.Mem.tail _ (List.Mem.tail _ (List.Mem.tail _ (List.Mem.head _))), (List.forall_mem_cons.2 ⟨List.Mem.tail _ (List.Mem.tail _ (List.Mem.tail _ (List.Mem.tail _ (List.Mem.head _)))), (List.forall_mem_cons.2 ⟨List.Mem.tail _ (List.Mem.head _), (List.forall_mem_cons.2 ⟨List.Mem.tail _ (List.Mem.tail _ (List.Mem.head _)), (List.forall_mem_cons.2 ⟨List.Mem.head _, fun _ h => absurd h List.not_mem_nil⟩)⟩)⟩)⟩)⟩) (ih10 (msNC (cnC σ0) o214) (by have qb := t211.1; have qc := (X218.cn (by decide) : cnC σ173 = cnC σ0); have qm := n10_; cases o214 with
                                  | none => dsimp only [msNC] at qm ⊢; omega
                                  | some bz => have := (t215 bz rfl).1; have qf := (f216 bz rfl).2; have qg := (show _ < bz from by first | exact qf | exact qf.1); dsimp only [msNC] at qm ⊢; omega) σ173 x207 x202 o214 rfl H176 X218 (by omega) (by omega) t215)
          · refine k_if_ne (fun h219 => ?_) (fun h219 => by exfalso; omega)
            refine hB _ _ _ _ (kgoC (is := KX3_judgeCall_54) rfl ?_)
            refine k_iconst (m := 0) rfl (fun x220 h221 => ?_)
            refine k_nil ?_
            refine hB _ _ _ _ (kgoC (is := KX3_judgeCall_55) rfl ?_)
            refine k_iand_b (b01C (by omega) (by omega)) (b01C (by omega) (by omega)) (fun x222 h223 h224 h225 h226 => ?_)
            refine k_istore_n (ls' := [(3, .inl x222), (0, .inr (.inr (some p0))), (1, .inr (.inr (some p1))), (2, .inl v10_2), (4, .inr (.inr (some b7)))]) rfl ?_
            have z230 := tiC v10_2
            obtain ⟨x227, e229⟩ : ∃ w, v10_2 + Int32.ofInt 1 = w := ⟨_, rfl⟩
            refine k_iinc (ls' := [(2, .inl x227), (3, .inl x222), (0, .inr (.inr (some p0))), (1, .inr (.inr (some p1))), (4, .inr (.inr (some b7)))]) rfl e229 rfl ?_
            refine k_aload rfl ?_
            obtain ⟨o233, e231, c232, t234, f235⟩ := cg75 H2.1 t91
            refine k_get kg75 t91 e231 ?_
            refine k_astore (ls' := [(4, .inr (.inr o233)), (2, .inl x227), (3, .inl x222), (0, .inr (.inr (some p0))), (1, .inr (.inr (some p1)))]) rfl ?_
            refine k_goto ?_
            have X236 : ExC [67, 68, 217, 218] σ0 σ1 := ExC.rf.tr (e3.mo (by decide))
            exact hW _ _ _ _ _ (List.forall_mem_cons.2 ⟨List.Mem.tail _ (List.Mem.tail _ (List.Mem.tail _ (List.Mem.head _))), (List.forall_mem_cons.2 ⟨List.Mem.tail _ (List.Mem.tail _ (List.Mem.tail _ (List.Mem.tail _ (List.Mem.head _)))), (List.forall_mem_cons.2 ⟨List.Mem.tail _ (List.Mem.head _), (List.forall_mem_cons.2 ⟨List.Mem.tail _ (List.Mem.tail _ (List.Mem.head _)), (List.forall_mem_cons.2 ⟨List.Mem.head _, fun _ h => absurd h List.not_mem_nil⟩)⟩)⟩)⟩)⟩) (ih10 (msNC (cnC σ0) o233) (by have qb := t91.1; have qc := (X236.cn (by decide) : cnC σ1 = cnC σ0); have qm := n10_; cases o233 with
                          | none => dsimp only [msNC] at qm ⊢; omega
                          | some bz => have := (t234 bz rfl).1; have qf := (f235 bz rfl).2; have qg := (show _ < bz from by first | exact qf | exact qf.1); dsimp only [msNC] at qm ⊢; omega) σ1 x227 x222 o233 rfl H2 X236 (by omega) (by omega) t234)
    refine hB _ _ _ _ (kgoC (is := KX3_judgeCall_0) rfl ?_)
    refine k_iconst (m := 0) rfl (fun x237 h238 => ?_)
    refine k_istore_n (ls' := [(2, .inl x237), (0, .inr (.inr (some p0))), (1, .inr (.inr (some p1)))]) rfl ?_
    refine k_iconst (m := 1) rfl (fun x239 h240 => ?_)
    refine k_istore_n (ls' := [(3, .inl x239), (2, .inl x237), (0, .inr (.inr (some p0))), (1, .inr (.inr (some p1)))]) rfl ?_
    refine k_aload_n rfl ?_
    obtain ⟨o243, e241, c242, t244⟩ := cg72 H0.1 h_1_0
    refine k_get kg72 h_1_0 e241 ?_
    refine k_astore (ls' := [(4, .inr (.inr o243)), (3, .inl x239), (2, .inl x237), (0, .inr (.inr (some p0))), (1, .inr (.inr (some p1)))]) rfl ?_
    refine k_nil ?_
    exact hW _ _ _ _ _ (List.forall_mem_cons.2 ⟨List.Mem.tail _ (List.Mem.tail _ (List.Mem.tail _ (List.Mem.head _))), (List.forall_mem_cons.2 ⟨List.Mem.tail _ (List.Mem.tail _ (List.Mem.tail _ (List.Mem.tail _ (List.Mem.head _)))), (List.forall_mem_cons.2 ⟨List.Mem.tail _ (List.Mem.tail _ (List.Mem.head _)), (List.forall_mem_cons.2 ⟨List.Mem.tail _ (List.Mem.head _), (List.forall_mem_cons.2 ⟨List.Mem.head _, fun _ h => absurd h List.not_mem_nil⟩)⟩)⟩)⟩)⟩) (L10 _ σ0 x237 x239 o243 rfl H0 ExC.rf (by omega) (by omega) t244)
theorem lg_X3_judgeCall : ∀ (As : List AvC) (σ : CsC), P_X3_judgeCall As σ → lgC As ≤ rX3_judgeCall.2.2.1 := by
  rintro As σ ⟨p0, p1, rfl, -⟩
  exact Nat.le_of_ble_eq_true rfl
theorem m_X3_judgeCall (l : Launch) : CMetC l 14 76 P_X3_judgeCall Q_X3_judgeCall :=
  CMetC.of KX3_judgeCall [(77, P_X3_calledMethod, Q_X3_calledMethod), (119, P_X6_methodOf, Q_X6_methodOf), (118, P_X6_tell, Q_X6_tell), (52, P_X3_isFaulty, Q_X3_isFaulty), (62, P_X3_isWanted, Q_X3_isWanted)] hX3_judgeCall (by decide) (by decide) okX3_judgeCall (cc1C (m_X3_calledMethod l) (by decide) (cc1C (m_X6_methodOf l) (by decide) (cc1C (m_X6_tell l) (by decide) (cc1C (m_X3_isFaulty l) (by decide) (cc1C (m_X3_isWanted l) (by decide) cc0C))))) (lg_X3_judgeCall) (b_X3_judgeCall)

abbrev P_X3_judgeStore : CpC := fun As σ => ∃ (p0 : Nat) (p1 : Nat), As = [.inr (.inr (some p0)), .inr (.inr (some p1))] ∧ HIC σ ∧ TyC σ p0 4 ∧ TyC σ p1 2
abbrev Q_X3_judgeStore : CqC := fun As σ w τ => match As with
  | [.inr (.inr (some p0)), .inr (.inr (some p1))] => w = none ∧ HIC τ ∧ ExC [217, 218, 335] σ τ
  | _ => False
set_option maxRecDepth 100000 in
set_option maxHeartbeats 4000000 in
theorem b_X3_judgeStore : TbC KX3_judgeStore [(51, P_X3_variableOf, Q_X3_variableOf), (52, P_X3_isFaulty, Q_X3_isFaulty), (75, P_X3_fits, Q_X3_fits), (62, P_X3_isWanted, Q_X3_isWanted)] P_X3_judgeStore Q_X3_judgeStore := by
  · rintro As σ0 ⟨p0, p1, rfl, H0, h_0_0, h_1_0⟩ hgr G hB hW
    change G 0 [(0, .inr (.inr (some p0))), (1, .inr (.inr (some p1)))] [] σ0
    refine hB _ _ _ _ (kgoC (is := KX3_judgeStore_0) rfl ?_)
    refine k_aload_n rfl ?_
    refine k_aload_n rfl ?_
    refine k_inv (P := P_X3_variableOf) (Q := Q_X3_variableOf) rfl rfl rfl rfl (Nat.le_of_ble_eq_true rfl) (h_0_0.rc (by decide)) ⟨_, _, rfl, H0, h_0_0, h_1_0⟩ (fun w1 σ2 q3 => ?_)
    obtain ⟨o4, rfl, rfl, h5⟩ := q3
    refine k_st (st' := [.inr (.inr o4)]) rfl ?_
    refine k_astore_n (ls' := [(2, .inr (.inr o4)), (0, .inr (.inr (some p0))), (1, .inr (.inr (some p1)))]) rfl ?_
    refine k_aload_n rfl ?_
    refine k_ifnull (fun h7 => ?_) (fun b6 h7 => ?_)
    · subst h7
      refine hB _ _ _ _ (kgoC (is := KX3_judgeStore_45) rfl ?_)
      refine k_return ?_
      exact ⟨rfl, H0, (ExC.rf : ExC [217, 218, 335] σ0 σ0)⟩
    · subst h7
      have t8 := h5 b6 rfl
      refine k_nil ?_
      refine hB _ _ _ _ (kgoC (is := KX3_judgeStore_10) rfl ?_)
      refine k_aload_n rfl ?_
      obtain ⟨o11, e9, c10, t12⟩ := cg72 H0.1 h_1_0
      refine k_get kg72 h_1_0 e9 ?_
      refine k_stat (P := P_X3_isFaulty) (Q := Q_X3_isFaulty) rfl rfl (Nat.le_of_ble_eq_true rfl) rfl rfl (Nat.le_of_ble_eq_true rfl) ⟨o11, rfl, H0, t12⟩ (fun w13 σ14 q15 => ?_)
      obtain ⟨x16, rfl, rfl, h17, h18, q19⟩ := q15
      refine k_st (st' := [.inl x16]) rfl ?_
      rcases (by omega : x16.toInt = 0 ∨ x16.toInt = 1) with g20 | g20
      · obtain ⟨b21, h22⟩ := q19 (by omega)
        subst h22
        have t23 := t12 b21 rfl
        refine k_if_ne (fun h24 => by exfalso; omega) (fun h24 => ?_)
        refine k_nil ?_
        refine hB _ _ _ _ (kgoC (is := KX3_judgeStore_20) rfl ?_)
        refine k_aload_n rfl ?_
        refine k_aload_n rfl ?_
        refine k_get kg72 h_1_0 (congrArg (fun z : Option Nat => (Sum.inr (Sum.inr z) : AvC)) c10) ?_
        refine k_aload_n rfl ?_
        obtain ⟨x27, e25, c26, h28, h29⟩ := cg331 H0.1 t8
        refine k_get kg331 t8 e25 ?_
        refine k_stat (P := P_X3_fits) (Q := Q_X3_fits) rfl rfl (Nat.le_of_ble_eq_true rfl) rfl rfl (Nat.le_of_ble_eq_true rfl) ⟨_, _, rfl, H0, t23⟩ (fun w30 σ31 q32 => ?_)
        obtain ⟨x33, rfl, rfl, h34, h35⟩ := q32
        refine k_st (st' := [.inl x33, .inr (.inr (some p0))]) rfl ?_
        refine k_aload_n rfl ?_
        refine k_get kg72 h_1_0 (congrArg (fun z : Option Nat => (Sum.inr (Sum.inr z) : AvC)) c10) ?_
        obtain ⟨x38, e36, c37, h39, h40⟩ := cg62 H0.1 t23
        refine k_get kg62 t23 e36 ?_
        refine k_inv (P := P_X3_isWanted) (Q := Q_X3_isWanted) rfl rfl rfl rfl (Nat.le_of_ble_eq_true rfl) (h_0_0.rc (by decide)) ⟨_, _, _, rfl, H0, h_0_0, (by omega), (by omega), (by omega), (by omega)⟩ (fun w41 σ42 q43 => ?_)
        obtain ⟨x44, rfl, H45, e46, h47, h48⟩ := q43
        refine k_st (st' := [.inl x44]) rfl ?_
        refine k_if_ne (fun h49 => ?_) (fun h49 => ?_)
        · refine hB _ _ _ _ (kgoC (is := KX3_judgeStore_46) rfl ?_)
          refine k_aload_n rfl ?_
          refine k_aload_n rfl ?_
          have t50 := t8.x e46
          obtain ⟨x53, e51, c52, h54, h55⟩ := cg332 H45.1 t50
          refine k_get kg332 t50 e51 ?_
          refine k_if_eq (fun h56 => ?_) (fun h56 => ?_)
          · refine hB _ _ _ _ (kgoC (is := KX3_judgeStore_68) rfl ?_)
            refine k_iconst (m := 0) rfl (fun x57 h58 => ?_)
            refine k_nil ?_
            refine hB _ _ _ _ (kgoC (is := KX3_judgeStore_69) rfl ?_)
            refine k_putI kp335 H45 t50 (Or.inr ⟨fk335, b01C (by omega) (by omega)⟩) (by show 0 ≤ _; omega) (by show _ ≤ 1; omega) (fun σ59 H60 e61 c62 => ?_)
            refine k_aload_n rfl ?_
            refine k_aload_n rfl ?_
            have t63 := h_1_0.x e46
            have t64 := t63.x e61
            have c65 := (h_1_0.mr e46 (by decide)).trans c10
            have c66 := (t63.mr e61 (by decide)).trans c65
            refine k_get kg72 t64 (congrArg (fun z : Option Nat => (Sum.inr (Sum.inr z) : AvC)) c66) ?_
            have t67 := t23.x e46
            have t68 := t67.x e61
            obtain ⟨y71, e69, c70⟩ := cg71 (σ := σ59) (a := b21)
            refine k_get kg71 t68 e69 ?_
            have t72 := t50.x e61
            refine k_putL kg336 H60 t72 fk336 (fun σ73 H74 e75 c76 => ?_)
            refine k_return ?_
            have X77 : ExC [217, 218, 335] σ0 σ42 := ExC.rf.tr (e46.mo (by decide))
            have X78 : ExC [217, 218, 335] σ0 σ59 := X77.tr (e61.mo (by decide))
            have X79 : ExC [217, 218, 335] σ0 σ73 := X78.tr (e75.mo (by decide))
            exact ⟨rfl, H74, X79⟩
          · refine k_nil ?_
            refine hB _ _ _ _ (kgoC (is := KX3_judgeStore_54) rfl ?_)
            refine k_aload_n rfl ?_
            have t80 := h_1_0.x e46
            have c81 := (h_1_0.mr e46 (by decide)).trans c10
            refine k_get kg72 t80 (congrArg (fun z : Option Nat => (Sum.inr (Sum.inr z) : AvC)) c81) ?_
            have t82 := t23.x e46
            obtain ⟨x85, e83, c84, h86, h87⟩ := cg70 H45.1 t82
            refine k_get kg70 t82 e83 ?_
            refine k_if_eq (fun h88 => ?_) (fun h88 => ?_)
            · refine hB _ _ _ _ (kgoC (is := KX3_judgeStore_68) rfl ?_)
              refine k_iconst (m := 0) rfl (fun x89 h90 => ?_)
              refine k_nil ?_
              refine hB _ _ _ _ (kgoC (is := KX3_judgeStore_69) rfl ?_)
              refine k_putI kp335 H45 t50 (Or.inr ⟨fk335, b01C (by omega) (by omega)⟩) (by show 0 ≤ _; omega) (by show _ ≤ 1; omega) (fun σ91 H92 e93 c94 => ?_)
              refine k_aload_n rfl ?_
              refine k_aload_n rfl ?_
              have t95 := t80.x e93
              have c96 := (t80.mr e93 (by decide)).trans c81
              refine k_get kg72 t95 (congrArg (fun z : Option Nat => (Sum.inr (Sum.inr z) : AvC)) c96) ?_
              have t97 := t82.x e93
              obtain ⟨y100, e98, c99⟩ := cg71 (σ := σ91) (a := b21)
              refine k_get kg71 t97 e98 ?_
              have t101 := t50.x e93
              refine k_putL kg336 H92 t101 fk336 (fun σ102 H103 e104 c105 => ?_)
              refine k_return ?_
              have X106 : ExC [217, 218, 335] σ0 σ42 := ExC.rf.tr (e46.mo (by decide))
              have X107 : ExC [217, 218, 335] σ0 σ91 := X106.tr (e93.mo (by decide))
              have X108 : ExC [217, 218, 335] σ0 σ102 := X107.tr (e104.mo (by decide))
              exact ⟨rfl, H103, X108⟩
            · refine k_nil ?_
              refine hB _ _ _ _ (kgoC (is := KX3_judgeStore_64) rfl ?_)
              refine k_iconst (m := 1) rfl (fun x109 h110 => ?_)
              refine k_goto ?_
              refine hB _ _ _ _ (kgoC (is := KX3_judgeStore_69) rfl ?_)
              refine k_putI kp335 H45 t50 (Or.inr ⟨fk335, b01C (by omega) (by omega)⟩) (by show 0 ≤ _; omega) (by show _ ≤ 1; omega) (fun σ111 H112 e113 c114 => ?_)
              refine k_aload_n rfl ?_
              refine k_aload_n rfl ?_
              have t115 := t80.x e113
              have c116 := (t80.mr e113 (by decide)).trans c81
              refine k_get kg72 t115 (congrArg (fun z : Option Nat => (Sum.inr (Sum.inr z) : AvC)) c116) ?_
              have t117 := t82.x e113
              obtain ⟨y120, e118, c119⟩ := cg71 (σ := σ111) (a := b21)
              refine k_get kg71 t117 e118 ?_
              have t121 := t50.x e113
              refine k_putL kg336 H112 t121 fk336 (fun σ122 H123 e124 c125 => ?_)
              refine k_return ?_
              have X126 : ExC [217, 218, 335] σ0 σ42 := ExC.rf.tr (e46.mo (by decide))
              have X127 : ExC [217, 218, 335] σ0 σ111 := X126.tr (e113.mo (by decide))
              have X128 : ExC [217, 218, 335] σ0 σ122 := X127.tr (e124.mo (by decide))
              exact ⟨rfl, H123, X128⟩
        · refine k_nil ?_
          refine hB _ _ _ _ (kgoC (is := KX3_judgeStore_45) rfl ?_)
          refine k_return ?_
          have X129 : ExC [217, 218, 335] σ0 σ42 := ExC.rf.tr (e46.mo (by decide))
          exact ⟨rfl, H45, X129⟩
      · refine k_if_ne (fun h130 => ?_) (fun h130 => by exfalso; omega)
        refine hB _ _ _ _ (kgoC (is := KX3_judgeStore_45) rfl ?_)
        refine k_return ?_
        exact ⟨rfl, H0, (ExC.rf : ExC [217, 218, 335] σ0 σ0)⟩
theorem lg_X3_judgeStore : ∀ (As : List AvC) (σ : CsC), P_X3_judgeStore As σ → lgC As ≤ rX3_judgeStore.2.2.1 := by
  rintro As σ ⟨p0, p1, rfl, -⟩
  exact Nat.le_of_ble_eq_true rfl
theorem m_X3_judgeStore (l : Launch) : CMetC l 12 79 P_X3_judgeStore Q_X3_judgeStore :=
  CMetC.of KX3_judgeStore [(51, P_X3_variableOf, Q_X3_variableOf), (52, P_X3_isFaulty, Q_X3_isFaulty), (75, P_X3_fits, Q_X3_fits), (62, P_X3_isWanted, Q_X3_isWanted)] hX3_judgeStore (by decide) (by decide) okX3_judgeStore (cc1C (m_X3_variableOf l) (by decide) (cc1C (m_X3_isFaulty l) (by decide) (cc1C (m_X3_fits l) (by decide) (cc1C (m_X3_isWanted l) (by decide) cc0C)))) (lg_X3_judgeStore) (b_X3_judgeStore)

abbrev P_X3_judgeExp : CpC := fun As σ => ∃ (p0 : Nat) (p1 : Nat), As = [.inr (.inr (some p0)), .inr (.inr (some p1))] ∧ HIC σ ∧ TyC σ p0 4 ∧ TyC σ p1 2
abbrev Q_X3_judgeExp : CqC := fun As σ w τ => match As with
  | [.inr (.inr (some p0)), .inr (.inr (some p1))] => w = none ∧ HIC τ ∧ ExC [67, 68, 69, 70, 217, 218, 335] σ τ
  | _ => False
set_option maxRecDepth 100000 in
set_option maxHeartbeats 4000000 in
theorem b_X3_judgeExp : TbC KX3_judgeExp [(54, P_X3_judgeNumber, Q_X3_judgeNumber), (55, P_X3_judgeName, Q_X3_judgeName), (56, P_X3_judgeOfOne, Q_X3_judgeOfOne), (60, P_X3_judgeCount, Q_X3_judgeCount), (69, P_X3_judgeChain, Q_X3_judgeChain), (71, P_X3_judgeChoice, Q_X3_judgeChoice), (61, P_X3_judgeAssignment, Q_X3_judgeAssignment), (76, P_X3_judgeCall, Q_X3_judgeCall), (79, P_X3_judgeStore, Q_X3_judgeStore)] P_X3_judgeExp Q_X3_judgeExp := by
  · rintro As σ0 ⟨p0, p1, rfl, H0, h_0_0, h_1_0⟩ hgr G hB hW
    change G 0 [(0, .inr (.inr (some p0))), (1, .inr (.inr (some p1)))] [] σ0
    refine hB _ _ _ _ (kgoC (is := KX3_judgeExp_0) rfl ?_)
    refine k_aload_n rfl ?_
    obtain ⟨x3, e1, c2, h4, h5⟩ := cg60 H0.1 h_1_0
    refine k_get kg60 h_1_0 e1 ?_
    refine k_tsw ?_
    refine k_swc (fun h6 => ?_) (fun h6 => ?_)
    · refine hB _ _ _ _ (kgoC (is := KX3_judgeExp_84) rfl ?_)
      refine k_aload_n rfl ?_
      refine k_aload_n rfl ?_
      refine k_inv (P := P_X3_judgeNumber) (Q := Q_X3_judgeNumber) rfl rfl rfl rfl (Nat.le_of_ble_eq_true rfl) (h_0_0.rc (by decide)) ⟨_, _, rfl, H0, h_0_0, h_1_0⟩ (fun w7 σ8 q9 => ?_)
      obtain ⟨rfl, H10, e11⟩ := q9
      refine k_st (st' := []) rfl ?_
      refine k_goto ?_
      refine hB _ _ _ _ (kgoC (is := KX3_judgeExp_156) rfl ?_)
      refine k_return ?_
      have X12 : ExC [67, 68, 69, 70, 217, 218, 335] σ0 σ8 := ExC.rf.tr (e11.mo (by decide))
      exact ⟨rfl, H10, X12⟩
    refine k_swc (fun h13 => ?_) (fun h13 => ?_)
    · refine hB _ _ _ _ (kgoC (is := KX3_judgeExp_156) rfl ?_)
      refine k_return ?_
      exact ⟨rfl, H0, (ExC.rf : ExC [67, 68, 69, 70, 217, 218, 335] σ0 σ0)⟩
    refine k_swc (fun h14 => ?_) (fun h14 => ?_)
    · refine hB _ _ _ _ (kgoC (is := KX3_judgeExp_92) rfl ?_)
      refine k_aload_n rfl ?_
      refine k_aload_n rfl ?_
      refine k_inv (P := P_X3_judgeName) (Q := Q_X3_judgeName) rfl rfl rfl rfl (Nat.le_of_ble_eq_true rfl) (h_0_0.rc (by decide)) ⟨_, _, rfl, H0, h_0_0, h_1_0⟩ (fun w15 σ16 q17 => ?_)
      obtain ⟨rfl, H18, e19⟩ := q17
      refine k_st (st' := []) rfl ?_
      refine k_goto ?_
      refine hB _ _ _ _ (kgoC (is := KX3_judgeExp_156) rfl ?_)
      refine k_return ?_
      have X20 : ExC [67, 68, 69, 70, 217, 218, 335] σ0 σ16 := ExC.rf.tr (e19.mo (by decide))
      exact ⟨rfl, H18, X20⟩
    refine k_swc (fun h21 => ?_) (fun h21 => ?_)
    · refine hB _ _ _ _ (kgoC (is := KX3_judgeExp_100) rfl ?_)
      refine k_aload_n rfl ?_
      refine k_aload_n rfl ?_
      refine k_inv (P := P_X3_judgeOfOne) (Q := Q_X3_judgeOfOne) rfl rfl rfl rfl (Nat.le_of_ble_eq_true rfl) (h_0_0.rc (by decide)) ⟨_, _, rfl, H0, h_0_0, h_1_0⟩ (fun w22 σ23 q24 => ?_)
      obtain ⟨rfl, H25, e26⟩ := q24
      refine k_st (st' := []) rfl ?_
      refine k_goto ?_
      refine hB _ _ _ _ (kgoC (is := KX3_judgeExp_156) rfl ?_)
      refine k_return ?_
      have X27 : ExC [67, 68, 69, 70, 217, 218, 335] σ0 σ23 := ExC.rf.tr (e26.mo (by decide))
      exact ⟨rfl, H25, X27⟩
    refine k_swc (fun h28 => ?_) (fun h28 => ?_)
    · refine hB _ _ _ _ (kgoC (is := KX3_judgeExp_100) rfl ?_)
      refine k_aload_n rfl ?_
      refine k_aload_n rfl ?_
      refine k_inv (P := P_X3_judgeOfOne) (Q := Q_X3_judgeOfOne) rfl rfl rfl rfl (Nat.le_of_ble_eq_true rfl) (h_0_0.rc (by decide)) ⟨_, _, rfl, H0, h_0_0, h_1_0⟩ (fun w29 σ30 q31 => ?_)
      obtain ⟨rfl, H32, e33⟩ := q31
      refine k_st (st' := []) rfl ?_
      refine k_goto ?_
      refine hB _ _ _ _ (kgoC (is := KX3_judgeExp_156) rfl ?_)
      refine k_return ?_
      have X34 : ExC [67, 68, 69, 70, 217, 218, 335] σ0 σ30 := ExC.rf.tr (e33.mo (by decide))
      exact ⟨rfl, H32, X34⟩
    refine k_swc (fun h35 => ?_) (fun h35 => ?_)
    · refine hB _ _ _ _ (kgoC (is := KX3_judgeExp_100) rfl ?_)
      refine k_aload_n rfl ?_
      refine k_aload_n rfl ?_
      refine k_inv (P := P_X3_judgeOfOne) (Q := Q_X3_judgeOfOne) rfl rfl rfl rfl (Nat.le_of_ble_eq_true rfl) (h_0_0.rc (by decide)) ⟨_, _, rfl, H0, h_0_0, h_1_0⟩ (fun w36 σ37 q38 => ?_)
      obtain ⟨rfl, H39, e40⟩ := q38
      refine k_st (st' := []) rfl ?_
      refine k_goto ?_
      refine hB _ _ _ _ (kgoC (is := KX3_judgeExp_156) rfl ?_)
      refine k_return ?_
      have X41 : ExC [67, 68, 69, 70, 217, 218, 335] σ0 σ37 := ExC.rf.tr (e40.mo (by decide))
      exact ⟨rfl, H39, X41⟩
    refine k_swc (fun h42 => ?_) (fun h42 => ?_)
    · refine hB _ _ _ _ (kgoC (is := KX3_judgeExp_108) rfl ?_)
      refine k_aload_n rfl ?_
      refine k_aload_n rfl ?_
      refine k_inv (P := P_X3_judgeCount) (Q := Q_X3_judgeCount) rfl rfl rfl rfl (Nat.le_of_ble_eq_true rfl) (h_0_0.rc (by decide)) ⟨_, _, rfl, H0, h_0_0, h_1_0⟩ (fun w43 σ44 q45 => ?_)
      obtain ⟨rfl, H46, e47⟩ := q45
      refine k_st (st' := []) rfl ?_
      refine k_goto ?_
      refine hB _ _ _ _ (kgoC (is := KX3_judgeExp_156) rfl ?_)
      refine k_return ?_
      have X48 : ExC [67, 68, 69, 70, 217, 218, 335] σ0 σ44 := ExC.rf.tr (e47.mo (by decide))
      exact ⟨rfl, H46, X48⟩
    refine k_swc (fun h49 => ?_) (fun h49 => ?_)
    · refine hB _ _ _ _ (kgoC (is := KX3_judgeExp_116) rfl ?_)
      refine k_aload_n rfl ?_
      refine k_aload_n rfl ?_
      refine k_inv (P := P_X3_judgeChain) (Q := Q_X3_judgeChain) rfl rfl rfl rfl (Nat.le_of_ble_eq_true rfl) (h_0_0.rc (by decide)) ⟨_, _, rfl, H0, h_0_0, h_1_0⟩ (fun w50 σ51 q52 => ?_)
      obtain ⟨rfl, H53, e54⟩ := q52
      refine k_st (st' := []) rfl ?_
      refine k_goto ?_
      refine hB _ _ _ _ (kgoC (is := KX3_judgeExp_156) rfl ?_)
      refine k_return ?_
      have X55 : ExC [67, 68, 69, 70, 217, 218, 335] σ0 σ51 := ExC.rf.tr (e54.mo (by decide))
      exact ⟨rfl, H53, X55⟩
    refine k_swc (fun h56 => ?_) (fun h56 => ?_)
    · refine hB _ _ _ _ (kgoC (is := KX3_judgeExp_124) rfl ?_)
      refine k_aload_n rfl ?_
      refine k_aload_n rfl ?_
      refine k_inv (P := P_X3_judgeChoice) (Q := Q_X3_judgeChoice) rfl rfl rfl rfl (Nat.le_of_ble_eq_true rfl) (h_0_0.rc (by decide)) ⟨_, _, rfl, H0, h_0_0, h_1_0⟩ (fun w57 σ58 q59 => ?_)
      obtain ⟨rfl, H60, e61⟩ := q59
      refine k_st (st' := []) rfl ?_
      refine k_goto ?_
      refine hB _ _ _ _ (kgoC (is := KX3_judgeExp_156) rfl ?_)
      refine k_return ?_
      have X62 : ExC [67, 68, 69, 70, 217, 218, 335] σ0 σ58 := ExC.rf.tr (e61.mo (by decide))
      exact ⟨rfl, H60, X62⟩
    refine k_swc (fun h63 => ?_) (fun h63 => ?_)
    · refine hB _ _ _ _ (kgoC (is := KX3_judgeExp_132) rfl ?_)
      refine k_aload_n rfl ?_
      refine k_aload_n rfl ?_
      refine k_inv (P := P_X3_judgeAssignment) (Q := Q_X3_judgeAssignment) rfl rfl rfl rfl (Nat.le_of_ble_eq_true rfl) (h_0_0.rc (by decide)) ⟨_, _, rfl, H0, h_0_0, h_1_0⟩ (fun w64 σ65 q66 => ?_)
      obtain ⟨rfl, H67, e68⟩ := q66
      refine k_st (st' := []) rfl ?_
      refine k_goto ?_
      refine hB _ _ _ _ (kgoC (is := KX3_judgeExp_156) rfl ?_)
      refine k_return ?_
      have X69 : ExC [67, 68, 69, 70, 217, 218, 335] σ0 σ65 := ExC.rf.tr (e68.mo (by decide))
      exact ⟨rfl, H67, X69⟩
    refine k_swc (fun h70 => ?_) (fun h70 => ?_)
    · refine hB _ _ _ _ (kgoC (is := KX3_judgeExp_140) rfl ?_)
      refine k_aload_n rfl ?_
      refine k_aload_n rfl ?_
      refine k_inv (P := P_X3_judgeCall) (Q := Q_X3_judgeCall) rfl rfl rfl rfl (Nat.le_of_ble_eq_true rfl) (h_0_0.rc (by decide)) ⟨_, _, rfl, H0, h_0_0, h_1_0⟩ (fun w71 σ72 q73 => ?_)
      obtain ⟨rfl, H74, e75⟩ := q73
      refine k_st (st' := []) rfl ?_
      refine k_goto ?_
      refine hB _ _ _ _ (kgoC (is := KX3_judgeExp_156) rfl ?_)
      refine k_return ?_
      have X76 : ExC [67, 68, 69, 70, 217, 218, 335] σ0 σ72 := ExC.rf.tr (e75.mo (by decide))
      exact ⟨rfl, H74, X76⟩
    refine k_swc (fun h77 => ?_) (fun h77 => ?_)
    · refine hB _ _ _ _ (kgoC (is := KX3_judgeExp_156) rfl ?_)
      refine k_return ?_
      exact ⟨rfl, H0, (ExC.rf : ExC [67, 68, 69, 70, 217, 218, 335] σ0 σ0)⟩
    refine k_swc (fun h78 => ?_) (fun h78 => ?_)
    · refine hB _ _ _ _ (kgoC (is := KX3_judgeExp_156) rfl ?_)
      refine k_return ?_
      exact ⟨rfl, H0, (ExC.rf : ExC [67, 68, 69, 70, 217, 218, 335] σ0 σ0)⟩
    refine k_swc (fun h79 => ?_) (fun h79 => ?_)
    · refine hB _ _ _ _ (kgoC (is := KX3_judgeExp_156) rfl ?_)
      refine k_return ?_
      exact ⟨rfl, H0, (ExC.rf : ExC [67, 68, 69, 70, 217, 218, 335] σ0 σ0)⟩
    refine k_swc (fun h80 => ?_) (fun h80 => ?_)
    · refine hB _ _ _ _ (kgoC (is := KX3_judgeExp_156) rfl ?_)
      refine k_return ?_
      exact ⟨rfl, H0, (ExC.rf : ExC [67, 68, 69, 70, 217, 218, 335] σ0 σ0)⟩
    refine k_swc (fun h81 => ?_) (fun h81 => ?_)
    · refine hB _ _ _ _ (kgoC (is := KX3_judgeExp_148) rfl ?_)
      refine k_aload_n rfl ?_
      refine k_aload_n rfl ?_
      refine k_inv (P := P_X3_judgeStore) (Q := Q_X3_judgeStore) rfl rfl rfl rfl (Nat.le_of_ble_eq_true rfl) (h_0_0.rc (by decide)) ⟨_, _, rfl, H0, h_0_0, h_1_0⟩ (fun w82 σ83 q84 => ?_)
      obtain ⟨rfl, H85, e86⟩ := q84
      refine k_st (st' := []) rfl ?_
      refine k_goto ?_
      refine hB _ _ _ _ (kgoC (is := KX3_judgeExp_156) rfl ?_)
      refine k_return ?_
      have X87 : ExC [67, 68, 69, 70, 217, 218, 335] σ0 σ83 := ExC.rf.tr (e86.mo (by decide))
      exact ⟨rfl, H85, X87⟩
    refine k_swn ?_
    refine hB _ _ _ _ (kgoC (is := KX3_judgeExp_156) rfl ?_)
    refine k_return ?_
    exact ⟨rfl, H0, (ExC.rf : ExC [67, 68, 69, 70, 217, 218, 335] σ0 σ0)⟩
theorem lg_X3_judgeExp : ∀ (As : List AvC) (σ : CsC), P_X3_judgeExp As σ → lgC As ≤ rX3_judgeExp.2.2.1 := by
  rintro As σ ⟨p0, p1, rfl, -⟩
  exact Nat.le_of_ble_eq_true rfl
theorem m_X3_judgeExp (l : Launch) : CMetC l 15 53 P_X3_judgeExp Q_X3_judgeExp :=
  CMetC.of KX3_judgeExp [(54, P_X3_judgeNumber, Q_X3_judgeNumber), (55, P_X3_judgeName, Q_X3_judgeName), (56, P_X3_judgeOfOne, Q_X3_judgeOfOne), (60, P_X3_judgeCount, Q_X3_judgeCount), (69, P_X3_judgeChain, Q_X3_judgeChain), (71, P_X3_judgeChoice, Q_X3_judgeChoice), (61, P_X3_judgeAssignment, Q_X3_judgeAssignment), (76, P_X3_judgeCall, Q_X3_judgeCall), (79, P_X3_judgeStore, Q_X3_judgeStore)] hX3_judgeExp (by decide) (by decide) okX3_judgeExp (cc1C (m_X3_judgeNumber l) (by decide) (cc1C (m_X3_judgeName l) (by decide) (cc1C (m_X3_judgeOfOne l) (by decide) (cc1C (m_X3_judgeCount l) (by decide) (cc1C (m_X3_judgeChain l) (by decide) (cc1C (m_X3_judgeChoice l) (by decide) (cc1C (m_X3_judgeAssignment l) (by decide) (cc1C (m_X3_judgeCall l) (by decide) (cc1C (m_X3_judgeStore l) (by decide) cc0C))))))))) (lg_X3_judgeExp) (b_X3_judgeExp)

abbrev P_X3_isSameName : CpC := fun As σ => ∃ (p0 : Nat) (p1 : Int32) (p2 : Int32), As = [.inr (.inr (some p0)), .inl p1, .inl p2] ∧ HIC σ ∧ TyC σ p0 4 ∧ 0 ≤ p1.toInt ∧ p1.toInt ≤ 502 ∧ 0 ≤ p2.toInt ∧ p2.toInt ≤ 502
abbrev Q_X3_isSameName : CqC := fun As σ w τ => match As with
  | [.inr (.inr (some p0)), .inl p1, .inl p2] => ∃ r : Int32, w = some (.inl r) ∧ σ = τ ∧ 0 ≤ r.toInt ∧ r.toInt ≤ 1
  | _ => False
set_option maxRecDepth 100000 in
set_option maxHeartbeats 4000000 in
theorem b_X3_isSameName : TbC KX3_isSameName [] P_X3_isSameName Q_X3_isSameName := by
  · rintro As σ0 ⟨p0, p1, p2, rfl, H0, h_0_0, h_1_0, h_1_1, h_2_0, h_2_1⟩ hgr G hB hW
    change G 0 [(0, .inr (.inr (some p0))), (1, .inl p1), (2, .inl p2)] [] σ0
    refine hB _ _ _ _ (kgoC (is := KX3_isSameName_0) rfl ?_)
    refine k_aload_n rfl ?_
    obtain ⟨a3, e1, c2, t4⟩ := cg121 H0.1 h_0_0
    refine k_get kg121 h_0_0 e1 ?_
    obtain ⟨a7, e5, c6, t8⟩ := cg210 H0.1 t4
    refine k_get kg210 t4 e5 ?_
    obtain ⟨a11, e9, c10, t12, l13, l14⟩ := cg304 H0.1 t8
    refine k_get kg304 t8 e9 ?_
    refine k_iload_n rfl ?_
    refine k_laload t12 (by omega) (by omega) (fun y15 => ?_)
    refine k_aload_n rfl ?_
    refine k_get kg121 h_0_0 (congrArg (fun z : Option Nat => (Sum.inr (Sum.inr z) : AvC)) c2) ?_
    refine k_get kg210 t4 (congrArg (fun z : Option Nat => (Sum.inr (Sum.inr z) : AvC)) c6) ?_
    refine k_get kg304 t8 (congrArg (fun z : Option Nat => (Sum.inr (Sum.inr z) : AvC)) c10) ?_
    refine k_iload_n rfl ?_
    refine k_laload t12 (by omega) (by omega) (fun y16 => ?_)
    refine k_lcmp (fun x17 h18 g19 => ?_)
    refine k_if_ne (fun h20 => ?_) (fun h20 => ?_)
    · refine hB _ _ _ _ (kgoC (is := KX3_isSameName_32) rfl ?_)
      refine k_iconst (m := 0) rfl (fun x21 h22 => ?_)
      refine k_nil ?_
      refine hB _ _ _ _ (kgoC (is := KX3_isSameName_33) rfl ?_)
      refine k_ireturn (fun _ => b01C (by omega) (by omega)) ?_
      exact ⟨_, rfl, rfl, (by omega), (by omega)⟩
    · refine k_nil ?_
      refine hB _ _ _ _ (kgoC (is := KX3_isSameName_28) rfl ?_)
      refine k_iconst (m := 1) rfl (fun x23 h24 => ?_)
      refine k_goto ?_
      refine hB _ _ _ _ (kgoC (is := KX3_isSameName_33) rfl ?_)
      refine k_ireturn (fun _ => b01C (by omega) (by omega)) ?_
      exact ⟨_, rfl, rfl, (by omega), (by omega)⟩
theorem lg_X3_isSameName : ∀ (As : List AvC) (σ : CsC), P_X3_isSameName As σ → lgC As ≤ rX3_isSameName.2.2.1 := by
  rintro As σ ⟨p0, p1, p2, rfl, -⟩
  exact Nat.le_of_ble_eq_true rfl
theorem m_X3_isSameName (l : Launch) : CMetC l 1 84 P_X3_isSameName Q_X3_isSameName :=
  CMetC.of KX3_isSameName [] hX3_isSameName (by decide) (by decide) okX3_isSameName cc0C (lg_X3_isSameName) (b_X3_isSameName)

abbrev P_X3_judgeCase : CpC := fun As σ => ∃ (p0 : Nat) (p1 : Nat) (p2 : Nat), As = [.inr (.inr (some p0)), .inr (.inr (some p1)), .inr (.inr (some p2))] ∧ HIC σ ∧ TyC σ p0 4 ∧ TyC σ p1 9 ∧ TyC σ p2 9 ∧ (∃ b, fRC σ p1 279 = some b)
abbrev Q_X3_judgeCase : CqC := fun As σ w τ => match As with
  | [.inr (.inr (some p0)), .inr (.inr (some p1)), .inr (.inr (some p2))] => w = none ∧ HIC τ ∧ ExC [217, 218] σ τ
  | _ => False
set_option maxRecDepth 100000 in
set_option maxHeartbeats 4000000 in
theorem b_X3_judgeCase : TbC KX3_judgeCase [(52, P_X3_isFaulty, Q_X3_isFaulty), (75, P_X3_fits, Q_X3_fits), (118, P_X6_tell, Q_X6_tell)] P_X3_judgeCase Q_X3_judgeCase := by
  · rintro As σ0 ⟨p0, p1, p2, rfl, H0, h_0_0, h_1_0, h_2_0, q_0⟩ hgr G hB hW
    change G 0 [(0, .inr (.inr (some p0))), (1, .inr (.inr (some p1))), (2, .inr (.inr (some p2)))] [] σ0
    obtain ⟨b1, h2⟩ := q_0
    obtain ⟨o3, e4, c5, t6⟩ := cg279 H0.1 h_1_0
    have h8 : o3 = some b1 := c5.symm.trans h2
    subst h8
    have t9 := t6 b1 rfl
    have L50 : ∀ (n50 : Nat), ∀ (σ10 : CsC) (v50_3 : Int32) (v50_4 : Option Nat), msNC (cnC σ0) v50_4 = n50 → HIC σ10 → ExC [217, 218] σ0 σ10 → 0 ≤ v50_3.toInt → v50_3.toInt ≤ 1 → OtC σ10 v50_4 9 → (∃ b, fRC σ10 p2 279 = some b) → G 50 [(0, .inr (.inr (some p0))), (2, .inr (.inr (some p2))), (3, .inl v50_3), (4, .inr (.inr v50_4))] [] σ10 := by
      intro n50
      induction n50 using Nat.strongRecOn with
      | _ n50 ih50 =>
        intro σ10 v50_3 v50_4 n50_ H11 e12 h13 h14 h15 h16
        obtain ⟨b17, h18⟩ := h16
        have t24 := h_2_0.x e12
        obtain ⟨o19, e20, c21, t22⟩ := cg279 H11.1 t24
        have h25 : o19 = some b17 := c21.symm.trans h18
        subst h25
        have t26 := t22 b17 rfl
        refine hB _ _ _ _ (kgoC (is := KX3_judgeCase_50) rfl ?_)
        refine k_aload rfl ?_
        refine k_ifnull (fun h28 => ?_) (fun b27 h28 => ?_)
        · subst h28
          refine hB _ _ _ _ (kgoC (is := KX3_judgeCase_124) rfl ?_)
          refine k_iload_n rfl ?_
          refine k_if_ne (fun h29 => ?_) (fun h29 => ?_)
          · refine hB _ _ _ _ (kgoC (is := KX3_judgeCase_144) rfl ?_)
            refine k_return ?_
            have X30 : ExC [217, 218] σ0 σ10 := ExC.rf.tr (e12.mo (by decide))
            exact ⟨rfl, H11, X30⟩
          · refine k_nil ?_
            refine hB _ _ _ _ (kgoC (is := KX3_judgeCase_128) rfl ?_)
            refine k_aload_n rfl ?_
            have t31 := h_0_0.x e12
            obtain ⟨a34, e32, c33, t35⟩ := cg121 H11.1 t31
            refine k_get kg121 t31 e32 ?_
            refine k_bipush (m := 8) rfl (fun x36 h37 => ?_)
            refine k_aload_n rfl ?_
            refine k_get kg279 t24 (congrArg (fun z : Option Nat => (Sum.inr (Sum.inr z) : AvC)) c21) ?_
            obtain ⟨x40, e38, c39, h41, h42⟩ := cg62 H11.1 t26
            refine k_get kg62 t26 e38 ?_
            refine k_inv (P := P_X6_tell) (Q := Q_X6_tell) rfl rfl rfl rfl (Nat.le_of_ble_eq_true rfl) (t35.rc (by decide)) ⟨_, _, _, rfl, H11, t35, (by omega), (by omega), (by omega), (by omega)⟩ (fun w43 σ44 q45 => ?_)
            obtain ⟨rfl, H46, e47⟩ := q45
            refine k_st (st' := []) rfl ?_
            refine k_nil ?_
            refine hB _ _ _ _ (kgoC (is := KX3_judgeCase_144) rfl ?_)
            refine k_return ?_
            have X48 : ExC [217, 218] σ0 σ10 := ExC.rf.tr (e12.mo (by decide))
            have X49 : ExC [217, 218] σ0 σ44 := X48.tr (e47.mo (by decide))
            exact ⟨rfl, H46, X49⟩
        · subst h28
          have t50 := h15 b27 rfl
          refine k_nil ?_
          refine hB _ _ _ _ (kgoC (is := KX3_judgeCase_55) rfl ?_)
          refine k_aload rfl ?_
          refine k_aload_n rfl ?_
          refine k_acmp_eq (c := 9) (c' := 9) (t50.ot) (t24.ot) (fun h51 => ?_) (fun h51 => ?_)
          · refine hB _ _ _ _ (kgoC (is := KX3_judgeCase_124) rfl ?_)
            refine k_iload_n rfl ?_
            refine k_if_ne (fun h52 => ?_) (fun h52 => ?_)
            · refine hB _ _ _ _ (kgoC (is := KX3_judgeCase_144) rfl ?_)
              refine k_return ?_
              have X53 : ExC [217, 218] σ0 σ10 := ExC.rf.tr (e12.mo (by decide))
              exact ⟨rfl, H11, X53⟩
            · refine k_nil ?_
              refine hB _ _ _ _ (kgoC (is := KX3_judgeCase_128) rfl ?_)
              refine k_aload_n rfl ?_
              have t54 := h_0_0.x e12
              obtain ⟨a57, e55, c56, t58⟩ := cg121 H11.1 t54
              refine k_get kg121 t54 e55 ?_
              refine k_bipush (m := 8) rfl (fun x59 h60 => ?_)
              refine k_aload_n rfl ?_
              refine k_get kg279 t24 (congrArg (fun z : Option Nat => (Sum.inr (Sum.inr z) : AvC)) c21) ?_
              obtain ⟨x63, e61, c62, h64, h65⟩ := cg62 H11.1 t26
              refine k_get kg62 t26 e61 ?_
              refine k_inv (P := P_X6_tell) (Q := Q_X6_tell) rfl rfl rfl rfl (Nat.le_of_ble_eq_true rfl) (t58.rc (by decide)) ⟨_, _, _, rfl, H11, t58, (by omega), (by omega), (by omega), (by omega)⟩ (fun w66 σ67 q68 => ?_)
              obtain ⟨rfl, H69, e70⟩ := q68
              refine k_st (st' := []) rfl ?_
              refine k_nil ?_
              refine hB _ _ _ _ (kgoC (is := KX3_judgeCase_144) rfl ?_)
              refine k_return ?_
              have X71 : ExC [217, 218] σ0 σ10 := ExC.rf.tr (e12.mo (by decide))
              have X72 : ExC [217, 218] σ0 σ67 := X71.tr (e70.mo (by decide))
              exact ⟨rfl, H69, X72⟩
          · refine k_nil ?_
            refine hB _ _ _ _ (kgoC (is := KX3_judgeCase_61) rfl ?_)
            refine k_aload rfl ?_
            obtain ⟨x75, e73, c74, h76, h77⟩ := cg270 H11.1 t50
            refine k_get kg270 t50 e73 ?_
            refine k_bipush (m := 62) rfl (fun x78 h79 => ?_)
            refine k_ic_ne (fun h80 => ?_) (fun h80 => ?_)
            · refine hB _ _ _ _ (kgoC (is := KX3_judgeCase_114) rfl ?_)
              refine k_aload rfl ?_
              obtain ⟨o83, e81, c82, t84, f85⟩ := cg275 H11.1 t50
              refine k_get kg275 t50 e81 ?_
              refine k_astore (ls' := [(4, .inr (.inr o83)), (0, .inr (.inr (some p0))), (2, .inr (.inr (some p2))), (3, .inl v50_3)]) rfl ?_
              refine k_goto ?_
              have X86 : ExC [217, 218] σ0 σ10 := ExC.rf.tr (e12.mo (by decide))
              exact hW _ _ _ _ _ (List.forall_mem_cons.2 ⟨List.Mem.tail _ (List.Mem.head _), (List.forall_mem_cons.2 ⟨List.Mem.tail _ (List.Mem.tail _ (List.Mem.head _)), (List.forall_mem_cons.2 ⟨List.Mem.tail _ (List.Mem.tail _ (List.Mem.tail _ (List.Mem.head _))), (List.forall_mem_cons.2 ⟨List.Mem.head _, fun _ h => absurd h List.not_mem_nil⟩)⟩)⟩)⟩) (ih50 (msNC (cnC σ0) o83) (by have qb := t50.1; have qc := (X86.cn (by decide) : cnC σ10 = cnC σ0); have qm := n50_; cases o83 with
                              | none => dsimp only [msNC] at qm ⊢; omega
                              | some bz => have := (t84 bz rfl).1; have qf := (f85 bz rfl).2; have qg := (show _ < bz from by first | exact qf | exact qf.1); dsimp only [msNC] at qm ⊢; omega) σ10 v50_3 o83 rfl H11 X86 (by omega) (by omega) t84 ⟨_, c21⟩)
            · refine k_nil ?_
              refine hB _ _ _ _ (kgoC (is := KX3_judgeCase_71) rfl ?_)
              refine k_aload rfl ?_
              obtain ⟨o89, e87, c88, t90⟩ := cg279 H11.1 t50
              refine k_get kg279 t50 e87 ?_
              refine k_stat (P := P_X3_isFaulty) (Q := Q_X3_isFaulty) rfl rfl (Nat.le_of_ble_eq_true rfl) rfl rfl (Nat.le_of_ble_eq_true rfl) ⟨o89, rfl, H11, t90⟩ (fun w91 σ92 q93 => ?_)
              obtain ⟨x94, rfl, rfl, h95, h96, q97⟩ := q93
              refine k_st (st' := [.inl x94]) rfl ?_
              rcases (by omega : x94.toInt = 0 ∨ x94.toInt = 1) with g98 | g98
              · obtain ⟨b99, h100⟩ := q97 (by omega)
                subst h100
                have t101 := t90 b99 rfl
                refine k_if_ne (fun h102 => by exfalso; omega) (fun h102 => ?_)
                refine k_nil ?_
                refine hB _ _ _ _ (kgoC (is := KX3_judgeCase_82) rfl ?_)
                refine k_aload rfl ?_
                refine k_get kg279 t50 (congrArg (fun z : Option Nat => (Sum.inr (Sum.inr z) : AvC)) c88) ?_
                obtain ⟨x105, e103, c104, h106, h107⟩ := cg70 H11.1 t101
                refine k_get kg70 t101 e103 ?_
                refine k_if_eq (fun h108 => ?_) (fun h108 => ?_)
                · refine hB _ _ _ _ (kgoC (is := KX3_judgeCase_114) rfl ?_)
                  refine k_aload rfl ?_
                  obtain ⟨o111, e109, c110, t112, f113⟩ := cg275 H11.1 t50
                  refine k_get kg275 t50 e109 ?_
                  refine k_astore (ls' := [(4, .inr (.inr o111)), (0, .inr (.inr (some p0))), (2, .inr (.inr (some p2))), (3, .inl v50_3)]) rfl ?_
                  refine k_goto ?_
                  have X114 : ExC [217, 218] σ0 σ10 := ExC.rf.tr (e12.mo (by decide))
                  exact hW _ _ _ _ _ (List.forall_mem_cons.2 ⟨List.Mem.tail _ (List.Mem.head _), (List.forall_mem_cons.2 ⟨List.Mem.tail _ (List.Mem.tail _ (List.Mem.head _)), (List.forall_mem_cons.2 ⟨List.Mem.tail _ (List.Mem.tail _ (List.Mem.tail _ (List.Mem.head _))), (List.forall_mem_cons.2 ⟨List.Mem.head _, fun _ h => absurd h List.not_mem_nil⟩)⟩)⟩)⟩) (ih50 (msNC (cnC σ0) o111) (by have qb := t50.1; have qc := (X114.cn (by decide) : cnC σ10 = cnC σ0); have qm := n50_; cases o111 with
                                      | none => dsimp only [msNC] at qm ⊢; omega
                                      | some bz => have := (t112 bz rfl).1; have qf := (f113 bz rfl).2; have qg := (show _ < bz from by first | exact qf | exact qf.1); dsimp only [msNC] at qm ⊢; omega) σ10 v50_3 o111 rfl H11 X114 (by omega) (by omega) t112 ⟨_, c21⟩)
                · refine k_nil ?_
                  refine hB _ _ _ _ (kgoC (is := KX3_judgeCase_93) rfl ?_)
                  refine k_aload rfl ?_
                  refine k_get kg279 t50 (congrArg (fun z : Option Nat => (Sum.inr (Sum.inr z) : AvC)) c88) ?_
                  obtain ⟨y117, e115, c116⟩ := cg71 (σ := σ10) (a := b99)
                  refine k_get kg71 t101 e115 ?_
                  refine k_aload_n rfl ?_
                  refine k_get kg279 t24 (congrArg (fun z : Option Nat => (Sum.inr (Sum.inr z) : AvC)) c21) ?_
                  obtain ⟨y120, e118, c119⟩ := cg71 (σ := σ10) (a := b17)
                  refine k_get kg71 t26 e118 ?_
                  refine k_lcmp (fun x121 h122 g123 => ?_)
                  refine k_if_ne (fun h124 => ?_) (fun h124 => ?_)
                  · refine hB _ _ _ _ (kgoC (is := KX3_judgeCase_114) rfl ?_)
                    refine k_aload rfl ?_
                    obtain ⟨o127, e125, c126, t128, f129⟩ := cg275 H11.1 t50
                    refine k_get kg275 t50 e125 ?_
                    refine k_astore (ls' := [(4, .inr (.inr o127)), (0, .inr (.inr (some p0))), (2, .inr (.inr (some p2))), (3, .inl v50_3)]) rfl ?_
                    refine k_goto ?_
                    have X130 : ExC [217, 218] σ0 σ10 := ExC.rf.tr (e12.mo (by decide))
                    exact hW _ _ _ _ _ (List.forall_mem_cons.2 ⟨List.Mem.tail _ (List.Mem.head _), (List.forall_mem_cons.2 ⟨List.Mem.tail _ (List.Mem.tail _ (List.Mem.head _)), (List.forall_mem_cons.2 ⟨List.Mem.tail _ (List.Mem.tail _ (List.Mem.tail _ (List.Mem.head _))), (List.forall_mem_cons.2 ⟨List.Mem.head _, fun _ h => absurd h List.not_mem_nil⟩)⟩)⟩)⟩) (ih50 (msNC (cnC σ0) o127) (by have qb := t50.1; have qc := (X130.cn (by decide) : cnC σ10 = cnC σ0); have qm := n50_; cases o127 with
                                          | none => dsimp only [msNC] at qm ⊢; omega
                                          | some bz => have := (t128 bz rfl).1; have qf := (f129 bz rfl).2; have qg := (show _ < bz from by first | exact qf | exact qf.1); dsimp only [msNC] at qm ⊢; omega) σ10 v50_3 o127 rfl H11 X130 (by omega) (by omega) t128 ⟨_, c21⟩)
                  · refine k_nil ?_
                    refine hB _ _ _ _ (kgoC (is := KX3_judgeCase_112) rfl ?_)
                    refine k_iconst (m := 0) rfl (fun x131 h132 => ?_)
                    refine k_istore_n (ls' := [(3, .inl x131), (0, .inr (.inr (some p0))), (2, .inr (.inr (some p2))), (4, .inr (.inr (some b27)))]) rfl ?_
                    refine k_nil ?_
                    refine hB _ _ _ _ (kgoC (is := KX3_judgeCase_114) rfl ?_)
                    refine k_aload rfl ?_
                    obtain ⟨o135, e133, c134, t136, f137⟩ := cg275 H11.1 t50
                    refine k_get kg275 t50 e133 ?_
                    refine k_astore (ls' := [(4, .inr (.inr o135)), (3, .inl x131), (0, .inr (.inr (some p0))), (2, .inr (.inr (some p2)))]) rfl ?_
                    refine k_goto ?_
                    have X138 : ExC [217, 218] σ0 σ10 := ExC.rf.tr (e12.mo (by decide))
                    exact hW _ _ _ _ _ (List.forall_mem_cons.2 ⟨List.Mem.tail _ (List.Mem.tail _ (List.Mem.head _)), (List.forall_mem_cons.2 ⟨List.Mem.tail _ (List.Mem.tail _ (List.Mem.tail _ (List.Mem.head _))), (List.forall_mem_cons.2 ⟨List.Mem.tail _ (List.Mem.head _), (List.forall_mem_cons.2 ⟨List.Mem.head _, fun _ h => absurd h List.not_mem_nil⟩)⟩)⟩)⟩) (ih50 (msNC (cnC σ0) o135) (by have qb := t50.1; have qc := (X138.cn (by decide) : cnC σ10 = cnC σ0); have qm := n50_; cases o135 with
                                          | none => dsimp only [msNC] at qm ⊢; omega
                                          | some bz => have := (t136 bz rfl).1; have qf := (f137 bz rfl).2; have qg := (show _ < bz from by first | exact qf | exact qf.1); dsimp only [msNC] at qm ⊢; omega) σ10 x131 o135 rfl H11 X138 (by omega) (by omega) t136 ⟨_, c21⟩)
              · refine k_if_ne (fun h139 => ?_) (fun h139 => by exfalso; omega)
                refine hB _ _ _ _ (kgoC (is := KX3_judgeCase_114) rfl ?_)
                refine k_aload rfl ?_
                obtain ⟨o142, e140, c141, t143, f144⟩ := cg275 H11.1 t50
                refine k_get kg275 t50 e140 ?_
                refine k_astore (ls' := [(4, .inr (.inr o142)), (0, .inr (.inr (some p0))), (2, .inr (.inr (some p2))), (3, .inl v50_3)]) rfl ?_
                refine k_goto ?_
                have X145 : ExC [217, 218] σ0 σ10 := ExC.rf.tr (e12.mo (by decide))
                exact hW _ _ _ _ _ (List.forall_mem_cons.2 ⟨List.Mem.tail _ (List.Mem.head _), (List.forall_mem_cons.2 ⟨List.Mem.tail _ (List.Mem.tail _ (List.Mem.head _)), (List.forall_mem_cons.2 ⟨List.Mem.tail _ (List.Mem.tail _ (List.Mem.tail _ (List.Mem.head _))), (List.forall_mem_cons.2 ⟨List.Mem.head _, fun _ h => absurd h List.not_mem_nil⟩)⟩)⟩)⟩) (ih50 (msNC (cnC σ0) o142) (by have qb := t50.1; have qc := (X145.cn (by decide) : cnC σ10 = cnC σ0); have qm := n50_; cases o142 with
                                  | none => dsimp only [msNC] at qm ⊢; omega
                                  | some bz => have := (t143 bz rfl).1; have qf := (f144 bz rfl).2; have qg := (show _ < bz from by first | exact qf | exact qf.1); dsimp only [msNC] at qm ⊢; omega) σ10 v50_3 o142 rfl H11 X145 (by omega) (by omega) t143 ⟨_, c21⟩)
    refine hB _ _ _ _ (kgoC (is := KX3_judgeCase_0) rfl ?_)
    refine k_aload_n rfl ?_
    obtain ⟨o148, e146, c147, t149⟩ := cg279 H0.1 h_2_0
    refine k_get kg279 h_2_0 e146 ?_
    refine k_stat (P := P_X3_isFaulty) (Q := Q_X3_isFaulty) rfl rfl (Nat.le_of_ble_eq_true rfl) rfl rfl (Nat.le_of_ble_eq_true rfl) ⟨o148, rfl, H0, t149⟩ (fun w150 σ151 q152 => ?_)
    obtain ⟨x153, rfl, rfl, h154, h155, q156⟩ := q152
    refine k_st (st' := [.inl x153]) rfl ?_
    rcases (by omega : x153.toInt = 0 ∨ x153.toInt = 1) with g157 | g157
    · obtain ⟨b158, h159⟩ := q156 (by omega)
      subst h159
      have t160 := t149 b158 rfl
      refine k_if_eq (fun h161 => ?_) (fun h161 => by exfalso; omega)
      refine hB _ _ _ _ (kgoC (is := KX3_judgeCase_11) rfl ?_)
      refine k_aload_n rfl ?_
      refine k_get kg279 h_2_0 (congrArg (fun z : Option Nat => (Sum.inr (Sum.inr z) : AvC)) c147) ?_
      obtain ⟨x164, e162, c163, h165, h166⟩ := cg70 H0.1 t160
      refine k_get kg70 t160 e162 ?_
      refine k_if_eq (fun h167 => ?_) (fun h167 => ?_)
      · refine hB _ _ _ _ (kgoC (is := KX3_judgeCase_42) rfl ?_)
        refine k_iconst (m := 0) rfl (fun x168 h169 => ?_)
        refine k_nil ?_
        refine hB _ _ _ _ (kgoC (is := KX3_judgeCase_43) rfl ?_)
        refine k_istore_n (ls' := [(3, .inl x168), (0, .inr (.inr (some p0))), (1, .inr (.inr (some p1))), (2, .inr (.inr (some p2)))]) rfl ?_
        refine k_aload_n rfl ?_
        obtain ⟨o172, e170, c171, t173, f174⟩ := cg276 H0.1 h_1_0
        refine k_get kg276 h_1_0 e170 ?_
        refine k_astore (ls' := [(4, .inr (.inr o172)), (3, .inl x168), (0, .inr (.inr (some p0))), (1, .inr (.inr (some p1))), (2, .inr (.inr (some p2)))]) rfl ?_
        refine k_nil ?_
        exact hW _ _ _ _ _ (List.forall_mem_cons.2 ⟨List.Mem.tail _ (List.Mem.tail _ (List.Mem.head _)), (List.forall_mem_cons.2 ⟨List.Mem.tail _ (List.Mem.tail _ (List.Mem.tail _ (List.Mem.tail _ (List.Mem.head _)))), (List.forall_mem_cons.2 ⟨List.Mem.tail _ (List.Mem.head _), (List.forall_mem_cons.2 ⟨List.Mem.head _, fun _ h => absurd h List.not_mem_nil⟩)⟩)⟩)⟩) (L50 _ σ0 x168 o172 rfl H0 ExC.rf (by omega) (by omega) t173 ⟨_, c147⟩)
      · refine k_nil ?_
        refine hB _ _ _ _ (kgoC (is := KX3_judgeCase_21) rfl ?_)
        refine k_aload_n rfl ?_
        refine k_get kg279 h_2_0 (congrArg (fun z : Option Nat => (Sum.inr (Sum.inr z) : AvC)) c147) ?_
        refine k_aload_n rfl ?_
        refine k_get kg279 h_1_0 (congrArg (fun z : Option Nat => (Sum.inr (Sum.inr z) : AvC)) c5) ?_
        obtain ⟨x177, e175, c176, h178, h179⟩ := cg68 H0.1 t9
        refine k_get kg68 t9 e175 ?_
        refine k_stat (P := P_X3_fits) (Q := Q_X3_fits) rfl rfl (Nat.le_of_ble_eq_true rfl) rfl rfl (Nat.le_of_ble_eq_true rfl) ⟨_, _, rfl, H0, t160⟩ (fun w180 σ181 q182 => ?_)
        obtain ⟨x183, rfl, rfl, h184, h185⟩ := q182
        refine k_st (st' := [.inl x183]) rfl ?_
        refine k_if_eq (fun h186 => ?_) (fun h186 => ?_)
        · refine hB _ _ _ _ (kgoC (is := KX3_judgeCase_42) rfl ?_)
          refine k_iconst (m := 0) rfl (fun x187 h188 => ?_)
          refine k_nil ?_
          refine hB _ _ _ _ (kgoC (is := KX3_judgeCase_43) rfl ?_)
          refine k_istore_n (ls' := [(3, .inl x187), (0, .inr (.inr (some p0))), (1, .inr (.inr (some p1))), (2, .inr (.inr (some p2)))]) rfl ?_
          refine k_aload_n rfl ?_
          obtain ⟨o191, e189, c190, t192, f193⟩ := cg276 H0.1 h_1_0
          refine k_get kg276 h_1_0 e189 ?_
          refine k_astore (ls' := [(4, .inr (.inr o191)), (3, .inl x187), (0, .inr (.inr (some p0))), (1, .inr (.inr (some p1))), (2, .inr (.inr (some p2)))]) rfl ?_
          refine k_nil ?_
          exact hW _ _ _ _ _ (List.forall_mem_cons.2 ⟨List.Mem.tail _ (List.Mem.tail _ (List.Mem.head _)), (List.forall_mem_cons.2 ⟨List.Mem.tail _ (List.Mem.tail _ (List.Mem.tail _ (List.Mem.tail _ (List.Mem.head _)))), (List.forall_mem_cons.2 ⟨List.Mem.tail _ (List.Mem.head _), (List.forall_mem_cons.2 ⟨List.Mem.head _, fun _ h => absurd h List.not_mem_nil⟩)⟩)⟩)⟩) (L50 _ σ0 x187 o191 rfl H0 ExC.rf (by omega) (by omega) t192 ⟨_, c147⟩)
        · refine k_nil ?_
          refine hB _ _ _ _ (kgoC (is := KX3_judgeCase_38) rfl ?_)
          refine k_iconst (m := 1) rfl (fun x194 h195 => ?_)
          refine k_goto ?_
          refine hB _ _ _ _ (kgoC (is := KX3_judgeCase_43) rfl ?_)
          refine k_istore_n (ls' := [(3, .inl x194), (0, .inr (.inr (some p0))), (1, .inr (.inr (some p1))), (2, .inr (.inr (some p2)))]) rfl ?_
          refine k_aload_n rfl ?_
          obtain ⟨o198, e196, c197, t199, f200⟩ := cg276 H0.1 h_1_0
          refine k_get kg276 h_1_0 e196 ?_
          refine k_astore (ls' := [(4, .inr (.inr o198)), (3, .inl x194), (0, .inr (.inr (some p0))), (1, .inr (.inr (some p1))), (2, .inr (.inr (some p2)))]) rfl ?_
          refine k_nil ?_
          exact hW _ _ _ _ _ (List.forall_mem_cons.2 ⟨List.Mem.tail _ (List.Mem.tail _ (List.Mem.head _)), (List.forall_mem_cons.2 ⟨List.Mem.tail _ (List.Mem.tail _ (List.Mem.tail _ (List.Mem.tail _ (List.Mem.head _)))), (List.forall_mem_cons.2 ⟨List.Mem.tail _ (List.Mem.head _), (List.forall_mem_cons.2 ⟨List.Mem.head _, fun _ h => absurd h List.not_mem_nil⟩)⟩)⟩)⟩) (L50 _ σ0 x194 o198 rfl H0 ExC.rf (by omega) (by omega) t199 ⟨_, c147⟩)
    · refine k_if_eq (fun h201 => by exfalso; omega) (fun h201 => ?_)
      refine k_nil ?_
      refine hB _ _ _ _ (kgoC (is := KX3_judgeCase_10) rfl ?_)
      refine k_return ?_
      exact ⟨rfl, H0, (ExC.rf : ExC [217, 218] σ0 σ0)⟩
theorem lg_X3_judgeCase : ∀ (As : List AvC) (σ : CsC), P_X3_judgeCase As σ → lgC As ≤ rX3_judgeCase.2.2.1 := by
  rintro As σ ⟨p0, p1, p2, rfl, -⟩
  exact Nat.le_of_ble_eq_true rfl
theorem m_X3_judgeCase (l : Launch) : CMetC l 4 82 P_X3_judgeCase Q_X3_judgeCase :=
  CMetC.of KX3_judgeCase [(52, P_X3_isFaulty, Q_X3_isFaulty), (75, P_X3_fits, Q_X3_fits), (118, P_X6_tell, Q_X6_tell)] hX3_judgeCase (by decide) (by decide) okX3_judgeCase (cc1C (m_X3_isFaulty l) (by decide) (cc1C (m_X3_fits l) (by decide) (cc1C (m_X6_tell l) (by decide) cc0C))) (lg_X3_judgeCase) (b_X3_judgeCase)

abbrev P_X3_judgeSwitch : CpC := fun As σ => ∃ (p0 : Nat) (p1 : Nat), As = [.inr (.inr (some p0)), .inr (.inr (some p1))] ∧ HIC σ ∧ TyC σ p0 4 ∧ TyC σ p1 9
abbrev Q_X3_judgeSwitch : CqC := fun As σ w τ => match As with
  | [.inr (.inr (some p0)), .inr (.inr (some p1))] => w = none ∧ HIC τ ∧ ExC [217, 218] σ τ
  | _ => False
set_option maxRecDepth 100000 in
set_option maxHeartbeats 4000000 in
theorem b_X3_judgeSwitch : TbC KX3_judgeSwitch [(52, P_X3_isFaulty, Q_X3_isFaulty), (62, P_X3_isWanted, Q_X3_isWanted), (82, P_X3_judgeCase, Q_X3_judgeCase), (118, P_X6_tell, Q_X6_tell)] P_X3_judgeSwitch Q_X3_judgeSwitch := by
  · rintro As σ0 ⟨p0, p1, rfl, H0, h_0_0, h_1_0⟩ hgr G hB hW
    change G 0 [(0, .inr (.inr (some p0))), (1, .inr (.inr (some p1)))] [] σ0
    have L59 : ∀ (n59 : Nat), ∀ (σ1 : CsC) (v59_3 : Int32) (v59_4 : Option Nat), msNC (cnC σ0) v59_4 = n59 → HIC σ1 → ExC [217, 218] σ0 σ1 → 0 ≤ v59_3.toInt → v59_3.toInt ≤ 1 → OtC σ1 v59_4 9 → (∃ b, fRC σ1 p1 279 = some b) → G 59 [(0, .inr (.inr (some p0))), (1, .inr (.inr (some p1))), (3, .inl v59_3), (4, .inr (.inr v59_4))] [] σ1 := by
      intro n59
      induction n59 using Nat.strongRecOn with
      | _ n59 ih59 =>
        intro σ1 v59_3 v59_4 n59_ H2 e3 h4 h5 h6 h7
        obtain ⟨b8, h9⟩ := h7
        have t15 := h_1_0.x e3
        obtain ⟨o10, e11, c12, t13⟩ := cg279 H2.1 t15
        have h16 : o10 = some b8 := c12.symm.trans h9
        subst h16
        have t17 := t13 b8 rfl
        refine hB _ _ _ _ (kgoC (is := KX3_judgeSwitch_59) rfl ?_)
        refine k_aload rfl ?_
        refine k_ifnull (fun h19 => ?_) (fun b18 h19 => ?_)
        · subst h19
          refine hB _ _ _ _ (kgoC (is := KX3_judgeSwitch_124) rfl ?_)
          refine k_return ?_
          have X20 : ExC [217, 218] σ0 σ1 := ExC.rf.tr (e3.mo (by decide))
          exact ⟨rfl, H2, X20⟩
        · subst h19
          have t21 := h6 b18 rfl
          refine k_nil ?_
          refine hB _ _ _ _ (kgoC (is := KX3_judgeSwitch_64) rfl ?_)
          refine k_aload rfl ?_
          obtain ⟨x24, e22, c23, h25, h26⟩ := cg270 H2.1 t21
          refine k_get kg270 t21 e22 ?_
          refine k_bipush (m := 62) rfl (fun x27 h28 => ?_)
          refine k_ic_ne (fun h29 => ?_) (fun h29 => ?_)
          · refine hB _ _ _ _ (kgoC (is := KX3_judgeSwitch_84) rfl ?_)
            refine k_aload rfl ?_
            refine k_get kg270 t21 (congrArg (Sum.inl : Int32 → AvC) c23) ?_
            refine k_bipush (m := 63) rfl (fun x30 h31 => ?_)
            refine k_ic_ne (fun h32 => ?_) (fun h32 => ?_)
            · refine hB _ _ _ _ (kgoC (is := KX3_judgeSwitch_114) rfl ?_)
              refine k_aload rfl ?_
              obtain ⟨o35, e33, c34, t36, f37⟩ := cg275 H2.1 t21
              refine k_get kg275 t21 e33 ?_
              refine k_astore (ls' := [(4, .inr (.inr o35)), (0, .inr (.inr (some p0))), (1, .inr (.inr (some p1))), (3, .inl v59_3)]) rfl ?_
              refine k_goto ?_
              have X38 : ExC [217, 218] σ0 σ1 := ExC.rf.tr (e3.mo (by decide))
              exact hW _ _ _ _ _ (List.forall_mem_cons.2 ⟨List.Mem.tail _ (List.Mem.head _), (List.forall_mem_cons.2 ⟨List.Mem.tail _ (List.Mem.tail _ (List.Mem.head _)), (List.forall_mem_cons.2 ⟨List.Mem.tail _ (List.Mem.tail _ (List.Mem.tail _ (List.Mem.head _))), (List.forall_mem_cons.2 ⟨List.Mem.head _, fun _ h => absurd h List.not_mem_nil⟩)⟩)⟩)⟩) (ih59 (msNC (cnC σ0) o35) (by have qb := t21.1; have qc := (X38.cn (by decide) : cnC σ1 = cnC σ0); have qm := n59_; cases o35 with
                              | none => dsimp only [msNC] at qm ⊢; omega
                              | some bz => have := (t36 bz rfl).1; have qf := (f37 bz rfl).2; have qg := (show _ < bz from by first | exact qf | exact qf.1); dsimp only [msNC] at qm ⊢; omega) σ1 v59_3 o35 rfl H2 X38 (by omega) (by omega) t36 ⟨_, c12⟩)
            · refine k_nil ?_
              refine hB _ _ _ _ (kgoC (is := KX3_judgeSwitch_94) rfl ?_)
              refine k_iload_n rfl ?_
              refine k_if_eq (fun h39 => ?_) (fun h39 => ?_)
              · refine hB _ _ _ _ (kgoC (is := KX3_judgeSwitch_112) rfl ?_)
                refine k_iconst (m := 1) rfl (fun x40 h41 => ?_)
                refine k_istore_n (ls' := [(3, .inl x40), (0, .inr (.inr (some p0))), (1, .inr (.inr (some p1))), (4, .inr (.inr (some b18)))]) rfl ?_
                refine k_nil ?_
                refine hB _ _ _ _ (kgoC (is := KX3_judgeSwitch_114) rfl ?_)
                refine k_aload rfl ?_
                obtain ⟨o44, e42, c43, t45, f46⟩ := cg275 H2.1 t21
                refine k_get kg275 t21 e42 ?_
                refine k_astore (ls' := [(4, .inr (.inr o44)), (3, .inl x40), (0, .inr (.inr (some p0))), (1, .inr (.inr (some p1)))]) rfl ?_
                refine k_goto ?_
                have X47 : ExC [217, 218] σ0 σ1 := ExC.rf.tr (e3.mo (by decide))
                exact hW _ _ _ _ _ (List.forall_mem_cons.2 ⟨List.Mem.tail _ (List.Mem.tail _ (List.Mem.head _)), (List.forall_mem_cons.2 ⟨List.Mem.tail _ (List.Mem.tail _ (List.Mem.tail _ (List.Mem.head _))), (List.forall_mem_cons.2 ⟨List.Mem.tail _ (List.Mem.head _), (List.forall_mem_cons.2 ⟨List.Mem.head _, fun _ h => absurd h List.not_mem_nil⟩)⟩)⟩)⟩) (ih59 (msNC (cnC σ0) o44) (by have qb := t21.1; have qc := (X47.cn (by decide) : cnC σ1 = cnC σ0); have qm := n59_; cases o44 with
                                  | none => dsimp only [msNC] at qm ⊢; omega
                                  | some bz => have := (t45 bz rfl).1; have qf := (f46 bz rfl).2; have qg := (show _ < bz from by first | exact qf | exact qf.1); dsimp only [msNC] at qm ⊢; omega) σ1 x40 o44 rfl H2 X47 (by omega) (by omega) t45 ⟨_, c12⟩)
              · refine k_nil ?_
                refine hB _ _ _ _ (kgoC (is := KX3_judgeSwitch_98) rfl ?_)
                refine k_aload_n rfl ?_
                have t48 := h_0_0.x e3
                obtain ⟨a51, e49, c50, t52⟩ := cg121 H2.1 t48
                refine k_get kg121 t48 e49 ?_
                refine k_bipush (m := 8) rfl (fun x53 h54 => ?_)
                refine k_aload rfl ?_
                obtain ⟨x57, e55, c56, h58, h59⟩ := cg271 H2.1 t21
                refine k_get kg271 t21 e55 ?_
                refine k_inv (P := P_X6_tell) (Q := Q_X6_tell) rfl rfl rfl rfl (Nat.le_of_ble_eq_true rfl) (t52.rc (by decide)) ⟨_, _, _, rfl, H2, t52, (by omega), (by omega), (by omega), (by omega)⟩ (fun w60 σ61 q62 => ?_)
                obtain ⟨rfl, H63, e64⟩ := q62
                refine k_st (st' := []) rfl ?_
                refine k_nil ?_
                refine hB _ _ _ _ (kgoC (is := KX3_judgeSwitch_112) rfl ?_)
                refine k_iconst (m := 1) rfl (fun x65 h66 => ?_)
                refine k_istore_n (ls' := [(3, .inl x65), (0, .inr (.inr (some p0))), (1, .inr (.inr (some p1))), (4, .inr (.inr (some b18)))]) rfl ?_
                refine k_nil ?_
                refine hB _ _ _ _ (kgoC (is := KX3_judgeSwitch_114) rfl ?_)
                refine k_aload rfl ?_
                have t67 := t21.x e64
                obtain ⟨o70, e68, c69, t71, f72⟩ := cg275 H63.1 t67
                refine k_get kg275 t67 e68 ?_
                refine k_astore (ls' := [(4, .inr (.inr o70)), (3, .inl x65), (0, .inr (.inr (some p0))), (1, .inr (.inr (some p1)))]) rfl ?_
                refine k_goto ?_
                have c73 := (t15.mr e64 (by decide)).trans c12
                have X74 : ExC [217, 218] σ0 σ1 := ExC.rf.tr (e3.mo (by decide))
                have X75 : ExC [217, 218] σ0 σ61 := X74.tr (e64.mo (by decide))
                exact hW _ _ _ _ _ (List.forall_mem_cons.2 ⟨List.Mem.tail _ (List.Mem.tail _ (List.Mem.head _)), (List.forall_mem_cons.2 ⟨List.Mem.tail _ (List.Mem.tail _ (List.Mem.tail _ (List.Mem.head _))), (List.forall_mem_cons.2 ⟨List.Mem.tail _ (List.Mem.head _), (List.forall_mem_cons.2 ⟨List.Mem.head _, fun _ h => absurd h List.not_mem_nil⟩)⟩)⟩)⟩) (ih59 (msNC (cnC σ0) o70) (by have qb := t67.1; have qc := (X75.cn (by decide) : cnC σ61 = cnC σ0); have qm := n59_; cases o70 with
                                  | none => dsimp only [msNC] at qm ⊢; omega
                                  | some bz => have := (t71 bz rfl).1; have qf := (f72 bz rfl).2; have qg := (show _ < bz from by first | exact qf | exact qf.1); dsimp only [msNC] at qm ⊢; omega) σ61 x65 o70 rfl H63 X75 (by omega) (by omega) t71 ⟨_, c73⟩)
          · refine k_nil ?_
            refine hB _ _ _ _ (kgoC (is := KX3_judgeSwitch_74) rfl ?_)
            refine k_aload_n rfl ?_
            refine k_aload_n rfl ?_
            refine k_aload rfl ?_
            have t76 := h_0_0.x e3
            refine k_inv (P := P_X3_judgeCase) (Q := Q_X3_judgeCase) rfl rfl rfl rfl (Nat.le_of_ble_eq_true rfl) (t76.rc (by decide)) ⟨_, _, _, rfl, H2, t76, t15, t21, ⟨_, c12⟩⟩ (fun w77 σ78 q79 => ?_)
            obtain ⟨rfl, H80, e81⟩ := q79
            refine k_st (st' := []) rfl ?_
            refine k_goto ?_
            refine hB _ _ _ _ (kgoC (is := KX3_judgeSwitch_114) rfl ?_)
            refine k_aload rfl ?_
            have t82 := t21.x e81
            obtain ⟨o85, e83, c84, t86, f87⟩ := cg275 H80.1 t82
            refine k_get kg275 t82 e83 ?_
            refine k_astore (ls' := [(4, .inr (.inr o85)), (0, .inr (.inr (some p0))), (1, .inr (.inr (some p1))), (3, .inl v59_3)]) rfl ?_
            refine k_goto ?_
            have c88 := (t15.mr e81 (by decide)).trans c12
            have X89 : ExC [217, 218] σ0 σ1 := ExC.rf.tr (e3.mo (by decide))
            have X90 : ExC [217, 218] σ0 σ78 := X89.tr (e81.mo (by decide))
            exact hW _ _ _ _ _ (List.forall_mem_cons.2 ⟨List.Mem.tail _ (List.Mem.head _), (List.forall_mem_cons.2 ⟨List.Mem.tail _ (List.Mem.tail _ (List.Mem.head _)), (List.forall_mem_cons.2 ⟨List.Mem.tail _ (List.Mem.tail _ (List.Mem.tail _ (List.Mem.head _))), (List.forall_mem_cons.2 ⟨List.Mem.head _, fun _ h => absurd h List.not_mem_nil⟩)⟩)⟩)⟩) (ih59 (msNC (cnC σ0) o85) (by have qb := t82.1; have qc := (X90.cn (by decide) : cnC σ78 = cnC σ0); have qm := n59_; cases o85 with
                          | none => dsimp only [msNC] at qm ⊢; omega
                          | some bz => have := (t86 bz rfl).1; have qf := (f87 bz rfl).2; have qg := (show _ < bz from by first | exact qf | exact qf.1); dsimp only [msNC] at qm ⊢; omega) σ78 v59_3 o85 rfl H80 X90 (by omega) (by omega) t86 ⟨_, c88⟩)
    refine hB _ _ _ _ (kgoC (is := KX3_judgeSwitch_0) rfl ?_)
    refine k_aload_n rfl ?_
    obtain ⟨o93, e91, c92, t94⟩ := cg279 H0.1 h_1_0
    refine k_get kg279 h_1_0 e91 ?_
    refine k_stat (P := P_X3_isFaulty) (Q := Q_X3_isFaulty) rfl rfl (Nat.le_of_ble_eq_true rfl) rfl rfl (Nat.le_of_ble_eq_true rfl) ⟨o93, rfl, H0, t94⟩ (fun w95 σ96 q97 => ?_)
    obtain ⟨x98, rfl, rfl, h99, h100, q101⟩ := q97
    refine k_st (st' := [.inl x98]) rfl ?_
    rcases (by omega : x98.toInt = 0 ∨ x98.toInt = 1) with g102 | g102
    · obtain ⟨b103, h104⟩ := q101 (by omega)
      subst h104
      have t105 := t94 b103 rfl
      refine k_if_eq (fun h106 => ?_) (fun h106 => by exfalso; omega)
      refine hB _ _ _ _ (kgoC (is := KX3_judgeSwitch_11) rfl ?_)
      refine k_aload_n rfl ?_
      refine k_get kg279 h_1_0 (congrArg (fun z : Option Nat => (Sum.inr (Sum.inr z) : AvC)) c92) ?_
      obtain ⟨x109, e107, c108, h110, h111⟩ := cg68 H0.1 t105
      refine k_get kg68 t105 e107 ?_
      refine k_istore_n (ls' := [(2, .inl x109), (0, .inr (.inr (some p0))), (1, .inr (.inr (some p1)))]) rfl ?_
      refine k_aload_n rfl ?_
      refine k_iload_n rfl ?_
      refine k_iconst (m := 1) rfl (fun x112 h113 => ?_)
      refine k_ic_eq (fun h114 => ?_) (fun h114 => ?_)
      · refine hB _ _ _ _ (kgoC (is := KX3_judgeSwitch_35) rfl ?_)
        refine k_iconst (m := 1) rfl (fun x115 h116 => ?_)
        refine k_goto ?_
        refine hB _ _ _ _ (kgoC (is := KX3_judgeSwitch_40) rfl ?_)
        refine k_aload_n rfl ?_
        refine k_get kg279 h_1_0 (congrArg (fun z : Option Nat => (Sum.inr (Sum.inr z) : AvC)) c92) ?_
        obtain ⟨x119, e117, c118, h120, h121⟩ := cg62 H0.1 t105
        refine k_get kg62 t105 e117 ?_
        refine k_inv (P := P_X3_isWanted) (Q := Q_X3_isWanted) rfl rfl rfl rfl (Nat.le_of_ble_eq_true rfl) (h_0_0.rc (by decide)) ⟨_, _, _, rfl, H0, h_0_0, (by omega), (by omega), (by omega), (by omega)⟩ (fun w122 σ123 q124 => ?_)
        obtain ⟨x125, rfl, H126, e127, h128, h129⟩ := q124
        refine k_st (st' := [.inl x125]) rfl ?_
        refine k_popI ?_
        refine k_iconst (m := 0) rfl (fun x130 h131 => ?_)
        refine k_istore_n (ls' := [(3, .inl x130), (2, .inl x109), (0, .inr (.inr (some p0))), (1, .inr (.inr (some p1)))]) rfl ?_
        refine k_aload_n rfl ?_
        have t132 := h_1_0.x e127
        obtain ⟨o135, e133, c134, t136, f137⟩ := cg276 H126.1 t132
        refine k_get kg276 t132 e133 ?_
        refine k_astore (ls' := [(4, .inr (.inr o135)), (3, .inl x130), (2, .inl x109), (0, .inr (.inr (some p0))), (1, .inr (.inr (some p1)))]) rfl ?_
        refine k_nil ?_
        have c138 := (h_1_0.mr e127 (by decide)).trans c92
        have X139 : ExC [217, 218] σ0 σ123 := ExC.rf.tr (e127.mo (by decide))
        exact hW _ _ _ _ _ (List.forall_mem_cons.2 ⟨List.Mem.tail _ (List.Mem.tail _ (List.Mem.tail _ (List.Mem.head _))), (List.forall_mem_cons.2 ⟨List.Mem.tail _ (List.Mem.tail _ (List.Mem.tail _ (List.Mem.tail _ (List.Mem.head _)))), (List.forall_mem_cons.2 ⟨List.Mem.tail _ (List.Mem.head _), (List.forall_mem_cons.2 ⟨List.Mem.head _, fun _ h => absurd h List.not_mem_nil⟩)⟩)⟩)⟩) (L59 _ σ123 x130 o135 rfl H126 X139 (by omega) (by omega) t136 ⟨_, c138⟩)
      · refine k_nil ?_
        refine hB _ _ _ _ (kgoC (is := KX3_judgeSwitch_25) rfl ?_)
        refine k_iload_n rfl ?_
        refine k_iconst (m := 2) rfl (fun x140 h141 => ?_)
        refine k_ic_eq (fun h142 => ?_) (fun h142 => ?_)
        · refine hB _ _ _ _ (kgoC (is := KX3_judgeSwitch_35) rfl ?_)
          refine k_iconst (m := 1) rfl (fun x143 h144 => ?_)
          refine k_goto ?_
          refine hB _ _ _ _ (kgoC (is := KX3_judgeSwitch_40) rfl ?_)
          refine k_aload_n rfl ?_
          refine k_get kg279 h_1_0 (congrArg (fun z : Option Nat => (Sum.inr (Sum.inr z) : AvC)) c92) ?_
          obtain ⟨x147, e145, c146, h148, h149⟩ := cg62 H0.1 t105
          refine k_get kg62 t105 e145 ?_
          refine k_inv (P := P_X3_isWanted) (Q := Q_X3_isWanted) rfl rfl rfl rfl (Nat.le_of_ble_eq_true rfl) (h_0_0.rc (by decide)) ⟨_, _, _, rfl, H0, h_0_0, (by omega), (by omega), (by omega), (by omega)⟩ (fun w150 σ151 q152 => ?_)
          obtain ⟨x153, rfl, H154, e155, h156, h157⟩ := q152
          refine k_st (st' := [.inl x153]) rfl ?_
          refine k_popI ?_
          refine k_iconst (m := 0) rfl (fun x158 h159 => ?_)
          refine k_istore_n (ls' := [(3, .inl x158), (2, .inl x109), (0, .inr (.inr (some p0))), (1, .inr (.inr (some p1)))]) rfl ?_
          refine k_aload_n rfl ?_
          have t160 := h_1_0.x e155
          obtain ⟨o163, e161, c162, t164, f165⟩ := cg276 H154.1 t160
          refine k_get kg276 t160 e161 ?_
          refine k_astore (ls' := [(4, .inr (.inr o163)), (3, .inl x158), (2, .inl x109), (0, .inr (.inr (some p0))), (1, .inr (.inr (some p1)))]) rfl ?_
          refine k_nil ?_
          have c166 := (h_1_0.mr e155 (by decide)).trans c92
          have X167 : ExC [217, 218] σ0 σ151 := ExC.rf.tr (e155.mo (by decide))
          exact hW _ _ _ _ _ (List.forall_mem_cons.2 ⟨List.Mem.tail _ (List.Mem.tail _ (List.Mem.tail _ (List.Mem.head _))), (List.forall_mem_cons.2 ⟨List.Mem.tail _ (List.Mem.tail _ (List.Mem.tail _ (List.Mem.tail _ (List.Mem.head _)))), (List.forall_mem_cons.2 ⟨List.Mem.tail _ (List.Mem.head _), (List.forall_mem_cons.2 ⟨List.Mem.head _, fun _ h => absurd h List.not_mem_nil⟩)⟩)⟩)⟩) (L59 _ σ151 x158 o163 rfl H154 X167 (by omega) (by omega) t164 ⟨_, c166⟩)
        · refine k_nil ?_
          refine hB _ _ _ _ (kgoC (is := KX3_judgeSwitch_30) rfl ?_)
          refine k_iload_n rfl ?_
          refine k_iconst (m := 3) rfl (fun x168 h169 => ?_)
          refine k_ic_ne (fun h170 => ?_) (fun h170 => ?_)
          · refine hB _ _ _ _ (kgoC (is := KX3_judgeSwitch_39) rfl ?_)
            refine k_iconst (m := 0) rfl (fun x171 h172 => ?_)
            refine k_nil ?_
            refine hB _ _ _ _ (kgoC (is := KX3_judgeSwitch_40) rfl ?_)
            refine k_aload_n rfl ?_
            refine k_get kg279 h_1_0 (congrArg (fun z : Option Nat => (Sum.inr (Sum.inr z) : AvC)) c92) ?_
            obtain ⟨x175, e173, c174, h176, h177⟩ := cg62 H0.1 t105
            refine k_get kg62 t105 e173 ?_
            refine k_inv (P := P_X3_isWanted) (Q := Q_X3_isWanted) rfl rfl rfl rfl (Nat.le_of_ble_eq_true rfl) (h_0_0.rc (by decide)) ⟨_, _, _, rfl, H0, h_0_0, (by omega), (by omega), (by omega), (by omega)⟩ (fun w178 σ179 q180 => ?_)
            obtain ⟨x181, rfl, H182, e183, h184, h185⟩ := q180
            refine k_st (st' := [.inl x181]) rfl ?_
            refine k_popI ?_
            refine k_iconst (m := 0) rfl (fun x186 h187 => ?_)
            refine k_istore_n (ls' := [(3, .inl x186), (2, .inl x109), (0, .inr (.inr (some p0))), (1, .inr (.inr (some p1)))]) rfl ?_
            refine k_aload_n rfl ?_
            have t188 := h_1_0.x e183
            obtain ⟨o191, e189, c190, t192, f193⟩ := cg276 H182.1 t188
            refine k_get kg276 t188 e189 ?_
            refine k_astore (ls' := [(4, .inr (.inr o191)), (3, .inl x186), (2, .inl x109), (0, .inr (.inr (some p0))), (1, .inr (.inr (some p1)))]) rfl ?_
            refine k_nil ?_
            have c194 := (h_1_0.mr e183 (by decide)).trans c92
            have X195 : ExC [217, 218] σ0 σ179 := ExC.rf.tr (e183.mo (by decide))
            exact hW _ _ _ _ _ (List.forall_mem_cons.2 ⟨List.Mem.tail _ (List.Mem.tail _ (List.Mem.tail _ (List.Mem.head _))), (List.forall_mem_cons.2 ⟨List.Mem.tail _ (List.Mem.tail _ (List.Mem.tail _ (List.Mem.tail _ (List.Mem.head _)))), (List.forall_mem_cons.2 ⟨List.Mem.tail _ (List.Mem.head _), (List.forall_mem_cons.2 ⟨List.Mem.head _, fun _ h => absurd h List.not_mem_nil⟩)⟩)⟩)⟩) (L59 _ σ179 x186 o191 rfl H182 X195 (by omega) (by omega) t192 ⟨_, c194⟩)
          · refine k_nil ?_
            refine hB _ _ _ _ (kgoC (is := KX3_judgeSwitch_35) rfl ?_)
            refine k_iconst (m := 1) rfl (fun x196 h197 => ?_)
            refine k_goto ?_
            refine hB _ _ _ _ (kgoC (is := KX3_judgeSwitch_40) rfl ?_)
            refine k_aload_n rfl ?_
            refine k_get kg279 h_1_0 (congrArg (fun z : Option Nat => (Sum.inr (Sum.inr z) : AvC)) c92) ?_
            obtain ⟨x200, e198, c199, h201, h202⟩ := cg62 H0.1 t105
            refine k_get kg62 t105 e198 ?_
            refine k_inv (P := P_X3_isWanted) (Q := Q_X3_isWanted) rfl rfl rfl rfl (Nat.le_of_ble_eq_true rfl) (h_0_0.rc (by decide)) ⟨_, _, _, rfl, H0, h_0_0, (by omega), (by omega), (by omega), (by omega)⟩ (fun w203 σ204 q205 => ?_)
            obtain ⟨x206, rfl, H207, e208, h209, h210⟩ := q205
            refine k_st (st' := [.inl x206]) rfl ?_
            refine k_popI ?_
            refine k_iconst (m := 0) rfl (fun x211 h212 => ?_)
            refine k_istore_n (ls' := [(3, .inl x211), (2, .inl x109), (0, .inr (.inr (some p0))), (1, .inr (.inr (some p1)))]) rfl ?_
            refine k_aload_n rfl ?_
            have t213 := h_1_0.x e208
            obtain ⟨o216, e214, c215, t217, f218⟩ := cg276 H207.1 t213
            refine k_get kg276 t213 e214 ?_
            refine k_astore (ls' := [(4, .inr (.inr o216)), (3, .inl x211), (2, .inl x109), (0, .inr (.inr (some p0))), (1, .inr (.inr (some p1)))]) rfl ?_
            refine k_nil ?_
            have c219 := (h_1_0.mr e208 (by decide)).trans c92
            have X220 : ExC [217, 218] σ0 σ204 := ExC.rf.tr (e208.mo (by decide))
            exact hW _ _ _ _ _ (List.forall_mem_cons.2 ⟨List.Mem.tail _ (List.Mem.tail _ (List.Mem.tail _ (List.Mem.head _))), (List.forall_mem_cons.2 ⟨List.Mem.tail _ (List.Mem.tail _ (List.Mem.tail _ (List.Mem.tail _ (List.Mem.head _)))), (List.forall_mem_cons.2 ⟨List.Mem.tail _ (List.Mem.head _), (List.forall_mem_cons.2 ⟨List.Mem.head _, fun _ h => absurd h List.not_mem_nil⟩)⟩)⟩)⟩) (L59 _ σ204 x211 o216 rfl H207 X220 (by omega) (by omega) t217 ⟨_, c219⟩)
    · refine k_if_eq (fun h221 => by exfalso; omega) (fun h221 => ?_)
      refine k_nil ?_
      refine hB _ _ _ _ (kgoC (is := KX3_judgeSwitch_10) rfl ?_)
      refine k_return ?_
      exact ⟨rfl, H0, (ExC.rf : ExC [217, 218] σ0 σ0)⟩
theorem lg_X3_judgeSwitch : ∀ (As : List AvC) (σ : CsC), P_X3_judgeSwitch As σ → lgC As ≤ rX3_judgeSwitch.2.2.1 := by
  rintro As σ ⟨p0, p1, rfl, -⟩
  exact Nat.le_of_ble_eq_true rfl
theorem m_X3_judgeSwitch (l : Launch) : CMetC l 5 81 P_X3_judgeSwitch Q_X3_judgeSwitch :=
  CMetC.of KX3_judgeSwitch [(52, P_X3_isFaulty, Q_X3_isFaulty), (62, P_X3_isWanted, Q_X3_isWanted), (82, P_X3_judgeCase, Q_X3_judgeCase), (118, P_X6_tell, Q_X6_tell)] hX3_judgeSwitch (by decide) (by decide) okX3_judgeSwitch (cc1C (m_X3_isFaulty l) (by decide) (cc1C (m_X3_isWanted l) (by decide) (cc1C (m_X3_judgeCase l) (by decide) (cc1C (m_X6_tell l) (by decide) cc0C)))) (lg_X3_judgeSwitch) (b_X3_judgeSwitch)

abbrev P_X3_judgeJump : CpC := fun As σ => ∃ (p0 : Nat) (p1 : Nat), As = [.inr (.inr (some p0)), .inr (.inr (some p1))] ∧ HIC σ ∧ TyC σ p0 4 ∧ TyC σ p1 9
abbrev Q_X3_judgeJump : CqC := fun As σ w τ => match As with
  | [.inr (.inr (some p0)), .inr (.inr (some p1))] => w = none ∧ HIC τ ∧ ExC [217, 218, 281] σ τ
  | _ => False
set_option maxRecDepth 100000 in
set_option maxHeartbeats 4000000 in
theorem b_X3_judgeJump : TbC KX3_judgeJump [(118, P_X6_tell, Q_X6_tell), (179, P_X8_isLoop, Q_X8_isLoop), (84, P_X3_isSameName, Q_X3_isSameName)] P_X3_judgeJump Q_X3_judgeJump := by
  · rintro As σ0 ⟨p0, p1, rfl, H0, h_0_0, h_1_0⟩ hgr G hB hW
    change G 0 [(0, .inr (.inr (some p0))), (1, .inr (.inr (some p1)))] [] σ0
    have L5 : ∀ (n5 : Nat), ∀ (σ1 : CsC) (v5_2 : Option Nat), msPC v5_2 = n5 → HIC σ1 → ExC [217, 218, 281] σ0 σ1 → OtC σ1 v5_2 9 → G 5 [(0, .inr (.inr (some p0))), (1, .inr (.inr (some p1))), (2, .inr (.inr v5_2))] [] σ1 := by
      intro n5
      induction n5 using Nat.strongRecOn with
      | _ n5 ih5 =>
        intro σ1 v5_2 n5_ H2 e3 h4
        refine hB _ _ _ _ (kgoC (is := KX3_judgeJump_5) rfl ?_)
        refine k_aload_n rfl ?_
        refine k_ifnull (fun h6 => ?_) (fun b5 h6 => ?_)
        · subst h6
          refine hB _ _ _ _ (kgoC (is := KX3_judgeJump_93) rfl ?_)
          refine k_aload_n rfl ?_
          have t7 := h_1_0.x e3
          obtain ⟨x10, e8, c9, h11, h12⟩ := cg270 H2.1 t7
          refine k_get kg270 t7 e8 ?_
          refine k_bipush (m := 65) rfl (fun x13 h14 => ?_)
          refine k_ic_ne (fun h15 => ?_) (fun h15 => ?_)
          · refine hB _ _ _ _ (kgoC (is := KX3_judgeJump_149) rfl ?_)
            refine k_aload_n rfl ?_
            obtain ⟨o18, e16, c17, t19⟩ := cg281 H2.1 t7
            refine k_get kg281 t7 e16 ?_
            refine k_ifnonnull (fun b20 h21 => ?_) (fun h21 => ?_)
            · subst h21
              have t22 := t19 b20 rfl
              refine hB _ _ _ _ (kgoC (is := KX3_judgeJump_183) rfl ?_)
              refine k_return ?_
              have X23 : ExC [217, 218, 281] σ0 σ1 := ExC.rf.tr (e3.mo (by decide))
              exact ⟨rfl, H2, X23⟩
            · subst h21
              refine k_nil ?_
              refine hB _ _ _ _ (kgoC (is := KX3_judgeJump_156) rfl ?_)
              refine k_aload_n rfl ?_
              have t24 := h_0_0.x e3
              obtain ⟨a27, e25, c26, t28⟩ := cg121 H2.1 t24
              refine k_get kg121 t24 e25 ?_
              refine k_bipush (m := 9) rfl (fun x29 h30 => ?_)
              refine k_aload_n rfl ?_
              obtain ⟨x33, e31, c32, h34, h35⟩ := cg280 H2.1 t7
              refine k_get kg280 t7 e31 ?_
              refine k_if_ge (fun h36 => ?_) (fun h36 => ?_)
              · refine hB _ _ _ _ (kgoC (is := KX3_judgeJump_176) rfl ?_)
                refine k_aload_n rfl ?_
                refine k_get kg280 t7 (congrArg (Sum.inl : Int32 → AvC) c32) ?_
                refine k_nil ?_
                refine hB _ _ _ _ (kgoC (is := KX3_judgeJump_180) rfl ?_)
                refine k_inv (P := P_X6_tell) (Q := Q_X6_tell) rfl rfl rfl rfl (Nat.le_of_ble_eq_true rfl) (t28.rc (by decide)) ⟨_, _, _, rfl, H2, t28, (by omega), (by omega), (by omega), (by omega)⟩ (fun w37 σ38 q39 => ?_)
                obtain ⟨rfl, H40, e41⟩ := q39
                refine k_st (st' := []) rfl ?_
                refine k_nil ?_
                refine hB _ _ _ _ (kgoC (is := KX3_judgeJump_183) rfl ?_)
                refine k_return ?_
                have X42 : ExC [217, 218, 281] σ0 σ1 := ExC.rf.tr (e3.mo (by decide))
                have X43 : ExC [217, 218, 281] σ0 σ38 := X42.tr (e41.mo (by decide))
                exact ⟨rfl, H40, X43⟩
              · refine k_nil ?_
                refine hB _ _ _ _ (kgoC (is := KX3_judgeJump_169) rfl ?_)
                refine k_aload_n rfl ?_
                obtain ⟨x46, e44, c45, h47, h48⟩ := cg271 H2.1 t7
                refine k_get kg271 t7 e44 ?_
                refine k_goto ?_
                refine hB _ _ _ _ (kgoC (is := KX3_judgeJump_180) rfl ?_)
                refine k_inv (P := P_X6_tell) (Q := Q_X6_tell) rfl rfl rfl rfl (Nat.le_of_ble_eq_true rfl) (t28.rc (by decide)) ⟨_, _, _, rfl, H2, t28, (by omega), (by omega), (by omega), (by omega)⟩ (fun w49 σ50 q51 => ?_)
                obtain ⟨rfl, H52, e53⟩ := q51
                refine k_st (st' := []) rfl ?_
                refine k_nil ?_
                refine hB _ _ _ _ (kgoC (is := KX3_judgeJump_183) rfl ?_)
                refine k_return ?_
                have X54 : ExC [217, 218, 281] σ0 σ1 := ExC.rf.tr (e3.mo (by decide))
                have X55 : ExC [217, 218, 281] σ0 σ50 := X54.tr (e53.mo (by decide))
                exact ⟨rfl, H52, X55⟩
          · refine k_nil ?_
            refine hB _ _ _ _ (kgoC (is := KX3_judgeJump_102) rfl ?_)
            refine k_aload_n rfl ?_
            obtain ⟨o58, e56, c57, t59⟩ := cg281 H2.1 t7
            refine k_get kg281 t7 e56 ?_
            refine k_ifnull (fun h61 => ?_) (fun b60 h61 => ?_)
            · subst h61
              refine hB _ _ _ _ (kgoC (is := KX3_judgeJump_149) rfl ?_)
              refine k_aload_n rfl ?_
              refine k_get kg281 t7 (congrArg (fun z : Option Nat => (Sum.inr (Sum.inr z) : AvC)) c57) ?_
              refine k_ifnonnull (fun _ hz => by cases hz) (fun _ => ?_)
              refine k_nil ?_
              refine hB _ _ _ _ (kgoC (is := KX3_judgeJump_156) rfl ?_)
              refine k_aload_n rfl ?_
              have t62 := h_0_0.x e3
              obtain ⟨a65, e63, c64, t66⟩ := cg121 H2.1 t62
              refine k_get kg121 t62 e63 ?_
              refine k_bipush (m := 9) rfl (fun x67 h68 => ?_)
              refine k_aload_n rfl ?_
              obtain ⟨x71, e69, c70, h72, h73⟩ := cg280 H2.1 t7
              refine k_get kg280 t7 e69 ?_
              refine k_if_ge (fun h74 => ?_) (fun h74 => ?_)
              · refine hB _ _ _ _ (kgoC (is := KX3_judgeJump_176) rfl ?_)
                refine k_aload_n rfl ?_
                refine k_get kg280 t7 (congrArg (Sum.inl : Int32 → AvC) c70) ?_
                refine k_nil ?_
                refine hB _ _ _ _ (kgoC (is := KX3_judgeJump_180) rfl ?_)
                refine k_inv (P := P_X6_tell) (Q := Q_X6_tell) rfl rfl rfl rfl (Nat.le_of_ble_eq_true rfl) (t66.rc (by decide)) ⟨_, _, _, rfl, H2, t66, (by omega), (by omega), (by omega), (by omega)⟩ (fun w75 σ76 q77 => ?_)
                obtain ⟨rfl, H78, e79⟩ := q77
                refine k_st (st' := []) rfl ?_
                refine k_nil ?_
                refine hB _ _ _ _ (kgoC (is := KX3_judgeJump_183) rfl ?_)
                refine k_return ?_
                have X80 : ExC [217, 218, 281] σ0 σ1 := ExC.rf.tr (e3.mo (by decide))
                have X81 : ExC [217, 218, 281] σ0 σ76 := X80.tr (e79.mo (by decide))
                exact ⟨rfl, H78, X81⟩
              · refine k_nil ?_
                refine hB _ _ _ _ (kgoC (is := KX3_judgeJump_169) rfl ?_)
                refine k_aload_n rfl ?_
                obtain ⟨x84, e82, c83, h85, h86⟩ := cg271 H2.1 t7
                refine k_get kg271 t7 e82 ?_
                refine k_goto ?_
                refine hB _ _ _ _ (kgoC (is := KX3_judgeJump_180) rfl ?_)
                refine k_inv (P := P_X6_tell) (Q := Q_X6_tell) rfl rfl rfl rfl (Nat.le_of_ble_eq_true rfl) (t66.rc (by decide)) ⟨_, _, _, rfl, H2, t66, (by omega), (by omega), (by omega), (by omega)⟩ (fun w87 σ88 q89 => ?_)
                obtain ⟨rfl, H90, e91⟩ := q89
                refine k_st (st' := []) rfl ?_
                refine k_nil ?_
                refine hB _ _ _ _ (kgoC (is := KX3_judgeJump_183) rfl ?_)
                refine k_return ?_
                have X92 : ExC [217, 218, 281] σ0 σ1 := ExC.rf.tr (e3.mo (by decide))
                have X93 : ExC [217, 218, 281] σ0 σ88 := X92.tr (e91.mo (by decide))
                exact ⟨rfl, H90, X93⟩
            · subst h61
              have t94 := t59 b60 rfl
              refine k_nil ?_
              refine hB _ _ _ _ (kgoC (is := KX3_judgeJump_109) rfl ?_)
              refine k_aload_n rfl ?_
              refine k_get kg281 t7 (congrArg (fun z : Option Nat => (Sum.inr (Sum.inr z) : AvC)) c57) ?_
              obtain ⟨x97, e95, c96, h98, h99⟩ := cg270 H2.1 t94
              refine k_get kg270 t94 e95 ?_
              refine k_bipush (m := 6) rfl (fun x100 h101 => ?_)
              refine k_ic_ne (fun h102 => ?_) (fun h102 => ?_)
              · refine hB _ _ _ _ (kgoC (is := KX3_judgeJump_149) rfl ?_)
                refine k_aload_n rfl ?_
                refine k_get kg281 t7 (congrArg (fun z : Option Nat => (Sum.inr (Sum.inr z) : AvC)) c57) ?_
                refine k_ifnonnull (fun _ _ => ?_) (fun hz => by cases hz)
                refine hB _ _ _ _ (kgoC (is := KX3_judgeJump_183) rfl ?_)
                refine k_return ?_
                have X103 : ExC [217, 218, 281] σ0 σ1 := ExC.rf.tr (e3.mo (by decide))
                exact ⟨rfl, H2, X103⟩
              · refine k_nil ?_
                refine hB _ _ _ _ (kgoC (is := KX3_judgeJump_121) rfl ?_)
                refine k_aload_n rfl ?_
                refine k_get kg281 t7 (congrArg (fun z : Option Nat => (Sum.inr (Sum.inr z) : AvC)) c57) ?_
                obtain ⟨o106, e104, c105, t107, f108⟩ := cg276 H2.1 t94
                refine k_get kg276 t94 e104 ?_
                refine k_astore_n (ls' := [(2, .inr (.inr o106)), (0, .inr (.inr (some p0))), (1, .inr (.inr (some p1)))]) rfl ?_
                refine k_aload_n rfl ?_
                refine k_aload_n rfl ?_
                refine k_ifnull (fun h110 => ?_) (fun b109 h110 => ?_)
                · subst h110
                  refine hB _ _ _ _ (kgoC (is := KX3_judgeJump_145) rfl ?_)
                  refine k_aconst_null ?_
                  refine k_nil ?_
                  refine hB _ _ _ _ (kgoC (is := KX3_judgeJump_146) rfl ?_)
                  refine k_putR kp281 H2 t7 fk281 (rfo281 (OtC.n)) (fun σ111 H112 e113 c114 => ?_)
                  refine k_nil ?_
                  refine hB _ _ _ _ (kgoC (is := KX3_judgeJump_149) rfl ?_)
                  refine k_aload_n rfl ?_
                  have t115 := t7.x e113
                  obtain ⟨o118, e116, c117, t119⟩ := cg281 H112.1 t115
                  refine k_get kg281 t115 e116 ?_
                  refine k_ifnonnull (fun b120 h121 => ?_) (fun h121 => ?_)
                  · subst h121
                    have t122 := t119 b120 rfl
                    refine hB _ _ _ _ (kgoC (is := KX3_judgeJump_183) rfl ?_)
                    refine k_return ?_
                    have X123 : ExC [217, 218, 281] σ0 σ1 := ExC.rf.tr (e3.mo (by decide))
                    have X124 : ExC [217, 218, 281] σ0 σ111 := X123.tr (e113.mo (by decide))
                    exact ⟨rfl, H112, X124⟩
                  · subst h121
                    refine k_nil ?_
                    refine hB _ _ _ _ (kgoC (is := KX3_judgeJump_156) rfl ?_)
                    refine k_aload_n rfl ?_
                    have t125 := h_0_0.x e3
                    have t126 := t125.x e113
                    obtain ⟨a129, e127, c128, t130⟩ := cg121 H112.1 t126
                    refine k_get kg121 t126 e127 ?_
                    refine k_bipush (m := 9) rfl (fun x131 h132 => ?_)
                    refine k_aload_n rfl ?_
                    obtain ⟨x135, e133, c134, h136, h137⟩ := cg280 H112.1 t115
                    have c138 := (t7.mi e113 (by decide)).trans c9
                    refine k_get kg280 t115 e133 ?_
                    refine k_if_ge (fun h139 => ?_) (fun h139 => ?_)
                    · refine hB _ _ _ _ (kgoC (is := KX3_judgeJump_176) rfl ?_)
                      refine k_aload_n rfl ?_
                      refine k_get kg280 t115 (congrArg (Sum.inl : Int32 → AvC) c134) ?_
                      refine k_nil ?_
                      refine hB _ _ _ _ (kgoC (is := KX3_judgeJump_180) rfl ?_)
                      refine k_inv (P := P_X6_tell) (Q := Q_X6_tell) rfl rfl rfl rfl (Nat.le_of_ble_eq_true rfl) (t130.rc (by decide)) ⟨_, _, _, rfl, H112, t130, (by omega), (by omega), (by omega), (by omega)⟩ (fun w140 σ141 q142 => ?_)
                      obtain ⟨rfl, H143, e144⟩ := q142
                      refine k_st (st' := []) rfl ?_
                      refine k_nil ?_
                      refine hB _ _ _ _ (kgoC (is := KX3_judgeJump_183) rfl ?_)
                      refine k_return ?_
                      have X145 : ExC [217, 218, 281] σ0 σ1 := ExC.rf.tr (e3.mo (by decide))
                      have X146 : ExC [217, 218, 281] σ0 σ111 := X145.tr (e113.mo (by decide))
                      have X147 : ExC [217, 218, 281] σ0 σ141 := X146.tr (e144.mo (by decide))
                      exact ⟨rfl, H143, X147⟩
                    · refine k_nil ?_
                      refine hB _ _ _ _ (kgoC (is := KX3_judgeJump_169) rfl ?_)
                      refine k_aload_n rfl ?_
                      obtain ⟨x150, e148, c149, h151, h152⟩ := cg271 H112.1 t115
                      refine k_get kg271 t115 e148 ?_
                      refine k_goto ?_
                      refine hB _ _ _ _ (kgoC (is := KX3_judgeJump_180) rfl ?_)
                      refine k_inv (P := P_X6_tell) (Q := Q_X6_tell) rfl rfl rfl rfl (Nat.le_of_ble_eq_true rfl) (t130.rc (by decide)) ⟨_, _, _, rfl, H112, t130, (by omega), (by omega), (by omega), (by omega)⟩ (fun w153 σ154 q155 => ?_)
                      obtain ⟨rfl, H156, e157⟩ := q155
                      refine k_st (st' := []) rfl ?_
                      refine k_nil ?_
                      refine hB _ _ _ _ (kgoC (is := KX3_judgeJump_183) rfl ?_)
                      refine k_return ?_
                      have X158 : ExC [217, 218, 281] σ0 σ1 := ExC.rf.tr (e3.mo (by decide))
                      have X159 : ExC [217, 218, 281] σ0 σ111 := X158.tr (e113.mo (by decide))
                      have X160 : ExC [217, 218, 281] σ0 σ154 := X159.tr (e157.mo (by decide))
                      exact ⟨rfl, H156, X160⟩
                · subst h110
                  have t161 := t107 b109 rfl
                  have f162 := (f108 b109 rfl).2
                  refine k_nil ?_
                  refine hB _ _ _ _ (kgoC (is := KX3_judgeJump_134) rfl ?_)
                  refine k_aload_n rfl ?_
                  refine k_inv (P := P_X8_isLoop) (Q := Q_X8_isLoop) rfl rfl rfl rfl (Nat.le_of_ble_eq_true rfl) (t161.rc (by decide)) ⟨_, rfl, H2, t161⟩ (fun w163 σ164 q165 => ?_)
                  obtain ⟨x166, rfl, rfl, h167, h168⟩ := q165
                  refine k_st (st' := [.inl x166, .inr (.inr (some p1))]) rfl ?_
                  refine k_if_eq (fun h169 => ?_) (fun h169 => ?_)
                  · refine hB _ _ _ _ (kgoC (is := KX3_judgeJump_145) rfl ?_)
                    refine k_aconst_null ?_
                    refine k_nil ?_
                    refine hB _ _ _ _ (kgoC (is := KX3_judgeJump_146) rfl ?_)
                    refine k_putR kp281 H2 t7 fk281 (rfo281 (OtC.n)) (fun σ170 H171 e172 c173 => ?_)
                    refine k_nil ?_
                    refine hB _ _ _ _ (kgoC (is := KX3_judgeJump_149) rfl ?_)
                    refine k_aload_n rfl ?_
                    have t174 := t7.x e172
                    obtain ⟨o177, e175, c176, t178⟩ := cg281 H171.1 t174
                    refine k_get kg281 t174 e175 ?_
                    refine k_ifnonnull (fun b179 h180 => ?_) (fun h180 => ?_)
                    · subst h180
                      have t181 := t178 b179 rfl
                      refine hB _ _ _ _ (kgoC (is := KX3_judgeJump_183) rfl ?_)
                      refine k_return ?_
                      have X182 : ExC [217, 218, 281] σ0 σ1 := ExC.rf.tr (e3.mo (by decide))
                      have X183 : ExC [217, 218, 281] σ0 σ170 := X182.tr (e172.mo (by decide))
                      exact ⟨rfl, H171, X183⟩
                    · subst h180
                      refine k_nil ?_
                      refine hB _ _ _ _ (kgoC (is := KX3_judgeJump_156) rfl ?_)
                      refine k_aload_n rfl ?_
                      have t184 := h_0_0.x e3
                      have t185 := t184.x e172
                      obtain ⟨a188, e186, c187, t189⟩ := cg121 H171.1 t185
                      refine k_get kg121 t185 e186 ?_
                      refine k_bipush (m := 9) rfl (fun x190 h191 => ?_)
                      refine k_aload_n rfl ?_
                      obtain ⟨x194, e192, c193, h195, h196⟩ := cg280 H171.1 t174
                      have c197 := (t7.mi e172 (by decide)).trans c9
                      refine k_get kg280 t174 e192 ?_
                      refine k_if_ge (fun h198 => ?_) (fun h198 => ?_)
                      · refine hB _ _ _ _ (kgoC (is := KX3_judgeJump_176) rfl ?_)
                        refine k_aload_n rfl ?_
                        refine k_get kg280 t174 (congrArg (Sum.inl : Int32 → AvC) c193) ?_
                        refine k_nil ?_
                        refine hB _ _ _ _ (kgoC (is := KX3_judgeJump_180) rfl ?_)
                        refine k_inv (P := P_X6_tell) (Q := Q_X6_tell) rfl rfl rfl rfl (Nat.le_of_ble_eq_true rfl) (t189.rc (by decide)) ⟨_, _, _, rfl, H171, t189, (by omega), (by omega), (by omega), (by omega)⟩ (fun w199 σ200 q201 => ?_)
                        obtain ⟨rfl, H202, e203⟩ := q201
                        refine k_st (st' := []) rfl ?_
                        refine k_nil ?_
                        refine hB _ _ _ _ (kgoC (is := KX3_judgeJump_183) rfl ?_)
                        refine k_return ?_
                        have X204 : ExC [217, 218, 281] σ0 σ1 := ExC.rf.tr (e3.mo (by decide))
                        have X205 : ExC [217, 218, 281] σ0 σ170 := X204.tr (e172.mo (by decide))
                        have X206 : ExC [217, 218, 281] σ0 σ200 := X205.tr (e203.mo (by decide))
                        exact ⟨rfl, H202, X206⟩
                      · refine k_nil ?_
                        refine hB _ _ _ _ (kgoC (is := KX3_judgeJump_169) rfl ?_)
                        refine k_aload_n rfl ?_
                        obtain ⟨x209, e207, c208, h210, h211⟩ := cg271 H171.1 t174
                        refine k_get kg271 t174 e207 ?_
                        refine k_goto ?_
                        refine hB _ _ _ _ (kgoC (is := KX3_judgeJump_180) rfl ?_)
                        refine k_inv (P := P_X6_tell) (Q := Q_X6_tell) rfl rfl rfl rfl (Nat.le_of_ble_eq_true rfl) (t189.rc (by decide)) ⟨_, _, _, rfl, H171, t189, (by omega), (by omega), (by omega), (by omega)⟩ (fun w212 σ213 q214 => ?_)
                        obtain ⟨rfl, H215, e216⟩ := q214
                        refine k_st (st' := []) rfl ?_
                        refine k_nil ?_
                        refine hB _ _ _ _ (kgoC (is := KX3_judgeJump_183) rfl ?_)
                        refine k_return ?_
                        have X217 : ExC [217, 218, 281] σ0 σ1 := ExC.rf.tr (e3.mo (by decide))
                        have X218 : ExC [217, 218, 281] σ0 σ170 := X217.tr (e172.mo (by decide))
                        have X219 : ExC [217, 218, 281] σ0 σ213 := X218.tr (e216.mo (by decide))
                        exact ⟨rfl, H215, X219⟩
                  · refine k_nil ?_
                    refine hB _ _ _ _ (kgoC (is := KX3_judgeJump_141) rfl ?_)
                    refine k_aload_n rfl ?_
                    refine k_goto ?_
                    refine hB _ _ _ _ (kgoC (is := KX3_judgeJump_146) rfl ?_)
                    refine k_putR kp281 H2 t7 fk281 (rf281 t161) (fun σ220 H221 e222 c223 => ?_)
                    refine k_nil ?_
                    refine hB _ _ _ _ (kgoC (is := KX3_judgeJump_149) rfl ?_)
                    refine k_aload_n rfl ?_
                    have t224 := t7.x e222
                    refine k_get kg281 t224 (congrArg (fun z : Option Nat => (Sum.inr (Sum.inr z) : AvC)) c223) ?_
                    refine k_ifnonnull (fun _ _ => ?_) (fun hz => by cases hz)
                    refine hB _ _ _ _ (kgoC (is := KX3_judgeJump_183) rfl ?_)
                    refine k_return ?_
                    have X225 : ExC [217, 218, 281] σ0 σ1 := ExC.rf.tr (e3.mo (by decide))
                    have X226 : ExC [217, 218, 281] σ0 σ220 := X225.tr (e222.mo (by decide))
                    exact ⟨rfl, H221, X226⟩
        · subst h6
          have t227 := h4 b5 rfl
          refine k_nil ?_
          refine hB _ _ _ _ (kgoC (is := KX3_judgeJump_9) rfl ?_)
          refine k_aload_n rfl ?_
          have t228 := h_1_0.x e3
          obtain ⟨o231, e229, c230, t232⟩ := cg281 H2.1 t228
          refine k_get kg281 t228 e229 ?_
          refine k_ifnonnull (fun b233 h234 => ?_) (fun h234 => ?_)
          · subst h234
            have t235 := t232 b233 rfl
            refine hB _ _ _ _ (kgoC (is := KX3_judgeJump_93) rfl ?_)
            refine k_aload_n rfl ?_
            obtain ⟨x238, e236, c237, h239, h240⟩ := cg270 H2.1 t228
            refine k_get kg270 t228 e236 ?_
            refine k_bipush (m := 65) rfl (fun x241 h242 => ?_)
            refine k_ic_ne (fun h243 => ?_) (fun h243 => ?_)
            · refine hB _ _ _ _ (kgoC (is := KX3_judgeJump_149) rfl ?_)
              refine k_aload_n rfl ?_
              refine k_get kg281 t228 (congrArg (fun z : Option Nat => (Sum.inr (Sum.inr z) : AvC)) c230) ?_
              refine k_ifnonnull (fun _ _ => ?_) (fun hz => by cases hz)
              refine hB _ _ _ _ (kgoC (is := KX3_judgeJump_183) rfl ?_)
              refine k_return ?_
              have X244 : ExC [217, 218, 281] σ0 σ1 := ExC.rf.tr (e3.mo (by decide))
              exact ⟨rfl, H2, X244⟩
            · refine k_nil ?_
              refine hB _ _ _ _ (kgoC (is := KX3_judgeJump_102) rfl ?_)
              refine k_aload_n rfl ?_
              refine k_get kg281 t228 (congrArg (fun z : Option Nat => (Sum.inr (Sum.inr z) : AvC)) c230) ?_
              refine k_ifnull (fun hz => by cases hz) (fun _ _ => ?_)
              refine k_nil ?_
              refine hB _ _ _ _ (kgoC (is := KX3_judgeJump_109) rfl ?_)
              refine k_aload_n rfl ?_
              refine k_get kg281 t228 (congrArg (fun z : Option Nat => (Sum.inr (Sum.inr z) : AvC)) c230) ?_
              obtain ⟨x247, e245, c246, h248, h249⟩ := cg270 H2.1 t235
              refine k_get kg270 t235 e245 ?_
              refine k_bipush (m := 6) rfl (fun x250 h251 => ?_)
              refine k_ic_ne (fun h252 => ?_) (fun h252 => ?_)
              · refine hB _ _ _ _ (kgoC (is := KX3_judgeJump_149) rfl ?_)
                refine k_aload_n rfl ?_
                refine k_get kg281 t228 (congrArg (fun z : Option Nat => (Sum.inr (Sum.inr z) : AvC)) c230) ?_
                refine k_ifnonnull (fun _ _ => ?_) (fun hz => by cases hz)
                refine hB _ _ _ _ (kgoC (is := KX3_judgeJump_183) rfl ?_)
                refine k_return ?_
                have X253 : ExC [217, 218, 281] σ0 σ1 := ExC.rf.tr (e3.mo (by decide))
                exact ⟨rfl, H2, X253⟩
              · refine k_nil ?_
                refine hB _ _ _ _ (kgoC (is := KX3_judgeJump_121) rfl ?_)
                refine k_aload_n rfl ?_
                refine k_get kg281 t228 (congrArg (fun z : Option Nat => (Sum.inr (Sum.inr z) : AvC)) c230) ?_
                obtain ⟨o256, e254, c255, t257, f258⟩ := cg276 H2.1 t235
                refine k_get kg276 t235 e254 ?_
                refine k_astore_n (ls' := [(2, .inr (.inr o256)), (0, .inr (.inr (some p0))), (1, .inr (.inr (some p1)))]) rfl ?_
                refine k_aload_n rfl ?_
                refine k_aload_n rfl ?_
                refine k_ifnull (fun h260 => ?_) (fun b259 h260 => ?_)
                · subst h260
                  refine hB _ _ _ _ (kgoC (is := KX3_judgeJump_145) rfl ?_)
                  refine k_aconst_null ?_
                  refine k_nil ?_
                  refine hB _ _ _ _ (kgoC (is := KX3_judgeJump_146) rfl ?_)
                  refine k_putR kp281 H2 t228 fk281 (rfo281 (OtC.n)) (fun σ261 H262 e263 c264 => ?_)
                  refine k_nil ?_
                  refine hB _ _ _ _ (kgoC (is := KX3_judgeJump_149) rfl ?_)
                  refine k_aload_n rfl ?_
                  have t265 := t228.x e263
                  obtain ⟨o268, e266, c267, t269⟩ := cg281 H262.1 t265
                  refine k_get kg281 t265 e266 ?_
                  refine k_ifnonnull (fun b270 h271 => ?_) (fun h271 => ?_)
                  · subst h271
                    have t272 := t269 b270 rfl
                    refine hB _ _ _ _ (kgoC (is := KX3_judgeJump_183) rfl ?_)
                    refine k_return ?_
                    have X273 : ExC [217, 218, 281] σ0 σ1 := ExC.rf.tr (e3.mo (by decide))
                    have X274 : ExC [217, 218, 281] σ0 σ261 := X273.tr (e263.mo (by decide))
                    exact ⟨rfl, H262, X274⟩
                  · subst h271
                    refine k_nil ?_
                    refine hB _ _ _ _ (kgoC (is := KX3_judgeJump_156) rfl ?_)
                    refine k_aload_n rfl ?_
                    have t275 := h_0_0.x e3
                    have t276 := t275.x e263
                    obtain ⟨a279, e277, c278, t280⟩ := cg121 H262.1 t276
                    refine k_get kg121 t276 e277 ?_
                    refine k_bipush (m := 9) rfl (fun x281 h282 => ?_)
                    refine k_aload_n rfl ?_
                    obtain ⟨x285, e283, c284, h286, h287⟩ := cg280 H262.1 t265
                    have c288 := (t228.mi e263 (by decide)).trans c237
                    refine k_get kg280 t265 e283 ?_
                    refine k_if_ge (fun h289 => ?_) (fun h289 => ?_)
                    · refine hB _ _ _ _ (kgoC (is := KX3_judgeJump_176) rfl ?_)
                      refine k_aload_n rfl ?_
                      refine k_get kg280 t265 (congrArg (Sum.inl : Int32 → AvC) c284) ?_
                      refine k_nil ?_
                      refine hB _ _ _ _ (kgoC (is := KX3_judgeJump_180) rfl ?_)
                      refine k_inv (P := P_X6_tell) (Q := Q_X6_tell) rfl rfl rfl rfl (Nat.le_of_ble_eq_true rfl) (t280.rc (by decide)) ⟨_, _, _, rfl, H262, t280, (by omega), (by omega), (by omega), (by omega)⟩ (fun w290 σ291 q292 => ?_)
                      obtain ⟨rfl, H293, e294⟩ := q292
                      refine k_st (st' := []) rfl ?_
                      refine k_nil ?_
                      refine hB _ _ _ _ (kgoC (is := KX3_judgeJump_183) rfl ?_)
                      refine k_return ?_
                      have X295 : ExC [217, 218, 281] σ0 σ1 := ExC.rf.tr (e3.mo (by decide))
                      have X296 : ExC [217, 218, 281] σ0 σ261 := X295.tr (e263.mo (by decide))
                      have X297 : ExC [217, 218, 281] σ0 σ291 := X296.tr (e294.mo (by decide))
                      exact ⟨rfl, H293, X297⟩
                    · refine k_nil ?_
                      refine hB _ _ _ _ (kgoC (is := KX3_judgeJump_169) rfl ?_)
                      refine k_aload_n rfl ?_
                      obtain ⟨x300, e298, c299, h301, h302⟩ := cg271 H262.1 t265
                      refine k_get kg271 t265 e298 ?_
                      refine k_goto ?_
                      refine hB _ _ _ _ (kgoC (is := KX3_judgeJump_180) rfl ?_)
                      refine k_inv (P := P_X6_tell) (Q := Q_X6_tell) rfl rfl rfl rfl (Nat.le_of_ble_eq_true rfl) (t280.rc (by decide)) ⟨_, _, _, rfl, H262, t280, (by omega), (by omega), (by omega), (by omega)⟩ (fun w303 σ304 q305 => ?_)
                      obtain ⟨rfl, H306, e307⟩ := q305
                      refine k_st (st' := []) rfl ?_
                      refine k_nil ?_
                      refine hB _ _ _ _ (kgoC (is := KX3_judgeJump_183) rfl ?_)
                      refine k_return ?_
                      have X308 : ExC [217, 218, 281] σ0 σ1 := ExC.rf.tr (e3.mo (by decide))
                      have X309 : ExC [217, 218, 281] σ0 σ261 := X308.tr (e263.mo (by decide))
                      have X310 : ExC [217, 218, 281] σ0 σ304 := X309.tr (e307.mo (by decide))
                      exact ⟨rfl, H306, X310⟩
                · subst h260
                  have t311 := t257 b259 rfl
                  have f312 := (f258 b259 rfl).2
                  refine k_nil ?_
                  refine hB _ _ _ _ (kgoC (is := KX3_judgeJump_134) rfl ?_)
                  refine k_aload_n rfl ?_
                  refine k_inv (P := P_X8_isLoop) (Q := Q_X8_isLoop) rfl rfl rfl rfl (Nat.le_of_ble_eq_true rfl) (t311.rc (by decide)) ⟨_, rfl, H2, t311⟩ (fun w313 σ314 q315 => ?_)
                  obtain ⟨x316, rfl, rfl, h317, h318⟩ := q315
                  refine k_st (st' := [.inl x316, .inr (.inr (some p1))]) rfl ?_
                  refine k_if_eq (fun h319 => ?_) (fun h319 => ?_)
                  · refine hB _ _ _ _ (kgoC (is := KX3_judgeJump_145) rfl ?_)
                    refine k_aconst_null ?_
                    refine k_nil ?_
                    refine hB _ _ _ _ (kgoC (is := KX3_judgeJump_146) rfl ?_)
                    refine k_putR kp281 H2 t228 fk281 (rfo281 (OtC.n)) (fun σ320 H321 e322 c323 => ?_)
                    refine k_nil ?_
                    refine hB _ _ _ _ (kgoC (is := KX3_judgeJump_149) rfl ?_)
                    refine k_aload_n rfl ?_
                    have t324 := t228.x e322
                    obtain ⟨o327, e325, c326, t328⟩ := cg281 H321.1 t324
                    refine k_get kg281 t324 e325 ?_
                    refine k_ifnonnull (fun b329 h330 => ?_) (fun h330 => ?_)
                    · subst h330
                      have t331 := t328 b329 rfl
                      refine hB _ _ _ _ (kgoC (is := KX3_judgeJump_183) rfl ?_)
                      refine k_return ?_
                      have X332 : ExC [217, 218, 281] σ0 σ1 := ExC.rf.tr (e3.mo (by decide))
                      have X333 : ExC [217, 218, 281] σ0 σ320 := X332.tr (e322.mo (by decide))
                      exact ⟨rfl, H321, X333⟩
                    · subst h330
                      refine k_nil ?_
                      refine hB _ _ _ _ (kgoC (is := KX3_judgeJump_156) rfl ?_)
                      refine k_aload_n rfl ?_
                      have t334 := h_0_0.x e3
                      have t335 := t334.x e322
                      obtain ⟨a338, e336, c337, t339⟩ := cg121 H321.1 t335
                      refine k_get kg121 t335 e336 ?_
                      refine k_bipush (m := 9) rfl (fun x340 h341 => ?_)
                      refine k_aload_n rfl ?_
                      obtain ⟨x344, e342, c343, h345, h346⟩ := cg280 H321.1 t324
                      have c347 := (t228.mi e322 (by decide)).trans c237
                      refine k_get kg280 t324 e342 ?_
                      refine k_if_ge (fun h348 => ?_) (fun h348 => ?_)
                      · refine hB _ _ _ _ (kgoC (is := KX3_judgeJump_176) rfl ?_)
                        refine k_aload_n rfl ?_
                        refine k_get kg280 t324 (congrArg (Sum.inl : Int32 → AvC) c343) ?_
                        refine k_nil ?_
                        refine hB _ _ _ _ (kgoC (is := KX3_judgeJump_180) rfl ?_)
                        refine k_inv (P := P_X6_tell) (Q := Q_X6_tell) rfl rfl rfl rfl (Nat.le_of_ble_eq_true rfl) (t339.rc (by decide)) ⟨_, _, _, rfl, H321, t339, (by omega), (by omega), (by omega), (by omega)⟩ (fun w349 σ350 q351 => ?_)
                        obtain ⟨rfl, H352, e353⟩ := q351
                        refine k_st (st' := []) rfl ?_
                        refine k_nil ?_
                        refine hB _ _ _ _ (kgoC (is := KX3_judgeJump_183) rfl ?_)
                        refine k_return ?_
                        have X354 : ExC [217, 218, 281] σ0 σ1 := ExC.rf.tr (e3.mo (by decide))
                        have X355 : ExC [217, 218, 281] σ0 σ320 := X354.tr (e322.mo (by decide))
                        have X356 : ExC [217, 218, 281] σ0 σ350 := X355.tr (e353.mo (by decide))
                        exact ⟨rfl, H352, X356⟩
                      · refine k_nil ?_
                        refine hB _ _ _ _ (kgoC (is := KX3_judgeJump_169) rfl ?_)
                        refine k_aload_n rfl ?_
                        obtain ⟨x359, e357, c358, h360, h361⟩ := cg271 H321.1 t324
                        refine k_get kg271 t324 e357 ?_
                        refine k_goto ?_
                        refine hB _ _ _ _ (kgoC (is := KX3_judgeJump_180) rfl ?_)
                        refine k_inv (P := P_X6_tell) (Q := Q_X6_tell) rfl rfl rfl rfl (Nat.le_of_ble_eq_true rfl) (t339.rc (by decide)) ⟨_, _, _, rfl, H321, t339, (by omega), (by omega), (by omega), (by omega)⟩ (fun w362 σ363 q364 => ?_)
                        obtain ⟨rfl, H365, e366⟩ := q364
                        refine k_st (st' := []) rfl ?_
                        refine k_nil ?_
                        refine hB _ _ _ _ (kgoC (is := KX3_judgeJump_183) rfl ?_)
                        refine k_return ?_
                        have X367 : ExC [217, 218, 281] σ0 σ1 := ExC.rf.tr (e3.mo (by decide))
                        have X368 : ExC [217, 218, 281] σ0 σ320 := X367.tr (e322.mo (by decide))
                        have X369 : ExC [217, 218, 281] σ0 σ363 := X368.tr (e366.mo (by decide))
                        exact ⟨rfl, H365, X369⟩
                  · refine k_nil ?_
                    refine hB _ _ _ _ (kgoC (is := KX3_judgeJump_141) rfl ?_)
                    refine k_aload_n rfl ?_
                    refine k_goto ?_
                    refine hB _ _ _ _ (kgoC (is := KX3_judgeJump_146) rfl ?_)
                    refine k_putR kp281 H2 t228 fk281 (rf281 t311) (fun σ370 H371 e372 c373 => ?_)
                    refine k_nil ?_
                    refine hB _ _ _ _ (kgoC (is := KX3_judgeJump_149) rfl ?_)
                    refine k_aload_n rfl ?_
                    have t374 := t228.x e372
                    refine k_get kg281 t374 (congrArg (fun z : Option Nat => (Sum.inr (Sum.inr z) : AvC)) c373) ?_
                    refine k_ifnonnull (fun _ _ => ?_) (fun hz => by cases hz)
                    refine hB _ _ _ _ (kgoC (is := KX3_judgeJump_183) rfl ?_)
                    refine k_return ?_
                    have X375 : ExC [217, 218, 281] σ0 σ1 := ExC.rf.tr (e3.mo (by decide))
                    have X376 : ExC [217, 218, 281] σ0 σ370 := X375.tr (e372.mo (by decide))
                    exact ⟨rfl, H371, X376⟩
          · subst h234
            refine k_nil ?_
            refine hB _ _ _ _ (kgoC (is := KX3_judgeJump_16) rfl ?_)
            refine k_aload_n rfl ?_
            obtain ⟨x379, e377, c378, h380, h381⟩ := cg280 H2.1 t228
            refine k_get kg280 t228 e377 ?_
            refine k_if_ge (fun h382 => ?_) (fun h382 => ?_)
            · refine hB _ _ _ _ (kgoC (is := KX3_judgeJump_56) rfl ?_)
              refine k_aload_n rfl ?_
              obtain ⟨x385, e383, c384, h386, h387⟩ := cg270 H2.1 t227
              refine k_get kg270 t227 e383 ?_
              refine k_bipush (m := 6) rfl (fun x388 h389 => ?_)
              refine k_ic_ne (fun h390 => ?_) (fun h390 => ?_)
              · refine hB _ _ _ _ (kgoC (is := KX3_judgeJump_85) rfl ?_)
                refine k_aload_n rfl ?_
                obtain ⟨o393, e391, c392, t394, f395⟩ := cg273 H2.1 t227
                refine k_get kg273 t227 e391 ?_
                refine k_astore_n (ls' := [(2, .inr (.inr o393)), (0, .inr (.inr (some p0))), (1, .inr (.inr (some p1)))]) rfl ?_
                refine k_goto ?_
                have X396 : ExC [217, 218, 281] σ0 σ1 := ExC.rf.tr (e3.mo (by decide))
                exact hW _ _ _ _ _ (List.forall_mem_cons.2 ⟨List.Mem.tail _ (List.Mem.head _), (List.forall_mem_cons.2 ⟨List.Mem.tail _ (List.Mem.tail _ (List.Mem.head _)), (List.forall_mem_cons.2 ⟨List.Mem.head _, fun _ h => absurd h List.not_mem_nil⟩)⟩)⟩) (ih5 (msPC o393) (by cases o393 with
                                  | none => have qm := n5_; dsimp only [msPC] at qm ⊢; omega
                                  | some bz => have qf := (f395 bz rfl).2; have qg := (show bz < _ from by first | exact qf | exact qf.1); have qm := n5_; dsimp only [msPC] at qm ⊢; omega) σ1 o393 rfl H2 X396 t394)
              · refine k_nil ?_
                refine hB _ _ _ _ (kgoC (is := KX3_judgeJump_65) rfl ?_)
                refine k_aload_n rfl ?_
                refine k_aload_n rfl ?_
                refine k_get kg280 t228 (congrArg (Sum.inl : Int32 → AvC) c378) ?_
                refine k_aload_n rfl ?_
                obtain ⟨x399, e397, c398, h400, h401⟩ := cg280 H2.1 t227
                have h402 : 0 ≤ x399.toInt := H2.lb t227 c384 (by omega) c398
                refine k_get kg280 t227 e397 ?_
                have t403 := h_0_0.x e3
                refine k_inv (P := P_X3_isSameName) (Q := Q_X3_isSameName) rfl rfl rfl rfl (Nat.le_of_ble_eq_true rfl) (t403.rc (by decide)) ⟨_, _, _, rfl, H2, t403, (by omega), (by omega), (by omega), (by omega)⟩ (fun w404 σ405 q406 => ?_)
                obtain ⟨x407, rfl, rfl, h408, h409⟩ := q406
                refine k_st (st' := [.inl x407]) rfl ?_
                refine k_if_eq (fun h410 => ?_) (fun h410 => ?_)
                · refine hB _ _ _ _ (kgoC (is := KX3_judgeJump_85) rfl ?_)
                  refine k_aload_n rfl ?_
                  obtain ⟨o413, e411, c412, t414, f415⟩ := cg273 H2.1 t227
                  refine k_get kg273 t227 e411 ?_
                  refine k_astore_n (ls' := [(2, .inr (.inr o413)), (0, .inr (.inr (some p0))), (1, .inr (.inr (some p1)))]) rfl ?_
                  refine k_goto ?_
                  have X416 : ExC [217, 218, 281] σ0 σ1 := ExC.rf.tr (e3.mo (by decide))
                  exact hW _ _ _ _ _ (List.forall_mem_cons.2 ⟨List.Mem.tail _ (List.Mem.head _), (List.forall_mem_cons.2 ⟨List.Mem.tail _ (List.Mem.tail _ (List.Mem.head _)), (List.forall_mem_cons.2 ⟨List.Mem.head _, fun _ h => absurd h List.not_mem_nil⟩)⟩)⟩) (ih5 (msPC o413) (by cases o413 with
                                      | none => have qm := n5_; dsimp only [msPC] at qm ⊢; omega
                                      | some bz => have qf := (f415 bz rfl).2; have qg := (show bz < _ from by first | exact qf | exact qf.1); have qm := n5_; dsimp only [msPC] at qm ⊢; omega) σ1 o413 rfl H2 X416 t414)
                · refine k_nil ?_
                  refine hB _ _ _ _ (kgoC (is := KX3_judgeJump_80) rfl ?_)
                  refine k_aload_n rfl ?_
                  refine k_aload_n rfl ?_
                  refine k_putR kp281 H2 t228 fk281 (rf281 t227) (fun σ417 H418 e419 c420 => ?_)
                  refine k_nil ?_
                  refine hB _ _ _ _ (kgoC (is := KX3_judgeJump_85) rfl ?_)
                  refine k_aload_n rfl ?_
                  have t421 := t227.x e419
                  obtain ⟨o424, e422, c423, t425, f426⟩ := cg273 H418.1 t421
                  refine k_get kg273 t421 e422 ?_
                  refine k_astore_n (ls' := [(2, .inr (.inr o424)), (0, .inr (.inr (some p0))), (1, .inr (.inr (some p1)))]) rfl ?_
                  refine k_goto ?_
                  have X427 : ExC [217, 218, 281] σ0 σ1 := ExC.rf.tr (e3.mo (by decide))
                  have X428 : ExC [217, 218, 281] σ0 σ417 := X427.tr (e419.mo (by decide))
                  exact hW _ _ _ _ _ (List.forall_mem_cons.2 ⟨List.Mem.tail _ (List.Mem.head _), (List.forall_mem_cons.2 ⟨List.Mem.tail _ (List.Mem.tail _ (List.Mem.head _)), (List.forall_mem_cons.2 ⟨List.Mem.head _, fun _ h => absurd h List.not_mem_nil⟩)⟩)⟩) (ih5 (msPC o424) (by cases o424 with
                                      | none => have qm := n5_; dsimp only [msPC] at qm ⊢; omega
                                      | some bz => have qf := (f426 bz rfl).2; have qg := (show bz < _ from by first | exact qf | exact qf.1); have qm := n5_; dsimp only [msPC] at qm ⊢; omega) σ417 o424 rfl H418 X428 t425)
            · refine k_nil ?_
              refine hB _ _ _ _ (kgoC (is := KX3_judgeJump_23) rfl ?_)
              refine k_aload_n rfl ?_
              refine k_inv (P := P_X8_isLoop) (Q := Q_X8_isLoop) rfl rfl rfl rfl (Nat.le_of_ble_eq_true rfl) (t227.rc (by decide)) ⟨_, rfl, H2, t227⟩ (fun w429 σ430 q431 => ?_)
              obtain ⟨x432, rfl, rfl, h433, h434⟩ := q431
              refine k_st (st' := [.inl x432]) rfl ?_
              refine k_if_ne (fun h435 => ?_) (fun h435 => ?_)
              · refine hB _ _ _ _ (kgoC (is := KX3_judgeJump_48) rfl ?_)
                refine k_aload_n rfl ?_
                refine k_aload_n rfl ?_
                refine k_putR kp281 H2 t228 fk281 (rf281 t227) (fun σ436 H437 e438 c439 => ?_)
                refine k_goto ?_
                refine hB _ _ _ _ (kgoC (is := KX3_judgeJump_85) rfl ?_)
                refine k_aload_n rfl ?_
                have t440 := t227.x e438
                obtain ⟨o443, e441, c442, t444, f445⟩ := cg273 H437.1 t440
                refine k_get kg273 t440 e441 ?_
                refine k_astore_n (ls' := [(2, .inr (.inr o443)), (0, .inr (.inr (some p0))), (1, .inr (.inr (some p1)))]) rfl ?_
                refine k_goto ?_
                have X446 : ExC [217, 218, 281] σ0 σ1 := ExC.rf.tr (e3.mo (by decide))
                have X447 : ExC [217, 218, 281] σ0 σ436 := X446.tr (e438.mo (by decide))
                exact hW _ _ _ _ _ (List.forall_mem_cons.2 ⟨List.Mem.tail _ (List.Mem.head _), (List.forall_mem_cons.2 ⟨List.Mem.tail _ (List.Mem.tail _ (List.Mem.head _)), (List.forall_mem_cons.2 ⟨List.Mem.head _, fun _ h => absurd h List.not_mem_nil⟩)⟩)⟩) (ih5 (msPC o443) (by cases o443 with
                                  | none => have qm := n5_; dsimp only [msPC] at qm ⊢; omega
                                  | some bz => have qf := (f445 bz rfl).2; have qg := (show bz < _ from by first | exact qf | exact qf.1); have qm := n5_; dsimp only [msPC] at qm ⊢; omega) σ436 o443 rfl H437 X447 t444)
              · refine k_nil ?_
                refine hB _ _ _ _ (kgoC (is := KX3_judgeJump_30) rfl ?_)
                refine k_aload_n rfl ?_
                obtain ⟨x450, e448, c449, h451, h452⟩ := cg270 H2.1 t228
                refine k_get kg270 t228 e448 ?_
                refine k_bipush (m := 64) rfl (fun x453 h454 => ?_)
                refine k_ic_ne (fun h455 => ?_) (fun h455 => ?_)
                · refine hB _ _ _ _ (kgoC (is := KX3_judgeJump_85) rfl ?_)
                  refine k_aload_n rfl ?_
                  obtain ⟨o458, e456, c457, t459, f460⟩ := cg273 H2.1 t227
                  refine k_get kg273 t227 e456 ?_
                  refine k_astore_n (ls' := [(2, .inr (.inr o458)), (0, .inr (.inr (some p0))), (1, .inr (.inr (some p1)))]) rfl ?_
                  refine k_goto ?_
                  have X461 : ExC [217, 218, 281] σ0 σ1 := ExC.rf.tr (e3.mo (by decide))
                  exact hW _ _ _ _ _ (List.forall_mem_cons.2 ⟨List.Mem.tail _ (List.Mem.head _), (List.forall_mem_cons.2 ⟨List.Mem.tail _ (List.Mem.tail _ (List.Mem.head _)), (List.forall_mem_cons.2 ⟨List.Mem.head _, fun _ h => absurd h List.not_mem_nil⟩)⟩)⟩) (ih5 (msPC o458) (by cases o458 with
                                      | none => have qm := n5_; dsimp only [msPC] at qm ⊢; omega
                                      | some bz => have qf := (f460 bz rfl).2; have qg := (show bz < _ from by first | exact qf | exact qf.1); have qm := n5_; dsimp only [msPC] at qm ⊢; omega) σ1 o458 rfl H2 X461 t459)
                · refine k_nil ?_
                  refine hB _ _ _ _ (kgoC (is := KX3_judgeJump_39) rfl ?_)
                  refine k_aload_n rfl ?_
                  obtain ⟨x464, e462, c463, h465, h466⟩ := cg270 H2.1 t227
                  refine k_get kg270 t227 e462 ?_
                  refine k_bipush (m := 61) rfl (fun x467 h468 => ?_)
                  refine k_ic_ne (fun h469 => ?_) (fun h469 => ?_)
                  · refine hB _ _ _ _ (kgoC (is := KX3_judgeJump_85) rfl ?_)
                    refine k_aload_n rfl ?_
                    obtain ⟨o472, e470, c471, t473, f474⟩ := cg273 H2.1 t227
                    refine k_get kg273 t227 e470 ?_
                    refine k_astore_n (ls' := [(2, .inr (.inr o472)), (0, .inr (.inr (some p0))), (1, .inr (.inr (some p1)))]) rfl ?_
                    refine k_goto ?_
                    have X475 : ExC [217, 218, 281] σ0 σ1 := ExC.rf.tr (e3.mo (by decide))
                    exact hW _ _ _ _ _ (List.forall_mem_cons.2 ⟨List.Mem.tail _ (List.Mem.head _), (List.forall_mem_cons.2 ⟨List.Mem.tail _ (List.Mem.tail _ (List.Mem.head _)), (List.forall_mem_cons.2 ⟨List.Mem.head _, fun _ h => absurd h List.not_mem_nil⟩)⟩)⟩) (ih5 (msPC o472) (by cases o472 with
                                          | none => have qm := n5_; dsimp only [msPC] at qm ⊢; omega
                                          | some bz => have qf := (f474 bz rfl).2; have qg := (show bz < _ from by first | exact qf | exact qf.1); have qm := n5_; dsimp only [msPC] at qm ⊢; omega) σ1 o472 rfl H2 X475 t473)
                  · refine k_nil ?_
                    refine hB _ _ _ _ (kgoC (is := KX3_judgeJump_48) rfl ?_)
                    refine k_aload_n rfl ?_
                    refine k_aload_n rfl ?_
                    refine k_putR kp281 H2 t228 fk281 (rf281 t227) (fun σ476 H477 e478 c479 => ?_)
                    refine k_goto ?_
                    refine hB _ _ _ _ (kgoC (is := KX3_judgeJump_85) rfl ?_)
                    refine k_aload_n rfl ?_
                    have t480 := t227.x e478
                    obtain ⟨o483, e481, c482, t484, f485⟩ := cg273 H477.1 t480
                    refine k_get kg273 t480 e481 ?_
                    refine k_astore_n (ls' := [(2, .inr (.inr o483)), (0, .inr (.inr (some p0))), (1, .inr (.inr (some p1)))]) rfl ?_
                    refine k_goto ?_
                    have X486 : ExC [217, 218, 281] σ0 σ1 := ExC.rf.tr (e3.mo (by decide))
                    have X487 : ExC [217, 218, 281] σ0 σ476 := X486.tr (e478.mo (by decide))
                    exact hW _ _ _ _ _ (List.forall_mem_cons.2 ⟨List.Mem.tail _ (List.Mem.head _), (List.forall_mem_cons.2 ⟨List.Mem.tail _ (List.Mem.tail _ (List.Mem.head _)), (List.forall_mem_cons.2 ⟨List.Mem.head _, fun _ h => absurd h List.not_mem_nil⟩)⟩)⟩) (ih5 (msPC o483) (by cases o483 with
                                          | none => have qm := n5_; dsimp only [msPC] at qm ⊢; omega
                                          | some bz => have qf := (f485 bz rfl).2; have qg := (show bz < _ from by first | exact qf | exact qf.1); have qm := n5_; dsimp only [msPC] at qm ⊢; omega) σ476 o483 rfl H477 X487 t484)
    refine hB _ _ _ _ (kgoC (is := KX3_judgeJump_0) rfl ?_)
    refine k_aload_n rfl ?_
    obtain ⟨o490, e488, c489, t491, f492⟩ := cg273 H0.1 h_1_0
    refine k_get kg273 h_1_0 e488 ?_
    refine k_astore_n (ls' := [(2, .inr (.inr o490)), (0, .inr (.inr (some p0))), (1, .inr (.inr (some p1)))]) rfl ?_
    refine k_nil ?_
    exact hW _ _ _ _ _ (List.forall_mem_cons.2 ⟨List.Mem.tail _ (List.Mem.head _), (List.forall_mem_cons.2 ⟨List.Mem.tail _ (List.Mem.tail _ (List.Mem.head _)), (List.forall_mem_cons.2 ⟨List.Mem.head _, fun _ h => absurd h List.not_mem_nil⟩)⟩)⟩) (L5 _ σ0 o490 rfl H0 ExC.rf t491)
theorem lg_X3_judgeJump : ∀ (As : List AvC) (σ : CsC), P_X3_judgeJump As σ → lgC As ≤ rX3_judgeJump.2.2.1 := by
  rintro As σ ⟨p0, p1, rfl, -⟩
  exact Nat.le_of_ble_eq_true rfl
theorem m_X3_judgeJump (l : Launch) : CMetC l 2 83 P_X3_judgeJump Q_X3_judgeJump :=
  CMetC.of KX3_judgeJump [(118, P_X6_tell, Q_X6_tell), (179, P_X8_isLoop, Q_X8_isLoop), (84, P_X3_isSameName, Q_X3_isSameName)] hX3_judgeJump (by decide) (by decide) okX3_judgeJump (cc1C (m_X6_tell l) (by decide) (cc1C (m_X8_isLoop l) (by decide) (cc1C (m_X3_isSameName l) (by decide) cc0C))) (lg_X3_judgeJump) (b_X3_judgeJump)

abbrev P_X3_judgeLabel : CpC := fun As σ => ∃ (p0 : Nat) (p1 : Nat), As = [.inr (.inr (some p0)), .inr (.inr (some p1))] ∧ HIC σ ∧ TyC σ p0 4 ∧ TyC σ p1 9 ∧ (fIC σ p1 270).toInt = 6
abbrev Q_X3_judgeLabel : CqC := fun As σ w τ => match As with
  | [.inr (.inr (some p0)), .inr (.inr (some p1))] => w = none ∧ HIC τ ∧ ExC [217, 218] σ τ
  | _ => False
set_option maxRecDepth 100000 in
set_option maxHeartbeats 4000000 in
theorem b_X3_judgeLabel : TbC KX3_judgeLabel [(84, P_X3_isSameName, Q_X3_isSameName), (118, P_X6_tell, Q_X6_tell)] P_X3_judgeLabel Q_X3_judgeLabel := by
  · rintro As σ0 ⟨p0, p1, rfl, H0, h_0_0, h_1_0, q_0⟩ hgr G hB hW
    change G 0 [(0, .inr (.inr (some p0))), (1, .inr (.inr (some p1)))] [] σ0
    obtain ⟨x1, e2, c3, h4, h5⟩ := cg270 H0.1 h_1_0
    have h6 : x1.toInt = 6 := by rw [← c3]; exact q_0
    have L5 : ∀ (n5 : Nat), ∀ (σ7 : CsC) (v5_2 : Option Nat), msPC v5_2 = n5 → HIC σ7 → ExC [217, 218] σ0 σ7 → OtC σ7 v5_2 9 → G 5 [(0, .inr (.inr (some p0))), (1, .inr (.inr (some p1))), (2, .inr (.inr v5_2))] [] σ7 := by
      intro n5
      induction n5 using Nat.strongRecOn with
      | _ n5 ih5 =>
        intro σ7 v5_2 n5_ H8 e9 h10
        refine hB _ _ _ _ (kgoC (is := KX3_judgeLabel_5) rfl ?_)
        refine k_aload_n rfl ?_
        refine k_ifnull (fun h12 => ?_) (fun b11 h12 => ?_)
        · subst h12
          refine hB _ _ _ _ (kgoC (is := KX3_judgeLabel_54) rfl ?_)
          refine k_return ?_
          have X13 : ExC [217, 218] σ0 σ7 := ExC.rf.tr (e9.mo (by decide))
          exact ⟨rfl, H8, X13⟩
        · subst h12
          have t14 := h10 b11 rfl
          refine k_nil ?_
          refine hB _ _ _ _ (kgoC (is := KX3_judgeLabel_9) rfl ?_)
          refine k_aload_n rfl ?_
          obtain ⟨x17, e15, c16, h18, h19⟩ := cg270 H8.1 t14
          refine k_get kg270 t14 e15 ?_
          refine k_bipush (m := 6) rfl (fun x20 h21 => ?_)
          refine k_ic_ne (fun h22 => ?_) (fun h22 => ?_)
          · refine hB _ _ _ _ (kgoC (is := KX3_judgeLabel_46) rfl ?_)
            refine k_aload_n rfl ?_
            obtain ⟨o25, e23, c24, t26, f27⟩ := cg273 H8.1 t14
            refine k_get kg273 t14 e23 ?_
            refine k_astore_n (ls' := [(2, .inr (.inr o25)), (0, .inr (.inr (some p0))), (1, .inr (.inr (some p1)))]) rfl ?_
            refine k_goto ?_
            have X28 : ExC [217, 218] σ0 σ7 := ExC.rf.tr (e9.mo (by decide))
            exact hW _ _ _ _ _ (List.forall_mem_cons.2 ⟨List.Mem.tail _ (List.Mem.head _), (List.forall_mem_cons.2 ⟨List.Mem.tail _ (List.Mem.tail _ (List.Mem.head _)), (List.forall_mem_cons.2 ⟨List.Mem.head _, fun _ h => absurd h List.not_mem_nil⟩)⟩)⟩) (ih5 (msPC o25) (by cases o25 with
                          | none => have qm := n5_; dsimp only [msPC] at qm ⊢; omega
                          | some bz => have qf := (f27 bz rfl).2; have qg := (show bz < _ from by first | exact qf | exact qf.1); have qm := n5_; dsimp only [msPC] at qm ⊢; omega) σ7 o25 rfl H8 X28 t26)
          · refine k_nil ?_
            refine hB _ _ _ _ (kgoC (is := KX3_judgeLabel_18) rfl ?_)
            refine k_aload_n rfl ?_
            refine k_aload_n rfl ?_
            have t29 := h_1_0.x e9
            obtain ⟨x32, e30, c31, h33, h34⟩ := cg280 H8.1 t29
            have c35 := (h_1_0.mi e9 (by decide)).trans c3
            have h36 : 0 ≤ x32.toInt := H8.lb t29 c35 (by omega) c31
            refine k_get kg280 t29 e30 ?_
            refine k_aload_n rfl ?_
            obtain ⟨x39, e37, c38, h40, h41⟩ := cg280 H8.1 t14
            have h42 : 0 ≤ x39.toInt := H8.lb t14 c16 (by omega) c38
            refine k_get kg280 t14 e37 ?_
            have t43 := h_0_0.x e9
            refine k_inv (P := P_X3_isSameName) (Q := Q_X3_isSameName) rfl rfl rfl rfl (Nat.le_of_ble_eq_true rfl) (t43.rc (by decide)) ⟨_, _, _, rfl, H8, t43, (by omega), (by omega), (by omega), (by omega)⟩ (fun w44 σ45 q46 => ?_)
            obtain ⟨x47, rfl, rfl, h48, h49⟩ := q46
            refine k_st (st' := [.inl x47]) rfl ?_
            refine k_if_eq (fun h50 => ?_) (fun h50 => ?_)
            · refine hB _ _ _ _ (kgoC (is := KX3_judgeLabel_46) rfl ?_)
              refine k_aload_n rfl ?_
              obtain ⟨o53, e51, c52, t54, f55⟩ := cg273 H8.1 t14
              refine k_get kg273 t14 e51 ?_
              refine k_astore_n (ls' := [(2, .inr (.inr o53)), (0, .inr (.inr (some p0))), (1, .inr (.inr (some p1)))]) rfl ?_
              refine k_goto ?_
              have X56 : ExC [217, 218] σ0 σ7 := ExC.rf.tr (e9.mo (by decide))
              exact hW _ _ _ _ _ (List.forall_mem_cons.2 ⟨List.Mem.tail _ (List.Mem.head _), (List.forall_mem_cons.2 ⟨List.Mem.tail _ (List.Mem.tail _ (List.Mem.head _)), (List.forall_mem_cons.2 ⟨List.Mem.head _, fun _ h => absurd h List.not_mem_nil⟩)⟩)⟩) (ih5 (msPC o53) (by cases o53 with
                              | none => have qm := n5_; dsimp only [msPC] at qm ⊢; omega
                              | some bz => have qf := (f55 bz rfl).2; have qg := (show bz < _ from by first | exact qf | exact qf.1); have qm := n5_; dsimp only [msPC] at qm ⊢; omega) σ7 o53 rfl H8 X56 t54)
            · refine k_nil ?_
              refine hB _ _ _ _ (kgoC (is := KX3_judgeLabel_33) rfl ?_)
              refine k_aload_n rfl ?_
              obtain ⟨a59, e57, c58, t60⟩ := cg121 H8.1 t43
              refine k_get kg121 t43 e57 ?_
              refine k_bipush (m := 10) rfl (fun x61 h62 => ?_)
              refine k_aload_n rfl ?_
              refine k_get kg280 t29 (congrArg (Sum.inl : Int32 → AvC) c31) ?_
              refine k_inv (P := P_X6_tell) (Q := Q_X6_tell) rfl rfl rfl rfl (Nat.le_of_ble_eq_true rfl) (t60.rc (by decide)) ⟨_, _, _, rfl, H8, t60, (by omega), (by omega), (by omega), (by omega)⟩ (fun w63 σ64 q65 => ?_)
              obtain ⟨rfl, H66, e67⟩ := q65
              refine k_st (st' := []) rfl ?_
              refine k_nil ?_
              refine hB _ _ _ _ (kgoC (is := KX3_judgeLabel_46) rfl ?_)
              refine k_aload_n rfl ?_
              have t68 := t14.x e67
              obtain ⟨o71, e69, c70, t72, f73⟩ := cg273 H66.1 t68
              refine k_get kg273 t68 e69 ?_
              refine k_astore_n (ls' := [(2, .inr (.inr o71)), (0, .inr (.inr (some p0))), (1, .inr (.inr (some p1)))]) rfl ?_
              refine k_goto ?_
              have X74 : ExC [217, 218] σ0 σ7 := ExC.rf.tr (e9.mo (by decide))
              have X75 : ExC [217, 218] σ0 σ64 := X74.tr (e67.mo (by decide))
              exact hW _ _ _ _ _ (List.forall_mem_cons.2 ⟨List.Mem.tail _ (List.Mem.head _), (List.forall_mem_cons.2 ⟨List.Mem.tail _ (List.Mem.tail _ (List.Mem.head _)), (List.forall_mem_cons.2 ⟨List.Mem.head _, fun _ h => absurd h List.not_mem_nil⟩)⟩)⟩) (ih5 (msPC o71) (by cases o71 with
                              | none => have qm := n5_; dsimp only [msPC] at qm ⊢; omega
                              | some bz => have qf := (f73 bz rfl).2; have qg := (show bz < _ from by first | exact qf | exact qf.1); have qm := n5_; dsimp only [msPC] at qm ⊢; omega) σ64 o71 rfl H66 X75 t72)
    refine hB _ _ _ _ (kgoC (is := KX3_judgeLabel_0) rfl ?_)
    refine k_aload_n rfl ?_
    obtain ⟨o78, e76, c77, t79, f80⟩ := cg273 H0.1 h_1_0
    refine k_get kg273 h_1_0 e76 ?_
    refine k_astore_n (ls' := [(2, .inr (.inr o78)), (0, .inr (.inr (some p0))), (1, .inr (.inr (some p1)))]) rfl ?_
    refine k_nil ?_
    exact hW _ _ _ _ _ (List.forall_mem_cons.2 ⟨List.Mem.tail _ (List.Mem.head _), (List.forall_mem_cons.2 ⟨List.Mem.tail _ (List.Mem.tail _ (List.Mem.head _)), (List.forall_mem_cons.2 ⟨List.Mem.head _, fun _ h => absurd h List.not_mem_nil⟩)⟩)⟩) (L5 _ σ0 o78 rfl H0 ExC.rf t79)
theorem lg_X3_judgeLabel : ∀ (As : List AvC) (σ : CsC), P_X3_judgeLabel As σ → lgC As ≤ rX3_judgeLabel.2.2.1 := by
  rintro As σ ⟨p0, p1, rfl, -⟩
  exact Nat.le_of_ble_eq_true rfl
theorem m_X3_judgeLabel (l : Launch) : CMetC l 2 85 P_X3_judgeLabel Q_X3_judgeLabel :=
  CMetC.of KX3_judgeLabel [(84, P_X3_isSameName, Q_X3_isSameName), (118, P_X6_tell, Q_X6_tell)] hX3_judgeLabel (by decide) (by decide) okX3_judgeLabel (cc1C (m_X3_isSameName l) (by decide) (cc1C (m_X6_tell l) (by decide) cc0C)) (lg_X3_judgeLabel) (b_X3_judgeLabel)

abbrev P_X3_judgeReturn : CpC := fun As σ => ∃ (p0 : Nat) (p1 : Nat), As = [.inr (.inr (some p0)), .inr (.inr (some p1))] ∧ HIC σ ∧ TyC σ p0 4 ∧ TyC σ p1 9
abbrev Q_X3_judgeReturn : CqC := fun As σ w τ => match As with
  | [.inr (.inr (some p0)), .inr (.inr (some p1))] => w = none ∧ HIC τ ∧ ExC [217, 218] σ τ
  | _ => False
set_option maxRecDepth 100000 in
set_option maxHeartbeats 4000000 in
theorem b_X3_judgeReturn : TbC KX3_judgeReturn [(119, P_X6_methodOf, Q_X6_methodOf), (118, P_X6_tell, Q_X6_tell), (52, P_X3_isFaulty, Q_X3_isFaulty), (75, P_X3_fits, Q_X3_fits), (62, P_X3_isWanted, Q_X3_isWanted)] P_X3_judgeReturn Q_X3_judgeReturn := by
  · rintro As σ0 ⟨p0, p1, rfl, H0, h_0_0, h_1_0⟩ hgr G hB hW
    change G 0 [(0, .inr (.inr (some p0))), (1, .inr (.inr (some p1)))] [] σ0
    refine hB _ _ _ _ (kgoC (is := KX3_judgeReturn_0) rfl ?_)
    refine k_aload_n rfl ?_
    obtain ⟨a3, e1, c2, t4⟩ := cg121 H0.1 h_0_0
    refine k_get kg121 h_0_0 e1 ?_
    refine k_aload_n rfl ?_
    obtain ⟨x7, e5, c6, h8, h9⟩ := cg280 H0.1 h_1_0
    refine k_get kg280 h_1_0 e5 ?_
    refine k_inv (P := P_X6_methodOf) (Q := Q_X6_methodOf) rfl rfl rfl rfl (Nat.le_of_ble_eq_true rfl) (t4.rc (by decide)) ⟨_, _, rfl, H0, t4⟩ (fun w10 σ11 q12 => ?_)
    obtain ⟨o13, rfl, rfl, h14⟩ := q12
    refine k_st (st' := [.inr (.inr o13)]) rfl ?_
    refine k_astore_n (ls' := [(2, .inr (.inr o13)), (0, .inr (.inr (some p0))), (1, .inr (.inr (some p1)))]) rfl ?_
    refine k_aload_n rfl ?_
    refine k_ifnull (fun h16 => ?_) (fun b15 h16 => ?_)
    · subst h16
      refine hB _ _ _ _ (kgoC (is := KX3_judgeReturn_33) rfl ?_)
      refine k_return ?_
      exact ⟨rfl, H0, (ExC.rf : ExC [217, 218] σ0 σ0)⟩
    · subst h16
      have t17 := h14 b15 rfl
      refine k_nil ?_
      refine hB _ _ _ _ (kgoC (is := KX3_judgeReturn_16) rfl ?_)
      refine k_aload_n rfl ?_
      obtain ⟨o20, e18, c19, t21⟩ := cg279 H0.1 h_1_0
      refine k_get kg279 h_1_0 e18 ?_
      refine k_ifnull (fun h23 => ?_) (fun b22 h23 => ?_)
      · subst h23
        refine hB _ _ _ _ (kgoC (is := KX3_judgeReturn_34) rfl ?_)
        refine k_aload_n rfl ?_
        refine k_get kg279 h_1_0 (congrArg (fun z : Option Nat => (Sum.inr (Sum.inr z) : AvC)) c19) ?_
        refine k_ifnonnull (fun _ hz => by cases hz) (fun _ => ?_)
        refine k_nil ?_
        refine hB _ _ _ _ (kgoC (is := KX3_judgeReturn_41) rfl ?_)
        refine k_iconst (m := 1) rfl (fun x24 h25 => ?_)
        refine k_goto ?_
        refine hB _ _ _ _ (kgoC (is := KX3_judgeReturn_46) rfl ?_)
        refine k_aload_n rfl ?_
        obtain ⟨x28, e26, c27, h29, h30⟩ := cg182 H0.1 t17
        refine k_get kg182 t17 e26 ?_
        refine k_iconst (m := 5) rfl (fun x31 h32 => ?_)
        refine k_ic_ne (fun h33 => ?_) (fun h33 => ?_)
        · refine hB _ _ _ _ (kgoC (is := KX3_judgeReturn_58) rfl ?_)
          refine k_iconst (m := 0) rfl (fun x34 h35 => ?_)
          refine k_nil ?_
          refine hB _ _ _ _ (kgoC (is := KX3_judgeReturn_59) rfl ?_)
          refine k_ic_eq (fun h36 => by exfalso; omega) (fun h36 => ?_)
          refine k_nil ?_
          refine hB _ _ _ _ (kgoC (is := KX3_judgeReturn_62) rfl ?_)
          refine k_aload_n rfl ?_
          refine k_get kg121 h_0_0 (congrArg (fun z : Option Nat => (Sum.inr (Sum.inr z) : AvC)) c2) ?_
          refine k_bipush (m := 11) rfl (fun x37 h38 => ?_)
          refine k_aload_n rfl ?_
          obtain ⟨x41, e39, c40, h42, h43⟩ := cg271 H0.1 h_1_0
          refine k_get kg271 h_1_0 e39 ?_
          refine k_inv (P := P_X6_tell) (Q := Q_X6_tell) rfl rfl rfl rfl (Nat.le_of_ble_eq_true rfl) (t4.rc (by decide)) ⟨_, _, _, rfl, H0, t4, (by omega), (by omega), (by omega), (by omega)⟩ (fun w44 σ45 q46 => ?_)
          obtain ⟨rfl, H47, e48⟩ := q46
          refine k_st (st' := []) rfl ?_
          refine k_goto ?_
          refine hB _ _ _ _ (kgoC (is := KX3_judgeReturn_108) rfl ?_)
          refine k_return ?_
          have X49 : ExC [217, 218] σ0 σ45 := ExC.rf.tr (e48.mo (by decide))
          exact ⟨rfl, H47, X49⟩
        · refine k_nil ?_
          refine hB _ _ _ _ (kgoC (is := KX3_judgeReturn_54) rfl ?_)
          refine k_iconst (m := 1) rfl (fun x50 h51 => ?_)
          refine k_goto ?_
          refine hB _ _ _ _ (kgoC (is := KX3_judgeReturn_59) rfl ?_)
          refine k_ic_eq (fun h52 => ?_) (fun h52 => by exfalso; omega)
          refine hB _ _ _ _ (kgoC (is := KX3_judgeReturn_78) rfl ?_)
          refine k_aload_n rfl ?_
          refine k_get kg279 h_1_0 (congrArg (fun z : Option Nat => (Sum.inr (Sum.inr z) : AvC)) c19) ?_
          refine k_ifnull (fun _ => ?_) (fun _ hz => by cases hz)
          refine hB _ _ _ _ (kgoC (is := KX3_judgeReturn_108) rfl ?_)
          refine k_return ?_
          exact ⟨rfl, H0, (ExC.rf : ExC [217, 218] σ0 σ0)⟩
      · subst h23
        have t53 := t21 b22 rfl
        refine k_nil ?_
        refine hB _ _ _ _ (kgoC (is := KX3_judgeReturn_23) rfl ?_)
        refine k_aload_n rfl ?_
        refine k_get kg279 h_1_0 (congrArg (fun z : Option Nat => (Sum.inr (Sum.inr z) : AvC)) c19) ?_
        refine k_stat (P := P_X3_isFaulty) (Q := Q_X3_isFaulty) rfl rfl (Nat.le_of_ble_eq_true rfl) rfl rfl (Nat.le_of_ble_eq_true rfl) ⟨(some b22), rfl, H0, t53.ot⟩ (fun w54 σ55 q56 => ?_)
        obtain ⟨x57, rfl, rfl, h58, h59, q60⟩ := q56
        refine k_st (st' := [.inl x57]) rfl ?_
        rcases (by omega : x57.toInt = 0 ∨ x57.toInt = 1) with g61 | g61
        · refine k_if_eq (fun h62 => ?_) (fun h62 => by exfalso; omega)
          refine hB _ _ _ _ (kgoC (is := KX3_judgeReturn_34) rfl ?_)
          refine k_aload_n rfl ?_
          refine k_get kg279 h_1_0 (congrArg (fun z : Option Nat => (Sum.inr (Sum.inr z) : AvC)) c19) ?_
          refine k_ifnonnull (fun _ _ => ?_) (fun hz => by cases hz)
          refine hB _ _ _ _ (kgoC (is := KX3_judgeReturn_45) rfl ?_)
          refine k_iconst (m := 0) rfl (fun x63 h64 => ?_)
          refine k_nil ?_
          refine hB _ _ _ _ (kgoC (is := KX3_judgeReturn_46) rfl ?_)
          refine k_aload_n rfl ?_
          obtain ⟨x67, e65, c66, h68, h69⟩ := cg182 H0.1 t17
          refine k_get kg182 t17 e65 ?_
          refine k_iconst (m := 5) rfl (fun x70 h71 => ?_)
          refine k_ic_ne (fun h72 => ?_) (fun h72 => ?_)
          · refine hB _ _ _ _ (kgoC (is := KX3_judgeReturn_58) rfl ?_)
            refine k_iconst (m := 0) rfl (fun x73 h74 => ?_)
            refine k_nil ?_
            refine hB _ _ _ _ (kgoC (is := KX3_judgeReturn_59) rfl ?_)
            refine k_ic_eq (fun h75 => ?_) (fun h75 => by exfalso; omega)
            refine hB _ _ _ _ (kgoC (is := KX3_judgeReturn_78) rfl ?_)
            refine k_aload_n rfl ?_
            refine k_get kg279 h_1_0 (congrArg (fun z : Option Nat => (Sum.inr (Sum.inr z) : AvC)) c19) ?_
            refine k_ifnull (fun hz => by cases hz) (fun _ _ => ?_)
            refine k_nil ?_
            refine hB _ _ _ _ (kgoC (is := KX3_judgeReturn_85) rfl ?_)
            refine k_aload_n rfl ?_
            refine k_aload_n rfl ?_
            refine k_get kg279 h_1_0 (congrArg (fun z : Option Nat => (Sum.inr (Sum.inr z) : AvC)) c19) ?_
            refine k_aload_n rfl ?_
            refine k_get kg182 t17 (congrArg (Sum.inl : Int32 → AvC) c66) ?_
            refine k_stat (P := P_X3_fits) (Q := Q_X3_fits) rfl rfl (Nat.le_of_ble_eq_true rfl) rfl rfl (Nat.le_of_ble_eq_true rfl) ⟨_, _, rfl, H0, t53⟩ (fun w76 σ77 q78 => ?_)
            obtain ⟨x79, rfl, rfl, h80, h81⟩ := q78
            refine k_st (st' := [.inl x79, .inr (.inr (some p0))]) rfl ?_
            refine k_aload_n rfl ?_
            refine k_get kg279 h_1_0 (congrArg (fun z : Option Nat => (Sum.inr (Sum.inr z) : AvC)) c19) ?_
            obtain ⟨x84, e82, c83, h85, h86⟩ := cg62 H0.1 t53
            refine k_get kg62 t53 e82 ?_
            refine k_inv (P := P_X3_isWanted) (Q := Q_X3_isWanted) rfl rfl rfl rfl (Nat.le_of_ble_eq_true rfl) (h_0_0.rc (by decide)) ⟨_, _, _, rfl, H0, h_0_0, (by omega), (by omega), (by omega), (by omega)⟩ (fun w87 σ88 q89 => ?_)
            obtain ⟨x90, rfl, H91, e92, h93, h94⟩ := q89
            refine k_st (st' := [.inl x90]) rfl ?_
            refine k_popI ?_
            refine k_nil ?_
            refine hB _ _ _ _ (kgoC (is := KX3_judgeReturn_108) rfl ?_)
            refine k_return ?_
            have X95 : ExC [217, 218] σ0 σ88 := ExC.rf.tr (e92.mo (by decide))
            exact ⟨rfl, H91, X95⟩
          · refine k_nil ?_
            refine hB _ _ _ _ (kgoC (is := KX3_judgeReturn_54) rfl ?_)
            refine k_iconst (m := 1) rfl (fun x96 h97 => ?_)
            refine k_goto ?_
            refine hB _ _ _ _ (kgoC (is := KX3_judgeReturn_59) rfl ?_)
            refine k_ic_eq (fun h98 => by exfalso; omega) (fun h98 => ?_)
            refine k_nil ?_
            refine hB _ _ _ _ (kgoC (is := KX3_judgeReturn_62) rfl ?_)
            refine k_aload_n rfl ?_
            refine k_get kg121 h_0_0 (congrArg (fun z : Option Nat => (Sum.inr (Sum.inr z) : AvC)) c2) ?_
            refine k_bipush (m := 11) rfl (fun x99 h100 => ?_)
            refine k_aload_n rfl ?_
            obtain ⟨x103, e101, c102, h104, h105⟩ := cg271 H0.1 h_1_0
            refine k_get kg271 h_1_0 e101 ?_
            refine k_inv (P := P_X6_tell) (Q := Q_X6_tell) rfl rfl rfl rfl (Nat.le_of_ble_eq_true rfl) (t4.rc (by decide)) ⟨_, _, _, rfl, H0, t4, (by omega), (by omega), (by omega), (by omega)⟩ (fun w106 σ107 q108 => ?_)
            obtain ⟨rfl, H109, e110⟩ := q108
            refine k_st (st' := []) rfl ?_
            refine k_goto ?_
            refine hB _ _ _ _ (kgoC (is := KX3_judgeReturn_108) rfl ?_)
            refine k_return ?_
            have X111 : ExC [217, 218] σ0 σ107 := ExC.rf.tr (e110.mo (by decide))
            exact ⟨rfl, H109, X111⟩
        · refine k_if_eq (fun h112 => by exfalso; omega) (fun h112 => ?_)
          refine k_nil ?_
          refine hB _ _ _ _ (kgoC (is := KX3_judgeReturn_33) rfl ?_)
          refine k_return ?_
          exact ⟨rfl, H0, (ExC.rf : ExC [217, 218] σ0 σ0)⟩
theorem lg_X3_judgeReturn : ∀ (As : List AvC) (σ : CsC), P_X3_judgeReturn As σ → lgC As ≤ rX3_judgeReturn.2.2.1 := by
  rintro As σ ⟨p0, p1, rfl, -⟩
  exact Nat.le_of_ble_eq_true rfl
theorem m_X3_judgeReturn (l : Launch) : CMetC l 12 86 P_X3_judgeReturn Q_X3_judgeReturn :=
  CMetC.of KX3_judgeReturn [(119, P_X6_methodOf, Q_X6_methodOf), (118, P_X6_tell, Q_X6_tell), (52, P_X3_isFaulty, Q_X3_isFaulty), (75, P_X3_fits, Q_X3_fits), (62, P_X3_isWanted, Q_X3_isWanted)] hX3_judgeReturn (by decide) (by decide) okX3_judgeReturn (cc1C (m_X6_methodOf l) (by decide) (cc1C (m_X6_tell l) (by decide) (cc1C (m_X3_isFaulty l) (by decide) (cc1C (m_X3_fits l) (by decide) (cc1C (m_X3_isWanted l) (by decide) cc0C))))) (lg_X3_judgeReturn) (b_X3_judgeReturn)

abbrev P_X3_judgeStatement : CpC := fun As σ => ∃ (p0 : Nat) (p1 : Nat), As = [.inr (.inr (some p0)), .inr (.inr (some p1))] ∧ HIC σ ∧ TyC σ p0 4 ∧ TyC σ p1 9
abbrev Q_X3_judgeStatement : CqC := fun As σ w τ => match As with
  | [.inr (.inr (some p0)), .inr (.inr (some p1))] => w = none ∧ HIC τ ∧ ExC [217, 218, 281] σ τ
  | _ => False
set_option maxRecDepth 100000 in
set_option maxHeartbeats 4000000 in
theorem b_X3_judgeStatement : TbC KX3_judgeStatement [(85, P_X3_judgeLabel, Q_X3_judgeLabel), (52, P_X3_isFaulty, Q_X3_isFaulty), (62, P_X3_isWanted, Q_X3_isWanted), (81, P_X3_judgeSwitch, Q_X3_judgeSwitch), (83, P_X3_judgeJump, Q_X3_judgeJump), (86, P_X3_judgeReturn, Q_X3_judgeReturn), (75, P_X3_fits, Q_X3_fits), (18, P_X1_acts, Q_X1_acts), (118, P_X6_tell, Q_X6_tell)] P_X3_judgeStatement Q_X3_judgeStatement := by
  · rintro As σ0 ⟨p0, p1, rfl, H0, h_0_0, h_1_0⟩ hgr G hB hW
    change G 0 [(0, .inr (.inr (some p0))), (1, .inr (.inr (some p1)))] [] σ0
    refine hB _ _ _ _ (kgoC (is := KX3_judgeStatement_0) rfl ?_)
    refine k_aload_n rfl ?_
    obtain ⟨x3, e1, c2, h4, h5⟩ := cg270 H0.1 h_1_0
    refine k_get kg270 h_1_0 e1 ?_
    refine k_lsw ?_
    refine k_swc (fun h6 => ?_) (fun h6 => ?_)
    · refine hB _ _ _ _ (kgoC (is := KX3_judgeStatement_209) rfl ?_)
      refine k_aload_n rfl ?_
      refine k_aload_n rfl ?_
      refine k_inv (P := P_X3_judgeLabel) (Q := Q_X3_judgeLabel) rfl rfl rfl rfl (Nat.le_of_ble_eq_true rfl) (h_0_0.rc (by decide)) ⟨_, _, rfl, H0, h_0_0, h_1_0, (by rw [c2]; omega)⟩ (fun w7 σ8 q9 => ?_)
      obtain ⟨rfl, H10, e11⟩ := q9
      refine k_st (st' := []) rfl ?_
      refine k_goto ?_
      refine hB _ _ _ _ (kgoC (is := KX3_judgeStatement_253) rfl ?_)
      refine k_return ?_
      have X12 : ExC [217, 218, 281] σ0 σ8 := ExC.rf.tr (e11.mo (by decide))
      exact ⟨rfl, H10, X12⟩
    refine k_swc (fun h13 => ?_) (fun h13 => ?_)
    · refine hB _ _ _ _ (kgoC (is := KX3_judgeStatement_112) rfl ?_)
      refine k_aload_n rfl ?_
      obtain ⟨o16, e14, c15, t17⟩ := cg279 H0.1 h_1_0
      refine k_get kg279 h_1_0 e14 ?_
      refine k_stat (P := P_X3_isFaulty) (Q := Q_X3_isFaulty) rfl rfl (Nat.le_of_ble_eq_true rfl) rfl rfl (Nat.le_of_ble_eq_true rfl) ⟨o16, rfl, H0, t17⟩ (fun w18 σ19 q20 => ?_)
      obtain ⟨x21, rfl, rfl, h22, h23, q24⟩ := q20
      refine k_st (st' := [.inl x21]) rfl ?_
      rcases (by omega : x21.toInt = 0 ∨ x21.toInt = 1) with g25 | g25
      · obtain ⟨b26, h27⟩ := q24 (by omega)
        subst h27
        have t28 := t17 b26 rfl
        refine k_if_ne (fun h29 => by exfalso; omega) (fun h29 => ?_)
        refine k_nil ?_
        refine hB _ _ _ _ (kgoC (is := KX3_judgeStatement_122) rfl ?_)
        refine k_aload_n rfl ?_
        refine k_aload_n rfl ?_
        refine k_get kg279 h_1_0 (congrArg (fun z : Option Nat => (Sum.inr (Sum.inr z) : AvC)) c15) ?_
        obtain ⟨x32, e30, c31, h33, h34⟩ := cg68 H0.1 t28
        refine k_get kg68 t28 e30 ?_
        refine k_if_ne (fun h35 => ?_) (fun h35 => ?_)
        · refine hB _ _ _ _ (kgoC (is := KX3_judgeStatement_137) rfl ?_)
          refine k_iconst (m := 0) rfl (fun x36 h37 => ?_)
          refine k_nil ?_
          refine hB _ _ _ _ (kgoC (is := KX3_judgeStatement_138) rfl ?_)
          refine k_aload_n rfl ?_
          refine k_get kg279 h_1_0 (congrArg (fun z : Option Nat => (Sum.inr (Sum.inr z) : AvC)) c15) ?_
          obtain ⟨x40, e38, c39, h41, h42⟩ := cg62 H0.1 t28
          refine k_get kg62 t28 e38 ?_
          refine k_inv (P := P_X3_isWanted) (Q := Q_X3_isWanted) rfl rfl rfl rfl (Nat.le_of_ble_eq_true rfl) (h_0_0.rc (by decide)) ⟨_, _, _, rfl, H0, h_0_0, (by omega), (by omega), (by omega), (by omega)⟩ (fun w43 σ44 q45 => ?_)
          obtain ⟨x46, rfl, H47, e48, h49, h50⟩ := q45
          refine k_st (st' := [.inl x46]) rfl ?_
          refine k_popI ?_
          refine k_goto ?_
          refine hB _ _ _ _ (kgoC (is := KX3_judgeStatement_253) rfl ?_)
          refine k_return ?_
          have X51 : ExC [217, 218, 281] σ0 σ44 := ExC.rf.tr (e48.mo (by decide))
          exact ⟨rfl, H47, X51⟩
        · refine k_nil ?_
          refine hB _ _ _ _ (kgoC (is := KX3_judgeStatement_133) rfl ?_)
          refine k_iconst (m := 1) rfl (fun x52 h53 => ?_)
          refine k_goto ?_
          refine hB _ _ _ _ (kgoC (is := KX3_judgeStatement_138) rfl ?_)
          refine k_aload_n rfl ?_
          refine k_get kg279 h_1_0 (congrArg (fun z : Option Nat => (Sum.inr (Sum.inr z) : AvC)) c15) ?_
          obtain ⟨x56, e54, c55, h57, h58⟩ := cg62 H0.1 t28
          refine k_get kg62 t28 e54 ?_
          refine k_inv (P := P_X3_isWanted) (Q := Q_X3_isWanted) rfl rfl rfl rfl (Nat.le_of_ble_eq_true rfl) (h_0_0.rc (by decide)) ⟨_, _, _, rfl, H0, h_0_0, (by omega), (by omega), (by omega), (by omega)⟩ (fun w59 σ60 q61 => ?_)
          obtain ⟨x62, rfl, H63, e64, h65, h66⟩ := q61
          refine k_st (st' := [.inl x62]) rfl ?_
          refine k_popI ?_
          refine k_goto ?_
          refine hB _ _ _ _ (kgoC (is := KX3_judgeStatement_253) rfl ?_)
          refine k_return ?_
          have X67 : ExC [217, 218, 281] σ0 σ60 := ExC.rf.tr (e64.mo (by decide))
          exact ⟨rfl, H63, X67⟩
      · refine k_if_ne (fun h68 => ?_) (fun h68 => by exfalso; omega)
        refine hB _ _ _ _ (kgoC (is := KX3_judgeStatement_253) rfl ?_)
        refine k_return ?_
        exact ⟨rfl, H0, (ExC.rf : ExC [217, 218, 281] σ0 σ0)⟩
    refine k_swc (fun h69 => ?_) (fun h69 => ?_)
    · refine hB _ _ _ _ (kgoC (is := KX3_judgeStatement_112) rfl ?_)
      refine k_aload_n rfl ?_
      obtain ⟨o72, e70, c71, t73⟩ := cg279 H0.1 h_1_0
      refine k_get kg279 h_1_0 e70 ?_
      refine k_stat (P := P_X3_isFaulty) (Q := Q_X3_isFaulty) rfl rfl (Nat.le_of_ble_eq_true rfl) rfl rfl (Nat.le_of_ble_eq_true rfl) ⟨o72, rfl, H0, t73⟩ (fun w74 σ75 q76 => ?_)
      obtain ⟨x77, rfl, rfl, h78, h79, q80⟩ := q76
      refine k_st (st' := [.inl x77]) rfl ?_
      rcases (by omega : x77.toInt = 0 ∨ x77.toInt = 1) with g81 | g81
      · obtain ⟨b82, h83⟩ := q80 (by omega)
        subst h83
        have t84 := t73 b82 rfl
        refine k_if_ne (fun h85 => by exfalso; omega) (fun h85 => ?_)
        refine k_nil ?_
        refine hB _ _ _ _ (kgoC (is := KX3_judgeStatement_122) rfl ?_)
        refine k_aload_n rfl ?_
        refine k_aload_n rfl ?_
        refine k_get kg279 h_1_0 (congrArg (fun z : Option Nat => (Sum.inr (Sum.inr z) : AvC)) c71) ?_
        obtain ⟨x88, e86, c87, h89, h90⟩ := cg68 H0.1 t84
        refine k_get kg68 t84 e86 ?_
        refine k_if_ne (fun h91 => ?_) (fun h91 => ?_)
        · refine hB _ _ _ _ (kgoC (is := KX3_judgeStatement_137) rfl ?_)
          refine k_iconst (m := 0) rfl (fun x92 h93 => ?_)
          refine k_nil ?_
          refine hB _ _ _ _ (kgoC (is := KX3_judgeStatement_138) rfl ?_)
          refine k_aload_n rfl ?_
          refine k_get kg279 h_1_0 (congrArg (fun z : Option Nat => (Sum.inr (Sum.inr z) : AvC)) c71) ?_
          obtain ⟨x96, e94, c95, h97, h98⟩ := cg62 H0.1 t84
          refine k_get kg62 t84 e94 ?_
          refine k_inv (P := P_X3_isWanted) (Q := Q_X3_isWanted) rfl rfl rfl rfl (Nat.le_of_ble_eq_true rfl) (h_0_0.rc (by decide)) ⟨_, _, _, rfl, H0, h_0_0, (by omega), (by omega), (by omega), (by omega)⟩ (fun w99 σ100 q101 => ?_)
          obtain ⟨x102, rfl, H103, e104, h105, h106⟩ := q101
          refine k_st (st' := [.inl x102]) rfl ?_
          refine k_popI ?_
          refine k_goto ?_
          refine hB _ _ _ _ (kgoC (is := KX3_judgeStatement_253) rfl ?_)
          refine k_return ?_
          have X107 : ExC [217, 218, 281] σ0 σ100 := ExC.rf.tr (e104.mo (by decide))
          exact ⟨rfl, H103, X107⟩
        · refine k_nil ?_
          refine hB _ _ _ _ (kgoC (is := KX3_judgeStatement_133) rfl ?_)
          refine k_iconst (m := 1) rfl (fun x108 h109 => ?_)
          refine k_goto ?_
          refine hB _ _ _ _ (kgoC (is := KX3_judgeStatement_138) rfl ?_)
          refine k_aload_n rfl ?_
          refine k_get kg279 h_1_0 (congrArg (fun z : Option Nat => (Sum.inr (Sum.inr z) : AvC)) c71) ?_
          obtain ⟨x112, e110, c111, h113, h114⟩ := cg62 H0.1 t84
          refine k_get kg62 t84 e110 ?_
          refine k_inv (P := P_X3_isWanted) (Q := Q_X3_isWanted) rfl rfl rfl rfl (Nat.le_of_ble_eq_true rfl) (h_0_0.rc (by decide)) ⟨_, _, _, rfl, H0, h_0_0, (by omega), (by omega), (by omega), (by omega)⟩ (fun w115 σ116 q117 => ?_)
          obtain ⟨x118, rfl, H119, e120, h121, h122⟩ := q117
          refine k_st (st' := [.inl x118]) rfl ?_
          refine k_popI ?_
          refine k_goto ?_
          refine hB _ _ _ _ (kgoC (is := KX3_judgeStatement_253) rfl ?_)
          refine k_return ?_
          have X123 : ExC [217, 218, 281] σ0 σ116 := ExC.rf.tr (e120.mo (by decide))
          exact ⟨rfl, H119, X123⟩
      · refine k_if_ne (fun h124 => ?_) (fun h124 => by exfalso; omega)
        refine hB _ _ _ _ (kgoC (is := KX3_judgeStatement_253) rfl ?_)
        refine k_return ?_
        exact ⟨rfl, H0, (ExC.rf : ExC [217, 218, 281] σ0 σ0)⟩
    refine k_swc (fun h125 => ?_) (fun h125 => ?_)
    · refine hB _ _ _ _ (kgoC (is := KX3_judgeStatement_112) rfl ?_)
      refine k_aload_n rfl ?_
      obtain ⟨o128, e126, c127, t129⟩ := cg279 H0.1 h_1_0
      refine k_get kg279 h_1_0 e126 ?_
      refine k_stat (P := P_X3_isFaulty) (Q := Q_X3_isFaulty) rfl rfl (Nat.le_of_ble_eq_true rfl) rfl rfl (Nat.le_of_ble_eq_true rfl) ⟨o128, rfl, H0, t129⟩ (fun w130 σ131 q132 => ?_)
      obtain ⟨x133, rfl, rfl, h134, h135, q136⟩ := q132
      refine k_st (st' := [.inl x133]) rfl ?_
      rcases (by omega : x133.toInt = 0 ∨ x133.toInt = 1) with g137 | g137
      · obtain ⟨b138, h139⟩ := q136 (by omega)
        subst h139
        have t140 := t129 b138 rfl
        refine k_if_ne (fun h141 => by exfalso; omega) (fun h141 => ?_)
        refine k_nil ?_
        refine hB _ _ _ _ (kgoC (is := KX3_judgeStatement_122) rfl ?_)
        refine k_aload_n rfl ?_
        refine k_aload_n rfl ?_
        refine k_get kg279 h_1_0 (congrArg (fun z : Option Nat => (Sum.inr (Sum.inr z) : AvC)) c127) ?_
        obtain ⟨x144, e142, c143, h145, h146⟩ := cg68 H0.1 t140
        refine k_get kg68 t140 e142 ?_
        refine k_if_ne (fun h147 => ?_) (fun h147 => ?_)
        · refine hB _ _ _ _ (kgoC (is := KX3_judgeStatement_137) rfl ?_)
          refine k_iconst (m := 0) rfl (fun x148 h149 => ?_)
          refine k_nil ?_
          refine hB _ _ _ _ (kgoC (is := KX3_judgeStatement_138) rfl ?_)
          refine k_aload_n rfl ?_
          refine k_get kg279 h_1_0 (congrArg (fun z : Option Nat => (Sum.inr (Sum.inr z) : AvC)) c127) ?_
          obtain ⟨x152, e150, c151, h153, h154⟩ := cg62 H0.1 t140
          refine k_get kg62 t140 e150 ?_
          refine k_inv (P := P_X3_isWanted) (Q := Q_X3_isWanted) rfl rfl rfl rfl (Nat.le_of_ble_eq_true rfl) (h_0_0.rc (by decide)) ⟨_, _, _, rfl, H0, h_0_0, (by omega), (by omega), (by omega), (by omega)⟩ (fun w155 σ156 q157 => ?_)
          obtain ⟨x158, rfl, H159, e160, h161, h162⟩ := q157
          refine k_st (st' := [.inl x158]) rfl ?_
          refine k_popI ?_
          refine k_goto ?_
          refine hB _ _ _ _ (kgoC (is := KX3_judgeStatement_253) rfl ?_)
          refine k_return ?_
          have X163 : ExC [217, 218, 281] σ0 σ156 := ExC.rf.tr (e160.mo (by decide))
          exact ⟨rfl, H159, X163⟩
        · refine k_nil ?_
          refine hB _ _ _ _ (kgoC (is := KX3_judgeStatement_133) rfl ?_)
          refine k_iconst (m := 1) rfl (fun x164 h165 => ?_)
          refine k_goto ?_
          refine hB _ _ _ _ (kgoC (is := KX3_judgeStatement_138) rfl ?_)
          refine k_aload_n rfl ?_
          refine k_get kg279 h_1_0 (congrArg (fun z : Option Nat => (Sum.inr (Sum.inr z) : AvC)) c127) ?_
          obtain ⟨x168, e166, c167, h169, h170⟩ := cg62 H0.1 t140
          refine k_get kg62 t140 e166 ?_
          refine k_inv (P := P_X3_isWanted) (Q := Q_X3_isWanted) rfl rfl rfl rfl (Nat.le_of_ble_eq_true rfl) (h_0_0.rc (by decide)) ⟨_, _, _, rfl, H0, h_0_0, (by omega), (by omega), (by omega), (by omega)⟩ (fun w171 σ172 q173 => ?_)
          obtain ⟨x174, rfl, H175, e176, h177, h178⟩ := q173
          refine k_st (st' := [.inl x174]) rfl ?_
          refine k_popI ?_
          refine k_goto ?_
          refine hB _ _ _ _ (kgoC (is := KX3_judgeStatement_253) rfl ?_)
          refine k_return ?_
          have X179 : ExC [217, 218, 281] σ0 σ172 := ExC.rf.tr (e176.mo (by decide))
          exact ⟨rfl, H175, X179⟩
      · refine k_if_ne (fun h180 => ?_) (fun h180 => by exfalso; omega)
        refine hB _ _ _ _ (kgoC (is := KX3_judgeStatement_253) rfl ?_)
        refine k_return ?_
        exact ⟨rfl, H0, (ExC.rf : ExC [217, 218, 281] σ0 σ0)⟩
    refine k_swc (fun h181 => ?_) (fun h181 => ?_)
    · refine hB _ _ _ _ (kgoC (is := KX3_judgeStatement_112) rfl ?_)
      refine k_aload_n rfl ?_
      obtain ⟨o184, e182, c183, t185⟩ := cg279 H0.1 h_1_0
      refine k_get kg279 h_1_0 e182 ?_
      refine k_stat (P := P_X3_isFaulty) (Q := Q_X3_isFaulty) rfl rfl (Nat.le_of_ble_eq_true rfl) rfl rfl (Nat.le_of_ble_eq_true rfl) ⟨o184, rfl, H0, t185⟩ (fun w186 σ187 q188 => ?_)
      obtain ⟨x189, rfl, rfl, h190, h191, q192⟩ := q188
      refine k_st (st' := [.inl x189]) rfl ?_
      rcases (by omega : x189.toInt = 0 ∨ x189.toInt = 1) with g193 | g193
      · obtain ⟨b194, h195⟩ := q192 (by omega)
        subst h195
        have t196 := t185 b194 rfl
        refine k_if_ne (fun h197 => by exfalso; omega) (fun h197 => ?_)
        refine k_nil ?_
        refine hB _ _ _ _ (kgoC (is := KX3_judgeStatement_122) rfl ?_)
        refine k_aload_n rfl ?_
        refine k_aload_n rfl ?_
        refine k_get kg279 h_1_0 (congrArg (fun z : Option Nat => (Sum.inr (Sum.inr z) : AvC)) c183) ?_
        obtain ⟨x200, e198, c199, h201, h202⟩ := cg68 H0.1 t196
        refine k_get kg68 t196 e198 ?_
        refine k_if_ne (fun h203 => ?_) (fun h203 => ?_)
        · refine hB _ _ _ _ (kgoC (is := KX3_judgeStatement_137) rfl ?_)
          refine k_iconst (m := 0) rfl (fun x204 h205 => ?_)
          refine k_nil ?_
          refine hB _ _ _ _ (kgoC (is := KX3_judgeStatement_138) rfl ?_)
          refine k_aload_n rfl ?_
          refine k_get kg279 h_1_0 (congrArg (fun z : Option Nat => (Sum.inr (Sum.inr z) : AvC)) c183) ?_
          obtain ⟨x208, e206, c207, h209, h210⟩ := cg62 H0.1 t196
          refine k_get kg62 t196 e206 ?_
          refine k_inv (P := P_X3_isWanted) (Q := Q_X3_isWanted) rfl rfl rfl rfl (Nat.le_of_ble_eq_true rfl) (h_0_0.rc (by decide)) ⟨_, _, _, rfl, H0, h_0_0, (by omega), (by omega), (by omega), (by omega)⟩ (fun w211 σ212 q213 => ?_)
          obtain ⟨x214, rfl, H215, e216, h217, h218⟩ := q213
          refine k_st (st' := [.inl x214]) rfl ?_
          refine k_popI ?_
          refine k_goto ?_
          refine hB _ _ _ _ (kgoC (is := KX3_judgeStatement_253) rfl ?_)
          refine k_return ?_
          have X219 : ExC [217, 218, 281] σ0 σ212 := ExC.rf.tr (e216.mo (by decide))
          exact ⟨rfl, H215, X219⟩
        · refine k_nil ?_
          refine hB _ _ _ _ (kgoC (is := KX3_judgeStatement_133) rfl ?_)
          refine k_iconst (m := 1) rfl (fun x220 h221 => ?_)
          refine k_goto ?_
          refine hB _ _ _ _ (kgoC (is := KX3_judgeStatement_138) rfl ?_)
          refine k_aload_n rfl ?_
          refine k_get kg279 h_1_0 (congrArg (fun z : Option Nat => (Sum.inr (Sum.inr z) : AvC)) c183) ?_
          obtain ⟨x224, e222, c223, h225, h226⟩ := cg62 H0.1 t196
          refine k_get kg62 t196 e222 ?_
          refine k_inv (P := P_X3_isWanted) (Q := Q_X3_isWanted) rfl rfl rfl rfl (Nat.le_of_ble_eq_true rfl) (h_0_0.rc (by decide)) ⟨_, _, _, rfl, H0, h_0_0, (by omega), (by omega), (by omega), (by omega)⟩ (fun w227 σ228 q229 => ?_)
          obtain ⟨x230, rfl, H231, e232, h233, h234⟩ := q229
          refine k_st (st' := [.inl x230]) rfl ?_
          refine k_popI ?_
          refine k_goto ?_
          refine hB _ _ _ _ (kgoC (is := KX3_judgeStatement_253) rfl ?_)
          refine k_return ?_
          have X235 : ExC [217, 218, 281] σ0 σ228 := ExC.rf.tr (e232.mo (by decide))
          exact ⟨rfl, H231, X235⟩
      · refine k_if_ne (fun h236 => ?_) (fun h236 => by exfalso; omega)
        refine hB _ _ _ _ (kgoC (is := KX3_judgeStatement_253) rfl ?_)
        refine k_return ?_
        exact ⟨rfl, H0, (ExC.rf : ExC [217, 218, 281] σ0 σ0)⟩
    refine k_swc (fun h237 => ?_) (fun h237 => ?_)
    · refine hB _ _ _ _ (kgoC (is := KX3_judgeStatement_152) rfl ?_)
      refine k_aload_n rfl ?_
      refine k_aload_n rfl ?_
      refine k_inv (P := P_X3_judgeSwitch) (Q := Q_X3_judgeSwitch) rfl rfl rfl rfl (Nat.le_of_ble_eq_true rfl) (h_0_0.rc (by decide)) ⟨_, _, rfl, H0, h_0_0, h_1_0⟩ (fun w238 σ239 q240 => ?_)
      obtain ⟨rfl, H241, e242⟩ := q240
      refine k_st (st' := []) rfl ?_
      refine k_goto ?_
      refine hB _ _ _ _ (kgoC (is := KX3_judgeStatement_253) rfl ?_)
      refine k_return ?_
      have X243 : ExC [217, 218, 281] σ0 σ239 := ExC.rf.tr (e242.mo (by decide))
      exact ⟨rfl, H241, X243⟩
    refine k_swc (fun h244 => ?_) (fun h244 => ?_)
    · refine hB _ _ _ _ (kgoC (is := KX3_judgeStatement_160) rfl ?_)
      refine k_aload_n rfl ?_
      refine k_aload_n rfl ?_
      refine k_inv (P := P_X3_judgeJump) (Q := Q_X3_judgeJump) rfl rfl rfl rfl (Nat.le_of_ble_eq_true rfl) (h_0_0.rc (by decide)) ⟨_, _, rfl, H0, h_0_0, h_1_0⟩ (fun w245 σ246 q247 => ?_)
      obtain ⟨rfl, H248, e249⟩ := q247
      refine k_st (st' := []) rfl ?_
      refine k_goto ?_
      refine hB _ _ _ _ (kgoC (is := KX3_judgeStatement_253) rfl ?_)
      refine k_return ?_
      have X250 : ExC [217, 218, 281] σ0 σ246 := ExC.rf.tr (e249.mo (by decide))
      exact ⟨rfl, H248, X250⟩
    refine k_swc (fun h251 => ?_) (fun h251 => ?_)
    · refine hB _ _ _ _ (kgoC (is := KX3_judgeStatement_160) rfl ?_)
      refine k_aload_n rfl ?_
      refine k_aload_n rfl ?_
      refine k_inv (P := P_X3_judgeJump) (Q := Q_X3_judgeJump) rfl rfl rfl rfl (Nat.le_of_ble_eq_true rfl) (h_0_0.rc (by decide)) ⟨_, _, rfl, H0, h_0_0, h_1_0⟩ (fun w252 σ253 q254 => ?_)
      obtain ⟨rfl, H255, e256⟩ := q254
      refine k_st (st' := []) rfl ?_
      refine k_goto ?_
      refine hB _ _ _ _ (kgoC (is := KX3_judgeStatement_253) rfl ?_)
      refine k_return ?_
      have X257 : ExC [217, 218, 281] σ0 σ253 := ExC.rf.tr (e256.mo (by decide))
      exact ⟨rfl, H255, X257⟩
    refine k_swc (fun h258 => ?_) (fun h258 => ?_)
    · refine hB _ _ _ _ (kgoC (is := KX3_judgeStatement_168) rfl ?_)
      refine k_aload_n rfl ?_
      refine k_aload_n rfl ?_
      refine k_inv (P := P_X3_judgeReturn) (Q := Q_X3_judgeReturn) rfl rfl rfl rfl (Nat.le_of_ble_eq_true rfl) (h_0_0.rc (by decide)) ⟨_, _, rfl, H0, h_0_0, h_1_0⟩ (fun w259 σ260 q261 => ?_)
      obtain ⟨rfl, H262, e263⟩ := q261
      refine k_st (st' := []) rfl ?_
      refine k_goto ?_
      refine hB _ _ _ _ (kgoC (is := KX3_judgeStatement_253) rfl ?_)
      refine k_return ?_
      have X264 : ExC [217, 218, 281] σ0 σ260 := ExC.rf.tr (e263.mo (by decide))
      exact ⟨rfl, H262, X264⟩
    refine k_swc (fun h265 => ?_) (fun h265 => ?_)
    · refine hB _ _ _ _ (kgoC (is := KX3_judgeStatement_176) rfl ?_)
      refine k_aload_n rfl ?_
      obtain ⟨o268, e266, c267, t269⟩ := cg279 H0.1 h_1_0
      refine k_get kg279 h_1_0 e266 ?_
      refine k_stat (P := P_X3_isFaulty) (Q := Q_X3_isFaulty) rfl rfl (Nat.le_of_ble_eq_true rfl) rfl rfl (Nat.le_of_ble_eq_true rfl) ⟨o268, rfl, H0, t269⟩ (fun w270 σ271 q272 => ?_)
      obtain ⟨x273, rfl, rfl, h274, h275, q276⟩ := q272
      refine k_st (st' := [.inl x273]) rfl ?_
      rcases (by omega : x273.toInt = 0 ∨ x273.toInt = 1) with g277 | g277
      · obtain ⟨b278, h279⟩ := q276 (by omega)
        subst h279
        have t280 := t269 b278 rfl
        refine k_if_ne (fun h281 => by exfalso; omega) (fun h281 => ?_)
        refine k_nil ?_
        refine hB _ _ _ _ (kgoC (is := KX3_judgeStatement_186) rfl ?_)
        refine k_aload_n rfl ?_
        refine k_aload_n rfl ?_
        refine k_get kg279 h_1_0 (congrArg (fun z : Option Nat => (Sum.inr (Sum.inr z) : AvC)) c267) ?_
        refine k_iconst (m := 3) rfl (fun x282 h283 => ?_)
        refine k_stat (P := P_X3_fits) (Q := Q_X3_fits) rfl rfl (Nat.le_of_ble_eq_true rfl) rfl rfl (Nat.le_of_ble_eq_true rfl) ⟨_, _, rfl, H0, t280⟩ (fun w284 σ285 q286 => ?_)
        obtain ⟨x287, rfl, rfl, h288, h289⟩ := q286
        refine k_st (st' := [.inl x287, .inr (.inr (some p0))]) rfl ?_
        refine k_aload_n rfl ?_
        refine k_get kg279 h_1_0 (congrArg (fun z : Option Nat => (Sum.inr (Sum.inr z) : AvC)) c267) ?_
        obtain ⟨x292, e290, c291, h293, h294⟩ := cg62 H0.1 t280
        refine k_get kg62 t280 e290 ?_
        refine k_inv (P := P_X3_isWanted) (Q := Q_X3_isWanted) rfl rfl rfl rfl (Nat.le_of_ble_eq_true rfl) (h_0_0.rc (by decide)) ⟨_, _, _, rfl, H0, h_0_0, (by omega), (by omega), (by omega), (by omega)⟩ (fun w295 σ296 q297 => ?_)
        obtain ⟨x298, rfl, H299, e300, h301, h302⟩ := q297
        refine k_st (st' := [.inl x298]) rfl ?_
        refine k_popI ?_
        refine k_goto ?_
        refine hB _ _ _ _ (kgoC (is := KX3_judgeStatement_253) rfl ?_)
        refine k_return ?_
        have X303 : ExC [217, 218, 281] σ0 σ296 := ExC.rf.tr (e300.mo (by decide))
        exact ⟨rfl, H299, X303⟩
      · refine k_if_ne (fun h304 => ?_) (fun h304 => by exfalso; omega)
        refine hB _ _ _ _ (kgoC (is := KX3_judgeStatement_253) rfl ?_)
        refine k_return ?_
        exact ⟨rfl, H0, (ExC.rf : ExC [217, 218, 281] σ0 σ0)⟩
    refine k_swc (fun h305 => ?_) (fun h305 => ?_)
    · refine hB _ _ _ _ (kgoC (is := KX3_judgeStatement_217) rfl ?_)
      refine k_aload_n rfl ?_
      obtain ⟨o308, e306, c307, t309⟩ := cg279 H0.1 h_1_0
      refine k_get kg279 h_1_0 e306 ?_
      refine k_ifnull (fun h311 => ?_) (fun b310 h311 => ?_)
      · subst h311
        refine hB _ _ _ _ (kgoC (is := KX3_judgeStatement_253) rfl ?_)
        refine k_return ?_
        exact ⟨rfl, H0, (ExC.rf : ExC [217, 218, 281] σ0 σ0)⟩
      · subst h311
        have t312 := t309 b310 rfl
        refine k_nil ?_
        refine hB _ _ _ _ (kgoC (is := KX3_judgeStatement_224) rfl ?_)
        refine k_aload_n rfl ?_
        refine k_get kg279 h_1_0 (congrArg (fun z : Option Nat => (Sum.inr (Sum.inr z) : AvC)) c307) ?_
        refine k_inv (P := P_X1_acts) (Q := Q_X1_acts) rfl rfl rfl rfl (Nat.le_of_ble_eq_true rfl) (t312.rc (by decide)) ⟨_, rfl, H0, t312⟩ (fun w313 σ314 q315 => ?_)
        obtain ⟨x316, rfl, rfl, h317, h318⟩ := q315
        refine k_st (st' := [.inl x316]) rfl ?_
        refine k_if_ne (fun h319 => ?_) (fun h319 => ?_)
        · refine hB _ _ _ _ (kgoC (is := KX3_judgeStatement_253) rfl ?_)
          refine k_return ?_
          exact ⟨rfl, H0, (ExC.rf : ExC [217, 218, 281] σ0 σ0)⟩
        · refine k_nil ?_
          refine hB _ _ _ _ (kgoC (is := KX3_judgeStatement_234) rfl ?_)
          refine k_aload_n rfl ?_
          obtain ⟨a322, e320, c321, t323⟩ := cg121 H0.1 h_0_0
          refine k_get kg121 h_0_0 e320 ?_
          refine k_bipush (m := 12) rfl (fun x324 h325 => ?_)
          refine k_aload_n rfl ?_
          refine k_get kg279 h_1_0 (congrArg (fun z : Option Nat => (Sum.inr (Sum.inr z) : AvC)) c307) ?_
          obtain ⟨x328, e326, c327, h329, h330⟩ := cg62 H0.1 t312
          refine k_get kg62 t312 e326 ?_
          refine k_inv (P := P_X6_tell) (Q := Q_X6_tell) rfl rfl rfl rfl (Nat.le_of_ble_eq_true rfl) (t323.rc (by decide)) ⟨_, _, _, rfl, H0, t323, (by omega), (by omega), (by omega), (by omega)⟩ (fun w331 σ332 q333 => ?_)
          obtain ⟨rfl, H334, e335⟩ := q333
          refine k_st (st' := []) rfl ?_
          refine k_goto ?_
          refine hB _ _ _ _ (kgoC (is := KX3_judgeStatement_253) rfl ?_)
          refine k_return ?_
          have X336 : ExC [217, 218, 281] σ0 σ332 := ExC.rf.tr (e335.mo (by decide))
          exact ⟨rfl, H334, X336⟩
    refine k_swc (fun h337 => ?_) (fun h337 => ?_)
    · refine hB _ _ _ _ (kgoC (is := KX3_judgeStatement_217) rfl ?_)
      refine k_aload_n rfl ?_
      obtain ⟨o340, e338, c339, t341⟩ := cg279 H0.1 h_1_0
      refine k_get kg279 h_1_0 e338 ?_
      refine k_ifnull (fun h343 => ?_) (fun b342 h343 => ?_)
      · subst h343
        refine hB _ _ _ _ (kgoC (is := KX3_judgeStatement_253) rfl ?_)
        refine k_return ?_
        exact ⟨rfl, H0, (ExC.rf : ExC [217, 218, 281] σ0 σ0)⟩
      · subst h343
        have t344 := t341 b342 rfl
        refine k_nil ?_
        refine hB _ _ _ _ (kgoC (is := KX3_judgeStatement_224) rfl ?_)
        refine k_aload_n rfl ?_
        refine k_get kg279 h_1_0 (congrArg (fun z : Option Nat => (Sum.inr (Sum.inr z) : AvC)) c339) ?_
        refine k_inv (P := P_X1_acts) (Q := Q_X1_acts) rfl rfl rfl rfl (Nat.le_of_ble_eq_true rfl) (t344.rc (by decide)) ⟨_, rfl, H0, t344⟩ (fun w345 σ346 q347 => ?_)
        obtain ⟨x348, rfl, rfl, h349, h350⟩ := q347
        refine k_st (st' := [.inl x348]) rfl ?_
        refine k_if_ne (fun h351 => ?_) (fun h351 => ?_)
        · refine hB _ _ _ _ (kgoC (is := KX3_judgeStatement_253) rfl ?_)
          refine k_return ?_
          exact ⟨rfl, H0, (ExC.rf : ExC [217, 218, 281] σ0 σ0)⟩
        · refine k_nil ?_
          refine hB _ _ _ _ (kgoC (is := KX3_judgeStatement_234) rfl ?_)
          refine k_aload_n rfl ?_
          obtain ⟨a354, e352, c353, t355⟩ := cg121 H0.1 h_0_0
          refine k_get kg121 h_0_0 e352 ?_
          refine k_bipush (m := 12) rfl (fun x356 h357 => ?_)
          refine k_aload_n rfl ?_
          refine k_get kg279 h_1_0 (congrArg (fun z : Option Nat => (Sum.inr (Sum.inr z) : AvC)) c339) ?_
          obtain ⟨x360, e358, c359, h361, h362⟩ := cg62 H0.1 t344
          refine k_get kg62 t344 e358 ?_
          refine k_inv (P := P_X6_tell) (Q := Q_X6_tell) rfl rfl rfl rfl (Nat.le_of_ble_eq_true rfl) (t355.rc (by decide)) ⟨_, _, _, rfl, H0, t355, (by omega), (by omega), (by omega), (by omega)⟩ (fun w363 σ364 q365 => ?_)
          obtain ⟨rfl, H366, e367⟩ := q365
          refine k_st (st' := []) rfl ?_
          refine k_goto ?_
          refine hB _ _ _ _ (kgoC (is := KX3_judgeStatement_253) rfl ?_)
          refine k_return ?_
          have X368 : ExC [217, 218, 281] σ0 σ364 := ExC.rf.tr (e367.mo (by decide))
          exact ⟨rfl, H366, X368⟩
    refine k_swn ?_
    refine hB _ _ _ _ (kgoC (is := KX3_judgeStatement_253) rfl ?_)
    refine k_return ?_
    exact ⟨rfl, H0, (ExC.rf : ExC [217, 218, 281] σ0 σ0)⟩
theorem lg_X3_judgeStatement : ∀ (As : List AvC) (σ : CsC), P_X3_judgeStatement As σ → lgC As ≤ rX3_judgeStatement.2.2.1 := by
  rintro As σ ⟨p0, p1, rfl, -⟩
  exact Nat.le_of_ble_eq_true rfl
theorem m_X3_judgeStatement (l : Launch) : CMetC l 13 80 P_X3_judgeStatement Q_X3_judgeStatement :=
  CMetC.of KX3_judgeStatement [(85, P_X3_judgeLabel, Q_X3_judgeLabel), (52, P_X3_isFaulty, Q_X3_isFaulty), (62, P_X3_isWanted, Q_X3_isWanted), (81, P_X3_judgeSwitch, Q_X3_judgeSwitch), (83, P_X3_judgeJump, Q_X3_judgeJump), (86, P_X3_judgeReturn, Q_X3_judgeReturn), (75, P_X3_fits, Q_X3_fits), (18, P_X1_acts, Q_X1_acts), (118, P_X6_tell, Q_X6_tell)] hX3_judgeStatement (by decide) (by decide) okX3_judgeStatement (cc1C (m_X3_judgeLabel l) (by decide) (cc1C (m_X3_isFaulty l) (by decide) (cc1C (m_X3_isWanted l) (by decide) (cc1C (m_X3_judgeSwitch l) (by decide) (cc1C (m_X3_judgeJump l) (by decide) (cc1C (m_X3_judgeReturn l) (by decide) (cc1C (m_X3_fits l) (by decide) (cc1C (m_X1_acts l) (by decide) (cc1C (m_X6_tell l) (by decide) cc0C))))))))) (lg_X3_judgeStatement) (b_X3_judgeStatement)
