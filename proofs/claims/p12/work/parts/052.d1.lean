abbrev P_X11_has : CpC := fun As σ => ∃ (p0 : Int64) (p1 : Int32), As = [.inr (.inl p0), .inl p1] ∧ HIC σ
abbrev Q_X11_has : CqC := fun As σ w τ => match As with
  | [.inr (.inl p0), .inl p1] => ∃ r : Int32, w = some (.inl r) ∧ σ = τ ∧ 0 ≤ r.toInt ∧ r.toInt ≤ 1
  | _ => False
set_option maxRecDepth 100000 in
set_option maxHeartbeats 4000000 in
theorem b_X11_has : TbC KX11_has [] P_X11_has Q_X11_has := by
  · rintro As σ0 ⟨p0, p1, rfl, H0⟩ hgr G hB hW
    change G 0 [(0, .inr (.inl p0)), (2, .inl p1)] [] σ0
    refine hB _ _ _ _ (kgoC (is := KX11_has_0) rfl ?_)
    refine k_lload_n rfl ?_
    refine k_iload_n rfl ?_
    refine k_lushr (fun y1 => ?_)
    refine k_lconst ?_
    refine k_land (fun y2 => ?_)
    refine k_lconst ?_
    refine k_lcmp (fun x3 h4 g5 => ?_)
    refine k_if_eq (fun h6 => ?_) (fun h6 => ?_)
    · refine hB _ _ _ _ (kgoC (is := KX11_has_14) rfl ?_)
      refine k_iconst (m := 0) rfl (fun x7 h8 => ?_)
      refine k_nil ?_
      refine hB _ _ _ _ (kgoC (is := KX11_has_15) rfl ?_)
      refine k_ireturn (fun _ => b01C (by omega) (by omega)) ?_
      exact ⟨_, rfl, rfl, (by omega), (by omega)⟩
    · refine k_nil ?_
      refine hB _ _ _ _ (kgoC (is := KX11_has_10) rfl ?_)
      refine k_iconst (m := 1) rfl (fun x9 h10 => ?_)
      refine k_goto ?_
      refine hB _ _ _ _ (kgoC (is := KX11_has_15) rfl ?_)
      refine k_ireturn (fun _ => b01C (by omega) (by omega)) ?_
      exact ⟨_, rfl, rfl, (by omega), (by omega)⟩
theorem lg_X11_has : ∀ (As : List AvC) (σ : CsC), P_X11_has As σ → lgC As ≤ rX11_has.2.2.1 := by
  rintro As σ ⟨p0, p1, rfl, -⟩
  exact Nat.le_of_ble_eq_true rfl
theorem m_X11_has (l : Launch) : CMetC l 1 221 P_X11_has Q_X11_has :=
  CMetC.of KX11_has [] hX11_has (by decide) (by decide) okX11_has cc0C (lg_X11_has) (b_X11_has)

abbrev P_X11_bit : CpC := fun As σ => ∃ (p0 : Int32), As = [.inl p0] ∧ HIC σ
abbrev Q_X11_bit : CqC := fun As σ w τ => match As with
  | [.inl p0] => ∃ r : Int64, w = some (.inr (.inl r)) ∧ σ = τ
  | _ => False
set_option maxRecDepth 100000 in
set_option maxHeartbeats 4000000 in
theorem b_X11_bit : TbC KX11_bit [] P_X11_bit Q_X11_bit := by
  · rintro As σ0 ⟨p0, rfl, H0⟩ hgr G hB hW
    change G 0 [(0, .inl p0)] [] σ0
    refine hB _ _ _ _ (kgoC (is := KX11_bit_0) rfl ?_)
    refine k_lconst ?_
    refine k_iload_n rfl ?_
    refine k_lshl (fun y1 => ?_)
    refine k_lreturn ?_
    exact ⟨_, rfl, rfl⟩
theorem lg_X11_bit : ∀ (As : List AvC) (σ : CsC), P_X11_bit As σ → lgC As ≤ rX11_bit.2.2.1 := by
  rintro As σ ⟨p0, rfl, -⟩
  exact Nat.le_of_ble_eq_true rfl
theorem m_X11_bit (l : Launch) : CMetC l 1 222 P_X11_bit Q_X11_bit :=
  CMetC.of KX11_bit [] hX11_bit (by decide) (by decide) okX11_bit cc0C (lg_X11_bit) (b_X11_bit)

abbrev P_X11_isNumber : CpC := fun As σ => ∃ (p0 : Int32), As = [.inl p0] ∧ HIC σ
abbrev Q_X11_isNumber : CqC := fun As σ w τ => match As with
  | [.inl p0] => ∃ r : Int32, w = some (.inl r) ∧ σ = τ ∧ 0 ≤ r.toInt ∧ r.toInt ≤ 1
  | _ => False
set_option maxRecDepth 100000 in
set_option maxHeartbeats 4000000 in
theorem b_X11_isNumber : TbC KX11_isNumber [] P_X11_isNumber Q_X11_isNumber := by
  · rintro As σ0 ⟨p0, rfl, H0⟩ hgr G hB hW
    change G 0 [(0, .inl p0)] [] σ0
    refine hB _ _ _ _ (kgoC (is := KX11_isNumber_0) rfl ?_)
    refine k_iload_n rfl ?_
    refine k_iconst (m := 1) rfl (fun x1 h2 => ?_)
    refine k_ic_lt (fun h3 => ?_) (fun h3 => ?_)
    · refine hB _ _ _ _ (kgoC (is := KX11_isNumber_14) rfl ?_)
      refine k_iconst (m := 0) rfl (fun x4 h5 => ?_)
      refine k_nil ?_
      refine hB _ _ _ _ (kgoC (is := KX11_isNumber_15) rfl ?_)
      refine k_ireturn (fun _ => b01C (by omega) (by omega)) ?_
      exact ⟨_, rfl, rfl, (by omega), (by omega)⟩
    · refine k_nil ?_
      refine hB _ _ _ _ (kgoC (is := KX11_isNumber_5) rfl ?_)
      refine k_iload_n rfl ?_
      refine k_iconst (m := 4) rfl (fun x6 h7 => ?_)
      refine k_ic_gt (fun h8 => ?_) (fun h8 => ?_)
      · refine hB _ _ _ _ (kgoC (is := KX11_isNumber_14) rfl ?_)
        refine k_iconst (m := 0) rfl (fun x9 h10 => ?_)
        refine k_nil ?_
        refine hB _ _ _ _ (kgoC (is := KX11_isNumber_15) rfl ?_)
        refine k_ireturn (fun _ => b01C (by omega) (by omega)) ?_
        exact ⟨_, rfl, rfl, (by omega), (by omega)⟩
      · refine k_nil ?_
        refine hB _ _ _ _ (kgoC (is := KX11_isNumber_10) rfl ?_)
        refine k_iconst (m := 1) rfl (fun x11 h12 => ?_)
        refine k_goto ?_
        refine hB _ _ _ _ (kgoC (is := KX11_isNumber_15) rfl ?_)
        refine k_ireturn (fun _ => b01C (by omega) (by omega)) ?_
        exact ⟨_, rfl, rfl, (by omega), (by omega)⟩
theorem lg_X11_isNumber : ∀ (As : List AvC) (σ : CsC), P_X11_isNumber As σ → lgC As ≤ rX11_isNumber.2.2.1 := by
  rintro As σ ⟨p0, rfl, -⟩
  exact Nat.le_of_ble_eq_true rfl
theorem m_X11_isNumber (l : Launch) : CMetC l 1 223 P_X11_isNumber Q_X11_isNumber :=
  CMetC.of KX11_isNumber [] hX11_isNumber (by decide) (by decide) okX11_isNumber cc0C (lg_X11_isNumber) (b_X11_isNumber)

abbrev P_X11_sameOrWidens : CpC := fun As σ => ∃ (p0 : Int32) (p1 : Int32), As = [.inl p0, .inl p1] ∧ HIC σ
abbrev Q_X11_sameOrWidens : CqC := fun As σ w τ => match As with
  | [.inl p0, .inl p1] => ∃ r : Int32, w = some (.inl r) ∧ σ = τ ∧ 0 ≤ r.toInt ∧ r.toInt ≤ 1
  | _ => False
set_option maxRecDepth 100000 in
set_option maxHeartbeats 4000000 in
theorem b_X11_sameOrWidens : TbC KX11_sameOrWidens [] P_X11_sameOrWidens Q_X11_sameOrWidens := by
  · rintro As σ0 ⟨p0, p1, rfl, H0⟩ hgr G hB hW
    change G 0 [(0, .inl p0), (1, .inl p1)] [] σ0
    refine hB _ _ _ _ (kgoC (is := KX11_sameOrWidens_0) rfl ?_)
    refine k_iload_n rfl ?_
    refine k_iconst (m := 1) rfl (fun x1 h2 => ?_)
    refine k_ic_eq (fun h3 => ?_) (fun h3 => ?_)
    · refine hB _ _ _ _ (kgoC (is := KX11_sameOrWidens_10) rfl ?_)
      refine k_iconst (m := 1) rfl (fun x4 h5 => ?_)
      refine k_goto ?_
      refine hB _ _ _ _ (kgoC (is := KX11_sameOrWidens_15) rfl ?_)
      refine k_istore_n (ls' := [(2, .inl x4), (0, .inl p0), (1, .inl p1)]) rfl ?_
      refine k_iload_n rfl ?_
      refine k_iload_n rfl ?_
      refine k_ic_eq (fun h6 => ?_) (fun h6 => ?_)
      · refine hB _ _ _ _ (kgoC (is := KX11_sameOrWidens_44) rfl ?_)
        refine k_iconst (m := 1) rfl (fun x7 h8 => ?_)
        refine k_goto ?_
        refine hB _ _ _ _ (kgoC (is := KX11_sameOrWidens_49) rfl ?_)
        refine k_ireturn (fun _ => b01C (by omega) (by omega)) ?_
        exact ⟨_, rfl, rfl, (by omega), (by omega)⟩
      · refine k_nil ?_
        refine hB _ _ _ _ (kgoC (is := KX11_sameOrWidens_21) rfl ?_)
        refine k_iload_n rfl ?_
        refine k_if_eq (fun h9 => by exfalso; omega) (fun h9 => ?_)
        refine k_nil ?_
        refine hB _ _ _ _ (kgoC (is := KX11_sameOrWidens_25) rfl ?_)
        refine k_iload_n rfl ?_
        refine k_iconst (m := 3) rfl (fun x10 h11 => ?_)
        refine k_ic_eq (fun h12 => ?_) (fun h12 => ?_)
        · refine hB _ _ _ _ (kgoC (is := KX11_sameOrWidens_44) rfl ?_)
          refine k_iconst (m := 1) rfl (fun x13 h14 => ?_)
          refine k_goto ?_
          refine hB _ _ _ _ (kgoC (is := KX11_sameOrWidens_49) rfl ?_)
          refine k_ireturn (fun _ => b01C (by omega) (by omega)) ?_
          exact ⟨_, rfl, rfl, (by omega), (by omega)⟩
        · refine k_nil ?_
          refine hB _ _ _ _ (kgoC (is := KX11_sameOrWidens_30) rfl ?_)
          refine k_iload_n rfl ?_
          refine k_if_ne (fun h15 => ?_) (fun h15 => by exfalso; omega)
          refine hB _ _ _ _ (kgoC (is := KX11_sameOrWidens_39) rfl ?_)
          refine k_iload_n rfl ?_
          refine k_iconst (m := 4) rfl (fun x16 h17 => ?_)
          refine k_ic_ne (fun h18 => ?_) (fun h18 => ?_)
          · refine hB _ _ _ _ (kgoC (is := KX11_sameOrWidens_48) rfl ?_)
            refine k_iconst (m := 0) rfl (fun x19 h20 => ?_)
            refine k_nil ?_
            refine hB _ _ _ _ (kgoC (is := KX11_sameOrWidens_49) rfl ?_)
            refine k_ireturn (fun _ => b01C (by omega) (by omega)) ?_
            exact ⟨_, rfl, rfl, (by omega), (by omega)⟩
          · refine k_nil ?_
            refine hB _ _ _ _ (kgoC (is := KX11_sameOrWidens_44) rfl ?_)
            refine k_iconst (m := 1) rfl (fun x21 h22 => ?_)
            refine k_goto ?_
            refine hB _ _ _ _ (kgoC (is := KX11_sameOrWidens_49) rfl ?_)
            refine k_ireturn (fun _ => b01C (by omega) (by omega)) ?_
            exact ⟨_, rfl, rfl, (by omega), (by omega)⟩
    · refine k_nil ?_
      refine hB _ _ _ _ (kgoC (is := KX11_sameOrWidens_5) rfl ?_)
      refine k_iload_n rfl ?_
      refine k_iconst (m := 2) rfl (fun x23 h24 => ?_)
      refine k_ic_ne (fun h25 => ?_) (fun h25 => ?_)
      · refine hB _ _ _ _ (kgoC (is := KX11_sameOrWidens_14) rfl ?_)
        refine k_iconst (m := 0) rfl (fun x26 h27 => ?_)
        refine k_nil ?_
        refine hB _ _ _ _ (kgoC (is := KX11_sameOrWidens_15) rfl ?_)
        refine k_istore_n (ls' := [(2, .inl x26), (0, .inl p0), (1, .inl p1)]) rfl ?_
        refine k_iload_n rfl ?_
        refine k_iload_n rfl ?_
        refine k_ic_eq (fun h28 => ?_) (fun h28 => ?_)
        · refine hB _ _ _ _ (kgoC (is := KX11_sameOrWidens_44) rfl ?_)
          refine k_iconst (m := 1) rfl (fun x29 h30 => ?_)
          refine k_goto ?_
          refine hB _ _ _ _ (kgoC (is := KX11_sameOrWidens_49) rfl ?_)
          refine k_ireturn (fun _ => b01C (by omega) (by omega)) ?_
          exact ⟨_, rfl, rfl, (by omega), (by omega)⟩
        · refine k_nil ?_
          refine hB _ _ _ _ (kgoC (is := KX11_sameOrWidens_21) rfl ?_)
          refine k_iload_n rfl ?_
          refine k_if_eq (fun h31 => ?_) (fun h31 => by exfalso; omega)
          refine hB _ _ _ _ (kgoC (is := KX11_sameOrWidens_30) rfl ?_)
          refine k_iload_n rfl ?_
          refine k_if_ne (fun h32 => by exfalso; omega) (fun h32 => ?_)
          refine k_nil ?_
          refine hB _ _ _ _ (kgoC (is := KX11_sameOrWidens_34) rfl ?_)
          refine k_iload_n rfl ?_
          refine k_iconst (m := 3) rfl (fun x33 h34 => ?_)
          refine k_ic_ne (fun h35 => ?_) (fun h35 => ?_)
          · refine hB _ _ _ _ (kgoC (is := KX11_sameOrWidens_48) rfl ?_)
            refine k_iconst (m := 0) rfl (fun x36 h37 => ?_)
            refine k_nil ?_
            refine hB _ _ _ _ (kgoC (is := KX11_sameOrWidens_49) rfl ?_)
            refine k_ireturn (fun _ => b01C (by omega) (by omega)) ?_
            exact ⟨_, rfl, rfl, (by omega), (by omega)⟩
          · refine k_nil ?_
            refine hB _ _ _ _ (kgoC (is := KX11_sameOrWidens_39) rfl ?_)
            refine k_iload_n rfl ?_
            refine k_iconst (m := 4) rfl (fun x38 h39 => ?_)
            refine k_ic_ne (fun h40 => ?_) (fun h40 => ?_)
            · refine hB _ _ _ _ (kgoC (is := KX11_sameOrWidens_48) rfl ?_)
              refine k_iconst (m := 0) rfl (fun x41 h42 => ?_)
              refine k_nil ?_
              refine hB _ _ _ _ (kgoC (is := KX11_sameOrWidens_49) rfl ?_)
              refine k_ireturn (fun _ => b01C (by omega) (by omega)) ?_
              exact ⟨_, rfl, rfl, (by omega), (by omega)⟩
            · refine k_nil ?_
              refine hB _ _ _ _ (kgoC (is := KX11_sameOrWidens_44) rfl ?_)
              refine k_iconst (m := 1) rfl (fun x43 h44 => ?_)
              refine k_goto ?_
              refine hB _ _ _ _ (kgoC (is := KX11_sameOrWidens_49) rfl ?_)
              refine k_ireturn (fun _ => b01C (by omega) (by omega)) ?_
              exact ⟨_, rfl, rfl, (by omega), (by omega)⟩
      · refine k_nil ?_
        refine hB _ _ _ _ (kgoC (is := KX11_sameOrWidens_10) rfl ?_)
        refine k_iconst (m := 1) rfl (fun x45 h46 => ?_)
        refine k_goto ?_
        refine hB _ _ _ _ (kgoC (is := KX11_sameOrWidens_15) rfl ?_)
        refine k_istore_n (ls' := [(2, .inl x45), (0, .inl p0), (1, .inl p1)]) rfl ?_
        refine k_iload_n rfl ?_
        refine k_iload_n rfl ?_
        refine k_ic_eq (fun h47 => ?_) (fun h47 => ?_)
        · refine hB _ _ _ _ (kgoC (is := KX11_sameOrWidens_44) rfl ?_)
          refine k_iconst (m := 1) rfl (fun x48 h49 => ?_)
          refine k_goto ?_
          refine hB _ _ _ _ (kgoC (is := KX11_sameOrWidens_49) rfl ?_)
          refine k_ireturn (fun _ => b01C (by omega) (by omega)) ?_
          exact ⟨_, rfl, rfl, (by omega), (by omega)⟩
        · refine k_nil ?_
          refine hB _ _ _ _ (kgoC (is := KX11_sameOrWidens_21) rfl ?_)
          refine k_iload_n rfl ?_
          refine k_if_eq (fun h50 => by exfalso; omega) (fun h50 => ?_)
          refine k_nil ?_
          refine hB _ _ _ _ (kgoC (is := KX11_sameOrWidens_25) rfl ?_)
          refine k_iload_n rfl ?_
          refine k_iconst (m := 3) rfl (fun x51 h52 => ?_)
          refine k_ic_eq (fun h53 => ?_) (fun h53 => ?_)
          · refine hB _ _ _ _ (kgoC (is := KX11_sameOrWidens_44) rfl ?_)
            refine k_iconst (m := 1) rfl (fun x54 h55 => ?_)
            refine k_goto ?_
            refine hB _ _ _ _ (kgoC (is := KX11_sameOrWidens_49) rfl ?_)
            refine k_ireturn (fun _ => b01C (by omega) (by omega)) ?_
            exact ⟨_, rfl, rfl, (by omega), (by omega)⟩
          · refine k_nil ?_
            refine hB _ _ _ _ (kgoC (is := KX11_sameOrWidens_30) rfl ?_)
            refine k_iload_n rfl ?_
            refine k_if_ne (fun h56 => ?_) (fun h56 => by exfalso; omega)
            refine hB _ _ _ _ (kgoC (is := KX11_sameOrWidens_39) rfl ?_)
            refine k_iload_n rfl ?_
            refine k_iconst (m := 4) rfl (fun x57 h58 => ?_)
            refine k_ic_ne (fun h59 => ?_) (fun h59 => ?_)
            · refine hB _ _ _ _ (kgoC (is := KX11_sameOrWidens_48) rfl ?_)
              refine k_iconst (m := 0) rfl (fun x60 h61 => ?_)
              refine k_nil ?_
              refine hB _ _ _ _ (kgoC (is := KX11_sameOrWidens_49) rfl ?_)
              refine k_ireturn (fun _ => b01C (by omega) (by omega)) ?_
              exact ⟨_, rfl, rfl, (by omega), (by omega)⟩
            · refine k_nil ?_
              refine hB _ _ _ _ (kgoC (is := KX11_sameOrWidens_44) rfl ?_)
              refine k_iconst (m := 1) rfl (fun x62 h63 => ?_)
              refine k_goto ?_
              refine hB _ _ _ _ (kgoC (is := KX11_sameOrWidens_49) rfl ?_)
              refine k_ireturn (fun _ => b01C (by omega) (by omega)) ?_
              exact ⟨_, rfl, rfl, (by omega), (by omega)⟩
theorem lg_X11_sameOrWidens : ∀ (As : List AvC) (σ : CsC), P_X11_sameOrWidens As σ → lgC As ≤ rX11_sameOrWidens.2.2.1 := by
  rintro As σ ⟨p0, p1, rfl, -⟩
  exact Nat.le_of_ble_eq_true rfl
theorem m_X11_sameOrWidens (l : Launch) : CMetC l 1 224 P_X11_sameOrWidens Q_X11_sameOrWidens :=
  CMetC.of KX11_sameOrWidens [] hX11_sameOrWidens (by decide) (by decide) okX11_sameOrWidens cc0C (lg_X11_sameOrWidens) (b_X11_sameOrWidens)

abbrev P_X11_isDivision : CpC := fun As σ => ∃ (p0 : Int32), As = [.inl p0] ∧ HIC σ
abbrev Q_X11_isDivision : CqC := fun As σ w τ => match As with
  | [.inl p0] => ∃ r : Int32, w = some (.inl r) ∧ σ = τ ∧ 0 ≤ r.toInt ∧ r.toInt ≤ 1
  | _ => False
set_option maxRecDepth 100000 in
set_option maxHeartbeats 4000000 in
theorem b_X11_isDivision : TbC KX11_isDivision [] P_X11_isDivision Q_X11_isDivision := by
  · rintro As σ0 ⟨p0, rfl, H0⟩ hgr G hB hW
    change G 0 [(0, .inl p0)] [] σ0
    refine hB _ _ _ _ (kgoC (is := KX11_isDivision_0) rfl ?_)
    refine k_iload_n rfl ?_
    refine k_bipush (m := 37) rfl (fun x1 h2 => ?_)
    refine k_ic_eq (fun h3 => ?_) (fun h3 => ?_)
    · refine hB _ _ _ _ (kgoC (is := KX11_isDivision_12) rfl ?_)
      refine k_iconst (m := 1) rfl (fun x4 h5 => ?_)
      refine k_goto ?_
      refine hB _ _ _ _ (kgoC (is := KX11_isDivision_17) rfl ?_)
      refine k_ireturn (fun _ => b01C (by omega) (by omega)) ?_
      exact ⟨_, rfl, rfl, (by omega), (by omega)⟩
    · refine k_nil ?_
      refine hB _ _ _ _ (kgoC (is := KX11_isDivision_6) rfl ?_)
      refine k_iload_n rfl ?_
      refine k_bipush (m := 38) rfl (fun x6 h7 => ?_)
      refine k_ic_ne (fun h8 => ?_) (fun h8 => ?_)
      · refine hB _ _ _ _ (kgoC (is := KX11_isDivision_16) rfl ?_)
        refine k_iconst (m := 0) rfl (fun x9 h10 => ?_)
        refine k_nil ?_
        refine hB _ _ _ _ (kgoC (is := KX11_isDivision_17) rfl ?_)
        refine k_ireturn (fun _ => b01C (by omega) (by omega)) ?_
        exact ⟨_, rfl, rfl, (by omega), (by omega)⟩
      · refine k_nil ?_
        refine hB _ _ _ _ (kgoC (is := KX11_isDivision_12) rfl ?_)
        refine k_iconst (m := 1) rfl (fun x11 h12 => ?_)
        refine k_goto ?_
        refine hB _ _ _ _ (kgoC (is := KX11_isDivision_17) rfl ?_)
        refine k_ireturn (fun _ => b01C (by omega) (by omega)) ?_
        exact ⟨_, rfl, rfl, (by omega), (by omega)⟩
theorem lg_X11_isDivision : ∀ (As : List AvC) (σ : CsC), P_X11_isDivision As σ → lgC As ≤ rX11_isDivision.2.2.1 := by
  rintro As σ ⟨p0, rfl, -⟩
  exact Nat.le_of_ble_eq_true rfl
theorem m_X11_isDivision (l : Launch) : CMetC l 1 227 P_X11_isDivision Q_X11_isDivision :=
  CMetC.of KX11_isDivision [] hX11_isDivision (by decide) (by decide) okX11_isDivision cc0C (lg_X11_isDivision) (b_X11_isDivision)

abbrev P_X11_narrowed : CpC := fun As σ => ∃ (p0 : Int32) (p1 : Int64), As = [.inl p0, .inr (.inl p1)] ∧ HIC σ
abbrev Q_X11_narrowed : CqC := fun As σ w τ => match As with
  | [.inl p0, .inr (.inl p1)] => ∃ r : Int64, w = some (.inr (.inl r)) ∧ σ = τ
  | _ => False
set_option maxRecDepth 100000 in
set_option maxHeartbeats 4000000 in
theorem b_X11_narrowed : TbC KX11_narrowed [] P_X11_narrowed Q_X11_narrowed := by
  · rintro As σ0 ⟨p0, p1, rfl, H0⟩ hgr G hB hW
    change G 0 [(0, .inl p0), (1, .inr (.inl p1))] [] σ0
    refine hB _ _ _ _ (kgoC (is := KX11_narrowed_0) rfl ?_)
    refine k_iload_n rfl ?_
    refine k_tsw ?_
    refine k_swc (fun h1 => ?_) (fun h1 => ?_)
    · refine hB _ _ _ _ (kgoC (is := KX11_narrowed_28) rfl ?_)
      refine k_lload_n rfl ?_
      refine k_l2i (fun x2 => ?_)
      refine k_i2b (fun x3 => ?_)
      refine k_i2l (fun y4 => ?_)
      refine k_lreturn ?_
      exact ⟨_, rfl, rfl⟩
    refine k_swc (fun h5 => ?_) (fun h5 => ?_)
    · refine hB _ _ _ _ (kgoC (is := KX11_narrowed_33) rfl ?_)
      refine k_lload_n rfl ?_
      refine k_l2i (fun x6 => ?_)
      refine k_i2c (fun x7 => ?_)
      refine k_i2l (fun y8 => ?_)
      refine k_lreturn ?_
      exact ⟨_, rfl, rfl⟩
    refine k_swc (fun h9 => ?_) (fun h9 => ?_)
    · refine hB _ _ _ _ (kgoC (is := KX11_narrowed_38) rfl ?_)
      refine k_lload_n rfl ?_
      refine k_l2i (fun x10 => ?_)
      refine k_i2l (fun y11 => ?_)
      refine k_lreturn ?_
      exact ⟨_, rfl, rfl⟩
    refine k_swn ?_
    refine hB _ _ _ _ (kgoC (is := KX11_narrowed_42) rfl ?_)
    refine k_lload_n rfl ?_
    refine k_lreturn ?_
    exact ⟨_, rfl, rfl⟩
theorem lg_X11_narrowed : ∀ (As : List AvC) (σ : CsC), P_X11_narrowed As σ → lgC As ≤ rX11_narrowed.2.2.1 := by
  rintro As σ ⟨p0, p1, rfl, -⟩
  exact Nat.le_of_ble_eq_true rfl
theorem m_X11_narrowed (l : Launch) : CMetC l 1 228 P_X11_narrowed Q_X11_narrowed :=
  CMetC.of KX11_narrowed [] hX11_narrowed (by decide) (by decide) okX11_narrowed cc0C (lg_X11_narrowed) (b_X11_narrowed)

abbrev P_X11_compared : CpC := fun As σ => ∃ (p0 : Int32) (p1 : Int64) (p2 : Int64), As = [.inl p0, .inr (.inl p1), .inr (.inl p2)] ∧ HIC σ
abbrev Q_X11_compared : CqC := fun As σ w τ => match As with
  | [.inl p0, .inr (.inl p1), .inr (.inl p2)] => ∃ r : Int32, w = some (.inl r) ∧ σ = τ ∧ 0 ≤ r.toInt ∧ r.toInt ≤ 1
  | _ => False
set_option maxRecDepth 100000 in
set_option maxHeartbeats 4000000 in
theorem b_X11_compared : TbC KX11_compared [] P_X11_compared Q_X11_compared := by
  · rintro As σ0 ⟨p0, p1, p2, rfl, H0⟩ hgr G hB hW
    change G 0 [(0, .inl p0), (1, .inr (.inl p1)), (3, .inr (.inl p2))] [] σ0
    refine hB _ _ _ _ (kgoC (is := KX11_compared_0) rfl ?_)
    refine k_iload_n rfl ?_
    refine k_tsw ?_
    refine k_swc (fun h1 => ?_) (fun h1 => ?_)
    · refine hB _ _ _ _ (kgoC (is := KX11_compared_36) rfl ?_)
      refine k_lload_n rfl ?_
      refine k_lload_n rfl ?_
      refine k_lcmp (fun x2 h3 g4 => ?_)
      refine k_if_ne (fun h5 => ?_) (fun h5 => ?_)
      · refine hB _ _ _ _ (kgoC (is := KX11_compared_46) rfl ?_)
        refine k_iconst (m := 0) rfl (fun x6 h7 => ?_)
        refine k_nil ?_
        refine hB _ _ _ _ (kgoC (is := KX11_compared_47) rfl ?_)
        refine k_ireturn (fun _ => b01C (by omega) (by omega)) ?_
        exact ⟨_, rfl, rfl, (by omega), (by omega)⟩
      · refine k_nil ?_
        refine hB _ _ _ _ (kgoC (is := KX11_compared_42) rfl ?_)
        refine k_iconst (m := 1) rfl (fun x8 h9 => ?_)
        refine k_goto ?_
        refine hB _ _ _ _ (kgoC (is := KX11_compared_47) rfl ?_)
        refine k_ireturn (fun _ => b01C (by omega) (by omega)) ?_
        exact ⟨_, rfl, rfl, (by omega), (by omega)⟩
    refine k_swc (fun h10 => ?_) (fun h10 => ?_)
    · refine hB _ _ _ _ (kgoC (is := KX11_compared_48) rfl ?_)
      refine k_lload_n rfl ?_
      refine k_lload_n rfl ?_
      refine k_lcmp (fun x11 h12 g13 => ?_)
      refine k_if_eq (fun h14 => ?_) (fun h14 => ?_)
      · refine hB _ _ _ _ (kgoC (is := KX11_compared_58) rfl ?_)
        refine k_iconst (m := 0) rfl (fun x15 h16 => ?_)
        refine k_nil ?_
        refine hB _ _ _ _ (kgoC (is := KX11_compared_59) rfl ?_)
        refine k_ireturn (fun _ => b01C (by omega) (by omega)) ?_
        exact ⟨_, rfl, rfl, (by omega), (by omega)⟩
      · refine k_nil ?_
        refine hB _ _ _ _ (kgoC (is := KX11_compared_54) rfl ?_)
        refine k_iconst (m := 1) rfl (fun x17 h18 => ?_)
        refine k_goto ?_
        refine hB _ _ _ _ (kgoC (is := KX11_compared_59) rfl ?_)
        refine k_ireturn (fun _ => b01C (by omega) (by omega)) ?_
        exact ⟨_, rfl, rfl, (by omega), (by omega)⟩
    refine k_swc (fun h19 => ?_) (fun h19 => ?_)
    · refine hB _ _ _ _ (kgoC (is := KX11_compared_60) rfl ?_)
      refine k_lload_n rfl ?_
      refine k_lload_n rfl ?_
      refine k_lcmp (fun x20 h21 g22 => ?_)
      refine k_if_ge (fun h23 => ?_) (fun h23 => ?_)
      · refine hB _ _ _ _ (kgoC (is := KX11_compared_70) rfl ?_)
        refine k_iconst (m := 0) rfl (fun x24 h25 => ?_)
        refine k_nil ?_
        refine hB _ _ _ _ (kgoC (is := KX11_compared_71) rfl ?_)
        refine k_ireturn (fun _ => b01C (by omega) (by omega)) ?_
        exact ⟨_, rfl, rfl, (by omega), (by omega)⟩
      · refine k_nil ?_
        refine hB _ _ _ _ (kgoC (is := KX11_compared_66) rfl ?_)
        refine k_iconst (m := 1) rfl (fun x26 h27 => ?_)
        refine k_goto ?_
        refine hB _ _ _ _ (kgoC (is := KX11_compared_71) rfl ?_)
        refine k_ireturn (fun _ => b01C (by omega) (by omega)) ?_
        exact ⟨_, rfl, rfl, (by omega), (by omega)⟩
    refine k_swc (fun h28 => ?_) (fun h28 => ?_)
    · refine hB _ _ _ _ (kgoC (is := KX11_compared_72) rfl ?_)
      refine k_lload_n rfl ?_
      refine k_lload_n rfl ?_
      refine k_lcmp (fun x29 h30 g31 => ?_)
      refine k_if_gt (fun h32 => ?_) (fun h32 => ?_)
      · refine hB _ _ _ _ (kgoC (is := KX11_compared_82) rfl ?_)
        refine k_iconst (m := 0) rfl (fun x33 h34 => ?_)
        refine k_nil ?_
        refine hB _ _ _ _ (kgoC (is := KX11_compared_83) rfl ?_)
        refine k_ireturn (fun _ => b01C (by omega) (by omega)) ?_
        exact ⟨_, rfl, rfl, (by omega), (by omega)⟩
      · refine k_nil ?_
        refine hB _ _ _ _ (kgoC (is := KX11_compared_78) rfl ?_)
        refine k_iconst (m := 1) rfl (fun x35 h36 => ?_)
        refine k_goto ?_
        refine hB _ _ _ _ (kgoC (is := KX11_compared_83) rfl ?_)
        refine k_ireturn (fun _ => b01C (by omega) (by omega)) ?_
        exact ⟨_, rfl, rfl, (by omega), (by omega)⟩
    refine k_swc (fun h37 => ?_) (fun h37 => ?_)
    · refine hB _ _ _ _ (kgoC (is := KX11_compared_84) rfl ?_)
      refine k_lload_n rfl ?_
      refine k_lload_n rfl ?_
      refine k_lcmp (fun x38 h39 g40 => ?_)
      refine k_if_le (fun h41 => ?_) (fun h41 => ?_)
      · refine hB _ _ _ _ (kgoC (is := KX11_compared_94) rfl ?_)
        refine k_iconst (m := 0) rfl (fun x42 h43 => ?_)
        refine k_nil ?_
        refine hB _ _ _ _ (kgoC (is := KX11_compared_95) rfl ?_)
        refine k_ireturn (fun _ => b01C (by omega) (by omega)) ?_
        exact ⟨_, rfl, rfl, (by omega), (by omega)⟩
      · refine k_nil ?_
        refine hB _ _ _ _ (kgoC (is := KX11_compared_90) rfl ?_)
        refine k_iconst (m := 1) rfl (fun x44 h45 => ?_)
        refine k_goto ?_
        refine hB _ _ _ _ (kgoC (is := KX11_compared_95) rfl ?_)
        refine k_ireturn (fun _ => b01C (by omega) (by omega)) ?_
        exact ⟨_, rfl, rfl, (by omega), (by omega)⟩
    refine k_swn ?_
    refine hB _ _ _ _ (kgoC (is := KX11_compared_96) rfl ?_)
    refine k_lload_n rfl ?_
    refine k_lload_n rfl ?_
    refine k_lcmp (fun x46 h47 g48 => ?_)
    refine k_if_lt (fun h49 => ?_) (fun h49 => ?_)
    · refine hB _ _ _ _ (kgoC (is := KX11_compared_106) rfl ?_)
      refine k_iconst (m := 0) rfl (fun x50 h51 => ?_)
      refine k_nil ?_
      refine hB _ _ _ _ (kgoC (is := KX11_compared_107) rfl ?_)
      refine k_ireturn (fun _ => b01C (by omega) (by omega)) ?_
      exact ⟨_, rfl, rfl, (by omega), (by omega)⟩
    · refine k_nil ?_
      refine hB _ _ _ _ (kgoC (is := KX11_compared_102) rfl ?_)
      refine k_iconst (m := 1) rfl (fun x52 h53 => ?_)
      refine k_goto ?_
      refine hB _ _ _ _ (kgoC (is := KX11_compared_107) rfl ?_)
      refine k_ireturn (fun _ => b01C (by omega) (by omega)) ?_
      exact ⟨_, rfl, rfl, (by omega), (by omega)⟩
theorem lg_X11_compared : ∀ (As : List AvC) (σ : CsC), P_X11_compared As σ → lgC As ≤ rX11_compared.2.2.1 := by
  rintro As σ ⟨p0, p1, p2, rfl, -⟩
  exact Nat.le_of_ble_eq_true rfl
theorem m_X11_compared (l : Launch) : CMetC l 1 231 P_X11_compared Q_X11_compared :=
  CMetC.of KX11_compared [] hX11_compared (by decide) (by decide) okX11_compared cc0C (lg_X11_compared) (b_X11_compared)

abbrev P_X11_shifted : CpC := fun As σ => ∃ (p0 : Int32) (p1 : Int32) (p2 : Int64) (p3 : Int64), As = [.inl p0, .inl p1, .inr (.inl p2), .inr (.inl p3)] ∧ HIC σ
abbrev Q_X11_shifted : CqC := fun As σ w τ => match As with
  | [.inl p0, .inl p1, .inr (.inl p2), .inr (.inl p3)] => ∃ r : Int64, w = some (.inr (.inl r)) ∧ σ = τ
  | _ => False
set_option maxRecDepth 100000 in
set_option maxHeartbeats 4000000 in
theorem b_X11_shifted : TbC KX11_shifted [] P_X11_shifted Q_X11_shifted := by
  · rintro As σ0 ⟨p0, p1, p2, p3, rfl, H0⟩ hgr G hB hW
    change G 0 [(0, .inl p0), (1, .inl p1), (2, .inr (.inl p2)), (4, .inr (.inl p3))] [] σ0
    refine hB _ _ _ _ (kgoC (is := KX11_shifted_0) rfl ?_)
    refine k_iload_n rfl ?_
    refine k_iconst (m := 4) rfl (fun x1 h2 => ?_)
    refine k_ic_ne (fun h3 => ?_) (fun h3 => ?_)
    · refine hB _ _ _ _ (kgoC (is := KX11_shifted_45) rfl ?_)
      refine k_lload rfl ?_
      refine k_ldc2_w ?_
      refine k_land (fun y4 => ?_)
      refine k_l2i (fun x5 => ?_)
      refine k_istore (ls' := [(6, .inl x5), (0, .inl p0), (1, .inl p1), (2, .inr (.inl p2)), (4, .inr (.inl p3))]) rfl ?_
      refine k_lload_n rfl ?_
      refine k_l2i (fun x6 => ?_)
      refine k_istore (ls' := [(7, .inl x6), (6, .inl x5), (0, .inl p0), (1, .inl p1), (2, .inr (.inl p2)), (4, .inr (.inl p3))]) rfl ?_
      refine k_iload_n rfl ?_
      refine k_bipush (m := 31) rfl (fun x7 h8 => ?_)
      refine k_ic_ne (fun h9 => ?_) (fun h9 => ?_)
      · refine hB _ _ _ _ (kgoC (is := KX11_shifted_73) rfl ?_)
        refine k_iload_n rfl ?_
        refine k_bipush (m := 32) rfl (fun x10 h11 => ?_)
        refine k_ic_ne (fun h12 => ?_) (fun h12 => ?_)
        · refine hB _ _ _ _ (kgoC (is := KX11_shifted_88) rfl ?_)
          refine k_iload rfl ?_
          refine k_iload rfl ?_
          refine k_iushr_u (fun x13 => ?_)
          refine k_i2l (fun y14 => ?_)
          refine k_nil ?_
          refine hB _ _ _ _ (kgoC (is := KX11_shifted_94) rfl ?_)
          refine k_lreturn ?_
          exact ⟨_, rfl, rfl⟩
        · refine k_nil ?_
          refine hB _ _ _ _ (kgoC (is := KX11_shifted_79) rfl ?_)
          refine k_iload rfl ?_
          refine k_iload rfl ?_
          refine k_ishr_u (fun x15 => ?_)
          refine k_i2l (fun y16 => ?_)
          refine k_goto ?_
          refine hB _ _ _ _ (kgoC (is := KX11_shifted_94) rfl ?_)
          refine k_lreturn ?_
          exact ⟨_, rfl, rfl⟩
      · refine k_nil ?_
        refine hB _ _ _ _ (kgoC (is := KX11_shifted_64) rfl ?_)
        refine k_iload rfl ?_
        refine k_iload rfl ?_
        refine k_ishl_u (fun x17 => ?_)
        refine k_i2l (fun y18 => ?_)
        refine k_goto ?_
        refine hB _ _ _ _ (kgoC (is := KX11_shifted_94) rfl ?_)
        refine k_lreturn ?_
        exact ⟨_, rfl, rfl⟩
    · refine k_nil ?_
      refine hB _ _ _ _ (kgoC (is := KX11_shifted_5) rfl ?_)
      refine k_lload rfl ?_
      refine k_ldc2_w ?_
      refine k_land (fun y19 => ?_)
      refine k_l2i (fun x20 => ?_)
      refine k_istore (ls' := [(6, .inl x20), (0, .inl p0), (1, .inl p1), (2, .inr (.inl p2)), (4, .inr (.inl p3))]) rfl ?_
      refine k_iload_n rfl ?_
      refine k_bipush (m := 31) rfl (fun x21 h22 => ?_)
      refine k_ic_ne (fun h23 => ?_) (fun h23 => ?_)
      · refine hB _ _ _ _ (kgoC (is := KX11_shifted_27) rfl ?_)
        refine k_iload_n rfl ?_
        refine k_bipush (m := 32) rfl (fun x24 h25 => ?_)
        refine k_ic_ne (fun h26 => ?_) (fun h26 => ?_)
        · refine hB _ _ _ _ (kgoC (is := KX11_shifted_40) rfl ?_)
          refine k_lload_n rfl ?_
          refine k_iload rfl ?_
          refine k_lushr (fun y27 => ?_)
          refine k_nil ?_
          refine hB _ _ _ _ (kgoC (is := KX11_shifted_44) rfl ?_)
          refine k_lreturn ?_
          exact ⟨_, rfl, rfl⟩
        · refine k_nil ?_
          refine hB _ _ _ _ (kgoC (is := KX11_shifted_33) rfl ?_)
          refine k_lload_n rfl ?_
          refine k_iload rfl ?_
          refine k_lshr (fun y28 => ?_)
          refine k_goto ?_
          refine hB _ _ _ _ (kgoC (is := KX11_shifted_44) rfl ?_)
          refine k_lreturn ?_
          exact ⟨_, rfl, rfl⟩
      · refine k_nil ?_
        refine hB _ _ _ _ (kgoC (is := KX11_shifted_20) rfl ?_)
        refine k_lload_n rfl ?_
        refine k_iload rfl ?_
        refine k_lshl (fun y29 => ?_)
        refine k_goto ?_
        refine hB _ _ _ _ (kgoC (is := KX11_shifted_44) rfl ?_)
        refine k_lreturn ?_
        exact ⟨_, rfl, rfl⟩
theorem lg_X11_shifted : ∀ (As : List AvC) (σ : CsC), P_X11_shifted As σ → lgC As ≤ rX11_shifted.2.2.1 := by
  rintro As σ ⟨p0, p1, p2, p3, rfl, -⟩
  exact Nat.le_of_ble_eq_true rfl
theorem m_X11_shifted (l : Launch) : CMetC l 1 230 P_X11_shifted Q_X11_shifted :=
  CMetC.of KX11_shifted [] hX11_shifted (by decide) (by decide) okX11_shifted cc0C (lg_X11_shifted) (b_X11_shifted)

abbrev P_X11_worked : CpC := fun As σ => ∃ (p0 : Int32) (p1 : Int32) (p2 : Int64) (p3 : Int64), As = [.inl p0, .inl p1, .inr (.inl p2), .inr (.inl p3)] ∧ HIC σ
abbrev Q_X11_worked : CqC := fun As σ w τ => match As with
  | [.inl p0, .inl p1, .inr (.inl p2), .inr (.inl p3)] => ∃ r : Int64, w = some (.inr (.inl r)) ∧ σ = τ
  | _ => False
set_option maxRecDepth 100000 in
set_option maxHeartbeats 4000000 in
theorem b_X11_worked : TbC KX11_worked [(231, P_X11_compared, Q_X11_compared), (230, P_X11_shifted, Q_X11_shifted), (228, P_X11_narrowed, Q_X11_narrowed)] P_X11_worked Q_X11_worked := by
  · rintro As σ0 ⟨p0, p1, p2, p3, rfl, H0⟩ hgr G hB hW
    change G 0 [(0, .inl p0), (1, .inl p1), (2, .inr (.inl p2)), (4, .inr (.inl p3))] [] σ0
    refine hB _ _ _ _ (kgoC (is := KX11_worked_0) rfl ?_)
    refine k_iload_n rfl ?_
    refine k_tsw ?_
    refine k_swc (fun h1 => ?_) (fun h1 => ?_)
    · refine hB _ _ _ _ (kgoC (is := KX11_worked_156) rfl ?_)
      refine k_lload_n rfl ?_
      refine k_lload rfl ?_
      refine k_lor (fun y2 => ?_)
      refine k_lreturn ?_
      exact ⟨_, rfl, rfl⟩
    refine k_swc (fun h3 => ?_) (fun h3 => ?_)
    · refine hB _ _ _ _ (kgoC (is := KX11_worked_161) rfl ?_)
      refine k_lload_n rfl ?_
      refine k_lload rfl ?_
      refine k_lxor (fun y4 => ?_)
      refine k_lreturn ?_
      exact ⟨_, rfl, rfl⟩
    refine k_swc (fun h5 => ?_) (fun h5 => ?_)
    · refine hB _ _ _ _ (kgoC (is := KX11_worked_151) rfl ?_)
      refine k_lload_n rfl ?_
      refine k_lload rfl ?_
      refine k_land (fun y6 => ?_)
      refine k_lreturn ?_
      exact ⟨_, rfl, rfl⟩
    refine k_swc (fun h7 => ?_) (fun h7 => ?_)
    · refine hB _ _ _ _ (kgoC (is := KX11_worked_175) rfl ?_)
      refine k_iload_n rfl ?_
      refine k_lload_n rfl ?_
      refine k_lload rfl ?_
      refine k_stat (P := P_X11_compared) (Q := Q_X11_compared) rfl rfl (Nat.le_of_ble_eq_true rfl) rfl rfl (Nat.le_of_ble_eq_true rfl) ⟨_, _, _, rfl, H0⟩ (fun w8 σ9 q10 => ?_)
      obtain ⟨x11, rfl, rfl, h12, h13⟩ := q10
      refine k_st (st' := [.inl x11]) rfl ?_
      refine k_if_eq (fun h14 => ?_) (fun h14 => ?_)
      · refine hB _ _ _ _ (kgoC (is := KX11_worked_189) rfl ?_)
        refine k_lconst ?_
        refine k_nil ?_
        refine hB _ _ _ _ (kgoC (is := KX11_worked_190) rfl ?_)
        refine k_lreturn ?_
        exact ⟨_, rfl, rfl⟩
      · refine k_nil ?_
        refine hB _ _ _ _ (kgoC (is := KX11_worked_185) rfl ?_)
        refine k_lconst ?_
        refine k_goto ?_
        refine hB _ _ _ _ (kgoC (is := KX11_worked_190) rfl ?_)
        refine k_lreturn ?_
        exact ⟨_, rfl, rfl⟩
    refine k_swc (fun h15 => ?_) (fun h15 => ?_)
    · refine hB _ _ _ _ (kgoC (is := KX11_worked_175) rfl ?_)
      refine k_iload_n rfl ?_
      refine k_lload_n rfl ?_
      refine k_lload rfl ?_
      refine k_stat (P := P_X11_compared) (Q := Q_X11_compared) rfl rfl (Nat.le_of_ble_eq_true rfl) rfl rfl (Nat.le_of_ble_eq_true rfl) ⟨_, _, _, rfl, H0⟩ (fun w16 σ17 q18 => ?_)
      obtain ⟨x19, rfl, rfl, h20, h21⟩ := q18
      refine k_st (st' := [.inl x19]) rfl ?_
      refine k_if_eq (fun h22 => ?_) (fun h22 => ?_)
      · refine hB _ _ _ _ (kgoC (is := KX11_worked_189) rfl ?_)
        refine k_lconst ?_
        refine k_nil ?_
        refine hB _ _ _ _ (kgoC (is := KX11_worked_190) rfl ?_)
        refine k_lreturn ?_
        exact ⟨_, rfl, rfl⟩
      · refine k_nil ?_
        refine hB _ _ _ _ (kgoC (is := KX11_worked_185) rfl ?_)
        refine k_lconst ?_
        refine k_goto ?_
        refine hB _ _ _ _ (kgoC (is := KX11_worked_190) rfl ?_)
        refine k_lreturn ?_
        exact ⟨_, rfl, rfl⟩
    refine k_swc (fun h23 => ?_) (fun h23 => ?_)
    · refine hB _ _ _ _ (kgoC (is := KX11_worked_175) rfl ?_)
      refine k_iload_n rfl ?_
      refine k_lload_n rfl ?_
      refine k_lload rfl ?_
      refine k_stat (P := P_X11_compared) (Q := Q_X11_compared) rfl rfl (Nat.le_of_ble_eq_true rfl) rfl rfl (Nat.le_of_ble_eq_true rfl) ⟨_, _, _, rfl, H0⟩ (fun w24 σ25 q26 => ?_)
      obtain ⟨x27, rfl, rfl, h28, h29⟩ := q26
      refine k_st (st' := [.inl x27]) rfl ?_
      refine k_if_eq (fun h30 => ?_) (fun h30 => ?_)
      · refine hB _ _ _ _ (kgoC (is := KX11_worked_189) rfl ?_)
        refine k_lconst ?_
        refine k_nil ?_
        refine hB _ _ _ _ (kgoC (is := KX11_worked_190) rfl ?_)
        refine k_lreturn ?_
        exact ⟨_, rfl, rfl⟩
      · refine k_nil ?_
        refine hB _ _ _ _ (kgoC (is := KX11_worked_185) rfl ?_)
        refine k_lconst ?_
        refine k_goto ?_
        refine hB _ _ _ _ (kgoC (is := KX11_worked_190) rfl ?_)
        refine k_lreturn ?_
        exact ⟨_, rfl, rfl⟩
    refine k_swc (fun h31 => ?_) (fun h31 => ?_)
    · refine hB _ _ _ _ (kgoC (is := KX11_worked_175) rfl ?_)
      refine k_iload_n rfl ?_
      refine k_lload_n rfl ?_
      refine k_lload rfl ?_
      refine k_stat (P := P_X11_compared) (Q := Q_X11_compared) rfl rfl (Nat.le_of_ble_eq_true rfl) rfl rfl (Nat.le_of_ble_eq_true rfl) ⟨_, _, _, rfl, H0⟩ (fun w32 σ33 q34 => ?_)
      obtain ⟨x35, rfl, rfl, h36, h37⟩ := q34
      refine k_st (st' := [.inl x35]) rfl ?_
      refine k_if_eq (fun h38 => ?_) (fun h38 => ?_)
      · refine hB _ _ _ _ (kgoC (is := KX11_worked_189) rfl ?_)
        refine k_lconst ?_
        refine k_nil ?_
        refine hB _ _ _ _ (kgoC (is := KX11_worked_190) rfl ?_)
        refine k_lreturn ?_
        exact ⟨_, rfl, rfl⟩
      · refine k_nil ?_
        refine hB _ _ _ _ (kgoC (is := KX11_worked_185) rfl ?_)
        refine k_lconst ?_
        refine k_goto ?_
        refine hB _ _ _ _ (kgoC (is := KX11_worked_190) rfl ?_)
        refine k_lreturn ?_
        exact ⟨_, rfl, rfl⟩
    refine k_swc (fun h39 => ?_) (fun h39 => ?_)
    · refine hB _ _ _ _ (kgoC (is := KX11_worked_175) rfl ?_)
      refine k_iload_n rfl ?_
      refine k_lload_n rfl ?_
      refine k_lload rfl ?_
      refine k_stat (P := P_X11_compared) (Q := Q_X11_compared) rfl rfl (Nat.le_of_ble_eq_true rfl) rfl rfl (Nat.le_of_ble_eq_true rfl) ⟨_, _, _, rfl, H0⟩ (fun w40 σ41 q42 => ?_)
      obtain ⟨x43, rfl, rfl, h44, h45⟩ := q42
      refine k_st (st' := [.inl x43]) rfl ?_
      refine k_if_eq (fun h46 => ?_) (fun h46 => ?_)
      · refine hB _ _ _ _ (kgoC (is := KX11_worked_189) rfl ?_)
        refine k_lconst ?_
        refine k_nil ?_
        refine hB _ _ _ _ (kgoC (is := KX11_worked_190) rfl ?_)
        refine k_lreturn ?_
        exact ⟨_, rfl, rfl⟩
      · refine k_nil ?_
        refine hB _ _ _ _ (kgoC (is := KX11_worked_185) rfl ?_)
        refine k_lconst ?_
        refine k_goto ?_
        refine hB _ _ _ _ (kgoC (is := KX11_worked_190) rfl ?_)
        refine k_lreturn ?_
        exact ⟨_, rfl, rfl⟩
    refine k_swc (fun h47 => ?_) (fun h47 => ?_)
    · refine hB _ _ _ _ (kgoC (is := KX11_worked_175) rfl ?_)
      refine k_iload_n rfl ?_
      refine k_lload_n rfl ?_
      refine k_lload rfl ?_
      refine k_stat (P := P_X11_compared) (Q := Q_X11_compared) rfl rfl (Nat.le_of_ble_eq_true rfl) rfl rfl (Nat.le_of_ble_eq_true rfl) ⟨_, _, _, rfl, H0⟩ (fun w48 σ49 q50 => ?_)
      obtain ⟨x51, rfl, rfl, h52, h53⟩ := q50
      refine k_st (st' := [.inl x51]) rfl ?_
      refine k_if_eq (fun h54 => ?_) (fun h54 => ?_)
      · refine hB _ _ _ _ (kgoC (is := KX11_worked_189) rfl ?_)
        refine k_lconst ?_
        refine k_nil ?_
        refine hB _ _ _ _ (kgoC (is := KX11_worked_190) rfl ?_)
        refine k_lreturn ?_
        exact ⟨_, rfl, rfl⟩
      · refine k_nil ?_
        refine hB _ _ _ _ (kgoC (is := KX11_worked_185) rfl ?_)
        refine k_lconst ?_
        refine k_goto ?_
        refine hB _ _ _ _ (kgoC (is := KX11_worked_190) rfl ?_)
        refine k_lreturn ?_
        exact ⟨_, rfl, rfl⟩
    refine k_swc (fun h55 => ?_) (fun h55 => ?_)
    · refine hB _ _ _ _ (kgoC (is := KX11_worked_166) rfl ?_)
      refine k_iload_n rfl ?_
      refine k_iload_n rfl ?_
      refine k_lload_n rfl ?_
      refine k_lload rfl ?_
      refine k_stat (P := P_X11_shifted) (Q := Q_X11_shifted) rfl rfl (Nat.le_of_ble_eq_true rfl) rfl rfl (Nat.le_of_ble_eq_true rfl) ⟨_, _, _, _, rfl, H0⟩ (fun w56 σ57 q58 => ?_)
      obtain ⟨y59, rfl, rfl⟩ := q58
      refine k_st (st' := [.inr (.inl y59)]) rfl ?_
      refine k_lreturn ?_
      exact ⟨_, rfl, rfl⟩
    refine k_swc (fun h60 => ?_) (fun h60 => ?_)
    · refine hB _ _ _ _ (kgoC (is := KX11_worked_166) rfl ?_)
      refine k_iload_n rfl ?_
      refine k_iload_n rfl ?_
      refine k_lload_n rfl ?_
      refine k_lload rfl ?_
      refine k_stat (P := P_X11_shifted) (Q := Q_X11_shifted) rfl rfl (Nat.le_of_ble_eq_true rfl) rfl rfl (Nat.le_of_ble_eq_true rfl) ⟨_, _, _, _, rfl, H0⟩ (fun w61 σ62 q63 => ?_)
      obtain ⟨y64, rfl, rfl⟩ := q63
      refine k_st (st' := [.inr (.inl y64)]) rfl ?_
      refine k_lreturn ?_
      exact ⟨_, rfl, rfl⟩
    refine k_swc (fun h65 => ?_) (fun h65 => ?_)
    · refine hB _ _ _ _ (kgoC (is := KX11_worked_166) rfl ?_)
      refine k_iload_n rfl ?_
      refine k_iload_n rfl ?_
      refine k_lload_n rfl ?_
      refine k_lload rfl ?_
      refine k_stat (P := P_X11_shifted) (Q := Q_X11_shifted) rfl rfl (Nat.le_of_ble_eq_true rfl) rfl rfl (Nat.le_of_ble_eq_true rfl) ⟨_, _, _, _, rfl, H0⟩ (fun w66 σ67 q68 => ?_)
      obtain ⟨y69, rfl, rfl⟩ := q68
      refine k_st (st' := [.inr (.inl y69)]) rfl ?_
      refine k_lreturn ?_
      exact ⟨_, rfl, rfl⟩
    refine k_swc (fun h70 => ?_) (fun h70 => ?_)
    · refine hB _ _ _ _ (kgoC (is := KX11_worked_84) rfl ?_)
      refine k_iload_n rfl ?_
      refine k_lload_n rfl ?_
      refine k_lload rfl ?_
      refine k_ladd (fun y71 => ?_)
      refine k_stat (P := P_X11_narrowed) (Q := Q_X11_narrowed) rfl rfl (Nat.le_of_ble_eq_true rfl) rfl rfl (Nat.le_of_ble_eq_true rfl) ⟨_, _, rfl, H0⟩ (fun w72 σ73 q74 => ?_)
      obtain ⟨y75, rfl, rfl⟩ := q74
      refine k_st (st' := [.inr (.inl y75)]) rfl ?_
      refine k_lreturn ?_
      exact ⟨_, rfl, rfl⟩
    refine k_swc (fun h76 => ?_) (fun h76 => ?_)
    · refine hB _ _ _ _ (kgoC (is := KX11_worked_93) rfl ?_)
      refine k_iload_n rfl ?_
      refine k_lload_n rfl ?_
      refine k_lload rfl ?_
      refine k_lsub (fun y77 => ?_)
      refine k_stat (P := P_X11_narrowed) (Q := Q_X11_narrowed) rfl rfl (Nat.le_of_ble_eq_true rfl) rfl rfl (Nat.le_of_ble_eq_true rfl) ⟨_, _, rfl, H0⟩ (fun w78 σ79 q80 => ?_)
      obtain ⟨y81, rfl, rfl⟩ := q80
      refine k_st (st' := [.inr (.inl y81)]) rfl ?_
      refine k_lreturn ?_
      exact ⟨_, rfl, rfl⟩
    refine k_swc (fun h82 => ?_) (fun h82 => ?_)
    · refine hB _ _ _ _ (kgoC (is := KX11_worked_102) rfl ?_)
      refine k_iload_n rfl ?_
      refine k_lload_n rfl ?_
      refine k_lload rfl ?_
      refine k_lmul (fun y83 => ?_)
      refine k_stat (P := P_X11_narrowed) (Q := Q_X11_narrowed) rfl rfl (Nat.le_of_ble_eq_true rfl) rfl rfl (Nat.le_of_ble_eq_true rfl) ⟨_, _, rfl, H0⟩ (fun w84 σ85 q86 => ?_)
      obtain ⟨y87, rfl, rfl⟩ := q86
      refine k_st (st' := [.inr (.inl y87)]) rfl ?_
      refine k_lreturn ?_
      exact ⟨_, rfl, rfl⟩
    refine k_swc (fun h88 => ?_) (fun h88 => ?_)
    · refine hB _ _ _ _ (kgoC (is := KX11_worked_111) rfl ?_)
      refine k_lload rfl ?_
      refine k_lconst ?_
      refine k_lcmp (fun x89 h90 g91 => ?_)
      refine k_if_ne (fun h92 => ?_) (fun h92 => ?_)
      · refine hB _ _ _ _ (kgoC (is := KX11_worked_122) rfl ?_)
        refine k_iload_n rfl ?_
        refine k_lload_n rfl ?_
        refine k_lload rfl ?_
        refine k_ldiv (fun hz => by have hq := g91 (by rw [hz]; rfl); omega) (fun y93 => ?_)
        refine k_stat (P := P_X11_narrowed) (Q := Q_X11_narrowed) rfl rfl (Nat.le_of_ble_eq_true rfl) rfl rfl (Nat.le_of_ble_eq_true rfl) ⟨_, _, rfl, H0⟩ (fun w94 σ95 q96 => ?_)
        obtain ⟨y97, rfl, rfl⟩ := q96
        refine k_st (st' := [.inr (.inl y97)]) rfl ?_
        refine k_nil ?_
        refine hB _ _ _ _ (kgoC (is := KX11_worked_130) rfl ?_)
        refine k_lreturn ?_
        exact ⟨_, rfl, rfl⟩
      · refine k_nil ?_
        refine hB _ _ _ _ (kgoC (is := KX11_worked_118) rfl ?_)
        refine k_lconst ?_
        refine k_goto ?_
        refine hB _ _ _ _ (kgoC (is := KX11_worked_130) rfl ?_)
        refine k_lreturn ?_
        exact ⟨_, rfl, rfl⟩
    refine k_swc (fun h98 => ?_) (fun h98 => ?_)
    · refine hB _ _ _ _ (kgoC (is := KX11_worked_131) rfl ?_)
      refine k_lload rfl ?_
      refine k_lconst ?_
      refine k_lcmp (fun x99 h100 g101 => ?_)
      refine k_if_ne (fun h102 => ?_) (fun h102 => ?_)
      · refine hB _ _ _ _ (kgoC (is := KX11_worked_142) rfl ?_)
        refine k_iload_n rfl ?_
        refine k_lload_n rfl ?_
        refine k_lload rfl ?_
        refine k_lrem (fun hz => by have hq := g101 (by rw [hz]; rfl); omega) (fun y103 => ?_)
        refine k_stat (P := P_X11_narrowed) (Q := Q_X11_narrowed) rfl rfl (Nat.le_of_ble_eq_true rfl) rfl rfl (Nat.le_of_ble_eq_true rfl) ⟨_, _, rfl, H0⟩ (fun w104 σ105 q106 => ?_)
        obtain ⟨y107, rfl, rfl⟩ := q106
        refine k_st (st' := [.inr (.inl y107)]) rfl ?_
        refine k_nil ?_
        refine hB _ _ _ _ (kgoC (is := KX11_worked_150) rfl ?_)
        refine k_lreturn ?_
        exact ⟨_, rfl, rfl⟩
      · refine k_nil ?_
        refine hB _ _ _ _ (kgoC (is := KX11_worked_138) rfl ?_)
        refine k_lconst ?_
        refine k_goto ?_
        refine hB _ _ _ _ (kgoC (is := KX11_worked_150) rfl ?_)
        refine k_lreturn ?_
        exact ⟨_, rfl, rfl⟩
    refine k_swn ?_
    refine hB _ _ _ _ (kgoC (is := KX11_worked_175) rfl ?_)
    refine k_iload_n rfl ?_
    refine k_lload_n rfl ?_
    refine k_lload rfl ?_
    refine k_stat (P := P_X11_compared) (Q := Q_X11_compared) rfl rfl (Nat.le_of_ble_eq_true rfl) rfl rfl (Nat.le_of_ble_eq_true rfl) ⟨_, _, _, rfl, H0⟩ (fun w108 σ109 q110 => ?_)
    obtain ⟨x111, rfl, rfl, h112, h113⟩ := q110
    refine k_st (st' := [.inl x111]) rfl ?_
    refine k_if_eq (fun h114 => ?_) (fun h114 => ?_)
    · refine hB _ _ _ _ (kgoC (is := KX11_worked_189) rfl ?_)
      refine k_lconst ?_
      refine k_nil ?_
      refine hB _ _ _ _ (kgoC (is := KX11_worked_190) rfl ?_)
      refine k_lreturn ?_
      exact ⟨_, rfl, rfl⟩
    · refine k_nil ?_
      refine hB _ _ _ _ (kgoC (is := KX11_worked_185) rfl ?_)
      refine k_lconst ?_
      refine k_goto ?_
      refine hB _ _ _ _ (kgoC (is := KX11_worked_190) rfl ?_)
      refine k_lreturn ?_
      exact ⟨_, rfl, rfl⟩
theorem lg_X11_worked : ∀ (As : List AvC) (σ : CsC), P_X11_worked As σ → lgC As ≤ rX11_worked.2.2.1 := by
  rintro As σ ⟨p0, p1, p2, p3, rfl, -⟩
  exact Nat.le_of_ble_eq_true rfl
theorem m_X11_worked (l : Launch) : CMetC l 2 229 P_X11_worked Q_X11_worked :=
  CMetC.of KX11_worked [(231, P_X11_compared, Q_X11_compared), (230, P_X11_shifted, Q_X11_shifted), (228, P_X11_narrowed, Q_X11_narrowed)] hX11_worked (by decide) (by decide) okX11_worked (cc1C (m_X11_compared l) (by decide) (cc1C (m_X11_shifted l) (by decide) (cc1C (m_X11_narrowed l) (by decide) cc0C))) (lg_X11_worked) (b_X11_worked)

abbrev P_X11_workedAlone : CpC := fun As σ => ∃ (p0 : Int32) (p1 : Int32) (p2 : Int64), As = [.inl p0, .inl p1, .inr (.inl p2)] ∧ HIC σ
abbrev Q_X11_workedAlone : CqC := fun As σ w τ => match As with
  | [.inl p0, .inl p1, .inr (.inl p2)] => ∃ r : Int64, w = some (.inr (.inl r)) ∧ σ = τ
  | _ => False
set_option maxRecDepth 100000 in
set_option maxHeartbeats 4000000 in
theorem b_X11_workedAlone : TbC KX11_workedAlone [(228, P_X11_narrowed, Q_X11_narrowed)] P_X11_workedAlone Q_X11_workedAlone := by
  · rintro As σ0 ⟨p0, p1, p2, rfl, H0⟩ hgr G hB hW
    change G 0 [(0, .inl p0), (1, .inl p1), (2, .inr (.inl p2))] [] σ0
    refine hB _ _ _ _ (kgoC (is := KX11_workedAlone_0) rfl ?_)
    refine k_iload_n rfl ?_
    refine k_lsw ?_
    refine k_swc (fun h1 => ?_) (fun h1 => ?_)
    · refine hB _ _ _ _ (kgoC (is := KX11_workedAlone_36) rfl ?_)
      refine k_iload_n rfl ?_
      refine k_lload_n rfl ?_
      refine k_lneg (fun y2 => ?_)
      refine k_stat (P := P_X11_narrowed) (Q := Q_X11_narrowed) rfl rfl (Nat.le_of_ble_eq_true rfl) rfl rfl (Nat.le_of_ble_eq_true rfl) ⟨_, _, rfl, H0⟩ (fun w3 σ4 q5 => ?_)
      obtain ⟨y6, rfl, rfl⟩ := q5
      refine k_st (st' := [.inr (.inl y6)]) rfl ?_
      refine k_lreturn ?_
      exact ⟨_, rfl, rfl⟩
    refine k_swc (fun h7 => ?_) (fun h7 => ?_)
    · refine hB _ _ _ _ (kgoC (is := KX11_workedAlone_49) rfl ?_)
      refine k_lload_n rfl ?_
      refine k_lconst ?_
      refine k_lxor (fun y8 => ?_)
      refine k_lreturn ?_
      exact ⟨_, rfl, rfl⟩
    refine k_swc (fun h9 => ?_) (fun h9 => ?_)
    · refine hB _ _ _ _ (kgoC (is := KX11_workedAlone_43) rfl ?_)
      refine k_lload_n rfl ?_
      refine k_ldc2_w ?_
      refine k_lxor (fun y10 => ?_)
      refine k_lreturn ?_
      exact ⟨_, rfl, rfl⟩
    refine k_swn ?_
    refine hB _ _ _ _ (kgoC (is := KX11_workedAlone_53) rfl ?_)
    refine k_lload_n rfl ?_
    refine k_lreturn ?_
    exact ⟨_, rfl, rfl⟩
theorem lg_X11_workedAlone : ∀ (As : List AvC) (σ : CsC), P_X11_workedAlone As σ → lgC As ≤ rX11_workedAlone.2.2.1 := by
  rintro As σ ⟨p0, p1, p2, rfl, -⟩
  exact Nat.le_of_ble_eq_true rfl
theorem m_X11_workedAlone (l : Launch) : CMetC l 2 232 P_X11_workedAlone Q_X11_workedAlone :=
  CMetC.of KX11_workedAlone [(228, P_X11_narrowed, Q_X11_narrowed)] hX11_workedAlone (by decide) (by decide) okX11_workedAlone (cc1C (m_X11_narrowed l) (by decide) cc0C) (lg_X11_workedAlone) (b_X11_workedAlone)

abbrev P_X1_acts : CpC := fun As σ => ∃ (p0 : Nat), As = [.inr (.inr (some p0))] ∧ HIC σ ∧ TyC σ p0 2
abbrev Q_X1_acts : CqC := fun As σ w τ => match As with
  | [.inr (.inr (some p0))] => ∃ r : Int32, w = some (.inl r) ∧ σ = τ ∧ 0 ≤ r.toInt ∧ r.toInt ≤ 1
  | _ => False
set_option maxRecDepth 100000 in
set_option maxHeartbeats 4000000 in
theorem b_X1_acts : TbC KX1_acts [] P_X1_acts Q_X1_acts := by
  · rintro As σ0 ⟨p0, rfl, H0, h_0_0⟩ hgr G hB hW
    change G 0 [(0, .inr (.inr (some p0)))] [] σ0
    refine hB _ _ _ _ (kgoC (is := KX1_acts_0) rfl ?_)
    refine k_aload_n rfl ?_
    obtain ⟨x3, e1, c2, h4, h5⟩ := cg60 H0.1 h_0_0
    refine k_get kg60 h_0_0 e1 ?_
    refine k_bipush (m := 9) rfl (fun x6 h7 => ?_)
    refine k_ic_eq (fun h8 => ?_) (fun h8 => ?_)
    · refine hB _ _ _ _ (kgoC (is := KX1_acts_27) rfl ?_)
      refine k_iconst (m := 1) rfl (fun x9 h10 => ?_)
      refine k_goto ?_
      refine hB _ _ _ _ (kgoC (is := KX1_acts_32) rfl ?_)
      refine k_ireturn (fun _ => b01C (by omega) (by omega)) ?_
      exact ⟨_, rfl, rfl, (by omega), (by omega)⟩
    · refine k_nil ?_
      refine hB _ _ _ _ (kgoC (is := KX1_acts_9) rfl ?_)
      refine k_aload_n rfl ?_
      refine k_get kg60 h_0_0 (congrArg (Sum.inl : Int32 → AvC) c2) ?_
      refine k_bipush (m := 6) rfl (fun x11 h12 => ?_)
      refine k_ic_eq (fun h13 => ?_) (fun h13 => ?_)
      · refine hB _ _ _ _ (kgoC (is := KX1_acts_27) rfl ?_)
        refine k_iconst (m := 1) rfl (fun x14 h15 => ?_)
        refine k_goto ?_
        refine hB _ _ _ _ (kgoC (is := KX1_acts_32) rfl ?_)
        refine k_ireturn (fun _ => b01C (by omega) (by omega)) ?_
        exact ⟨_, rfl, rfl, (by omega), (by omega)⟩
      · refine k_nil ?_
        refine hB _ _ _ _ (kgoC (is := KX1_acts_18) rfl ?_)
        refine k_aload_n rfl ?_
        refine k_get kg60 h_0_0 (congrArg (Sum.inl : Int32 → AvC) c2) ?_
        refine k_bipush (m := 10) rfl (fun x16 h17 => ?_)
        refine k_ic_ne (fun h18 => ?_) (fun h18 => ?_)
        · refine hB _ _ _ _ (kgoC (is := KX1_acts_31) rfl ?_)
          refine k_iconst (m := 0) rfl (fun x19 h20 => ?_)
          refine k_nil ?_
          refine hB _ _ _ _ (kgoC (is := KX1_acts_32) rfl ?_)
          refine k_ireturn (fun _ => b01C (by omega) (by omega)) ?_
          exact ⟨_, rfl, rfl, (by omega), (by omega)⟩
        · refine k_nil ?_
          refine hB _ _ _ _ (kgoC (is := KX1_acts_27) rfl ?_)
          refine k_iconst (m := 1) rfl (fun x21 h22 => ?_)
          refine k_goto ?_
          refine hB _ _ _ _ (kgoC (is := KX1_acts_32) rfl ?_)
          refine k_ireturn (fun _ => b01C (by omega) (by omega)) ?_
          exact ⟨_, rfl, rfl, (by omega), (by omega)⟩
theorem lg_X1_acts : ∀ (As : List AvC) (σ : CsC), P_X1_acts As σ → lgC As ≤ rX1_acts.2.2.1 := by
  rintro As σ ⟨p0, rfl, -⟩
  exact Nat.le_of_ble_eq_true rfl
theorem m_X1_acts (l : Launch) : CMetC l 1 18 P_X1_acts Q_X1_acts :=
  CMetC.of KX1_acts [] hX1_acts (by decide) (by decide) okX1_acts cc0C (lg_X1_acts) (b_X1_acts)

abbrev P_X8_isLoop : CpC := fun As σ => ∃ (p0 : Nat), As = [.inr (.inr (some p0))] ∧ HIC σ ∧ TyC σ p0 9
abbrev Q_X8_isLoop : CqC := fun As σ w τ => match As with
  | [.inr (.inr (some p0))] => ∃ r : Int32, w = some (.inl r) ∧ σ = τ ∧ 0 ≤ r.toInt ∧ r.toInt ≤ 1
  | _ => False
set_option maxRecDepth 100000 in
set_option maxHeartbeats 4000000 in
theorem b_X8_isLoop : TbC KX8_isLoop [] P_X8_isLoop Q_X8_isLoop := by
  · rintro As σ0 ⟨p0, rfl, H0, h_0_0⟩ hgr G hB hW
    change G 0 [(0, .inr (.inr (some p0)))] [] σ0
    refine hB _ _ _ _ (kgoC (is := KX8_isLoop_0) rfl ?_)
    refine k_aload_n rfl ?_
    obtain ⟨x3, e1, c2, h4, h5⟩ := cg270 H0.1 h_0_0
    refine k_get kg270 h_0_0 e1 ?_
    refine k_bipush (m := 58) rfl (fun x6 h7 => ?_)
    refine k_ic_eq (fun h8 => ?_) (fun h8 => ?_)
    · refine hB _ _ _ _ (kgoC (is := KX8_isLoop_27) rfl ?_)
      refine k_iconst (m := 1) rfl (fun x9 h10 => ?_)
      refine k_goto ?_
      refine hB _ _ _ _ (kgoC (is := KX8_isLoop_32) rfl ?_)
      refine k_ireturn (fun _ => b01C (by omega) (by omega)) ?_
      exact ⟨_, rfl, rfl, (by omega), (by omega)⟩
    · refine k_nil ?_
      refine hB _ _ _ _ (kgoC (is := KX8_isLoop_9) rfl ?_)
      refine k_aload_n rfl ?_
      refine k_get kg270 h_0_0 (congrArg (Sum.inl : Int32 → AvC) c2) ?_
      refine k_bipush (m := 59) rfl (fun x11 h12 => ?_)
      refine k_ic_eq (fun h13 => ?_) (fun h13 => ?_)
      · refine hB _ _ _ _ (kgoC (is := KX8_isLoop_27) rfl ?_)
        refine k_iconst (m := 1) rfl (fun x14 h15 => ?_)
        refine k_goto ?_
        refine hB _ _ _ _ (kgoC (is := KX8_isLoop_32) rfl ?_)
        refine k_ireturn (fun _ => b01C (by omega) (by omega)) ?_
        exact ⟨_, rfl, rfl, (by omega), (by omega)⟩
      · refine k_nil ?_
        refine hB _ _ _ _ (kgoC (is := KX8_isLoop_18) rfl ?_)
        refine k_aload_n rfl ?_
        refine k_get kg270 h_0_0 (congrArg (Sum.inl : Int32 → AvC) c2) ?_
        refine k_bipush (m := 60) rfl (fun x16 h17 => ?_)
        refine k_ic_ne (fun h18 => ?_) (fun h18 => ?_)
        · refine hB _ _ _ _ (kgoC (is := KX8_isLoop_31) rfl ?_)
          refine k_iconst (m := 0) rfl (fun x19 h20 => ?_)
          refine k_nil ?_
          refine hB _ _ _ _ (kgoC (is := KX8_isLoop_32) rfl ?_)
          refine k_ireturn (fun _ => b01C (by omega) (by omega)) ?_
          exact ⟨_, rfl, rfl, (by omega), (by omega)⟩
        · refine k_nil ?_
          refine hB _ _ _ _ (kgoC (is := KX8_isLoop_27) rfl ?_)
          refine k_iconst (m := 1) rfl (fun x21 h22 => ?_)
          refine k_goto ?_
          refine hB _ _ _ _ (kgoC (is := KX8_isLoop_32) rfl ?_)
          refine k_ireturn (fun _ => b01C (by omega) (by omega)) ?_
          exact ⟨_, rfl, rfl, (by omega), (by omega)⟩
theorem lg_X8_isLoop : ∀ (As : List AvC) (σ : CsC), P_X8_isLoop As σ → lgC As ≤ rX8_isLoop.2.2.1 := by
  rintro As σ ⟨p0, rfl, -⟩
  exact Nat.le_of_ble_eq_true rfl
theorem m_X8_isLoop (l : Launch) : CMetC l 1 179 P_X8_isLoop Q_X8_isLoop :=
  CMetC.of KX8_isLoop [] hX8_isLoop (by decide) (by decide) okX8_isLoop cc0C (lg_X8_isLoop) (b_X8_isLoop)

abbrev P_X8_isPart : CpC := fun As σ => ∃ (p0 : Nat), As = [.inr (.inr (some p0))] ∧ HIC σ ∧ TyC σ p0 9
abbrev Q_X8_isPart : CqC := fun As σ w τ => match As with
  | [.inr (.inr (some p0))] => ∃ r : Int32, w = some (.inl r) ∧ σ = τ ∧ 0 ≤ r.toInt ∧ r.toInt ≤ 1
  | _ => False
set_option maxRecDepth 100000 in
set_option maxHeartbeats 4000000 in
theorem b_X8_isPart : TbC KX8_isPart [] P_X8_isPart Q_X8_isPart := by
  · rintro As σ0 ⟨p0, rfl, H0, h_0_0⟩ hgr G hB hW
    change G 0 [(0, .inr (.inr (some p0)))] [] σ0
    refine hB _ _ _ _ (kgoC (is := KX8_isPart_0) rfl ?_)
    refine k_aload_n rfl ?_
    obtain ⟨x3, e1, c2, h4, h5⟩ := cg270 H0.1 h_0_0
    refine k_get kg270 h_0_0 e1 ?_
    refine k_bipush (m := 62) rfl (fun x6 h7 => ?_)
    refine k_ic_eq (fun h8 => ?_) (fun h8 => ?_)
    · refine hB _ _ _ _ (kgoC (is := KX8_isPart_45) rfl ?_)
      refine k_iconst (m := 1) rfl (fun x9 h10 => ?_)
      refine k_goto ?_
      refine hB _ _ _ _ (kgoC (is := KX8_isPart_50) rfl ?_)
      refine k_ireturn (fun _ => b01C (by omega) (by omega)) ?_
      exact ⟨_, rfl, rfl, (by omega), (by omega)⟩
    · refine k_nil ?_
      refine hB _ _ _ _ (kgoC (is := KX8_isPart_9) rfl ?_)
      refine k_aload_n rfl ?_
      refine k_get kg270 h_0_0 (congrArg (Sum.inl : Int32 → AvC) c2) ?_
      refine k_bipush (m := 63) rfl (fun x11 h12 => ?_)
      refine k_ic_eq (fun h13 => ?_) (fun h13 => ?_)
      · refine hB _ _ _ _ (kgoC (is := KX8_isPart_45) rfl ?_)
        refine k_iconst (m := 1) rfl (fun x14 h15 => ?_)
        refine k_goto ?_
        refine hB _ _ _ _ (kgoC (is := KX8_isPart_50) rfl ?_)
        refine k_ireturn (fun _ => b01C (by omega) (by omega)) ?_
        exact ⟨_, rfl, rfl, (by omega), (by omega)⟩
      · refine k_nil ?_
        refine hB _ _ _ _ (kgoC (is := KX8_isPart_18) rfl ?_)
        refine k_aload_n rfl ?_
        refine k_get kg270 h_0_0 (congrArg (Sum.inl : Int32 → AvC) c2) ?_
        refine k_bipush (m := 92) rfl (fun x16 h17 => ?_)
        refine k_ic_eq (fun h18 => ?_) (fun h18 => ?_)
        · refine hB _ _ _ _ (kgoC (is := KX8_isPart_45) rfl ?_)
          refine k_iconst (m := 1) rfl (fun x19 h20 => ?_)
          refine k_goto ?_
          refine hB _ _ _ _ (kgoC (is := KX8_isPart_50) rfl ?_)
          refine k_ireturn (fun _ => b01C (by omega) (by omega)) ?_
          exact ⟨_, rfl, rfl, (by omega), (by omega)⟩
        · refine k_nil ?_
          refine hB _ _ _ _ (kgoC (is := KX8_isPart_27) rfl ?_)
          refine k_aload_n rfl ?_
          refine k_get kg270 h_0_0 (congrArg (Sum.inl : Int32 → AvC) c2) ?_
          refine k_bipush (m := 93) rfl (fun x21 h22 => ?_)
          refine k_ic_eq (fun h23 => ?_) (fun h23 => ?_)
          · refine hB _ _ _ _ (kgoC (is := KX8_isPart_45) rfl ?_)
            refine k_iconst (m := 1) rfl (fun x24 h25 => ?_)
            refine k_goto ?_
            refine hB _ _ _ _ (kgoC (is := KX8_isPart_50) rfl ?_)
            refine k_ireturn (fun _ => b01C (by omega) (by omega)) ?_
            exact ⟨_, rfl, rfl, (by omega), (by omega)⟩
          · refine k_nil ?_
            refine hB _ _ _ _ (kgoC (is := KX8_isPart_36) rfl ?_)
            refine k_aload_n rfl ?_
            refine k_get kg270 h_0_0 (congrArg (Sum.inl : Int32 → AvC) c2) ?_
            refine k_bipush (m := 94) rfl (fun x26 h27 => ?_)
            refine k_ic_ne (fun h28 => ?_) (fun h28 => ?_)
            · refine hB _ _ _ _ (kgoC (is := KX8_isPart_49) rfl ?_)
              refine k_iconst (m := 0) rfl (fun x29 h30 => ?_)
              refine k_nil ?_
              refine hB _ _ _ _ (kgoC (is := KX8_isPart_50) rfl ?_)
              refine k_ireturn (fun _ => b01C (by omega) (by omega)) ?_
              exact ⟨_, rfl, rfl, (by omega), (by omega)⟩
            · refine k_nil ?_
              refine hB _ _ _ _ (kgoC (is := KX8_isPart_45) rfl ?_)
              refine k_iconst (m := 1) rfl (fun x31 h32 => ?_)
              refine k_goto ?_
              refine hB _ _ _ _ (kgoC (is := KX8_isPart_50) rfl ?_)
              refine k_ireturn (fun _ => b01C (by omega) (by omega)) ?_
              exact ⟨_, rfl, rfl, (by omega), (by omega)⟩
theorem lg_X8_isPart : ∀ (As : List AvC) (σ : CsC), P_X8_isPart As σ → lgC As ≤ rX8_isPart.2.2.1 := by
  rintro As σ ⟨p0, rfl, -⟩
  exact Nat.le_of_ble_eq_true rfl
theorem m_X8_isPart (l : Launch) : CMetC l 1 180 P_X8_isPart Q_X8_isPart :=
  CMetC.of KX8_isPart [] hX8_isPart (by decide) (by decide) okX8_isPart cc0C (lg_X8_isPart) (b_X8_isPart)

abbrev P_X8_isAlways : CpC := fun As σ => ∃ (p0 : Nat) (p1 : Int32), As = [.inr (.inr (some p0)), .inl p1] ∧ HIC σ ∧ TyC σ p0 9
abbrev Q_X8_isAlways : CqC := fun As σ w τ => match As with
  | [.inr (.inr (some p0)), .inl p1] => ∃ r : Int32, w = some (.inl r) ∧ σ = τ ∧ 0 ≤ r.toInt ∧ r.toInt ≤ 1
  | _ => False
set_option maxRecDepth 100000 in
set_option maxHeartbeats 4000000 in
theorem b_X8_isAlways : TbC KX8_isAlways [] P_X8_isAlways Q_X8_isAlways := by
  · rintro As σ0 ⟨p0, p1, rfl, H0, h_0_0⟩ hgr G hB hW
    change G 0 [(0, .inr (.inr (some p0))), (1, .inl p1)] [] σ0
    refine hB _ _ _ _ (kgoC (is := KX8_isAlways_0) rfl ?_)
    refine k_aload_n rfl ?_
    obtain ⟨o3, e1, c2, t4⟩ := cg279 H0.1 h_0_0
    refine k_get kg279 h_0_0 e1 ?_
    refine k_ifnonnull (fun b5 h6 => ?_) (fun h6 => ?_)
    · subst h6
      have t7 := t4 b5 rfl
      refine hB _ _ _ _ (kgoC (is := KX8_isAlways_18) rfl ?_)
      refine k_aload_n rfl ?_
      refine k_get kg279 h_0_0 (congrArg (fun z : Option Nat => (Sum.inr (Sum.inr z) : AvC)) c2) ?_
      obtain ⟨x10, e8, c9, h11, h12⟩ := cg70 H0.1 t7
      refine k_get kg70 t7 e8 ?_
      refine k_if_eq (fun h13 => ?_) (fun h13 => ?_)
      · refine hB _ _ _ _ (kgoC (is := KX8_isAlways_45) rfl ?_)
        refine k_iconst (m := 0) rfl (fun x14 h15 => ?_)
        refine k_nil ?_
        refine hB _ _ _ _ (kgoC (is := KX8_isAlways_46) rfl ?_)
        refine k_ireturn (fun _ => b01C (by omega) (by omega)) ?_
        exact ⟨_, rfl, rfl, (by omega), (by omega)⟩
      · refine k_nil ?_
        refine hB _ _ _ _ (kgoC (is := KX8_isAlways_28) rfl ?_)
        refine k_aload_n rfl ?_
        refine k_get kg279 h_0_0 (congrArg (fun z : Option Nat => (Sum.inr (Sum.inr z) : AvC)) c2) ?_
        obtain ⟨y18, e16, c17⟩ := cg71 (σ := σ0) (a := b5)
        refine k_get kg71 t7 e16 ?_
        refine k_iload_n rfl ?_
        refine k_i2l (fun y19 => ?_)
        refine k_lcmp (fun x20 h21 g22 => ?_)
        refine k_if_ne (fun h23 => ?_) (fun h23 => ?_)
        · refine hB _ _ _ _ (kgoC (is := KX8_isAlways_45) rfl ?_)
          refine k_iconst (m := 0) rfl (fun x24 h25 => ?_)
          refine k_nil ?_
          refine hB _ _ _ _ (kgoC (is := KX8_isAlways_46) rfl ?_)
          refine k_ireturn (fun _ => b01C (by omega) (by omega)) ?_
          exact ⟨_, rfl, rfl, (by omega), (by omega)⟩
        · refine k_nil ?_
          refine hB _ _ _ _ (kgoC (is := KX8_isAlways_41) rfl ?_)
          refine k_iconst (m := 1) rfl (fun x26 h27 => ?_)
          refine k_goto ?_
          refine hB _ _ _ _ (kgoC (is := KX8_isAlways_46) rfl ?_)
          refine k_ireturn (fun _ => b01C (by omega) (by omega)) ?_
          exact ⟨_, rfl, rfl, (by omega), (by omega)⟩
    · subst h6
      refine k_nil ?_
      refine hB _ _ _ _ (kgoC (is := KX8_isAlways_7) rfl ?_)
      refine k_iload_n rfl ?_
      refine k_iconst (m := 1) rfl (fun x28 h29 => ?_)
      refine k_ic_ne (fun h30 => ?_) (fun h30 => ?_)
      · refine hB _ _ _ _ (kgoC (is := KX8_isAlways_16) rfl ?_)
        refine k_iconst (m := 0) rfl (fun x31 h32 => ?_)
        refine k_nil ?_
        refine hB _ _ _ _ (kgoC (is := KX8_isAlways_17) rfl ?_)
        refine k_ireturn (fun _ => b01C (by omega) (by omega)) ?_
        exact ⟨_, rfl, rfl, (by omega), (by omega)⟩
      · refine k_nil ?_
        refine hB _ _ _ _ (kgoC (is := KX8_isAlways_12) rfl ?_)
        refine k_iconst (m := 1) rfl (fun x33 h34 => ?_)
        refine k_goto ?_
        refine hB _ _ _ _ (kgoC (is := KX8_isAlways_17) rfl ?_)
        refine k_ireturn (fun _ => b01C (by omega) (by omega)) ?_
        exact ⟨_, rfl, rfl, (by omega), (by omega)⟩
theorem lg_X8_isAlways : ∀ (As : List AvC) (σ : CsC), P_X8_isAlways As σ → lgC As ≤ rX8_isAlways.2.2.1 := by
  rintro As σ ⟨p0, p1, rfl, -⟩
  exact Nat.le_of_ble_eq_true rfl
theorem m_X8_isAlways (l : Launch) : CMetC l 1 183 P_X8_isAlways Q_X8_isAlways :=
  CMetC.of KX8_isAlways [] hX8_isAlways (by decide) (by decide) okX8_isAlways cc0C (lg_X8_isAlways) (b_X8_isAlways)
