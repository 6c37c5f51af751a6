theorem m_Jx4a65c_add_9ea2d (l : Launch) : CMetC l 10 236 P_Jx4a65c_add_9ea2d Q_Jx4a65c_add_9ea2d := by
  refine CMetC.of KJx4a65c_add_9ea2d [(242, P_ad3, Q_ad3)] hJx4a65c_add_9ea2d (by decide) (by decide) okJx4a65c_add_9ea2d (cc1C (m_ad3 l) (by decide) cc0C) ?_ ?_
  · rintro As σ ⟨p0, p1, rfl, -⟩
    exact Nat.le_of_ble_eq_true rfl
  · rintro As σ0 ⟨p0, p1, rfl, H0, t0, hb, h43, h1, h2, h6⟩ hgr G hB hW
    change G 0 [(0, .inr (.inr (some p0))), (1, .inr (.inr (some p1)))] [] σ0
    refine hB _ _ _ _ (kgoC (is := KJx4a65c_add_9ea2d_0) rfl (k_aload_n rfl (k_dupR (k_getO (k := 0) (v := .inl (fIC σ0 p0 0)) (t0.ob (by decide)) rfl (k_iconst (m := 1) rfl (fun x1 hx1 => k_iadd_u (fun z => k_putIg (k := 0) (t0.ob (by decide)) (by decide) ?_)))))))
    have X1 : ExC [0] σ0 (pIC σ0 p0 0 z) := ExC.pI rfl (Or.inr (by decide))
    have H1 : HI0 (pIC σ0 p0 0 z) := H0.1.pI t0 (by decide) (by decide) (tiC z)
    have t1 := t0.x X1
    obtain ⟨d, hd⟩ : ∃ d, fRC σ0 p0 1 = some d := by
      rcases (H0.1 p0 t0.1).2.1 t0.2.1 with ⟨q1, -⟩ | ⟨r, q1, -⟩
      · exact ⟨_, q1⟩
      · exact ⟨r, q1⟩
    refine k_aload_n rfl (k_aload_n rfl (k_aload_n rfl (k_getO (k := 1) (v := .inr (.inr (some d))) (t1.ob (by decide)) (by show (Sum.inr (Sum.inr (fRC σ0 p0 1)) : AvC) = _; rw [hd]) ?_)))
    have e2 : fIC (pIC σ0 p0 0 z) p0 2 = fIC σ0 p0 2 := fI_pI (Or.inl (by decide))
    refine k_aload_n rfl (k_getO (k := 2) (v := .inl (fIC σ0 p0 2)) (t1.ob (by decide)) ?_ ?_)
    · show (Sum.inl (fIC (pIC σ0 p0 0 z) p0 2) : AvC) = _
      rw [e2]
    refine k_inv (P := P_ad3) (Q := Q_ad3) rfl rfl rfl rfl (Nat.le_of_ble_eq_true rfl) (t1.rc (by decide)) ⟨p0, p1, d, fIC σ0 p0 2, rfl, H1, t1, hb.x X1, hd, e2, h43, h1, h2, h6⟩ (fun w σ1 hq => ?_)
    obtain ⟨rfl, g1, g2, g3, g4, g5, g6, g8, g9, g10⟩ := hq
    refine k_st (st' := []) rfl (k_iconst (m := 1) rfl (fun o ho => k_ireturn (fun _ => Or.inr (Int32.toInt_inj.mp ho)) ⟨o, rfl, ⟨g1, g2 _ (H0.2.ex X1 (fun c p1 p2 => absurd p2 (Nat.not_lt.mpr p1)) rfl)⟩, (X1.mo rfl).tr g3, by omega, by omega, (X1.gw H0.1 (by decide)).tr g4, g5, fun c hc ht => ?_, by rw [g8, fI_pI (Or.inl (by decide))], fun c hc => by rw [g9 c hc, fI_pI (Or.inl (by decide))], fun c hc ht hn j hj => g10.1 c hc ht hn j (by rw [fI_pI (Or.inl (by decide))]; exact hj), fun j hj => g10.2.1 j (by rw [fI_pI (Or.inl (by decide))]; exact hj), by have g11 := g10.2.2; rw [fI_pI (Or.inl (by decide))] at g11; exact g11⟩))
    have g7 := g6 c hc ht
    rw [fI_pI (Or.inl (by decide))] at g7
    exact g7
theorem m_add6 (l : Launch) : CMetC l 10 236 P_add6 Q_add6 := by
  refine CMetC.of KJx4a65c_add_9ea2d [(242, P_ad3, Q_ad3)] hJx4a65c_add_9ea2d (by decide) (by decide) okJx4a65c_add_9ea2d (cc1C (m_ad3 l) (by decide) cc0C) ?_ ?_
  · rintro As σ ⟨p0, p1, rfl, -⟩
    exact Nat.le_of_ble_eq_true rfl
  · rintro As σ0 ⟨p0, p1, rfl, H0, t0, hb, h43, h1, h2, h6⟩ hgr G hB hW
    change G 0 [(0, .inr (.inr (some p0))), (1, .inr (.inr (some p1)))] [] σ0
    refine hB _ _ _ _ (kgoC (is := KJx4a65c_add_9ea2d_0) rfl (k_aload_n rfl (k_dupR (k_getO (k := 0) (v := .inl (fIC σ0 p0 0)) (t0.ob (by decide)) rfl (k_iconst (m := 1) rfl (fun x1 hx1 => k_iadd_u (fun z => k_putIg (k := 0) (t0.ob (by decide)) (by decide) ?_)))))))
    have X1 : ExC [0] σ0 (pIC σ0 p0 0 z) := ExC.pI rfl (Or.inr (by decide))
    have H1 : HI0 (pIC σ0 p0 0 z) := H0.1.pI t0 (by decide) (by decide) (tiC z)
    have t1 := t0.x X1
    obtain ⟨d, hd⟩ : ∃ d, fRC σ0 p0 1 = some d := by
      rcases (H0.1 p0 t0.1).2.1 t0.2.1 with ⟨q1, -⟩ | ⟨r, q1, -⟩
      · exact ⟨_, q1⟩
      · exact ⟨r, q1⟩
    refine k_aload_n rfl (k_aload_n rfl (k_aload_n rfl (k_getO (k := 1) (v := .inr (.inr (some d))) (t1.ob (by decide)) (by show (Sum.inr (Sum.inr (fRC σ0 p0 1)) : AvC) = _; rw [hd]) ?_)))
    have e2 : fIC (pIC σ0 p0 0 z) p0 2 = fIC σ0 p0 2 := fI_pI (Or.inl (by decide))
    refine k_aload_n rfl (k_getO (k := 2) (v := .inl (fIC σ0 p0 2)) (t1.ob (by decide)) ?_ ?_)
    · show (Sum.inl (fIC (pIC σ0 p0 0 z) p0 2) : AvC) = _
      rw [e2]
    refine k_inv (P := P_ad3) (Q := Q_ad3) rfl rfl rfl rfl (Nat.le_of_ble_eq_true rfl) (t1.rc (by decide)) ⟨p0, p1, d, fIC σ0 p0 2, rfl, H1, t1, hb.x X1, hd, e2, h43, h1, h2, h6⟩ (fun w σ1 hq => ?_)
    obtain ⟨rfl, g1, g2, g3, g4, g5, g6, g8, g9, g10⟩ := hq
    refine k_st (st' := []) rfl (k_iconst (m := 1) rfl (fun o ho => k_ireturn (fun _ => Or.inr (Int32.toInt_inj.mp ho)) ⟨o, rfl, ⟨g1, g2 _ (H0.2.ex X1 (fun c p1 p2 => absurd p2 (Nat.not_lt.mpr p1)) rfl)⟩, (X1.mo rfl).tr g3, by omega, by omega, (X1.gw H0.1 (by decide)).tr g4, g5, fun c hc ht => ?_, by rw [g8, fI_pI (Or.inl (by decide))], fun c hc => by rw [g9 c hc, fI_pI (Or.inl (by decide))], fun c hc ht hn j hj => g10.1 c hc ht hn j (by rw [fI_pI (Or.inl (by decide))]; exact hj), fun j hj => g10.2.1 j (by rw [fI_pI (Or.inl (by decide))]; exact hj), by have g11 := g10.2.2; rw [fI_pI (Or.inl (by decide))] at g11; exact g11⟩))
    have g7 := g6 c hc ht
    rw [fI_pI (Or.inl (by decide))] at g7
    exact g7
abbrev P_in2 : CpC := fun As σ => ∃ a : Nat, As = [.inr (.inr (some a))]
abbrev Q_in2 : CqC := fun As σ w τ => w = none ∧ σ = τ
theorem m_in2 (l : Launch) : CMetC l 1 251 P_in2 Q_in2 := by
  refine CMetC.of KJxa1e45_init_da8c8 [] hJxa1e45_init_da8c8 (by decide) (by decide) okJxa1e45_init_da8c8 cc0C ?_ ?_
  · rintro As σ ⟨a, rfl⟩
    exact Nat.le_of_ble_eq_true rfl
  · rintro As σ0 ⟨a, rfl⟩ hgr G hB hW
    change G 0 [(0, .inr (.inr (some a)))] [] σ0
    exact hB _ _ _ _ (kgoC (is := KJxa1e45_init_da8c8_0) rfl (k_aload_n rfl (k_obj (Nat.le_of_ble_eq_true rfl) (k_return ⟨rfl, rfl⟩))))
abbrev P_in1 : CpC := fun As σ => ∃ a : Nat, As = [.inr (.inr (some a))] ∧ ObC σ a 0
abbrev Q_in1 : CqC := fun As σ w τ => match As with
  | [.inr (.inr (some a))] => w = none ∧ ∃ z, τ = pIC σ a 0 z
  | _ => False
theorem m_in1 (l : Launch) : CMetC l 2 250 P_in1 Q_in1 := by
  refine CMetC.of KJxc12de_init_da8c8 [(251, P_in2, Q_in2)] hJxc12de_init_da8c8 (by decide) (by decide) okJxc12de_init_da8c8 (cc1C (m_in2 l) (by decide) cc0C) ?_ ?_
  · rintro As σ ⟨a, rfl, -⟩
    exact Nat.le_of_ble_eq_true rfl
  · rintro As σ0 ⟨a, rfl, ho⟩ hgr G hB hW
    change G 0 [(0, .inr (.inr (some a)))] [] σ0
    refine hB _ _ _ _ (kgoC (is := KJxc12de_init_da8c8_0) rfl (k_aload_n rfl (k_spec (P := P_in2) (Q := Q_in2) rfl rfl rfl rfl (Nat.le_of_ble_eq_true rfl) ⟨a, rfl⟩ (fun w σ1 hq => ?_))))
    obtain ⟨rfl, rfl⟩ := hq
    exact k_st (st' := []) rfl (k_aload_n rfl (k_iconst (m := 0) rfl (fun o _ => k_putIg (k := 0) ho (by decide) (k_return ⟨rfl, o, rfl⟩))))
theorem m_Jx4a65c_init_da8c8 (l : Launch) : CMetC l 10 233 P_Jx4a65c_init_da8c8 Q_Jx4a65c_init_da8c8 := by
  refine CMetC.of KJx4a65c_init_da8c8 [(250, P_in1, Q_in1)] hJx4a65c_init_da8c8 (by decide) (by decide) okJx4a65c_init_da8c8 (cc1C (m_in1 l) (by decide) cc0C) ?_ ?_
  · rintro As σ ⟨p0, rfl, -⟩
    exact Nat.le_of_ble_eq_true rfl
  · rintro As σ0 ⟨p0, rfl, H0, r0, z0, -, -⟩ hgr G hB hW
    change G 0 [(0, .inr (.inr (some p0)))] [] σ0
    refine hB _ _ _ _ (kgoC (is := KJx4a65c_init_da8c8_0) rfl (k_aload_n rfl (k_spec (P := P_in1) (Q := Q_in1) rfl rfl rfl rfl (Nat.le_of_ble_eq_true rfl) ⟨p0, rfl, r0.ob⟩ (fun w σ1 hq => ?_))))
    obtain ⟨rfl, z, rfl⟩ := hq
    have H1 : HIC (pIC σ0 p0 0 z) := H0.pIr r0.ge
    have H2 : HIC (pRC (pIC σ0 p0 0 z) p0 1 (some 1000000)) := H1.pRr r0.ge
    have e2 : fIC (pRC (pIC σ0 p0 0 z) p0 1 (some 1000000)) p0 2 = 0 := (fI_pI (σ := σ0) (a := p0) (k := 0) (v := z) (b := p0) (j := 2) (Or.inl (by decide))).trans (z0 2).1
    have e1 : fRC (pRC (pIC σ0 p0 0 z) p0 1 (some 1000000)) p0 1 = some 1000000 := fR_pRs
    have H3 : HIC (rTC (pRC (pIC σ0 p0 0 z) p0 1 (some 1000000)) p0 0 (ghC σ0 p0)) := HIC.fin (σ := pRC (pIC σ0 p0 0 z) p0 1 (some 1000000)) (c := 0) H2 r0 rfl (fn0 (by rw [e2]; exact ⟨by decide, by decide⟩)) (XaC.of0 rT_tg (Or.inl ⟨e1, congrArg Int32.toInt e2⟩)) (fun z => absurd z (by decide))
    exact k_st (st' := []) rfl (k_aload_n rfl (k_gets (k_putRg (k := 1) r0.ob (by decide) (k_returnW (τ := rTC (pRC (pIC σ0 p0 0 z) p0 1 (some 1000000)) p0 0 (ghC σ0 p0)) (RawC.we (σ := pRC (pIC σ0 p0 0 z) p0 1 (some 1000000)) r0) ⟨rfl, H3, (ExT.pI.tr ExT.pR).tr ExT.rT, ⟨r0.1, rT_tg, fun z => absurd z (by decide)⟩, rT_gh, rfl, rfl⟩))))
