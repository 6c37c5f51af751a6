theorem v_J0_charAt_5068e (l : Launch) : CMetC l 10 238 P_J0_charAt_5068e (EvQ (10 + 1) 238 Q_J0_charAt_5068e) := (m_J0_charAt_5068e l).mq (fun As σ w τ hP hg h => ⟨h, ⟨trivial, Nat.le_trans hg.2.2.1.1 hg.2.2.2, (by
    obtain ⟨p0, p1, rfl, _⟩ := hP
    obtain ⟨r, _, e, _⟩ := h
    subst e
    exact MnE.rf)⟩, (by
    obtain ⟨p0, p1, rfl, _⟩ := hP
    obtain ⟨r, _, e, _⟩ := h
    subst e
    exact FrE.rf), trivial, trivial⟩)
theorem v_J0_length_8abf5 (l : Launch) : CMetC l 10 239 P_J0_length_8abf5 (EvQ (10 + 1) 239 Q_J0_length_8abf5) := (m_J0_length_8abf5 l).mq (fun As σ w τ hP hg h => ⟨h, ⟨trivial, Nat.le_trans hg.2.2.1.1 hg.2.2.2, (by
    obtain ⟨p0, rfl, _⟩ := hP
    obtain ⟨r, _, e, _⟩ := h
    subst e
    exact MnE.rf)⟩, (by
    obtain ⟨p0, rfl, _⟩ := hP
    obtain ⟨r, _, e, _⟩ := h
    subst e
    exact FrE.rf), trivial, trivial⟩)
theorem lg_X11_strengthv : ∀ (As : List AvC) (σ : CsC), P_X11_strength As σ → lgC As ≤ rX11_strength.2.2.1 := by
  rintro As σ ⟨p0, rfl, -⟩
  exact Nat.le_of_ble_eq_true rfl
theorem b_X11_strengthv : TbC KX11_strength [] P_X11_strength Q_X11_strength := by
  rintro As σ0 ⟨p0, rfl, H0⟩ hgr G hB hW
  change G 0 [(0, .inl p0)] [] σ0
  have hz : (p0.toInt < 0 ∨ 43 ≤ p0.toInt) → G 20 [(0, .inl p0)] [] σ0 := by
    intro hz0
    refine hB _ _ _ _ (kgoC (is := KX11_strength_20) rfl (k_iconst (m := 0) rfl (fun x hx => k_nil ?_)))
    exact hB _ _ _ _ (kgoC (is := KX11_strength_21) rfl (k_ireturn (fun hz => absurd hz (by decide)) ⟨_, rfl, rfl, fun h => by omega, fun _ _ => by omega⟩))
  refine hB _ _ _ _ (kgoC (is := KX11_strength_0) rfl (k_iload_n rfl (k_if_lt (fun h => hz (Or.inl (by omega))) (fun h => k_nil ?_))))
  refine hB _ _ _ _ (kgoC (is := KX11_strength_4) rfl (k_iload_n rfl (k_gets (k_alenK (n := 43) (by omega) (fun x hx => k_ic_ge (fun h2 => hz (Or.inr (by omega))) (fun h2 => k_nil ?_))))))
  refine hB _ _ _ _ (kgoC (is := KX11_strength_12) rfl (k_gets (k_iload_n rfl (k_ialS (by omega) (by omega) (k_goto ?_)))))
  refine hB _ _ _ _ (kgoC (is := KX11_strength_21) rfl (k_ireturn (fun hz => absurd hz (by decide)) ⟨_, rfl, rfl, fun h3 => ?_, fun h3 h6 => ?_⟩))
  · have h4 := cpsC h
    have h5 := stv_ok p0.toNatClampNeg (by omega) h3
    omega
  · have h4 := cpsC h
    exact stv_ok2 p0.toNatClampNeg (by omega) (by omega) (by omega)
theorem v_X11_strength (l : Launch) : CMetC l 10 225 P_X11_strength (EvQ (10 + 1) 225 Q_X11_strength) :=
  CMetC.of KX11_strength (uc2C [] ([].map (fun c => (c, EvF 10 c)))) hX11_strength (by decide) (by decide) okX11_strength cc0C lg_X11_strengthv (TbC.ev b_X11_strengthv (L := 10) (μ := 225) (M := []) rfl (by decide +kernel) rfl (by decide +kernel) (by decide +kernel) (fun _ _ _ _ _ h => h) (fun _ _ _ _ _ _ => trivial) (Or.inl ⟨by decide +kernel, by decide +kernel⟩))
theorem lg_X11_operatorOfv : ∀ (As : List AvC) (σ : CsC), P_X11_operatorOf As σ → lgC As ≤ rX11_operatorOf.2.2.1 := by
  rintro As σ ⟨p0, rfl, -⟩
  exact Nat.le_of_ble_eq_true rfl
theorem b_X11_operatorOfv : TbC KX11_operatorOf [] P_X11_operatorOf Q_X11_operatorOf := by
  rintro As σ0 ⟨p0, rfl, H0⟩ hgr G hB hW
  change G 0 [(0, .inl p0)] [] σ0
  refine hB _ _ _ _ (kgoC (is := KX11_operatorOf_0) rfl (k_iload_n rfl (k_bipush (m := 8) rfl (fun x hx => k_isub_u (fun y => k_iconst (m := 1) rfl (fun x2 hx2 => k_isub_u (fun v => k_istore_n (ls' := [(1, .inl v), (0, .inl p0)]) rfl ?_)))))))
  have hz : G 27 [(1, .inl v), (0, .inl p0)] [] σ0 := by
    refine hB _ _ _ _ (kgoC (is := KX11_operatorOf_27) rfl (k_iload_n rfl (k_nil ?_)))
    exact hB _ _ _ _ (kgoC (is := KX11_operatorOf_28) rfl (k_ireturn (fun hz => absurd hz (by decide)) ⟨_, rfl, rfl⟩))
  refine k_iload_n rfl (k_if_lt (fun h => hz) (fun h => k_nil ?_))
  refine hB _ _ _ _ (kgoC (is := KX11_operatorOf_11) rfl (k_iload_n rfl (k_gets (k_alenK (n := 11) (by omega) (fun x hx => k_ic_ge (fun h2 => hz) (fun h2 => k_nil ?_))))))
  refine hB _ _ _ _ (kgoC (is := KX11_operatorOf_19) rfl (k_gets (k_iload_n rfl (k_ialO (by omega) (by omega) (k_goto ?_)))))
  exact hB _ _ _ _ (kgoC (is := KX11_operatorOf_28) rfl (k_ireturn (fun hz => absurd hz (by decide)) ⟨_, rfl, rfl⟩))
theorem v_X11_operatorOf (l : Launch) : CMetC l 10 226 P_X11_operatorOf (EvQ (10 + 1) 226 Q_X11_operatorOf) :=
  CMetC.of KX11_operatorOf (uc2C [] ([].map (fun c => (c, EvF 10 c)))) hX11_operatorOf (by decide) (by decide) okX11_operatorOf cc0C lg_X11_operatorOfv (TbC.ev b_X11_operatorOfv (L := 10) (μ := 226) (M := []) rfl (by decide +kernel) rfl (by decide +kernel) (by decide +kernel) (fun _ _ _ _ _ h => h) (fun _ _ _ _ _ _ => trivial) (Or.inl ⟨by decide +kernel, by decide +kernel⟩))
theorem lg_Jx4a65c_size_8abf5v : ∀ (As : List AvC) (σ : CsC), P_Jx4a65c_size_8abf5 As σ → lgC As ≤ rJx4a65c_size_8abf5.2.2.1 := by
  rintro As σ ⟨p0, rfl, -⟩
  exact Nat.le_of_ble_eq_true rfl
theorem b_Jx4a65c_size_8abf5v : TbC KJx4a65c_size_8abf5 [] P_Jx4a65c_size_8abf5 Q_Jx4a65c_size_8abf5 := by
  rintro As σ0 ⟨p0, rfl, H0, t0⟩ hgr G hB hW
  change G 0 [(0, .inr (.inr (some p0)))] [] σ0
  obtain ⟨x, e1, e2, h1, h2⟩ := cg2 H0.1 t0
  refine hB _ _ _ _ (kgoC (is := KJx4a65c_size_8abf5_0) rfl (k_aload_n rfl (k_get kg2 t0 e1 (k_ireturn (fun hz => absurd hz (by decide)) ⟨x, rfl, rfl, h1, h2, e2, fun hg => ?_⟩))))
  rw [← e2]
  rcases (H0.1 p0 t0.1).2.1 t0.2.1 with ⟨-, q⟩ | ⟨r, -, -, q, -⟩
  · omega
  · exact q.2.2.2 hg
theorem v_Jx4a65c_size_8abf5 (l : Launch) : CMetC l 10 234 P_Jx4a65c_size_8abf5 (EvQ (10 + 1) 234 Q_Jx4a65c_size_8abf5) :=
  CMetC.of KJx4a65c_size_8abf5 (uc2C [] ([].map (fun c => (c, EvF 10 c)))) hJx4a65c_size_8abf5 (by decide) (by decide) okJx4a65c_size_8abf5 cc0C lg_Jx4a65c_size_8abf5v (TbC.ev b_Jx4a65c_size_8abf5v (L := 10) (μ := 234) (M := []) rfl (by decide +kernel) rfl (by decide +kernel) (by decide +kernel) (fun _ _ _ _ _ h => h) (fun _ _ _ _ _ _ => trivial) (Or.inl ⟨by decide +kernel, by decide +kernel⟩))
theorem v_Jx4a65c_get_915e3 (l : Launch) : CMetC l 10 235 P_Jx4a65c_get_915e3 (EvQ (10 + 1) 235 Q_Jx4a65c_get_915e3) := (n_get l).mq (fun As σ w τ hP hg h => ⟨h.1, ⟨h, Nat.le_trans hg.2.2.1.1 hg.2.2.2, (by
    obtain ⟨p0, p1, rfl, _⟩ := hP
    obtain ⟨r, _, e, _⟩ := h.1
    subst e
    exact MnE.rf)⟩, (by
    obtain ⟨p0, p1, rfl, _⟩ := hP
    obtain ⟨r, _, e, _⟩ := h.1
    subst e
    exact FrE.rf), trivial, trivial⟩)
theorem lg_Jx4a65c_clear_da8c8v : ∀ (As : List AvC) (σ : CsC), P_Jx4a65c_clear_da8c8 As σ → lgC As ≤ rJx4a65c_clear_da8c8.2.2.1 := by
  rintro As σ ⟨p0, rfl, -⟩
  exact Nat.le_of_ble_eq_true rfl
theorem b_Jx4a65c_clear_da8c8v : TbC KJx4a65c_clear_da8c8 [] P_Jx4a65c_clear_da8c8 Q_Jx4a65c_clear_da8c8 := by
  rintro As σ0 ⟨p0, rfl, H0, t0⟩ hgr G hB hW
  change G 0 [(0, .inr (.inr (some p0)))] [] σ0
  have hend : ∀ (d : Option Nat) (i n : Int32) (s : CsC), HIC s → ExC [0, 2] σ0 s → (fIC s p0 2).toInt = 0 → (∀ b, b ≠ p0 → fIC s b 2 = fIC σ0 b 2) → (∀ b, b < cnC σ0 → tgC σ0 b = 0 → b ≠ p0 → ∀ j : Nat, (j : Int) < (fIC σ0 b 2).toInt → elC s b j = elC σ0 b j) → G 42 [(3, .inl i), (2, .inl n), (1, .inr (.inr d)), (0, .inr (.inr (some p0)))] [] s := fun d i n s h1 h2 h3 h4 h6 => hB _ _ _ _ (kgoC (is := KJx4a65c_clear_da8c8_42) rfl (k_return ⟨rfl, h1, h2, h3, h4, h6⟩))
  have loop : ∀ (r : Nat) (k : Nat) (i n : Int32) (s : CsC), (n.toInt - i.toInt).toNat = k → 0 ≤ i.toInt → n.toInt ≤ 20000 → HIC s → ExC [0, 2] σ0 s → (fIC s p0 2).toInt = 0 → (∀ b, b ≠ p0 → fIC s b 2 = fIC σ0 b 2) → (∀ b, b < cnC σ0 → tgC σ0 b = 0 → b ≠ p0 → ∀ j : Nat, (j : Int) < (fIC σ0 b 2).toInt → elC s b j = elC σ0 b j) → (i.toInt < n.toInt → RwC s r 103 ∧ ghC s r = p0 + 1 ∧ n.toInt ≤ alC s r) → G 27 [(3, .inl i), (2, .inl n), (1, .inr (.inr (some r))), (0, .inr (.inr (some p0)))] [] s := by
    intro r k
    induction k using Nat.strongRecOn with
    | _ k ih =>
      intro i n s hk hi hn h1 h2 h3 h4 h6 h5
      refine hB _ _ _ _ (kgoC (is := KJx4a65c_clear_da8c8_27) rfl (k_iload_n rfl (k_iload_n rfl (k_ic_ge (fun h => hend _ _ _ _ h1 h2 h3 h4 h6) (fun h => k_nil ?_)))))
      obtain ⟨g1, g2, g3⟩ := h5 h
      refine hB _ _ _ _ (kgoC (is := KJx4a65c_clear_da8c8_32) rfl (k_aload_n rfl (k_iload_n rfl (k_aconst_null (k_aas g1 hi (by omega) trivial ?_)))))
      obtain ⟨i', e1, e2⟩ := iincC (n := 1) (m := 1) (v := i) rfl (by omega) (by omega)
      refine k_iinc (ls' := [(3, .inl i'), (2, .inl n), (1, .inr (.inr (some r))), (0, .inr (.inr (some p0)))]) rfl e1 rfl (k_goto ?_)
      refine ih ((n.toInt - i'.toInt).toNat) (by omega) i' n _ rfl (by omega) hn ⟨h1.1.q103 g1.2 g2 h3, h1.2⟩ (h2.tr (ExC.qR (fun _ => rfl))) h3 h4 (fun b hb ht hn j hj => (elC_q (h1.1 b (Nat.lt_of_lt_of_le hb h2.1)).2.1 ((h2.2.2 b hb).1.1.trans ht) g2 hn (by rw [h4 b hn]; exact hj)).trans (h6 b hb ht hn j hj)) (fun _ => ⟨g1, g2, g3⟩)
  obtain ⟨x, e1, e2, h1, h2⟩ := cg2 H0.1 t0
  obtain ⟨d, hd, hrow⟩ : ∃ d, fRC σ0 p0 1 = some d ∧ (0 < x.toInt → RwC σ0 d 103 ∧ ghC σ0 d = p0 + 1 ∧ x.toInt ≤ alC σ0 d) := by
    rcases (H0.1 p0 t0.1).2.1 t0.2.1 with ⟨q1, q2⟩ | ⟨r, q1, ⟨q2, q3, q4⟩, q5, -⟩
    · exact ⟨_, q1, fun h => by rw [e2] at q2; omega⟩
    · exact ⟨r, q1, fun _ => ⟨⟨q2, q3⟩, q4, by rw [← e2]; exact q5.1⟩⟩
  refine hB _ _ _ _ (kgoC (is := KJx4a65c_clear_da8c8_0) rfl (k_aload_n rfl (k_dupR (k_getO (k := 0) (v := .inl (fIC σ0 p0 0)) (t0.ob (by decide)) rfl (k_iconst (m := 1) rfl (fun x1 hx1 => k_iadd_u (fun z => k_putIg (k := 0) (t0.ob (by decide)) (by decide) ?_)))))))
  have X1 : ExC [0, 2] σ0 (pIC σ0 p0 0 z) := ExC.pI (by decide) (Or.inr (by decide))
  have H1 : HIC (pIC σ0 p0 0 z) := H0.pI t0 (by decide) (by decide) (tiC z)
  have t1 := t0.x X1
  refine k_aload_n rfl (k_getO (k := 1) (v := .inr (.inr (some d))) (t1.ob (by decide)) (by show (Sum.inr (Sum.inr (fRC σ0 p0 1)) : AvC) = _; rw [hd]) ?_)
  refine k_astore_n (ls' := [(1, .inr (.inr (some d))), (0, .inr (.inr (some p0)))]) rfl (k_aload_n rfl (k_getO (k := 2) (v := .inl x) (t1.ob (by decide)) ?_ ?_))
  · have e9 : fIC (pIC σ0 p0 0 z) p0 2 = x := (fI_pI (Or.inl (by decide))).trans e2
    show (Sum.inl (fIC (pIC σ0 p0 0 z) p0 2) : AvC) = _
    rw [e9]
  refine k_istore_n (ls' := [(2, .inl x), (1, .inr (.inr (some d))), (0, .inr (.inr (some p0)))]) rfl (k_aload_n rfl (k_iconst (m := 0) rfl (fun o ho => k_dup_x1I (k_putIg (k := 2) (t1.ob (by decide)) (by decide) ?_))))
  refine k_istore_n (ls' := [(3, .inl o), (2, .inl x), (1, .inr (.inr (some d))), (0, .inr (.inr (some p0)))]) rfl (k_nil ?_)
  have X2 : ExC [0, 2] (pIC σ0 p0 0 z) (pIC (pIC σ0 p0 0 z) p0 2 o) := ExC.pI (by decide) (Or.inr (by decide))
  have H2 : HIC (pIC (pIC σ0 p0 0 z) p0 2 o) := H1.p2 t1 ⟨by show (0 : Int) ≤ _; omega, by show _ ≤ (20000 : Int); omega⟩ (X0C.z ho ((H1.1 p0 t1.1).2.1 t1.2.1))
  refine loop d _ o x _ rfl (by omega) h2 H2 (X1.tr X2) (by rw [fI_pIs]; exact ho) (fun b hb => by rw [fI_pI (Or.inr hb), fI_pI (Or.inl (by decide))]) (fun _ _ _ _ _ _ => rfl) (fun h => hrow (by omega))
theorem v_Jx4a65c_clear_da8c8 (l : Launch) : CMetC l 10 237 P_Jx4a65c_clear_da8c8 (EvQ (10 + 1) 237 Q_Jx4a65c_clear_da8c8) :=
  CMetC.of KJx4a65c_clear_da8c8 (uc2C [] ([].map (fun c => (c, EvF 10 c)))) hJx4a65c_clear_da8c8 (by decide) (by decide) okJx4a65c_clear_da8c8 cc0C lg_Jx4a65c_clear_da8c8v (TbC.ev b_Jx4a65c_clear_da8c8v (L := 10) (μ := 237) (M := [0, 2, 902]) rfl (by decide +kernel) rfl (by decide +kernel) (by decide +kernel) (fun _ _ _ _ hP _ => by
    obtain ⟨p0, rfl, hH, ht⟩ := hP
    first
      | exact ⟨hH.1, ht⟩
      | exact ⟨hH.1, ht.1⟩) (fun _ _ _ _ _ _ => trivial) (Or.inl ⟨by decide +kernel, by decide +kernel⟩))
theorem lg_nlv : ∀ (As : List AvC) (σ : CsC), P_nl As σ → lgC As ≤ rJ8_newLength_cabcc.2.2.1 := by
  rintro As σ ⟨n, m, p, rfl, -⟩
  exact Nat.le_of_ble_eq_true rfl
theorem b_nlv : TbC KJ8_newLength_cabcc [] P_nl Q_nl := by
  rintro As σ0 ⟨n, m, p, rfl, h1, h2, h3, h4, h5, h6⟩ hgr G hB hW
  change G 0 [(0, .inl n), (1, .inl m), (2, .inl p)] [] σ0
  refine hB _ _ _ _ (kgoC (is := KJ8_newLength_cabcc_0) rfl (k_iload_n rfl (k_iload_n rfl (k_iload_n rfl (k_mmax (Nat.le_of_ble_eq_true rfl) (fun z hz => k_iadd (by omega) (by omega) (fun s hs => k_istore_n (ls' := [(3, .inl s), (0, .inl n), (1, .inl m), (2, .inl p)]) rfl (k_iconst (m := 0) rfl (fun o ho => k_iload_n rfl (k_ic_ge (fun h => by exfalso; omega) (fun h => k_nil ?_)))))))))))
  refine hB _ _ _ _ (kgoC (is := KJ8_newLength_cabcc_13) rfl (k_iload_n rfl (k_ldcI (m := 2147483639) rfl (fun x hx => k_ic_gt (fun h => by exfalso; omega) (fun h => k_nil ?_)))))
  exact hB _ _ _ _ (kgoC (is := KJ8_newLength_cabcc_19) rfl (k_iload_n rfl (k_ireturn (fun hz => absurd hz (by decide)) ⟨s, rfl, rfl, by omega⟩)))
theorem v_nl (l : Launch) : CMetC l 1 249 P_nl (EvQ (1 + 1) 249 Q_nl) :=
  CMetC.of KJ8_newLength_cabcc (uc2C [] ([].map (fun c => (c, EvF 1 c)))) hJ8_newLength_cabcc (by decide) (by decide) okJ8_newLength_cabcc cc0C lg_nlv (TbC.ev b_nlv (L := 1) (μ := 249) (M := []) rfl (by decide +kernel) rfl (by decide +kernel) (by decide +kernel) (fun _ _ _ _ _ _ => trivial) (fun _ _ _ _ _ _ => trivial) (Or.inl ⟨by decide +kernel, by decide +kernel⟩))
theorem lg_cp3v : ∀ (As : List AvC) (σ : CsC), P_cp3 As σ → lgC As ≤ rJ7_copyOf_6403c.2.2.1 := by
  rintro As σ ⟨r, x, n, m, rfl, -⟩
  exact Nat.le_of_ble_eq_true rfl
theorem b_cp3v : TbC KJ7_copyOf_6403c [] P_cp3 Q_cp3 := by
  rintro As σ0 ⟨r, x, n, m, rfl, hr, hn, hnm, hm, hx, he, h1, h2⟩ hgr G hB hW
  change G 0 [(0, .inr (.inr (some r))), (1, .inl x), (2, .inr (.inr (some 1000011)))] [] σ0
  obtain ⟨a1, a2, a3⟩ := nA_rw (m := m) hr
  obtain ⟨b1, b2, b3⟩ := nA_new (σ := σ0) (m := m)
  have hxm : x.toNatClampNeg = m := by show x.toInt.toNat = m; omega
  refine hB _ _ _ _ (kgoC (is := KJ7_copyOf_6403c_0) rfl (k_aload_n rfl (k_ldcR rfl (k_acmpN (k_nil ?_)))))
  refine hB _ _ _ _ (kgoC (is := KJ7_copyOf_6403c_6) rfl (k_iload_n rfl (k_anew hx hm h1 h2 (k_goto ?_))))
  refine hB _ _ _ _ (kgoC (is := KJ7_copyOf_6403c_24) rfl (k_astore_n (ls' := [(3, .inr (.inr (some (cnC σ0)))), (0, .inr (.inr (some r))), (1, .inl x), (2, .inr (.inr (some 1000011)))]) rfl (k_aload_n rfl (k_iconst (m := 0) rfl (fun o1 ho1 => k_aload_n rfl (k_iconst (m := 0) rfl (fun o2 ho2 => k_aload_n rfl (k_alenR a1 (a2.trans hn) (by omega) (fun y hy => k_iload_n rfl (k_mmin (Nat.le_of_ble_eq_true rfl) (fun z z1 z2 z3 => k_acp (n := n) a1 b1 ho1 ho2 (by omega) (by rw [a2]; omega) (by rw [b2]; omega) (fun i hi => by rw [a3]; exact hoC_nA (he i hi)) (Nat.le_of_ble_eq_true rfl) (k_aload_n rfl (k_areturn ⟨rfl, ?_⟩)))))))))))))
  unfold cpyC
  rw [hxm, hn, a3, b3]
theorem v_cp3 (l : Launch) : CMetC l 2 246 P_cp3 (EvQ (2 + 1) 246 Q_cp3) :=
  CMetC.of KJ7_copyOf_6403c (uc2C [] ([].map (fun c => (c, EvF 2 c)))) hJ7_copyOf_6403c (by decide) (by decide) okJ7_copyOf_6403c cc0C lg_cp3v (TbC.ev b_cp3v (L := 2) (μ := 246) (M := [902]) rfl (by decide +kernel) rfl (by decide +kernel) (by decide +kernel) (fun _ _ _ _ _ _ => trivial) (fun _ _ _ _ _ _ => trivial) (Or.inl ⟨by decide +kernel, by decide +kernel⟩))
theorem lg_cp2v : ∀ (As : List AvC) (σ : CsC), P_cp2 As σ → lgC As ≤ rJ7_copyOf_1904c.2.2.1 := by
  rintro As σ ⟨r, x, n, m, rfl, -⟩
  exact Nat.le_of_ble_eq_true rfl
theorem b_cp2v : TbC KJ7_copyOf_1904c [(246, P_cp3, Q_cp3)] P_cp2 Q_cp2 := by
  rintro As σ0 ⟨r, x, n, m, rfl, hr, hn, hnm, hm, hx, he, h1, h2⟩ hgr G hB hW
  change G 0 [(0, .inr (.inr (some r))), (1, .inl x)] [] σ0
  refine hB _ _ _ _ (kgoC (is := KJ7_copyOf_1904c_0) rfl (k_aload_n rfl (k_iload_n rfl (k_aload_n rfl (k_gcl hr (Nat.le_of_ble_eq_true rfl) (k_stat (P := P_cp3) (Q := Q_cp3) rfl rfl (Nat.le_of_ble_eq_true rfl) rfl rfl (Nat.le_of_ble_eq_true rfl) ⟨r, x, n, m, rfl, hr, hn, hnm, hm, hx, he, h1, h2⟩ (fun w σ1 hq => ?_)))))))
  obtain ⟨rfl, rfl⟩ := hq
  exact k_areturn ⟨rfl, rfl⟩
theorem v_cp2 (l : Launch) : CMetC l 3 245 P_cp2 (EvQ (3 + 1) 245 Q_cp2) :=
  CMetC.of KJ7_copyOf_1904c (uc2C [(246, P_cp3, Q_cp3)] ([246].map (fun c => (c, EvF 3 c)))) hJ7_copyOf_1904c (by decide) (by decide) okJ7_copyOf_1904c (cc1C (CMetC.up (v_cp3 l) (by first | decide | omega)) (by decide) cc0C) lg_cp2v (TbC.ev b_cp2v (L := 3) (μ := 245) (M := [902]) rfl (by decide +kernel) rfl (by decide +kernel) (by decide +kernel) (fun _ _ _ _ _ _ => trivial) (fun _ _ _ _ _ _ => trivial) (Or.inl ⟨by decide +kernel, by decide +kernel⟩))
theorem lg_gr1v : ∀ (As : List AvC) (σ : CsC), P_gr1 As σ → lgC As ≤ rJx4a65c_grow_92f84.2.2.1 := by
  rintro As σ ⟨a, x, n, rfl, -⟩
  exact Nat.le_of_ble_eq_true rfl
theorem b_gr1v : TbC KJx4a65c_grow_92f84 [(249, P_nl, Q_nl), (245, P_cp2, Q_cp2)] P_gr1 Q_gr1 := by
  rintro As σ0 ⟨a, x, n, rfl, ⟨ho, hd, h1, h2⟩, hx⟩ hgr G hB hW
  change G 0 [(0, .inr (.inr (some a))), (1, .inl x)] [] σ0
  rcases hd with ⟨hE, rfl⟩ | ⟨r, hR, hr, hn, hn1, hn2, he⟩
  · have g1 : gtC σ0 a 1 = .inr (.inr (some 1000000)) := congrArg (fun z : Option Nat => (Sum.inr (Sum.inr z) : AvC)) hE
    refine hB _ _ _ _ (kgoC (is := KJx4a65c_grow_92f84_0) rfl (k_aload_n rfl (k_getO (k := 1) ho g1 (k_alenK (n := 0) (by omega) (fun y hy => k_istore_n (ls' := [(2, .inl y), (0, .inr (.inr (some a))), (1, .inl x)]) rfl (k_iload_n rfl (k_if_gt (fun h => by exfalso; omega) (fun h => k_nil ?_))))))))
    refine hB _ _ _ _ (kgoC (is := KJx4a65c_grow_92f84_10) rfl (k_aload_n rfl (k_getO (k := 1) ho g1 (k_gets (k_acmpY ?_)))))
    refine hB _ _ _ _ (kgoC (is := KJx4a65c_grow_92f84_45) rfl (k_aload_n rfl (k_bipush (m := 10) rfl (fun t ht => k_iload_n rfl (k_mmax (Nat.le_of_ble_eq_true rfl) (fun z hz => k_anew (n := 10) (by omega) (by decide) h1 (by omega) (k_dup_x1R (k_putRg (k := 1) ?_ (by decide) (k_areturn ⟨10, fun _ => none, rfl, ?_, Or.inl ⟨hE, rfl⟩⟩)))))))))
    · have hn : a ≠ cnC σ0 := by have := ho.1; omega
      have e : (nAC σ0 103 10 0).2.1 a = σ0.2.1 a := u1C_ne hn
      exact ⟨Nat.lt_succ_of_lt ho.1, by unfold tgC; rw [e]; exact ho.2.1, by unfold tgC; rw [e]; exact ho.2.2⟩
    · unfold grwC
      rw [qR_no]
  · have g1 : gtC σ0 a 1 = .inr (.inr (some r)) := congrArg (fun z : Option Nat => (Sum.inr (Sum.inr z) : AvC)) hR
    refine hB _ _ _ _ (kgoC (is := KJx4a65c_grow_92f84_0) rfl (k_aload_n rfl (k_getO (k := 1) ho g1 (k_alenR hr hn (by omega) (fun y hy => k_istore_n (ls' := [(2, .inl y), (0, .inr (.inr (some a))), (1, .inl x)]) rfl (k_iload_n rfl (k_if_gt (fun h => ?_) (fun h => by exfalso; omega))))))))
    refine hB _ _ _ _ (kgoC (is := KJx4a65c_grow_92f84_20) rfl (k_iload_n rfl (k_iload_n rfl (k_iload_n rfl (k_isub (by omega) (by omega) (fun u hu => k_iload_n rfl (k_iconst (m := 1) rfl (fun o ho1 => k_shr1 hy (by omega) ho1 (fun z hz => k_stat (P := P_nl) (Q := Q_nl) rfl rfl (Nat.le_of_ble_eq_true rfl) rfl rfl (Nat.le_of_ble_eq_true rfl) ⟨y, u, z, rfl, by omega, by omega, by omega, by omega, by omega, by omega⟩ (fun w σ1 hq => ?_))))))))))
    obtain ⟨v, rfl, rfl, hv⟩ := hq
    have hv2 : v.toInt = ((n + n / 2 : Nat) : Int) := by omega
    refine k_st (st' := [.inl v]) rfl (k_istore_n (ls' := [(3, .inl v), (2, .inl y), (0, .inr (.inr (some a))), (1, .inl x)]) rfl (k_aload_n rfl (k_aload_n rfl (k_getO (k := 1) ho g1 (k_iload_n rfl (k_stat (P := P_cp2) (Q := Q_cp2) rfl rfl (Nat.le_of_ble_eq_true rfl) rfl rfl (Nat.le_of_ble_eq_true rfl) ⟨r, v, n, n + n / 2, rfl, hr, hn, by omega, by omega, hv2, he, h1, by omega⟩ (fun w σ1 hq => ?_)))))))
    obtain ⟨rfl, rfl⟩ := hq
    have hc : v.toNatClampNeg = n + n / 2 := by show v.toInt.toNat = _; omega
    refine k_st (st' := [.inr (.inr (some (cnC σ0))), .inr (.inr (some a))]) rfl (k_dup_x1R (k_putRg (k := 1) ?_ (by decide) (k_areturn ⟨n + n / 2, va_cpy (eRC σ0 r) (fun _ => none) 0 0 n, rfl, ?_, Or.inr ⟨r, hR, hr, by rw [hn], by rw [hn]⟩⟩)))
    · have hn : a ≠ cnC σ0 := by have := ho.1; omega
      have e : (nAC σ0 103 v.toNatClampNeg 0).2.1 a = σ0.2.1 a := u1C_ne hn
      refine ⟨Nat.lt_succ_of_lt ho.1, ?_, ?_⟩
      · show tgC (nAC σ0 103 v.toNatClampNeg 0) a < 100
        unfold tgC; rw [e]; exact ho.2.1
      · show clsC (tgC (nAC σ0 103 v.toNatClampNeg 0) a) = _
        unfold tgC; rw [e]; exact ho.2.2
    · unfold grwC cpyC
      rw [hc, hn]
theorem v_gr1 (l : Launch) : CMetC l 4 243 P_gr1 (EvQ (4 + 1) 243 Q_gr1) :=
  CMetC.of KJx4a65c_grow_92f84 (uc2C [(249, P_nl, Q_nl), (245, P_cp2, Q_cp2)] ([249, 245].map (fun c => (c, EvF 4 c)))) hJx4a65c_grow_92f84 (by decide) (by decide) okJx4a65c_grow_92f84 (cc1C (CMetC.up (v_nl l) (by first | decide | omega)) (by decide) (cc1C (CMetC.up (v_cp2 l) (by first | decide | omega)) (by decide) cc0C)) lg_gr1v (TbC.ev b_gr1v (L := 4) (μ := 243) (M := [1, 902]) rfl (by decide +kernel) rfl (by decide +kernel) (by decide +kernel) (fun _ _ _ _ _ _ => trivial) (fun _ _ _ _ _ _ => trivial) (Or.inl ⟨by decide +kernel, by decide +kernel⟩))
theorem lg_gr0v : ∀ (As : List AvC) (σ : CsC), P_gr0 As σ → lgC As ≤ rJx4a65c_grow_d5877.2.2.1 := by
  rintro As σ ⟨a, n, rfl, -⟩
  exact Nat.le_of_ble_eq_true rfl
theorem b_gr0v : TbC KJx4a65c_grow_d5877 [(243, P_gr1, Q_gr1)] P_gr0 Q_gr0 := by
  rintro As σ0 ⟨a, n, rfl, hG, hs⟩ hgr G hB hW
  change G 0 [(0, .inr (.inr (some a)))] [] σ0
  have hn : n ≤ 4300 := by
    rcases hG.2.1 with ⟨-, q⟩ | ⟨r, -, -, -, -, q, -⟩ <;> omega
  refine hB _ _ _ _ (kgoC (is := KJx4a65c_grow_d5877_0) rfl (k_aload_n rfl (k_aload_n rfl (k_getO (k := 2) (v := .inl (fIC σ0 a 2)) hG.1 rfl (k_iconst (m := 1) rfl (fun o ho => k_iadd (by omega) (by omega) (fun x hx => k_inv (P := P_gr1) (Q := Q_gr1) rfl rfl rfl rfl (Nat.le_of_ble_eq_true rfl) (Or.inl ⟨hG.1, by decide⟩) ⟨a, x, n, rfl, hG, by omega⟩ (fun w σ1 hq => ?_))))))))
  obtain ⟨m, f, rfl, e1, e2⟩ := hq
  exact k_areturn ⟨m, f, rfl, e1, e2⟩
theorem v_gr0 (l : Launch) : CMetC l 5 244 P_gr0 (EvQ (5 + 1) 244 Q_gr0) :=
  CMetC.of KJx4a65c_grow_d5877 (uc2C [(243, P_gr1, Q_gr1)] ([243].map (fun c => (c, EvF 5 c)))) hJx4a65c_grow_d5877 (by decide) (by decide) okJx4a65c_grow_d5877 (cc1C (CMetC.up (v_gr1 l) (by first | decide | omega)) (by decide) cc0C) lg_gr0v (TbC.ev b_gr0v (L := 5) (μ := 244) (M := [1, 902]) rfl (by decide +kernel) rfl (by decide +kernel) (by decide +kernel) (fun _ _ _ _ _ _ => trivial) (fun _ _ _ _ _ _ => trivial) (Or.inl ⟨by decide +kernel, by decide +kernel⟩))
theorem lg_ad3v : ∀ (As : List AvC) (σ : CsC), P_ad3 As σ → lgC As ≤ rJx4a65c_add_72be8.2.2.1 := by
  rintro As σ ⟨a, b, d, s, rfl, -⟩
  exact Nat.le_of_ble_eq_true rfl
theorem b_ad3v : TbC KJx4a65c_add_72be8 [(244, P_gr0, Q_gr0)] P_ad3 Q_ad3 := by
  rintro As σ0 ⟨a, b, d, s, rfl, H0, t0, hb, hd, hs, h43, h1, h2, h6⟩ hgr G hB hW
  change G 0 [(0, .inr (.inr (some a))), (1, .inr (.inr (some b))), (2, .inr (.inr (some d))), (3, .inl s)] [] σ0
  have hlim : cnC σ0 < 1000000 := by have := hgr.2.2.2; omega
  obtain ⟨s', -, es, hs0, -⟩ := cg2 H0 t0
  obtain rfl : s' = s := es.symm.trans hs
  have fin : ∀ m f, ((fRC σ0 a 1 = some 1000000 ∧ m = 10) ∨ ∃ r, fRC σ0 a 1 = some r ∧ r < cnC σ0 ∧ m = alC σ0 r + alC σ0 r / 2 ∧ alC σ0 r ≤ 4300) → (10 ≤ m ∧ m ≤ 20000 ∧ s'.toInt + 1 ≤ (m : Int)) → (∀ j, j < s'.toNatClampNeg → ∃ b', f j = some b' ∧ ElC σ0 (ghC σ0 a) b') → (∀ j, j < s'.toNatClampNeg → f j = elC σ0 a j) → G 11 [(2, .inr (.inr (some (cnC σ0)))), (0, .inr (.inr (some a))), (1, .inr (.inr (some b))), (3, .inl s')] [] (grwC σ0 a m f) := by
    intro m f hg hm hel hel2
    have hn : a ≠ cnC σ0 := by have := t0.1; omega
    have e4 : ∀ c, c ≠ cnC σ0 → (grwC σ0 a m f).2.1 c = σ0.2.1 c := fun c hc => u1C_ne hc
    have e5 : (grwC σ0 a m f).2.1 (cnC σ0) = (103, m, 0) := u1C_eq
    have hr : RwC (grwC σ0 a m f) (cnC σ0) 103 := ⟨Nat.lt_succ_self _, by unfold tgC; rw [e5]⟩
    have hal : alC (grwC σ0 a m f) (cnC σ0) = m := by unfold alC; rw [e5]
    have ho : ObC (grwC σ0 a m f) a 0 := by
      have q := t0.ob (by decide)
      exact ⟨Nat.lt_succ_of_lt q.1, by unfold tgC; rw [e4 a hn]; exact q.2.1, by unfold tgC; rw [e4 a hn]; exact q.2.2⟩
    have hb2 : hoC (grwC σ0 a m f) 103 (some b) := by
      have q := hoC_nA (m := m) hb.ho
      exact q
    have eR : eRC (grwC σ0 a m f) (cnC σ0) = f := u1C_eq
    refine hB _ _ _ _ (kgoC (is := KJx4a65c_add_72be8_11) rfl (k_aload_n rfl (k_iload_n rfl (k_aload_n rfl (k_aas hr hs0 (by rw [hal]; omega) hb2 (k_aload_n rfl (k_iload_n rfl (k_iconst (m := 1) rfl (fun o ho1 => k_iadd (by omega) (by omega) (fun x hx => k_putIg (k := 2) ho (by decide) (k_returnW (τ := rTC (pIC (qRC (grwC σ0 a m f) (cnC σ0) (va_up (eRC (grwC σ0 a m f) (cnC σ0)) s'.toNatClampNeg (some b))) a 2 x) (cnC σ0) 103 (a + 1)) (WeC.t (Or.inl hr.2)) ⟨rfl, ?_⟩)))))))))))
    rw [eR]
    refine growC (m := m) (f := f) (s := s') (x := x) (b := b) H0 t0 hb hg hm hel hel2 hs hs0 (by omega) h6 hlim rfl rfl rfl ?_ ?_ ?_ ?_ ?_ ?_ ?_ ?_ ?_ ?_
    · intro c hc
      exact (u1C_ne hc).trans (e4 c hc)
    · show u1C (grwC σ0 a m f).2.1 (cnC σ0) (103, ((grwC σ0 a m f).2.1 (cnC σ0)).2.1, a + 1) (cnC σ0) = _
      rw [u1C_eq, e5]
    · intro c k hk
      exact fI_pI hk
    · exact fI_pIs
    · intro c k hk
      exact fR_pR hk
    · exact fR_pRs (σ := qRC (nAC σ0 103 m 0) (cnC σ0) f)
    · intro c hc
      exact u1C_ne hc
    · intro c hc
      exact (u1C_ne hc).trans ((u1C_ne hc).trans (u1C_ne hc))
    · exact u1C_eq
    · intro c hc
      exact u1C_ne hc
  rcases (H0 a t0.1).2.1 t0.2.1 with ⟨q1, q2⟩ | ⟨r, q1, q2, q3, q4⟩
  · obtain rfl : 1000000 = d := Option.some.inj (q1.symm.trans hd)
    have hz : s'.toInt = 0 := by rw [← hs]; exact q2
    refine hB _ _ _ _ (kgoC (is := KJx4a65c_add_72be8_0) rfl (k_iload_n rfl (k_aload_n rfl (k_alenK (n := 0) (by omega) (fun y hy => k_ic_ne (fun h => by exfalso; omega) (fun h => k_nil ?_))))))
    refine hB _ _ _ _ (kgoC (is := KJx4a65c_add_72be8_6) rfl (k_aload_n rfl (k_inv (P := P_gr0) (Q := Q_gr0) rfl rfl rfl rfl (Nat.le_of_ble_eq_true rfl) (t0.rc (by decide)) ⟨a, 0, rfl, ⟨t0.ob (by decide), Or.inl ⟨q1, rfl⟩, h1, h2⟩, q2⟩ (fun w σ1 hq => ?_))))
    obtain ⟨m, f, rfl, rfl, hg⟩ := hq
    have hm : m = 10 := by
      rcases hg with ⟨-, z⟩ | ⟨r, z, z2, -⟩
      · exact z
      · have := z2.1
        cases q1.symm.trans z
        omega
    refine k_st (st' := [.inr (.inr (some (cnC σ0)))]) rfl (k_astore_n (ls' := [(2, .inr (.inr (some (cnC σ0)))), (0, .inr (.inr (some a))), (1, .inr (.inr (some b))), (3, .inl s')]) rfl (k_nil ?_))
    have hz0 : s'.toNatClampNeg = 0 := by show s'.toInt.toNat = 0; omega
    refine fin m f (Or.inl ⟨q1, hm⟩) ⟨by omega, by omega, by omega⟩ (fun j hj => ?_) (fun j hj => ?_)
    · omega
    · omega
  · obtain rfl : r = d := Option.some.inj (q1.symm.trans hd)
    rw [hs] at q3
    have hc1 : (s'.toNatClampNeg : Int) = s'.toInt := by show ((s'.toInt.toNat : Nat) : Int) = _; omega
    refine hB _ _ _ _ (kgoC (is := KJx4a65c_add_72be8_0) rfl (k_iload_n rfl (k_aload_n rfl (k_alenR ⟨q2.1, q2.2.1⟩ rfl (by omega) (fun y hy => k_ic_ne (fun h => ?_) (fun h => k_nil ?_))))))
    · refine hB _ _ _ _ (kgoC (is := KJx4a65c_add_72be8_11) rfl (k_aload_n rfl (k_iload_n rfl (k_aload_n rfl (k_aas ⟨q2.1, q2.2.1⟩ hs0 (by omega) hb.ho (k_aload_n rfl (k_iload_n rfl (k_iconst (m := 1) rfl (fun o ho1 => k_iadd (by omega) (by omega) (fun x hx => k_putIg (k := 2) (t0.ob (by decide)) (by decide) (k_return ⟨rfl, ?_⟩)))))))))))
      exact addNC H0 t0 hb q1 q2 ⟨by omega, q3.2.1, q3.2.2.1⟩ q4 hs hs0 (by omega) h6
    · have hfull : s'.toNatClampNeg = alC σ0 r := by omega
      refine hB _ _ _ _ (kgoC (is := KJx4a65c_add_72be8_6) rfl (k_aload_n rfl (k_inv (P := P_gr0) (Q := Q_gr0) rfl rfl rfl rfl (Nat.le_of_ble_eq_true rfl) (t0.rc (by decide)) ⟨a, alC σ0 r, rfl, ⟨t0.ob (by decide), Or.inr ⟨r, q1, ⟨q2.1, q2.2.1⟩, rfl, q3.2.2.1, by omega, fun i hi => ?_⟩, h1, h2⟩, by rw [hs]; omega⟩ (fun w σ1 hq => ?_))))
      · obtain ⟨b', z1, z2⟩ := q4 i (by rw [hs]; omega)
        rw [z1]
        exact z2.ho
      · obtain ⟨m, f, rfl, rfl, hg⟩ := hq
        have hm : m = alC σ0 r + alC σ0 r / 2 ∧ f = va_cpy (eRC σ0 r) (fun _ => none) 0 0 (alC σ0 r) := by
          rcases hg with ⟨z, -⟩ | ⟨r', z, -, z2, z3⟩
          · cases q1.symm.trans z
            omega
          · cases q1.symm.trans z
            exact ⟨z2, z3⟩
        refine k_st (st' := [.inr (.inr (some (cnC σ0)))]) rfl (k_astore_n (ls' := [(2, .inr (.inr (some (cnC σ0)))), (0, .inr (.inr (some a))), (1, .inr (.inr (some b))), (3, .inl s')]) rfl (k_nil ?_))
        refine fin m f (Or.inr ⟨r, q1, q2.1, hm.1, by omega⟩) ⟨by omega, by omega, by omega⟩ (fun j hj => ?_) (fun j hj => ?_)
        · obtain ⟨b', z1, z2⟩ := q4 j (by rw [hs]; exact hj)
          refine ⟨b', ?_, z2⟩
          rw [hm.2]
          unfold va_cpy
          rw [if_pos ⟨Nat.zero_le _, by omega⟩, Nat.sub_zero, Nat.zero_add]
          exact z1
        · rw [hm.2, el_of q1]
          unfold va_cpy
          rw [if_pos ⟨Nat.zero_le _, by omega⟩, Nat.sub_zero, Nat.zero_add]
theorem v_ad3 (l : Launch) : CMetC l 6 242 P_ad3 (EvQ (6 + 1) 242 Q_ad3) :=
  CMetC.of KJx4a65c_add_72be8 (uc2C [(244, P_gr0, Q_gr0)] ([244].map (fun c => (c, EvF 6 c)))) hJx4a65c_add_72be8 (by decide) (by decide) okJx4a65c_add_72be8 (cc1C (CMetC.up (v_gr0 l) (by first | decide | omega)) (by decide) cc0C) lg_ad3v (TbC.ev b_ad3v (L := 6) (μ := 242) (M := [1, 2, 902]) rfl (by decide +kernel) rfl (by decide +kernel) (by decide +kernel) (fun _ _ _ _ _ _ => trivial) (fun _ _ _ _ _ _ => trivial) (Or.inl ⟨by decide +kernel, by decide +kernel⟩))
theorem lg_Jx4a65c_add_9ea2dv : ∀ (As : List AvC) (σ : CsC), P_Jx4a65c_add_9ea2d As σ → lgC As ≤ rJx4a65c_add_9ea2d.2.2.1 := by
  rintro As σ ⟨p0, p1, rfl, -⟩
  exact Nat.le_of_ble_eq_true rfl
theorem b_Jx4a65c_add_9ea2dv : TbC KJx4a65c_add_9ea2d [(242, P_ad3, Q_ad3)] P_Jx4a65c_add_9ea2d Q_Jx4a65c_add_9ea2d := by
  rintro As σ0 ⟨p0, p1, rfl, H0, t0, hb, h43, h1, h2, h6⟩ hgr G hB hW
  change G 0 [(0, .inr (.inr (some p0))), (1, .inr (.inr (some p1)))] [] σ0
  refine hB _ _ _ _ (kgoC (is := KJx4a65c_add_9ea2d_0) rfl (k_aload_n rfl (k_dupR (k_getO (k := 0) (v := .inl (fIC σ0 p0 0)) (t0.ob (by decide)) rfl (k_iconst (m := 1) rfl (fun x1 hx1 => k_iadd_u (fun z => k_putIg (k := 0) (t0.ob (by decide)) (by decide) ?_)))))))
  have X1 : ExC [0] σ0 (pIC σ0 p0 0 z) := ExC.pI rfl (Or.inr (by decide))
  have H1 : HI0 (pIC σ0 p0 0 z) := H0.1.pI t0 (by decide) (by decide) (tiC z)
  have t1 := t0.x X1
  obtain ⟨d, hd⟩ : ∃ d, fRC σ0 p0 1 = some d := by
    rcases (H0.1 p0 t0.1).2.1 t0.2.1 with ⟨q1, -⟩ | ⟨r, q1, -⟩
    · exact ⟨_, q1⟩
    · exact ⟨r, q1⟩
  refine k_aload_n rfl (k_aload_n rfl (k_aload_n rfl (k_getO (k := 1) (v := .inr (.inr (some d))) (t1.ob (by decide)) (by show (Sum.inr (Sum.inr (fRC σ0 p0 1)) : AvC) = _; rw [hd]) ?_)))
  have e2 : fIC (pIC σ0 p0 0 z) p0 2 = fIC σ0 p0 2 := fI_pI (Or.inl (by decide))
  refine k_aload_n rfl (k_getO (k := 2) (v := .inl (fIC σ0 p0 2)) (t1.ob (by decide)) ?_ ?_)
  · show (Sum.inl (fIC (pIC σ0 p0 0 z) p0 2) : AvC) = _
    rw [e2]
  refine k_inv (P := P_ad3) (Q := Q_ad3) rfl rfl rfl rfl (Nat.le_of_ble_eq_true rfl) (t1.rc (by decide)) ⟨p0, p1, d, fIC σ0 p0 2, rfl, H1, t1, hb.x X1, hd, e2, h43, h1, h2, h6⟩ (fun w σ1 hq => ?_)
  obtain ⟨rfl, g1, g2, g3, g4, g5, g6, g8, g9, g10⟩ := hq
  refine k_st (st' := []) rfl (k_iconst (m := 1) rfl (fun o ho => k_ireturn (fun _ => Or.inr (Int32.toInt_inj.mp ho)) ⟨o, rfl, ⟨g1, g2 _ (H0.2.ex X1 (fun c p1 p2 => absurd p2 (Nat.not_lt.mpr p1)) rfl)⟩, (X1.mo rfl).tr g3, by omega, by omega, (X1.gw H0.1 (by decide)).tr g4, g5, fun c hc ht => ?_, by rw [g8, fI_pI (Or.inl (by decide))], fun c hc => by rw [g9 c hc, fI_pI (Or.inl (by decide))], fun c hc ht hn j hj => g10.1 c hc ht hn j (by rw [fI_pI (Or.inl (by decide))]; exact hj), fun j hj => g10.2.1 j (by rw [fI_pI (Or.inl (by decide))]; exact hj), by have g11 := g10.2.2; rw [fI_pI (Or.inl (by decide))] at g11; exact g11⟩))
  have g7 := g6 c hc ht
  rw [fI_pI (Or.inl (by decide))] at g7
  exact g7
theorem v_Jx4a65c_add_9ea2d (l : Launch) : CMetC l 10 236 P_Jx4a65c_add_9ea2d (EvQ (10 + 1) 236 Q_Jx4a65c_add_9ea2d) :=
  CMetC.of KJx4a65c_add_9ea2d (uc2C [(242, P_ad3, Q_ad3)] ([242].map (fun c => (c, EvF 10 c)))) hJx4a65c_add_9ea2d (by decide) (by decide) okJx4a65c_add_9ea2d (cc1C (CMetC.up (v_ad3 l) (by first | decide | omega)) (by decide) cc0C) lg_Jx4a65c_add_9ea2dv (TbC.ev b_Jx4a65c_add_9ea2dv (L := 10) (μ := 236) (M := [0, 1, 2, 902]) rfl (by decide +kernel) rfl (by decide +kernel) (by decide +kernel) (fun _ _ _ _ hP hQ => by
    obtain ⟨p0, p1, rfl, hH, ht, _⟩ := hP
    obtain ⟨r, ew, _, _, _, _, _, _, _, q1, q2, q3⟩ := hQ
    exact ⟨⟨r, ew⟩, ⟨hH.1, ht⟩, q1, q2, q3⟩) (fun _ _ _ _ hP hQ => by
    obtain ⟨p0, p1, rfl, _⟩ := hP
    obtain ⟨_, _, hi, he, _⟩ := hQ
    exact ⟨fun a ha => (he.2.2 a ha).1.1, hi.1⟩) (Or.inl ⟨by decide +kernel, by decide +kernel⟩))
theorem lg_add6v : ∀ (As : List AvC) (σ : CsC), P_add6 As σ → lgC As ≤ rJx4a65c_add_9ea2d.2.2.1 := by
  rintro As σ ⟨p0, p1, rfl, -⟩
  exact Nat.le_of_ble_eq_true rfl
theorem b_add6v : TbC KJx4a65c_add_9ea2d [(242, P_ad3, Q_ad3)] P_add6 Q_add6 := by
  rintro As σ0 ⟨p0, p1, rfl, H0, t0, hb, h43, h1, h2, h6⟩ hgr G hB hW
  change G 0 [(0, .inr (.inr (some p0))), (1, .inr (.inr (some p1)))] [] σ0
  refine hB _ _ _ _ (kgoC (is := KJx4a65c_add_9ea2d_0) rfl (k_aload_n rfl (k_dupR (k_getO (k := 0) (v := .inl (fIC σ0 p0 0)) (t0.ob (by decide)) rfl (k_iconst (m := 1) rfl (fun x1 hx1 => k_iadd_u (fun z => k_putIg (k := 0) (t0.ob (by decide)) (by decide) ?_)))))))
  have X1 : ExC [0] σ0 (pIC σ0 p0 0 z) := ExC.pI rfl (Or.inr (by decide))
  have H1 : HI0 (pIC σ0 p0 0 z) := H0.1.pI t0 (by decide) (by decide) (tiC z)
  have t1 := t0.x X1
  obtain ⟨d, hd⟩ : ∃ d, fRC σ0 p0 1 = some d := by
    rcases (H0.1 p0 t0.1).2.1 t0.2.1 with ⟨q1, -⟩ | ⟨r, q1, -⟩
    · exact ⟨_, q1⟩
    · exact ⟨r, q1⟩
  refine k_aload_n rfl (k_aload_n rfl (k_aload_n rfl (k_getO (k := 1) (v := .inr (.inr (some d))) (t1.ob (by decide)) (by show (Sum.inr (Sum.inr (fRC σ0 p0 1)) : AvC) = _; rw [hd]) ?_)))
  have e2 : fIC (pIC σ0 p0 0 z) p0 2 = fIC σ0 p0 2 := fI_pI (Or.inl (by decide))
  refine k_aload_n rfl (k_getO (k := 2) (v := .inl (fIC σ0 p0 2)) (t1.ob (by decide)) ?_ ?_)
  · show (Sum.inl (fIC (pIC σ0 p0 0 z) p0 2) : AvC) = _
    rw [e2]
  refine k_inv (P := P_ad3) (Q := Q_ad3) rfl rfl rfl rfl (Nat.le_of_ble_eq_true rfl) (t1.rc (by decide)) ⟨p0, p1, d, fIC σ0 p0 2, rfl, H1, t1, hb.x X1, hd, e2, h43, h1, h2, h6⟩ (fun w σ1 hq => ?_)
  obtain ⟨rfl, g1, g2, g3, g4, g5, g6, g8, g9, g10⟩ := hq
  refine k_st (st' := []) rfl (k_iconst (m := 1) rfl (fun o ho => k_ireturn (fun _ => Or.inr (Int32.toInt_inj.mp ho)) ⟨o, rfl, ⟨g1, g2 _ (H0.2.ex X1 (fun c p1 p2 => absurd p2 (Nat.not_lt.mpr p1)) rfl)⟩, (X1.mo rfl).tr g3, by omega, by omega, (X1.gw H0.1 (by decide)).tr g4, g5, fun c hc ht => ?_, by rw [g8, fI_pI (Or.inl (by decide))], fun c hc => by rw [g9 c hc, fI_pI (Or.inl (by decide))], fun c hc ht hn j hj => g10.1 c hc ht hn j (by rw [fI_pI (Or.inl (by decide))]; exact hj), fun j hj => g10.2.1 j (by rw [fI_pI (Or.inl (by decide))]; exact hj), by have g11 := g10.2.2; rw [fI_pI (Or.inl (by decide))] at g11; exact g11⟩))
  have g7 := g6 c hc ht
  rw [fI_pI (Or.inl (by decide))] at g7
  exact g7
theorem v_add6 (l : Launch) : CMetC l 10 236 P_add6 (EvQ (10 + 1) 236 Q_add6) :=
  CMetC.of KJx4a65c_add_9ea2d (uc2C [(242, P_ad3, Q_ad3)] ([242].map (fun c => (c, EvF 10 c)))) hJx4a65c_add_9ea2d (by decide) (by decide) okJx4a65c_add_9ea2d (cc1C (CMetC.up (v_ad3 l) (by first | decide | omega)) (by decide) cc0C) lg_add6v (TbC.ev b_add6v (L := 10) (μ := 236) (M := [0, 1, 2, 902]) rfl (by decide +kernel) rfl (by decide +kernel) (by decide +kernel) (fun _ _ _ _ hP hQ => by
    obtain ⟨p0, p1, rfl, hH, ht, _⟩ := hP
    obtain ⟨r, ew, _, _, _, _, _, _, _, q1, q2, q3⟩ := hQ
    exact ⟨⟨r, ew⟩, ⟨hH.1, ht⟩, q1, q2, q3⟩) (fun _ _ _ _ hP hQ => by
    obtain ⟨p0, p1, rfl, _⟩ := hP
    obtain ⟨_, _, hi, he, _⟩ := hQ
    exact ⟨fun a ha => (he.2.2 a ha).1.1, hi.1⟩) (Or.inl ⟨by decide +kernel, by decide +kernel⟩))
theorem lg_in2v : ∀ (As : List AvC) (σ : CsC), P_in2 As σ → lgC As ≤ rJxa1e45_init_da8c8.2.2.1 := by
  rintro As σ ⟨a, rfl⟩
  exact Nat.le_of_ble_eq_true rfl
theorem b_in2v : TbC KJxa1e45_init_da8c8 [] P_in2 Q_in2 := by
  rintro As σ0 ⟨a, rfl⟩ hgr G hB hW
  change G 0 [(0, .inr (.inr (some a)))] [] σ0
  exact hB _ _ _ _ (kgoC (is := KJxa1e45_init_da8c8_0) rfl (k_aload_n rfl (k_obj (Nat.le_of_ble_eq_true rfl) (k_return ⟨rfl, rfl⟩))))
theorem v_in2 (l : Launch) : CMetC l 1 251 P_in2 (EvQ (1 + 1) 251 Q_in2) :=
  CMetC.of KJxa1e45_init_da8c8 (uc2C [] ([].map (fun c => (c, EvF 1 c)))) hJxa1e45_init_da8c8 (by decide) (by decide) okJxa1e45_init_da8c8 cc0C lg_in2v (TbC.ev b_in2v (L := 1) (μ := 251) (M := []) rfl (by decide +kernel) rfl (by decide +kernel) (by decide +kernel) (fun _ _ _ _ _ _ => trivial) (fun _ _ _ _ _ _ => trivial) (Or.inl ⟨by decide +kernel, by decide +kernel⟩))
theorem lg_in1v : ∀ (As : List AvC) (σ : CsC), P_in1 As σ → lgC As ≤ rJxc12de_init_da8c8.2.2.1 := by
  rintro As σ ⟨a, rfl, -⟩
  exact Nat.le_of_ble_eq_true rfl
theorem b_in1v : TbC KJxc12de_init_da8c8 [(251, P_in2, Q_in2)] P_in1 Q_in1 := by
  rintro As σ0 ⟨a, rfl, ho⟩ hgr G hB hW
  change G 0 [(0, .inr (.inr (some a)))] [] σ0
  refine hB _ _ _ _ (kgoC (is := KJxc12de_init_da8c8_0) rfl (k_aload_n rfl (k_spec (P := P_in2) (Q := Q_in2) rfl rfl rfl rfl (Nat.le_of_ble_eq_true rfl) ⟨a, rfl⟩ (fun w σ1 hq => ?_))))
  obtain ⟨rfl, rfl⟩ := hq
  exact k_st (st' := []) rfl (k_aload_n rfl (k_iconst (m := 0) rfl (fun o _ => k_putIg (k := 0) ho (by decide) (k_return ⟨rfl, o, rfl⟩))))
theorem v_in1 (l : Launch) : CMetC l 2 250 P_in1 (EvQ (2 + 1) 250 Q_in1) :=
  CMetC.of KJxc12de_init_da8c8 (uc2C [(251, P_in2, Q_in2)] ([251].map (fun c => (c, EvF 2 c)))) hJxc12de_init_da8c8 (by decide) (by decide) okJxc12de_init_da8c8 (cc1C (CMetC.up (v_in2 l) (by first | decide | omega)) (by decide) cc0C) lg_in1v (TbC.ev b_in1v (L := 2) (μ := 250) (M := [0]) rfl (by decide +kernel) rfl (by decide +kernel) (by decide +kernel) (fun _ _ _ _ _ _ => trivial) (fun _ _ _ _ _ _ => trivial) (Or.inl ⟨by decide +kernel, by decide +kernel⟩))
theorem v_X11_has (l : Launch) : CMetC l 1 221 P_X11_has (EvQ (1 + 1) 221 Q_X11_has) :=
  CMetC.of KX11_has (uc2C [] ([].map (fun c => (c, EvF 1 c)))) hX11_has (by decide) (by decide) okX11_has cc0C (lg_X11_has) (TbC.ev (b_X11_has) (L := 1) (μ := 221) (M := []) rfl (by decide +kernel) rfl (by decide +kernel) (by decide +kernel) (fun _ _ _ _ _ _ => trivial) (fun _ _ _ _ _ _ => trivial) (Or.inl ⟨by decide +kernel, by decide +kernel⟩))
theorem v_X11_bit (l : Launch) : CMetC l 1 222 P_X11_bit (EvQ (1 + 1) 222 Q_X11_bit) :=
  CMetC.of KX11_bit (uc2C [] ([].map (fun c => (c, EvF 1 c)))) hX11_bit (by decide) (by decide) okX11_bit cc0C (lg_X11_bit) (TbC.ev (b_X11_bit) (L := 1) (μ := 222) (M := []) rfl (by decide +kernel) rfl (by decide +kernel) (by decide +kernel) (fun _ _ _ _ _ _ => trivial) (fun _ _ _ _ _ _ => trivial) (Or.inl ⟨by decide +kernel, by decide +kernel⟩))
theorem v_X11_isNumber (l : Launch) : CMetC l 1 223 P_X11_isNumber (EvQ (1 + 1) 223 Q_X11_isNumber) :=
  CMetC.of KX11_isNumber (uc2C [] ([].map (fun c => (c, EvF 1 c)))) hX11_isNumber (by decide) (by decide) okX11_isNumber cc0C (lg_X11_isNumber) (TbC.ev (b_X11_isNumber) (L := 1) (μ := 223) (M := []) rfl (by decide +kernel) rfl (by decide +kernel) (by decide +kernel) (fun _ _ _ _ _ _ => trivial) (fun _ _ _ _ _ _ => trivial) (Or.inl ⟨by decide +kernel, by decide +kernel⟩))
theorem v_X11_sameOrWidens (l : Launch) : CMetC l 1 224 P_X11_sameOrWidens (EvQ (1 + 1) 224 Q_X11_sameOrWidens) :=
  CMetC.of KX11_sameOrWidens (uc2C [] ([].map (fun c => (c, EvF 1 c)))) hX11_sameOrWidens (by decide) (by decide) okX11_sameOrWidens cc0C (lg_X11_sameOrWidens) (TbC.ev (b_X11_sameOrWidens) (L := 1) (μ := 224) (M := []) rfl (by decide +kernel) rfl (by decide +kernel) (by decide +kernel) (fun _ _ _ _ _ _ => trivial) (fun _ _ _ _ _ _ => trivial) (Or.inl ⟨by decide +kernel, by decide +kernel⟩))
theorem v_X11_isDivision (l : Launch) : CMetC l 1 227 P_X11_isDivision (EvQ (1 + 1) 227 Q_X11_isDivision) :=
  CMetC.of KX11_isDivision (uc2C [] ([].map (fun c => (c, EvF 1 c)))) hX11_isDivision (by decide) (by decide) okX11_isDivision cc0C (lg_X11_isDivision) (TbC.ev (b_X11_isDivision) (L := 1) (μ := 227) (M := []) rfl (by decide +kernel) rfl (by decide +kernel) (by decide +kernel) (fun _ _ _ _ _ _ => trivial) (fun _ _ _ _ _ _ => trivial) (Or.inl ⟨by decide +kernel, by decide +kernel⟩))
theorem v_X11_narrowed (l : Launch) : CMetC l 1 228 P_X11_narrowed (EvQ (1 + 1) 228 Q_X11_narrowed) :=
  CMetC.of KX11_narrowed (uc2C [] ([].map (fun c => (c, EvF 1 c)))) hX11_narrowed (by decide) (by decide) okX11_narrowed cc0C (lg_X11_narrowed) (TbC.ev (b_X11_narrowed) (L := 1) (μ := 228) (M := []) rfl (by decide +kernel) rfl (by decide +kernel) (by decide +kernel) (fun _ _ _ _ _ _ => trivial) (fun _ _ _ _ _ _ => trivial) (Or.inl ⟨by decide +kernel, by decide +kernel⟩))
theorem v_X11_compared (l : Launch) : CMetC l 1 231 P_X11_compared (EvQ (1 + 1) 231 Q_X11_compared) :=
  CMetC.of KX11_compared (uc2C [] ([].map (fun c => (c, EvF 1 c)))) hX11_compared (by decide) (by decide) okX11_compared cc0C (lg_X11_compared) (TbC.ev (b_X11_compared) (L := 1) (μ := 231) (M := []) rfl (by decide +kernel) rfl (by decide +kernel) (by decide +kernel) (fun _ _ _ _ _ _ => trivial) (fun _ _ _ _ _ _ => trivial) (Or.inl ⟨by decide +kernel, by decide +kernel⟩))
theorem v_X11_shifted (l : Launch) : CMetC l 1 230 P_X11_shifted (EvQ (1 + 1) 230 Q_X11_shifted) :=
  CMetC.of KX11_shifted (uc2C [] ([].map (fun c => (c, EvF 1 c)))) hX11_shifted (by decide) (by decide) okX11_shifted cc0C (lg_X11_shifted) (TbC.ev (b_X11_shifted) (L := 1) (μ := 230) (M := []) rfl (by decide +kernel) rfl (by decide +kernel) (by decide +kernel) (fun _ _ _ _ _ _ => trivial) (fun _ _ _ _ _ _ => trivial) (Or.inl ⟨by decide +kernel, by decide +kernel⟩))
theorem v_X11_worked (l : Launch) : CMetC l 2 229 P_X11_worked (EvQ (2 + 1) 229 Q_X11_worked) :=
  CMetC.of KX11_worked (uc2C [(231, P_X11_compared, Q_X11_compared), (230, P_X11_shifted, Q_X11_shifted), (228, P_X11_narrowed, Q_X11_narrowed)] ([231, 230, 228].map (fun c => (c, EvF 2 c)))) hX11_worked (by decide) (by decide) okX11_worked (cc1C (CMetC.up (v_X11_compared l) (by first | decide | omega)) (by decide) (cc1C (CMetC.up (v_X11_shifted l) (by first | decide | omega)) (by decide) (cc1C (CMetC.up (v_X11_narrowed l) (by first | decide | omega)) (by decide) cc0C))) (lg_X11_worked) (TbC.ev (b_X11_worked) (L := 2) (μ := 229) (M := []) rfl (by decide +kernel) rfl (by decide +kernel) (by decide +kernel) (fun _ _ _ _ _ _ => trivial) (fun _ _ _ _ _ _ => trivial) (Or.inl ⟨by decide +kernel, by decide +kernel⟩))
theorem v_X11_workedAlone (l : Launch) : CMetC l 2 232 P_X11_workedAlone (EvQ (2 + 1) 232 Q_X11_workedAlone) :=
  CMetC.of KX11_workedAlone (uc2C [(228, P_X11_narrowed, Q_X11_narrowed)] ([228].map (fun c => (c, EvF 2 c)))) hX11_workedAlone (by decide) (by decide) okX11_workedAlone (cc1C (CMetC.up (v_X11_narrowed l) (by first | decide | omega)) (by decide) cc0C) (lg_X11_workedAlone) (TbC.ev (b_X11_workedAlone) (L := 2) (μ := 232) (M := []) rfl (by decide +kernel) rfl (by decide +kernel) (by decide +kernel) (fun _ _ _ _ _ _ => trivial) (fun _ _ _ _ _ _ => trivial) (Or.inl ⟨by decide +kernel, by decide +kernel⟩))
theorem v_X1_acts (l : Launch) : CMetC l 1 18 P_X1_acts (EvQ (1 + 1) 18 Q_X1_acts) :=
  CMetC.of KX1_acts (uc2C [] ([].map (fun c => (c, EvF 1 c)))) hX1_acts (by decide) (by decide) okX1_acts cc0C (lg_X1_acts) (TbC.ev (b_X1_acts) (L := 1) (μ := 18) (M := []) rfl (by decide +kernel) rfl (by decide +kernel) (by decide +kernel) (fun _ _ _ _ hP _ => by
    obtain ⟨p0, rfl, hH, ht⟩ := hP
    first
      | exact ⟨hH.1, ht⟩
      | exact ⟨hH.1, ht.1⟩) (fun _ _ _ _ _ _ => trivial) (Or.inl ⟨by decide +kernel, by decide +kernel⟩))
theorem v_X8_isLoop (l : Launch) : CMetC l 1 179 P_X8_isLoop (EvQ (1 + 1) 179 Q_X8_isLoop) :=
  CMetC.of KX8_isLoop (uc2C [] ([].map (fun c => (c, EvF 1 c)))) hX8_isLoop (by decide) (by decide) okX8_isLoop cc0C (lg_X8_isLoop) (TbC.ev (b_X8_isLoop) (L := 1) (μ := 179) (M := []) rfl (by decide +kernel) rfl (by decide +kernel) (by decide +kernel) (fun _ _ _ _ hP _ => by
    obtain ⟨p0, rfl, hH, ht⟩ := hP
    first
      | exact ⟨hH.1, ht⟩
      | exact ⟨hH.1, ht.1⟩) (fun _ _ _ _ _ _ => trivial) (Or.inl ⟨by decide +kernel, by decide +kernel⟩))
theorem v_X8_isPart (l : Launch) : CMetC l 1 180 P_X8_isPart (EvQ (1 + 1) 180 Q_X8_isPart) :=
  CMetC.of KX8_isPart (uc2C [] ([].map (fun c => (c, EvF 1 c)))) hX8_isPart (by decide) (by decide) okX8_isPart cc0C (lg_X8_isPart) (TbC.ev (b_X8_isPart) (L := 1) (μ := 180) (M := []) rfl (by decide +kernel) rfl (by decide +kernel) (by decide +kernel) (fun _ _ _ _ hP _ => by
    obtain ⟨p0, rfl, hH, ht⟩ := hP
    first
      | exact ⟨hH.1, ht⟩
      | exact ⟨hH.1, ht.1⟩) (fun _ _ _ _ _ _ => trivial) (Or.inl ⟨by decide +kernel, by decide +kernel⟩))
theorem v_X8_isAlways (l : Launch) : CMetC l 1 183 P_X8_isAlways (EvQ (1 + 1) 183 Q_X8_isAlways) :=
  CMetC.of KX8_isAlways (uc2C [] ([].map (fun c => (c, EvF 1 c)))) hX8_isAlways (by decide) (by decide) okX8_isAlways cc0C (lg_X8_isAlways) (TbC.ev (b_X8_isAlways) (L := 1) (μ := 183) (M := []) rfl (by decide +kernel) rfl (by decide +kernel) (by decide +kernel) (fun _ _ _ _ hP _ => by
    obtain ⟨p0, p1, rfl, hH, ht⟩ := hP
    first
      | exact ⟨hH.1, ht⟩
      | exact ⟨hH.1, ht.1⟩) (fun _ _ _ _ _ _ => trivial) (Or.inl ⟨by decide +kernel, by decide +kernel⟩))
theorem v_X8_hasFinallyAhead (l : Launch) : CMetC l 1 181 P_X8_hasFinallyAhead (EvQ (1 + 1) 181 Q_X8_hasFinallyAhead) :=
  CMetC.of KX8_hasFinallyAhead (uc2C [] ([].map (fun c => (c, EvF 1 c)))) hX8_hasFinallyAhead (by decide) (by decide) okX8_hasFinallyAhead cc0C (lg_X8_hasFinallyAhead) (TbC.ev (b_X8_hasFinallyAhead) (L := 1) (μ := 181) (M := []) rfl (by decide +kernel) rfl (by decide +kernel) (by decide +kernel) (fun _ _ _ _ hP _ => by
    obtain ⟨p0, rfl, hH, ht⟩ := hP
    first
      | exact ⟨hH.1, ht⟩
      | exact ⟨hH.1, ht.1⟩) (fun _ _ _ _ _ _ => trivial) (Or.inl ⟨by decide +kernel, by decide +kernel⟩))
theorem v_X8_isCaught (l : Launch) : CMetC l 1 182 P_X8_isCaught (EvQ (1 + 1) 182 Q_X8_isCaught) :=
  CMetC.of KX8_isCaught (uc2C [] ([].map (fun c => (c, EvF 1 c)))) hX8_isCaught (by decide) (by decide) okX8_isCaught cc0C (lg_X8_isCaught) (TbC.ev (b_X8_isCaught) (L := 1) (μ := 182) (M := []) rfl (by decide +kernel) rfl (by decide +kernel) (by decide +kernel) (fun _ _ _ _ hP _ => by
    obtain ⟨p0, rfl, hH, ht⟩ := hP
    first
      | exact ⟨hH.1, ht⟩
      | exact ⟨hH.1, ht.1⟩) (fun _ _ _ _ _ _ => trivial) (Or.inl ⟨by decide +kernel, by decide +kernel⟩))
theorem v_X5_addParam (l : Launch) : CMetC l 1 112 P_X5_addParam (EvQ (1 + 1) 112 Q_X5_addParam) :=
  CMetC.of KX5_addParam (uc2C [] ([].map (fun c => (c, EvF 1 c)))) hX5_addParam (by decide) (by decide) okX5_addParam cc0C (lg_X5_addParam) (TbC.ev (b_X5_addParam) (L := 1) (μ := 112) (M := [185, 900]) rfl (by decide +kernel) rfl (by decide +kernel) (by decide +kernel) (fun _ _ _ _ hP _ => by
    obtain ⟨p0, p1, rfl, hH, ht⟩ := hP
    first
      | exact ⟨hH.1, ht⟩
      | exact ⟨hH.1, ht.1⟩) (fun _ _ _ _ hP hQ => by
    obtain ⟨p0, p1, rfl, _⟩ := hP
    exact ⟨fun a ha => (hQ.2.2.1.2.2 a ha).1.1, hQ⟩) (Or.inl ⟨by decide +kernel, by decide +kernel⟩))
theorem v_X5_hasSameParams (l : Launch) : CMetC l 1 113 P_X5_hasSameParams (EvQ (1 + 1) 113 Q_X5_hasSameParams) :=
  CMetC.of KX5_hasSameParams (uc2C [] ([].map (fun c => (c, EvF 1 c)))) hX5_hasSameParams (by decide) (by decide) okX5_hasSameParams cc0C (lg_X5_hasSameParams) (TbC.ev (b_X5_hasSameParams) (L := 1) (μ := 113) (M := []) rfl (by decide +kernel) rfl (by decide +kernel) (by decide +kernel) (fun _ _ _ _ hP _ => by
    obtain ⟨p0, p1, rfl, hH, ht⟩ := hP
    first
      | exact ⟨hH.1, ht⟩
      | exact ⟨hH.1, ht.1⟩) (fun _ _ _ _ _ _ => trivial) (Or.inl ⟨by decide +kernel, by decide +kernel⟩))
theorem v_X5_isAsNarrowAs (l : Launch) : CMetC l 2 114 P_X5_isAsNarrowAs (EvQ (2 + 1) 114 Q_X5_isAsNarrowAs) :=
  CMetC.of KX5_isAsNarrowAs (uc2C [(224, P_X11_sameOrWidens, Q_X11_sameOrWidens)] ([224].map (fun c => (c, EvF 2 c)))) hX5_isAsNarrowAs (by decide) (by decide) okX5_isAsNarrowAs (cc1C (CMetC.up (v_X11_sameOrWidens l) (by first | decide | omega)) (by decide) cc0C) (lg_X5_isAsNarrowAs) (TbC.ev (b_X5_isAsNarrowAs) (L := 2) (μ := 114) (M := []) rfl (by decide +kernel) rfl (by decide +kernel) (by decide +kernel) (fun _ _ _ _ hP _ => by
    obtain ⟨p0, p1, rfl, hH, ht⟩ := hP
    first
      | exact ⟨hH.1, ht⟩
      | exact ⟨hH.1, ht.1⟩) (fun _ _ _ _ _ _ => trivial) (Or.inl ⟨by decide +kernel, by decide +kernel⟩))
theorem v_X5_takes (l : Launch) : CMetC l 2 115 P_X5_takes (EvQ (2 + 1) 115 Q_X5_takes) :=
  CMetC.of KX5_takes (uc2C [(224, P_X11_sameOrWidens, Q_X11_sameOrWidens)] ([224].map (fun c => (c, EvF 2 c)))) hX5_takes (by decide) (by decide) okX5_takes (cc1C (CMetC.up (v_X11_sameOrWidens l) (by first | decide | omega)) (by decide) cc0C) (lg_X5_takes) (TbC.ev (b_X5_takes) (L := 2) (μ := 115) (M := []) rfl (by decide +kernel) rfl (by decide +kernel) (by decide +kernel) (fun _ _ _ _ hP _ => by
    obtain ⟨p0, p1, p2, p3, rfl, hH, ht⟩ := hP
    first
      | exact ⟨hH.1, ht⟩
      | exact ⟨hH.1, ht.1⟩) (fun _ _ _ _ _ _ => trivial) (Or.inl ⟨by decide +kernel, by decide +kernel⟩))
theorem v9_clear0 (l : Launch) : CMetC l 11 117 P_X6_clear (EvQ (11 + 1) 117 (fun As σ w τ => (Q_X6_clear As σ w τ ∧ U_clear As σ w τ) ∧ U_clear0 As σ w τ)) :=
  CMetC.of KX6_clear (uc2C (uc2C [(237, P_Jx4a65c_clear_da8c8, Q_Jx4a65c_clear_da8c8)] []) ([237].map (fun c => (c, EvF 11 c)))) hX6_clear (by decide) (by decide) okX6_clear (cc1C (CMetC.up (v_Jx4a65c_clear_da8c8 l) (by first | decide | omega)) (by decide) cc0C) lg_X6_clear (TbC.ev ((b_X6_clear.and p_clear).and p_clear0) (L := 11) (μ := 117) (M := [0, 2, 217, 218, 902]) rfl (by decide +kernel) rfl (by decide +kernel) (by decide +kernel) (fun _ _ _ _ _ h => ⟨h.1.1, h.1.2, h.2⟩) (fun _ _ _ _ _ _ => trivial) (Or.inl ⟨by decide +kernel, by decide +kernel⟩))
theorem v_X6_clear (l : Launch) : CMetC l 11 117 P_X6_clear (EvQ (11 + 1) 117 Q_X6_clear) := (v9_clear0 l).mq (fun As σ w τ hP hg h => ⟨h.1.1.1, h.2⟩)
theorem v9_clear (l : Launch) : CMetC l 11 117 P_X6_clear (EvQ (11 + 1) 117 (fun As σ w τ => Q_X6_clear As σ w τ ∧ U_clear As σ w τ)) := (v9_clear0 l).mq (fun As σ w τ hP hg h => ⟨h.1.1, h.2⟩)
theorem yg210 (σ : CsC) (a : Nat) : gtC σ a 210 = .inr (.inr (fRC σ a 210)) := rfl
theorem yg300 (σ : CsC) (a : Nat) : gtC σ a 300 = .inr (.inr (fRC σ a 300)) := rfl
theorem yg217 (σ : CsC) (a : Nat) : gtC σ a 217 = .inl (fIC σ a 217) := rfl
theorem yg218 (σ : CsC) (a : Nat) : gtC σ a 218 = .inl (fIC σ a 218) := rfl
theorem p_tellM : PbC KX6_tell [] [] (fun As σ => P_X6_tell As σ ∧ True) (fun _ σ _ τ => MnE true σ τ) := by
  rintro As σ ⟨⟨p0, p1, p2, rfl, H0, h_0_0, h_1_0, h_1_1, h_2_0, h_2_1⟩, -⟩ K hB hW n
  change K n 0 [(0, .inr (.inr (some p0))), (1, .inl p1), (2, .inl p2)] [] σ
  refine hB _ _ _ _ _ (fun m51 hm51 => ?_)
  dsimp only [ucgo, ucwp, ucsC, uqC, uoC, ctC, rfd, KX6_tell, KX6_tell_0, KX6_tell_17, KX6_tell_25, KX6_tell_33, KX6_tell_41, KX6_tell_51, lkC, s1C, s2C, dlC, kyC, Nat.beq, Nat.ble, rcd, rno, rsw, Nat.reduceAdd, Nat.reduceBEq, Nat.reduceDiv, List.drop, List.take, List.reverse, List.reverseAux, Int.toNat, Option.toList, List.append, List.cons_append, List.nil_append, yg210, yg217, yg218, yg300]
  intro a52 e52 ob52
  cases e52
  intro a53 e53 ob53
  intro a54 e54
  refine ⟨fun t54 v54 => ?_, fun y54 v54 => ?_, fun y54 v54 => ?_⟩
  all_goals (
    intro a55 e55 ob55
    cases e55
    refine ⟨fun h56 => ?_, fun h56 => ?_⟩
    · skip
      have z0_ : (0 : Int32).toInt = 0 := rfl
      refine hB _ _ _ _ _ (fun m57 hm57 => ?_)
      dsimp only [ucgo, ucwp, ucsC, uqC, uoC, ctC, rfd, KX6_tell, KX6_tell_0, KX6_tell_17, KX6_tell_25, KX6_tell_33, KX6_tell_41, KX6_tell_51, lkC, s1C, s2C, dlC, kyC, Nat.beq, Nat.ble, rcd, rno, rsw, Nat.reduceAdd, Nat.reduceBEq, Nat.reduceDiv, List.drop, List.take, List.reverse, List.reverseAux, Int.toNat, Option.toList, List.append, List.cons_append, List.nil_append, yg210, yg217, yg218, yg300]
      intro a58 e58 ob58 fk58
      cases e58
      clear fk58 ob58
      generalize hs58 : pIC σ p0 217 p1 = s58
      have hm58 : MnE true σ s58 := by
        rw [← hs58]
        refine ⟨Nat.le_refl _, fun _ a ha q => ?_⟩
        by_cases e9 : a = p0
        · rw [e9]
          show ¬ u2C (fIC σ) p0 217 p1 p0 217 = 0
          rw [u2C_eq]
          intro e8
          rw [e8] at h_1_0
          exact absurd h_1_0 (by decide)
        · show ¬ u2C (fIC σ) p0 217 p1 a 217 = 0
          rw [show u2C (fIC σ) p0 217 p1 a 217 = fIC σ a 217 from u2C_na e9]
          exact q
      intro a59 e59 ob59 fk59
      cases e59
      clear fk59 ob59
      refine hB _ _ _ _ _ (fun m60 hm60 => ?_)
      dsimp only [ucgo, ucwp, ucsC, uqC, uoC, ctC, rfd, KX6_tell, KX6_tell_0, KX6_tell_17, KX6_tell_25, KX6_tell_33, KX6_tell_41, KX6_tell_51, lkC, s1C, s2C, dlC, kyC, Nat.beq, Nat.ble, rcd, rno, rsw, Nat.reduceAdd, Nat.reduceBEq, Nat.reduceDiv, List.drop, List.take, List.reverse, List.reverseAux, Int.toNat, Option.toList, List.append, List.cons_append, List.nil_append, yg210, yg217, yg218, yg300]
      exact fun τ9 h9 => MnE.we (hm58.pI (by decide)) h9
    · skip
      have z0_ : (0 : Int32).toInt = 0 := rfl
      refine hB _ _ _ _ _ (fun m61 hm61 => ?_)
      dsimp only [ucgo, ucwp, ucsC, uqC, uoC, ctC, rfd, KX6_tell, KX6_tell_0, KX6_tell_17, KX6_tell_25, KX6_tell_33, KX6_tell_41, KX6_tell_51, lkC, s1C, s2C, dlC, kyC, Nat.beq, Nat.ble, rcd, rno, rsw, Nat.reduceAdd, Nat.reduceBEq, Nat.reduceDiv, List.drop, List.take, List.reverse, List.reverseAux, Int.toNat, Option.toList, List.append, List.cons_append, List.nil_append, yg210, yg217, yg218, yg300]
      intro a62 e62 ob62
      cases e62
      refine ⟨fun h63 => ?_, fun h63 => ?_⟩
      · skip
        refine hB _ _ _ _ _ (fun m64 hm64 => ?_)
        dsimp only [ucgo, ucwp, ucsC, uqC, uoC, ctC, rfd, KX6_tell, KX6_tell_0, KX6_tell_17, KX6_tell_25, KX6_tell_33, KX6_tell_41, KX6_tell_51, lkC, s1C, s2C, dlC, kyC, Nat.beq, Nat.ble, rcd, rno, rsw, Nat.reduceAdd, Nat.reduceBEq, Nat.reduceDiv, List.drop, List.take, List.reverse, List.reverseAux, Int.toNat, Option.toList, List.append, List.cons_append, List.nil_append, yg210, yg217, yg218, yg300]
        intro a65 e65 ob65 fk65
        cases e65
        clear fk65 ob65
        generalize hs65 : pIC σ p0 217 p1 = s65
        have hm65 : MnE true σ s65 := by
          rw [← hs65]
          refine ⟨Nat.le_refl _, fun _ a ha q => ?_⟩
          by_cases e9 : a = p0
          · rw [e9]
            show ¬ u2C (fIC σ) p0 217 p1 p0 217 = 0
            rw [u2C_eq]
            intro e8
            rw [e8] at h_1_0
            exact absurd h_1_0 (by decide)
          · show ¬ u2C (fIC σ) p0 217 p1 a 217 = 0
            rw [show u2C (fIC σ) p0 217 p1 a 217 = fIC σ a 217 from u2C_na e9]
            exact q
        intro a66 e66 ob66 fk66
        cases e66
        clear fk66 ob66
        refine hB _ _ _ _ _ (fun m67 hm67 => ?_)
        dsimp only [ucgo, ucwp, ucsC, uqC, uoC, ctC, rfd, KX6_tell, KX6_tell_0, KX6_tell_17, KX6_tell_25, KX6_tell_33, KX6_tell_41, KX6_tell_51, lkC, s1C, s2C, dlC, kyC, Nat.beq, Nat.ble, rcd, rno, rsw, Nat.reduceAdd, Nat.reduceBEq, Nat.reduceDiv, List.drop, List.take, List.reverse, List.reverseAux, Int.toNat, Option.toList, List.append, List.cons_append, List.nil_append, yg210, yg217, yg218, yg300]
        exact fun τ9 h9 => MnE.we (hm65.pI (by decide)) h9
      · skip
        refine hB _ _ _ _ _ (fun m68 hm68 => ?_)
        dsimp only [ucgo, ucwp, ucsC, uqC, uoC, ctC, rfd, KX6_tell, KX6_tell_0, KX6_tell_17, KX6_tell_25, KX6_tell_33, KX6_tell_41, KX6_tell_51, lkC, s1C, s2C, dlC, kyC, Nat.beq, Nat.ble, rcd, rno, rsw, Nat.reduceAdd, Nat.reduceBEq, Nat.reduceDiv, List.drop, List.take, List.reverse, List.reverseAux, Int.toNat, Option.toList, List.append, List.cons_append, List.nil_append, yg210, yg217, yg218, yg300]
        intro a69 e69 ob69
        cases e69
        refine ⟨fun h70 => ?_, fun h70 => ?_⟩
        · skip
          refine hB _ _ _ _ _ (fun m71 hm71 => ?_)
          dsimp only [ucgo, ucwp, ucsC, uqC, uoC, ctC, rfd, KX6_tell, KX6_tell_0, KX6_tell_17, KX6_tell_25, KX6_tell_33, KX6_tell_41, KX6_tell_51, lkC, s1C, s2C, dlC, kyC, Nat.beq, Nat.ble, rcd, rno, rsw, Nat.reduceAdd, Nat.reduceBEq, Nat.reduceDiv, List.drop, List.take, List.reverse, List.reverseAux, Int.toNat, Option.toList, List.append, List.cons_append, List.nil_append, yg210, yg217, yg218, yg300]
          exact fun τ9 h9 => MnE.we (MnE.rf (b := true)) h9
        · skip
          refine hB _ _ _ _ _ (fun m72 hm72 => ?_)
          dsimp only [ucgo, ucwp, ucsC, uqC, uoC, ctC, rfd, KX6_tell, KX6_tell_0, KX6_tell_17, KX6_tell_25, KX6_tell_33, KX6_tell_41, KX6_tell_51, lkC, s1C, s2C, dlC, kyC, Nat.beq, Nat.ble, rcd, rno, rsw, Nat.reduceAdd, Nat.reduceBEq, Nat.reduceDiv, List.drop, List.take, List.reverse, List.reverseAux, Int.toNat, Option.toList, List.append, List.cons_append, List.nil_append, yg210, yg217, yg218, yg300]
          intro a73 e73 ob73
          cases e73
          refine ⟨fun h74 => ?_, fun h74 => ?_⟩
          · skip
            refine hB _ _ _ _ _ (fun m75 hm75 => ?_)
            dsimp only [ucgo, ucwp, ucsC, uqC, uoC, ctC, rfd, KX6_tell, KX6_tell_0, KX6_tell_17, KX6_tell_25, KX6_tell_33, KX6_tell_41, KX6_tell_51, lkC, s1C, s2C, dlC, kyC, Nat.beq, Nat.ble, rcd, rno, rsw, Nat.reduceAdd, Nat.reduceBEq, Nat.reduceDiv, List.drop, List.take, List.reverse, List.reverseAux, Int.toNat, Option.toList, List.append, List.cons_append, List.nil_append, yg210, yg217, yg218, yg300]
            exact fun τ9 h9 => MnE.we (MnE.rf (b := true)) h9
          · skip
            refine hB _ _ _ _ _ (fun m76 hm76 => ?_)
            dsimp only [ucgo, ucwp, ucsC, uqC, uoC, ctC, rfd, KX6_tell, KX6_tell_0, KX6_tell_17, KX6_tell_25, KX6_tell_33, KX6_tell_41, KX6_tell_51, lkC, s1C, s2C, dlC, kyC, Nat.beq, Nat.ble, rcd, rno, rsw, Nat.reduceAdd, Nat.reduceBEq, Nat.reduceDiv, List.drop, List.take, List.reverse, List.reverseAux, Int.toNat, Option.toList, List.append, List.cons_append, List.nil_append, yg210, yg217, yg218, yg300]
            intro a77 e77 ob77 fk77
            cases e77
            clear fk77 ob77
            generalize hs77 : pIC σ p0 217 p1 = s77
            have hm77 : MnE true σ s77 := by
              rw [← hs77]
              refine ⟨Nat.le_refl _, fun _ a ha q => ?_⟩
              by_cases e9 : a = p0
              · rw [e9]
                show ¬ u2C (fIC σ) p0 217 p1 p0 217 = 0
                rw [u2C_eq]
                intro e8
                rw [e8] at h_1_0
                exact absurd h_1_0 (by decide)
              · show ¬ u2C (fIC σ) p0 217 p1 a 217 = 0
                rw [show u2C (fIC σ) p0 217 p1 a 217 = fIC σ a 217 from u2C_na e9]
                exact q
            intro a78 e78 ob78 fk78
            cases e78
            clear fk78 ob78
            refine hB _ _ _ _ _ (fun m79 hm79 => ?_)
            dsimp only [ucgo, ucwp, ucsC, uqC, uoC, ctC, rfd, KX6_tell, KX6_tell_0, KX6_tell_17, KX6_tell_25, KX6_tell_33, KX6_tell_41, KX6_tell_51, lkC, s1C, s2C, dlC, kyC, Nat.beq, Nat.ble, rcd, rno, rsw, Nat.reduceAdd, Nat.reduceBEq, Nat.reduceDiv, List.drop, List.take, List.reverse, List.reverseAux, Int.toNat, Option.toList, List.append, List.cons_append, List.nil_append, yg210, yg217, yg218, yg300]
            exact fun τ9 h9 => MnE.we (hm77.pI (by decide)) h9)
theorem v8_tell (l : Launch) : CMetC l 1 118 P_X6_tell (EvQ (1 + 1) 118 (fun As σ w τ => Q_X6_tell As σ w τ ∧ ∀ _y : Unit, True → MnE true σ τ)) :=
  CMetC.of KX6_tell (uc2C (uc2C [] []) ([].map (fun c => (c, EvF 1 c)))) hX6_tell (by decide) (by decide) okX6_tell cc0C (lg_X6_tell) (TbC.ev ((b_X6_tell).and (Y := Unit) (P2 := fun _ _ _ => True) (fun _ => p_tellM)) (L := 1) (μ := 118) (M := [217, 218]) rfl (by decide +kernel) rfl (by decide +kernel) (by decide +kernel) (fun _ _ _ _ hP _ => by
    obtain ⟨p0, p1, p2, rfl, hH, ht⟩ := hP
    first
      | exact ⟨hH.1, ht⟩
      | exact ⟨hH.1, ht.1⟩) (fun _ _ _ _ _ _ => trivial) (Or.inr (fun _ _ _ _ _ h => h.2 () trivial)))
theorem v_X6_tell (l : Launch) : CMetC l 1 118 P_X6_tell (EvQ (1 + 1) 118 Q_X6_tell) := (v8_tell l).mq (fun As σ w τ hP hg h => ⟨h.1.1, h.2⟩)
theorem v_X6_methodOf (l : Launch) : CMetC l 11 119 P_X6_methodOf (EvQ (11 + 1) 119 Q_X6_methodOf) :=
  CMetC.of KX6_methodOf (uc2C [(234, P_Jx4a65c_size_8abf5, Q_Jx4a65c_size_8abf5), (235, P_Jx4a65c_get_915e3, Q_Jx4a65c_get_915e3)] ([234, 235].map (fun c => (c, EvF 11 c)))) hX6_methodOf (by decide) (by decide) okX6_methodOf (cc1C (CMetC.up (v_Jx4a65c_size_8abf5 l) (by first | decide | omega)) (by decide) (cc1C (CMetC.up (v_Jx4a65c_get_915e3 l) (by first | decide | omega)) (by decide) cc0C)) (lg_X6_methodOf) (TbC.ev (b_X6_methodOf) (L := 11) (μ := 119) (M := []) rfl (by decide +kernel) rfl (by decide +kernel) (by decide +kernel) (fun _ _ _ _ hP _ => by
    obtain ⟨p0, p1, rfl, hH, ht⟩ := hP
    first
      | exact ⟨hH.1, ht⟩
      | exact ⟨hH.1, ht.1⟩) (fun _ _ _ _ _ _ => trivial) (Or.inl ⟨by decide +kernel, by decide +kernel⟩))
theorem v_X6_expAt (l : Launch) : CMetC l 11 120 P_X6_expAt (EvQ (11 + 1) 120 Q_X6_expAt) :=
  CMetC.of KX6_expAt (uc2C [(234, P_Jx4a65c_size_8abf5, Q_Jx4a65c_size_8abf5), (235, P_Jx4a65c_get_915e3, Q_Jx4a65c_get_915e3)] ([234, 235].map (fun c => (c, EvF 11 c)))) hX6_expAt (by decide) (by decide) okX6_expAt (cc1C (CMetC.up (v_Jx4a65c_size_8abf5 l) (by first | decide | omega)) (by decide) (cc1C (CMetC.up (v_Jx4a65c_get_915e3 l) (by first | decide | omega)) (by decide) cc0C)) (lg_X6_expAt) (TbC.ev (b_X6_expAt) (L := 11) (μ := 120) (M := []) rfl (by decide +kernel) rfl (by decide +kernel) (by decide +kernel) (fun _ _ _ _ hP _ => by
    obtain ⟨p0, p1, p2, rfl, hH, ht⟩ := hP
    first
      | exact ⟨hH.1, ht⟩
      | exact ⟨hH.1, ht.1⟩) (fun _ _ _ _ _ _ => trivial) (Or.inl ⟨by decide +kernel, by decide +kernel⟩))
theorem v_X6_statementAt (l : Launch) : CMetC l 11 121 P_X6_statementAt (EvQ (11 + 1) 121 Q_X6_statementAt) :=
  CMetC.of KX6_statementAt (uc2C [(234, P_Jx4a65c_size_8abf5, Q_Jx4a65c_size_8abf5), (235, P_Jx4a65c_get_915e3, Q_Jx4a65c_get_915e3), (180, P_X8_isPart, Q_X8_isPart)] ([234, 235, 180].map (fun c => (c, EvF 11 c)))) hX6_statementAt (by decide) (by decide) okX6_statementAt (cc1C (CMetC.up (v_Jx4a65c_size_8abf5 l) (by first | decide | omega)) (by decide) (cc1C (CMetC.up (v_Jx4a65c_get_915e3 l) (by first | decide | omega)) (by decide) (cc1C (CMetC.up (v_X8_isPart l) (by first | decide | omega)) (by decide) cc0C))) (lg_X6_statementAt) (TbC.ev (b_X6_statementAt) (L := 11) (μ := 121) (M := []) rfl (by decide +kernel) rfl (by decide +kernel) (by decide +kernel) (fun _ _ _ _ hP _ => by
    obtain ⟨p0, p1, rfl, hH, ht⟩ := hP
    first
      | exact ⟨hH.1, ht⟩
      | exact ⟨hH.1, ht.1⟩) (fun _ _ _ _ _ _ => trivial) (Or.inl ⟨by decide +kernel, by decide +kernel⟩))
theorem v_X3_variableOf (l : Launch) : CMetC l 11 51 P_X3_variableOf (EvQ (11 + 1) 51 Q_X3_variableOf) :=
  CMetC.of KX3_variableOf (uc2C [(234, P_Jx4a65c_size_8abf5, Q_Jx4a65c_size_8abf5), (235, P_Jx4a65c_get_915e3, Q_Jx4a65c_get_915e3)] ([234, 235].map (fun c => (c, EvF 11 c)))) hX3_variableOf (by decide) (by decide) okX3_variableOf (cc1C (CMetC.up (v_Jx4a65c_size_8abf5 l) (by first | decide | omega)) (by decide) (cc1C (CMetC.up (v_Jx4a65c_get_915e3 l) (by first | decide | omega)) (by decide) cc0C)) (lg_X3_variableOf) (TbC.ev (b_X3_variableOf) (L := 11) (μ := 51) (M := []) rfl (by decide +kernel) rfl (by decide +kernel) (by decide +kernel) (fun _ _ _ _ hP _ => by
    obtain ⟨p0, p1, rfl, hH, ht⟩ := hP
    first
      | exact ⟨hH.1, ht⟩
      | exact ⟨hH.1, ht.1⟩) (fun _ _ _ _ _ _ => trivial) (Or.inl ⟨by decide +kernel, by decide +kernel⟩))
theorem v_X3_isFaulty (l : Launch) : CMetC l 1 52 P_X3_isFaulty (EvQ (1 + 1) 52 Q_X3_isFaulty) :=
  CMetC.of KX3_isFaulty (uc2C [] ([].map (fun c => (c, EvF 1 c)))) hX3_isFaulty (by decide) (by decide) okX3_isFaulty cc0C (lg_X3_isFaulty) (TbC.ev (b_X3_isFaulty) (L := 1) (μ := 52) (M := []) rfl (by decide +kernel) rfl (by decide +kernel) (by decide +kernel) (fun _ _ _ _ _ _ => trivial) (fun _ _ _ _ _ _ => trivial) (Or.inl ⟨by decide +kernel, by decide +kernel⟩))
theorem v_X3_isTakenAlone (l : Launch) : CMetC l 2 57 P_X3_isTakenAlone (EvQ (2 + 1) 57 Q_X3_isTakenAlone) :=
  CMetC.of KX3_isTakenAlone (uc2C [(223, P_X11_isNumber, Q_X11_isNumber)] ([223].map (fun c => (c, EvF 2 c)))) hX3_isTakenAlone (by decide) (by decide) okX3_isTakenAlone (cc1C (CMetC.up (v_X11_isNumber l) (by first | decide | omega)) (by decide) cc0C) (lg_X3_isTakenAlone) (TbC.ev (b_X3_isTakenAlone) (L := 2) (μ := 57) (M := []) rfl (by decide +kernel) rfl (by decide +kernel) (by decide +kernel) (fun _ _ _ _ hP _ => by
    obtain ⟨p0, p1, rfl, hH, ht⟩ := hP
    first
      | exact ⟨hH.1, ht⟩
      | exact ⟨hH.1, ht.1⟩) (fun _ _ _ _ _ _ => trivial) (Or.inl ⟨by decide +kernel, by decide +kernel⟩))
theorem v_X3_promoted (l : Launch) : CMetC l 1 58 P_X3_promoted (EvQ (1 + 1) 58 Q_X3_promoted) :=
  CMetC.of KX3_promoted (uc2C [] ([].map (fun c => (c, EvF 1 c)))) hX3_promoted (by decide) (by decide) okX3_promoted cc0C (lg_X3_promoted) (TbC.ev (b_X3_promoted) (L := 1) (μ := 58) (M := []) rfl (by decide +kernel) rfl (by decide +kernel) (by decide +kernel) (fun _ _ _ _ _ _ => trivial) (fun _ _ _ _ _ _ => trivial) (Or.inl ⟨by decide +kernel, by decide +kernel⟩))
theorem v_X3_isWanted (l : Launch) : CMetC l 2 62 P_X3_isWanted (EvQ (2 + 1) 62 Q_X3_isWanted) :=
  CMetC.of KX3_isWanted (uc2C [(118, P_X6_tell, Q_X6_tell)] ([118].map (fun c => (c, EvF 2 c)))) hX3_isWanted (by decide) (by decide) okX3_isWanted (cc1C (CMetC.up (v_X6_tell l) (by first | decide | omega)) (by decide) cc0C) (lg_X3_isWanted) (TbC.ev (b_X3_isWanted) (L := 2) (μ := 62) (M := [217, 218]) rfl (by decide +kernel) rfl (by decide +kernel) (by decide +kernel) (fun _ _ _ _ hP _ => by
    obtain ⟨p0, p1, p2, rfl, hH, ht⟩ := hP
    first
      | exact ⟨hH.1, ht⟩
      | exact ⟨hH.1, ht.1⟩) (fun _ _ _ _ _ _ => trivial) (Or.inl ⟨by decide +kernel, by decide +kernel⟩))
theorem v_X3_mayChange (l : Launch) : CMetC l 2 59 P_X3_mayChange (EvQ (2 + 1) 59 Q_X3_mayChange) :=
  CMetC.of KX3_mayChange (uc2C [(118, P_X6_tell, Q_X6_tell)] ([118].map (fun c => (c, EvF 2 c)))) hX3_mayChange (by decide) (by decide) okX3_mayChange (cc1C (CMetC.up (v_X6_tell l) (by first | decide | omega)) (by decide) cc0C) (lg_X3_mayChange) (TbC.ev (b_X3_mayChange) (L := 2) (μ := 59) (M := [217, 218]) rfl (by decide +kernel) rfl (by decide +kernel) (by decide +kernel) (fun _ _ _ _ hP _ => by
    obtain ⟨p0, p1, p2, rfl, hH, ht⟩ := hP
    first
      | exact ⟨hH.1, ht⟩
      | exact ⟨hH.1, ht.1⟩) (fun _ _ _ _ _ _ => trivial) (Or.inl ⟨by decide +kernel, by decide +kernel⟩))
theorem v_X3_isLogical (l : Launch) : CMetC l 1 64 P_X3_isLogical (EvQ (1 + 1) 64 Q_X3_isLogical) :=
  CMetC.of KX3_isLogical (uc2C [] ([].map (fun c => (c, EvF 1 c)))) hX3_isLogical (by decide) (by decide) okX3_isLogical cc0C (lg_X3_isLogical) (TbC.ev (b_X3_isLogical) (L := 1) (μ := 64) (M := []) rfl (by decide +kernel) rfl (by decide +kernel) (by decide +kernel) (fun _ _ _ _ _ _ => trivial) (fun _ _ _ _ _ _ => trivial) (Or.inl ⟨by decide +kernel, by decide +kernel⟩))
theorem v_X3_takesBoth (l : Launch) : CMetC l 1 65 P_X3_takesBoth (EvQ (1 + 1) 65 Q_X3_takesBoth) :=
  CMetC.of KX3_takesBoth (uc2C [] ([].map (fun c => (c, EvF 1 c)))) hX3_takesBoth (by decide) (by decide) okX3_takesBoth cc0C (lg_X3_takesBoth) (TbC.ev (b_X3_takesBoth) (L := 1) (μ := 65) (M := []) rfl (by decide +kernel) rfl (by decide +kernel) (by decide +kernel) (fun _ _ _ _ _ _ => trivial) (fun _ _ _ _ _ _ => trivial) (Or.inl ⟨by decide +kernel, by decide +kernel⟩))
theorem v_X3_isLeftTaken (l : Launch) : CMetC l 2 66 P_X3_isLeftTaken (EvQ (2 + 1) 66 Q_X3_isLeftTaken) :=
  CMetC.of KX3_isLeftTaken (uc2C [(64, P_X3_isLogical, Q_X3_isLogical), (223, P_X11_isNumber, Q_X11_isNumber), (65, P_X3_takesBoth, Q_X3_takesBoth)] ([64, 223, 65].map (fun c => (c, EvF 2 c)))) hX3_isLeftTaken (by decide) (by decide) okX3_isLeftTaken (cc1C (CMetC.up (v_X3_isLogical l) (by first | decide | omega)) (by decide) (cc1C (CMetC.up (v_X11_isNumber l) (by first | decide | omega)) (by decide) (cc1C (CMetC.up (v_X3_takesBoth l) (by first | decide | omega)) (by decide) cc0C))) (lg_X3_isLeftTaken) (TbC.ev (b_X3_isLeftTaken) (L := 2) (μ := 66) (M := []) rfl (by decide +kernel) rfl (by decide +kernel) (by decide +kernel) (fun _ _ _ _ _ _ => trivial) (fun _ _ _ _ _ _ => trivial) (Or.inl ⟨by decide +kernel, by decide +kernel⟩))
theorem v_X3_isRightTaken (l : Launch) : CMetC l 2 67 P_X3_isRightTaken (EvQ (2 + 1) 67 Q_X3_isRightTaken) :=
  CMetC.of KX3_isRightTaken (uc2C [(223, P_X11_isNumber, Q_X11_isNumber)] ([223].map (fun c => (c, EvF 2 c)))) hX3_isRightTaken (by decide) (by decide) okX3_isRightTaken (cc1C (CMetC.up (v_X11_isNumber l) (by first | decide | omega)) (by decide) cc0C) (lg_X3_isRightTaken) (TbC.ev (b_X3_isRightTaken) (L := 2) (μ := 67) (M := []) rfl (by decide +kernel) rfl (by decide +kernel) (by decide +kernel) (fun _ _ _ _ _ _ => trivial) (fun _ _ _ _ _ _ => trivial) (Or.inl ⟨by decide +kernel, by decide +kernel⟩))
theorem v_X3_workType (l : Launch) : CMetC l 2 68 P_X3_workType (EvQ (2 + 1) 68 Q_X3_workType) :=
  CMetC.of KX3_workType (uc2C [(58, P_X3_promoted, Q_X3_promoted)] ([58].map (fun c => (c, EvF 2 c)))) hX3_workType (by decide) (by decide) okX3_workType (cc1C (CMetC.up (v_X3_promoted l) (by first | decide | omega)) (by decide) cc0C) (lg_X3_workType) (TbC.ev (b_X3_workType) (L := 2) (μ := 68) (M := []) rfl (by decide +kernel) rfl (by decide +kernel) (by decide +kernel) (fun _ _ _ _ _ _ => trivial) (fun _ _ _ _ _ _ => trivial) (Or.inl ⟨by decide +kernel, by decide +kernel⟩))
theorem v_X3_areTaken (l : Launch) : CMetC l 3 63 P_X3_areTaken (EvQ (3 + 1) 63 Q_X3_areTaken) :=
  CMetC.of KX3_areTaken (uc2C [(66, P_X3_isLeftTaken, Q_X3_isLeftTaken), (62, P_X3_isWanted, Q_X3_isWanted), (52, P_X3_isFaulty, Q_X3_isFaulty), (67, P_X3_isRightTaken, Q_X3_isRightTaken)] ([66, 62, 52, 67].map (fun c => (c, EvF 3 c)))) hX3_areTaken (by decide) (by decide) okX3_areTaken (cc1C (CMetC.up (v_X3_isLeftTaken l) (by first | decide | omega)) (by decide) (cc1C (CMetC.up (v_X3_isWanted l) (by first | decide | omega)) (by decide) (cc1C (CMetC.up (v_X3_isFaulty l) (by first | decide | omega)) (by decide) (cc1C (CMetC.up (v_X3_isRightTaken l) (by first | decide | omega)) (by decide) cc0C)))) (lg_X3_areTaken) (TbC.ev (b_X3_areTaken) (L := 3) (μ := 63) (M := [217, 218]) rfl (by decide +kernel) rfl (by decide +kernel) (by decide +kernel) (fun _ _ _ _ hP _ => by
    obtain ⟨p0, p1, p2, p3, rfl, hH, ht⟩ := hP
    first
      | exact ⟨hH.1, ht⟩
      | exact ⟨hH.1, ht.1⟩) (fun _ _ _ _ _ _ => trivial) (Or.inl ⟨by decide +kernel, by decide +kernel⟩))
theorem v_X3_isSmall (l : Launch) : CMetC l 1 73 P_X3_isSmall (EvQ (1 + 1) 73 Q_X3_isSmall) :=
  CMetC.of KX3_isSmall (uc2C [] ([].map (fun c => (c, EvF 1 c)))) hX3_isSmall (by decide) (by decide) okX3_isSmall cc0C (lg_X3_isSmall) (TbC.ev (b_X3_isSmall) (L := 1) (μ := 73) (M := []) rfl (by decide +kernel) rfl (by decide +kernel) (by decide +kernel) (fun _ _ _ _ _ _ => trivial) (fun _ _ _ _ _ _ => trivial) (Or.inl ⟨by decide +kernel, by decide +kernel⟩))
theorem v_X3_isHeld (l : Launch) : CMetC l 2 74 P_X3_isHeld (EvQ (2 + 1) 74 Q_X3_isHeld) :=
  CMetC.of KX3_isHeld (uc2C [(228, P_X11_narrowed, Q_X11_narrowed)] ([228].map (fun c => (c, EvF 2 c)))) hX3_isHeld (by decide) (by decide) okX3_isHeld (cc1C (CMetC.up (v_X11_narrowed l) (by first | decide | omega)) (by decide) cc0C) (lg_X3_isHeld) (TbC.ev (b_X3_isHeld) (L := 2) (μ := 74) (M := []) rfl (by decide +kernel) rfl (by decide +kernel) (by decide +kernel) (fun _ _ _ _ hP _ => by
    obtain ⟨p0, p1, rfl, hH, ht⟩ := hP
    first
      | exact ⟨hH.1, ht⟩
      | exact ⟨hH.1, ht.1⟩) (fun _ _ _ _ _ _ => trivial) (Or.inl ⟨by decide +kernel, by decide +kernel⟩))
theorem v_X3_fits (l : Launch) : CMetC l 3 75 P_X3_fits (EvQ (3 + 1) 75 Q_X3_fits) :=
  CMetC.of KX3_fits (uc2C [(224, P_X11_sameOrWidens, Q_X11_sameOrWidens), (73, P_X3_isSmall, Q_X3_isSmall), (74, P_X3_isHeld, Q_X3_isHeld)] ([224, 73, 74].map (fun c => (c, EvF 3 c)))) hX3_fits (by decide) (by decide) okX3_fits (cc1C (CMetC.up (v_X11_sameOrWidens l) (by first | decide | omega)) (by decide) (cc1C (CMetC.up (v_X3_isSmall l) (by first | decide | omega)) (by decide) (cc1C (CMetC.up (v_X3_isHeld l) (by first | decide | omega)) (by decide) cc0C))) (lg_X3_fits) (TbC.ev (b_X3_fits) (L := 3) (μ := 75) (M := []) rfl (by decide +kernel) rfl (by decide +kernel) (by decide +kernel) (fun _ _ _ _ hP _ => by
    obtain ⟨p0, p1, rfl, hH, ht⟩ := hP
    first
      | exact ⟨hH.1, ht⟩
      | exact ⟨hH.1, ht.1⟩) (fun _ _ _ _ _ _ => trivial) (Or.inl ⟨by decide +kernel, by decide +kernel⟩))
theorem v_X3_judgeNumber (l : Launch) : CMetC l 2 54 P_X3_judgeNumber (EvQ (2 + 1) 54 Q_X3_judgeNumber) :=
  CMetC.of KX3_judgeNumber (uc2C [(118, P_X6_tell, Q_X6_tell), (228, P_X11_narrowed, Q_X11_narrowed)] ([118, 228].map (fun c => (c, EvF 2 c)))) hX3_judgeNumber (by decide) (by decide) okX3_judgeNumber (cc1C (CMetC.up (v_X6_tell l) (by first | decide | omega)) (by decide) (cc1C (CMetC.up (v_X11_narrowed l) (by first | decide | omega)) (by decide) cc0C)) (lg_X3_judgeNumber) (TbC.ev (b_X3_judgeNumber) (L := 2) (μ := 54) (M := [68, 71, 217, 218]) rfl (by decide +kernel) rfl (by decide +kernel) (by decide +kernel) (fun _ _ _ _ hP _ => by
    obtain ⟨p0, p1, rfl, hH, ht⟩ := hP
    first
      | exact ⟨hH.1, ht⟩
      | exact ⟨hH.1, ht.1⟩) (fun _ _ _ _ _ _ => trivial) (Or.inl ⟨by decide +kernel, by decide +kernel⟩))
theorem v_X3_judgeName (l : Launch) : CMetC l 12 55 P_X3_judgeName (EvQ (12 + 1) 55 Q_X3_judgeName) :=
  CMetC.of KX3_judgeName (uc2C [(51, P_X3_variableOf, Q_X3_variableOf), (118, P_X6_tell, Q_X6_tell)] ([51, 118].map (fun c => (c, EvF 12 c)))) hX3_judgeName (by decide) (by decide) okX3_judgeName (cc1C (CMetC.up (v_X3_variableOf l) (by first | decide | omega)) (by decide) (cc1C (CMetC.up (v_X6_tell l) (by first | decide | omega)) (by decide) cc0C)) (lg_X3_judgeName) (TbC.ev (b_X3_judgeName) (L := 12) (μ := 55) (M := [68, 70, 71, 217, 218]) rfl (by decide +kernel) rfl (by decide +kernel) (by decide +kernel) (fun _ _ _ _ hP _ => by
    obtain ⟨p0, p1, rfl, hH, ht⟩ := hP
    first
      | exact ⟨hH.1, ht⟩
      | exact ⟨hH.1, ht.1⟩) (fun _ _ _ _ _ _ => trivial) (Or.inl ⟨by decide +kernel, by decide +kernel⟩))
theorem v_X3_judgeOfOne (l : Launch) : CMetC l 3 56 P_X3_judgeOfOne (EvQ (3 + 1) 56 Q_X3_judgeOfOne) :=
  CMetC.of KX3_judgeOfOne (uc2C [(52, P_X3_isFaulty, Q_X3_isFaulty), (228, P_X11_narrowed, Q_X11_narrowed), (57, P_X3_isTakenAlone, Q_X3_isTakenAlone), (58, P_X3_promoted, Q_X3_promoted), (232, P_X11_workedAlone, Q_X11_workedAlone), (118, P_X6_tell, Q_X6_tell)] ([52, 228, 57, 58, 232, 118].map (fun c => (c, EvF 3 c)))) hX3_judgeOfOne (by decide) (by decide) okX3_judgeOfOne (cc1C (CMetC.up (v_X3_isFaulty l) (by first | decide | omega)) (by decide) (cc1C (CMetC.up (v_X11_narrowed l) (by first | decide | omega)) (by decide) (cc1C (CMetC.up (v_X3_isTakenAlone l) (by first | decide | omega)) (by decide) (cc1C (CMetC.up (v_X3_promoted l) (by first | decide | omega)) (by decide) (cc1C (CMetC.up (v_X11_workedAlone l) (by first | decide | omega)) (by decide) (cc1C (CMetC.up (v_X6_tell l) (by first | decide | omega)) (by decide) cc0C)))))) (lg_X3_judgeOfOne) (TbC.ev (b_X3_judgeOfOne) (L := 3) (μ := 56) (M := [68, 70, 71, 217, 218]) rfl (by decide +kernel) rfl (by decide +kernel) (by decide +kernel) (fun _ _ _ _ hP _ => by
    obtain ⟨p0, p1, rfl, hH, ht⟩ := hP
    first
      | exact ⟨hH.1, ht⟩
      | exact ⟨hH.1, ht.1⟩) (fun _ _ _ _ _ _ => trivial) (Or.inl ⟨by decide +kernel, by decide +kernel⟩))
theorem v_X3_judgeCount (l : Launch) : CMetC l 12 60 P_X3_judgeCount (EvQ (12 + 1) 60 Q_X3_judgeCount) :=
  CMetC.of KX3_judgeCount (uc2C [(51, P_X3_variableOf, Q_X3_variableOf), (59, P_X3_mayChange, Q_X3_mayChange), (223, P_X11_isNumber, Q_X11_isNumber), (118, P_X6_tell, Q_X6_tell)] ([51, 59, 223, 118].map (fun c => (c, EvF 12 c)))) hX3_judgeCount (by decide) (by decide) okX3_judgeCount (cc1C (CMetC.up (v_X3_variableOf l) (by first | decide | omega)) (by decide) (cc1C (CMetC.up (v_X3_mayChange l) (by first | decide | omega)) (by decide) (cc1C (CMetC.up (v_X11_isNumber l) (by first | decide | omega)) (by decide) (cc1C (CMetC.up (v_X6_tell l) (by first | decide | omega)) (by decide) cc0C)))) (lg_X3_judgeCount) (TbC.ev (b_X3_judgeCount) (L := 12) (μ := 60) (M := [68, 217, 218]) rfl (by decide +kernel) rfl (by decide +kernel) (by decide +kernel) (fun _ _ _ _ hP _ => by
    obtain ⟨p0, p1, rfl, hH, ht⟩ := hP
    first
      | exact ⟨hH.1, ht⟩
      | exact ⟨hH.1, ht.1⟩) (fun _ _ _ _ _ _ => trivial) (Or.inl ⟨by decide +kernel, by decide +kernel⟩))
theorem v_X3_judgeAssignment (l : Launch) : CMetC l 12 61 P_X3_judgeAssignment (EvQ (12 + 1) 61 Q_X3_judgeAssignment) :=
  CMetC.of KX3_judgeAssignment (uc2C [(51, P_X3_variableOf, Q_X3_variableOf), (59, P_X3_mayChange, Q_X3_mayChange), (63, P_X3_areTaken, Q_X3_areTaken), (52, P_X3_isFaulty, Q_X3_isFaulty), (75, P_X3_fits, Q_X3_fits), (62, P_X3_isWanted, Q_X3_isWanted), (68, P_X3_workType, Q_X3_workType)] ([51, 59, 63, 52, 75, 62, 68].map (fun c => (c, EvF 12 c)))) hX3_judgeAssignment (by decide) (by decide) okX3_judgeAssignment (cc1C (CMetC.up (v_X3_variableOf l) (by first | decide | omega)) (by decide) (cc1C (CMetC.up (v_X3_mayChange l) (by first | decide | omega)) (by decide) (cc1C (CMetC.up (v_X3_areTaken l) (by first | decide | omega)) (by decide) (cc1C (CMetC.up (v_X3_isFaulty l) (by first | decide | omega)) (by decide) (cc1C (CMetC.up (v_X3_fits l) (by first | decide | omega)) (by decide) (cc1C (CMetC.up (v_X3_isWanted l) (by first | decide | omega)) (by decide) (cc1C (CMetC.up (v_X3_workType l) (by first | decide | omega)) (by decide) cc0C))))))) (lg_X3_judgeAssignment) (TbC.ev (b_X3_judgeAssignment) (L := 12) (μ := 61) (M := [68, 69, 217, 218]) rfl (by decide +kernel) rfl (by decide +kernel) (by decide +kernel) (fun _ _ _ _ hP _ => by
    obtain ⟨p0, p1, rfl, hH, ht⟩ := hP
    first
      | exact ⟨hH.1, ht⟩
      | exact ⟨hH.1, ht.1⟩) (fun _ _ _ _ _ _ => trivial) (Or.inl ⟨by decide +kernel, by decide +kernel⟩))
theorem v_X3_workedChain (l : Launch) : CMetC l 3 70 P_X3_workedChain (EvQ (3 + 1) 70 Q_X3_workedChain) :=
  CMetC.of KX3_workedChain (uc2C [(229, P_X11_worked, Q_X11_worked)] ([229].map (fun c => (c, EvF 3 c)))) hX3_workedChain (by decide) (by decide) okX3_workedChain (cc1C (CMetC.up (v_X11_worked l) (by first | decide | omega)) (by decide) cc0C) (lg_X3_workedChain) (TbC.ev (b_X3_workedChain) (L := 3) (μ := 70) (M := []) rfl (by decide +kernel) rfl (by decide +kernel) (by decide +kernel) (fun _ _ _ _ hP _ => by
    obtain ⟨p0, p1, p2, rfl, hH, ht⟩ := hP
    first
      | exact ⟨hH.1, ht⟩
      | exact ⟨hH.1, ht.1⟩) (fun _ _ _ _ _ _ => trivial) (Or.inl ⟨by decide +kernel, by decide +kernel⟩))
theorem v_X3_judgeChain (l : Launch) : CMetC l 4 69 P_X3_judgeChain (EvQ (4 + 1) 69 Q_X3_judgeChain) :=
  CMetC.of KX3_judgeChain (uc2C [(52, P_X3_isFaulty, Q_X3_isFaulty), (63, P_X3_areTaken, Q_X3_areTaken), (68, P_X3_workType, Q_X3_workType), (227, P_X11_isDivision, Q_X11_isDivision), (70, P_X3_workedChain, Q_X3_workedChain)] ([52, 63, 68, 227, 70].map (fun c => (c, EvF 4 c)))) hX3_judgeChain (by decide) (by decide) okX3_judgeChain (cc1C (CMetC.up (v_X3_isFaulty l) (by first | decide | omega)) (by decide) (cc1C (CMetC.up (v_X3_areTaken l) (by first | decide | omega)) (by decide) (cc1C (CMetC.up (v_X3_workType l) (by first | decide | omega)) (by decide) (cc1C (CMetC.up (v_X11_isDivision l) (by first | decide | omega)) (by decide) (cc1C (CMetC.up (v_X3_workedChain l) (by first | decide | omega)) (by decide) cc0C))))) (lg_X3_judgeChain) (TbC.ev (b_X3_judgeChain) (L := 4) (μ := 69) (M := [68, 69, 70, 71, 217, 218]) rfl (by decide +kernel) rfl (by decide +kernel) (by decide +kernel) (fun _ _ _ _ hP _ => by
    obtain ⟨p0, p1, rfl, hH, ht⟩ := hP
    first
      | exact ⟨hH.1, ht⟩
      | exact ⟨hH.1, ht.1⟩) (fun _ _ _ _ _ _ => trivial) (Or.inl ⟨by decide +kernel, by decide +kernel⟩))
theorem v_X3_choiceType (l : Launch) : CMetC l 3 72 P_X3_choiceType (EvQ (3 + 1) 72 Q_X3_choiceType) :=
  CMetC.of KX3_choiceType (uc2C [(73, P_X3_isSmall, Q_X3_isSmall), (74, P_X3_isHeld, Q_X3_isHeld)] ([73, 74].map (fun c => (c, EvF 3 c)))) hX3_choiceType (by decide) (by decide) okX3_choiceType (cc1C (CMetC.up (v_X3_isSmall l) (by first | decide | omega)) (by decide) (cc1C (CMetC.up (v_X3_isHeld l) (by first | decide | omega)) (by decide) cc0C)) (lg_X3_choiceType) (TbC.ev (b_X3_choiceType) (L := 3) (μ := 72) (M := []) rfl (by decide +kernel) rfl (by decide +kernel) (by decide +kernel) (fun _ _ _ _ hP _ => by
    obtain ⟨p0, p1, rfl, hH, ht⟩ := hP
    first
      | exact ⟨hH.1, ht⟩
      | exact ⟨hH.1, ht.1⟩) (fun _ _ _ _ _ _ => trivial) (Or.inl ⟨by decide +kernel, by decide +kernel⟩))
theorem v_X3_judgeChoice (l : Launch) : CMetC l 4 71 P_X3_judgeChoice (EvQ (4 + 1) 71 Q_X3_judgeChoice) :=
  CMetC.of KX3_judgeChoice (uc2C [(52, P_X3_isFaulty, Q_X3_isFaulty), (62, P_X3_isWanted, Q_X3_isWanted), (67, P_X3_isRightTaken, Q_X3_isRightTaken), (72, P_X3_choiceType, Q_X3_choiceType)] ([52, 62, 67, 72].map (fun c => (c, EvF 4 c)))) hX3_judgeChoice (by decide) (by decide) okX3_judgeChoice (cc1C (CMetC.up (v_X3_isFaulty l) (by first | decide | omega)) (by decide) (cc1C (CMetC.up (v_X3_isWanted l) (by first | decide | omega)) (by decide) (cc1C (CMetC.up (v_X3_isRightTaken l) (by first | decide | omega)) (by decide) (cc1C (CMetC.up (v_X3_choiceType l) (by first | decide | omega)) (by decide) cc0C)))) (lg_X3_judgeChoice) (TbC.ev (b_X3_judgeChoice) (L := 4) (μ := 71) (M := [68, 70, 71, 217, 218]) rfl (by decide +kernel) rfl (by decide +kernel) (by decide +kernel) (fun _ _ _ _ hP _ => by
    obtain ⟨p0, p1, rfl, hH, ht⟩ := hP
    first
      | exact ⟨hH.1, ht⟩
      | exact ⟨hH.1, ht.1⟩) (fun _ _ _ _ _ _ => trivial) (Or.inl ⟨by decide +kernel, by decide +kernel⟩))
theorem v_X3_isNarrowest (l : Launch) : CMetC l 12 78 P_X3_isNarrowest (EvQ (12 + 1) 78 Q_X3_isNarrowest) :=
  CMetC.of KX3_isNarrowest (uc2C [(119, P_X6_methodOf, Q_X6_methodOf), (115, P_X5_takes, Q_X5_takes), (114, P_X5_isAsNarrowAs, Q_X5_isAsNarrowAs)] ([119, 115, 114].map (fun c => (c, EvF 12 c)))) hX3_isNarrowest (by decide) (by decide) okX3_isNarrowest (cc1C (CMetC.up (v_X6_methodOf l) (by first | decide | omega)) (by decide) (cc1C (CMetC.up (v_X5_takes l) (by first | decide | omega)) (by decide) (cc1C (CMetC.up (v_X5_isAsNarrowAs l) (by first | decide | omega)) (by decide) cc0C))) (lg_X3_isNarrowest) (TbC.ev (b_X3_isNarrowest) (L := 12) (μ := 78) (M := []) rfl (by decide +kernel) rfl (by decide +kernel) (by decide +kernel) (fun _ _ _ _ hP _ => by
    obtain ⟨p0, p1, p2, p3, p4, rfl, hH, ht⟩ := hP
    first
      | exact ⟨hH.1, ht⟩
      | exact ⟨hH.1, ht.1⟩) (fun _ _ _ _ _ _ => trivial) (Or.inl ⟨by decide +kernel, by decide +kernel⟩))
theorem v_X3_calledMethod (l : Launch) : CMetC l 13 77 P_X3_calledMethod (EvQ (13 + 1) 77 Q_X3_calledMethod) :=
  CMetC.of KX3_calledMethod (uc2C [(119, P_X6_methodOf, Q_X6_methodOf), (115, P_X5_takes, Q_X5_takes), (78, P_X3_isNarrowest, Q_X3_isNarrowest)] ([119, 115, 78].map (fun c => (c, EvF 13 c)))) hX3_calledMethod (by decide) (by decide) okX3_calledMethod (cc1C (CMetC.up (v_X6_methodOf l) (by first | decide | omega)) (by decide) (cc1C (CMetC.up (v_X5_takes l) (by first | decide | omega)) (by decide) (cc1C (CMetC.up (v_X3_isNarrowest l) (by first | decide | omega)) (by decide) cc0C))) (lg_X3_calledMethod) (TbC.ev (b_X3_calledMethod) (L := 13) (μ := 77) (M := []) rfl (by decide +kernel) rfl (by decide +kernel) (by decide +kernel) (fun _ _ _ _ hP _ => by
    obtain ⟨p0, p1, p2, rfl, hH, ht⟩ := hP
    first
      | exact ⟨hH.1, ht⟩
      | exact ⟨hH.1, ht.1⟩) (fun _ _ _ _ _ _ => trivial) (Or.inl ⟨by decide +kernel, by decide +kernel⟩))
theorem v_X3_judgeCall (l : Launch) : CMetC l 14 76 P_X3_judgeCall (EvQ (14 + 1) 76 Q_X3_judgeCall) :=
  CMetC.of KX3_judgeCall (uc2C [(77, P_X3_calledMethod, Q_X3_calledMethod), (119, P_X6_methodOf, Q_X6_methodOf), (118, P_X6_tell, Q_X6_tell), (52, P_X3_isFaulty, Q_X3_isFaulty), (62, P_X3_isWanted, Q_X3_isWanted)] ([77, 119, 118, 52, 62].map (fun c => (c, EvF 14 c)))) hX3_judgeCall (by decide) (by decide) okX3_judgeCall (cc1C (CMetC.up (v_X3_calledMethod l) (by first | decide | omega)) (by decide) (cc1C (CMetC.up (v_X6_methodOf l) (by first | decide | omega)) (by decide) (cc1C (CMetC.up (v_X6_tell l) (by first | decide | omega)) (by decide) (cc1C (CMetC.up (v_X3_isFaulty l) (by first | decide | omega)) (by decide) (cc1C (CMetC.up (v_X3_isWanted l) (by first | decide | omega)) (by decide) cc0C))))) (lg_X3_judgeCall) (TbC.ev (b_X3_judgeCall) (L := 14) (μ := 76) (M := [67, 68, 217, 218, 900]) rfl (by decide +kernel) rfl (by decide +kernel) (by decide +kernel) (fun _ _ _ _ hP _ => by
    obtain ⟨p0, p1, rfl, hH, ht⟩ := hP
    first
      | exact ⟨hH.1, ht⟩
      | exact ⟨hH.1, ht.1⟩) (fun _ _ _ _ _ _ => trivial) (Or.inl ⟨by decide +kernel, by decide +kernel⟩))
theorem v_X3_judgeStore (l : Launch) : CMetC l 12 79 P_X3_judgeStore (EvQ (12 + 1) 79 Q_X3_judgeStore) :=
  CMetC.of KX3_judgeStore (uc2C [(51, P_X3_variableOf, Q_X3_variableOf), (52, P_X3_isFaulty, Q_X3_isFaulty), (75, P_X3_fits, Q_X3_fits), (62, P_X3_isWanted, Q_X3_isWanted)] ([51, 52, 75, 62].map (fun c => (c, EvF 12 c)))) hX3_judgeStore (by decide) (by decide) okX3_judgeStore (cc1C (CMetC.up (v_X3_variableOf l) (by first | decide | omega)) (by decide) (cc1C (CMetC.up (v_X3_isFaulty l) (by first | decide | omega)) (by decide) (cc1C (CMetC.up (v_X3_fits l) (by first | decide | omega)) (by decide) (cc1C (CMetC.up (v_X3_isWanted l) (by first | decide | omega)) (by decide) cc0C)))) (lg_X3_judgeStore) (TbC.ev (b_X3_judgeStore) (L := 12) (μ := 79) (M := [217, 218, 335, 336]) rfl (by decide +kernel) rfl (by decide +kernel) (by decide +kernel) (fun _ _ _ _ hP _ => by
    obtain ⟨p0, p1, rfl, hH, ht⟩ := hP
    first
      | exact ⟨hH.1, ht⟩
      | exact ⟨hH.1, ht.1⟩) (fun _ _ _ _ _ _ => trivial) (Or.inl ⟨by decide +kernel, by decide +kernel⟩))
theorem v_X3_judgeExp (l : Launch) : CMetC l 15 53 P_X3_judgeExp (EvQ (15 + 1) 53 Q_X3_judgeExp) :=
  CMetC.of KX3_judgeExp (uc2C [(54, P_X3_judgeNumber, Q_X3_judgeNumber), (55, P_X3_judgeName, Q_X3_judgeName), (56, P_X3_judgeOfOne, Q_X3_judgeOfOne), (60, P_X3_judgeCount, Q_X3_judgeCount), (69, P_X3_judgeChain, Q_X3_judgeChain), (71, P_X3_judgeChoice, Q_X3_judgeChoice), (61, P_X3_judgeAssignment, Q_X3_judgeAssignment), (76, P_X3_judgeCall, Q_X3_judgeCall), (79, P_X3_judgeStore, Q_X3_judgeStore)] ([54, 55, 56, 60, 69, 71, 61, 76, 79].map (fun c => (c, EvF 15 c)))) hX3_judgeExp (by decide) (by decide) okX3_judgeExp (cc1C (CMetC.up (v_X3_judgeNumber l) (by first | decide | omega)) (by decide) (cc1C (CMetC.up (v_X3_judgeName l) (by first | decide | omega)) (by decide) (cc1C (CMetC.up (v_X3_judgeOfOne l) (by first | decide | omega)) (by decide) (cc1C (CMetC.up (v_X3_judgeCount l) (by first | decide | omega)) (by decide) (cc1C (CMetC.up (v_X3_judgeChain l) (by first | decide | omega)) (by decide) (cc1C (CMetC.up (v_X3_judgeChoice l) (by first | decide | omega)) (by decide) (cc1C (CMetC.up (v_X3_judgeAssignment l) (by first | decide | omega)) (by decide) (cc1C (CMetC.up (v_X3_judgeCall l) (by first | decide | omega)) (by decide) (cc1C (CMetC.up (v_X3_judgeStore l) (by first | decide | omega)) (by decide) cc0C))))))))) (lg_X3_judgeExp) (TbC.ev (b_X3_judgeExp) (L := 15) (μ := 53) (M := [67, 68, 69, 70, 71, 217, 218, 335, 336, 900]) rfl (by decide +kernel) rfl (by decide +kernel) (by decide +kernel) (fun _ _ _ _ hP hQ => by
    obtain ⟨p0, p1, rfl, hH, ht⟩ := hP
    first
      | exact ⟨⟨hH.1, ht⟩, hQ.1⟩
      | exact ⟨⟨hH.1, ht.1⟩, hQ.1⟩) (fun _ _ _ _ _ _ => trivial) (Or.inl ⟨by decide +kernel, by decide +kernel⟩))
theorem v_X3_isSameName (l : Launch) : CMetC l 1 84 P_X3_isSameName (EvQ (1 + 1) 84 Q_X3_isSameName) :=
  CMetC.of KX3_isSameName (uc2C [] ([].map (fun c => (c, EvF 1 c)))) hX3_isSameName (by decide) (by decide) okX3_isSameName cc0C (lg_X3_isSameName) (TbC.ev (b_X3_isSameName) (L := 1) (μ := 84) (M := []) rfl (by decide +kernel) rfl (by decide +kernel) (by decide +kernel) (fun _ _ _ _ hP _ => by
    obtain ⟨p0, p1, p2, rfl, hH, ht⟩ := hP
    first
      | exact ⟨hH.1, ht⟩
      | exact ⟨hH.1, ht.1⟩) (fun _ _ _ _ _ _ => trivial) (Or.inl ⟨by decide +kernel, by decide +kernel⟩))
theorem v_X3_judgeCase (l : Launch) : CMetC l 4 82 P_X3_judgeCase (EvQ (4 + 1) 82 Q_X3_judgeCase) :=
  CMetC.of KX3_judgeCase (uc2C [(52, P_X3_isFaulty, Q_X3_isFaulty), (75, P_X3_fits, Q_X3_fits), (118, P_X6_tell, Q_X6_tell)] ([52, 75, 118].map (fun c => (c, EvF 4 c)))) hX3_judgeCase (by decide) (by decide) okX3_judgeCase (cc1C (CMetC.up (v_X3_isFaulty l) (by first | decide | omega)) (by decide) (cc1C (CMetC.up (v_X3_fits l) (by first | decide | omega)) (by decide) (cc1C (CMetC.up (v_X6_tell l) (by first | decide | omega)) (by decide) cc0C))) (lg_X3_judgeCase) (TbC.ev (b_X3_judgeCase) (L := 4) (μ := 82) (M := [217, 218]) rfl (by decide +kernel) rfl (by decide +kernel) (by decide +kernel) (fun _ _ _ _ hP _ => by
    obtain ⟨p0, p1, p2, rfl, hH, ht⟩ := hP
    first
      | exact ⟨hH.1, ht⟩
      | exact ⟨hH.1, ht.1⟩) (fun _ _ _ _ _ _ => trivial) (Or.inl ⟨by decide +kernel, by decide +kernel⟩))
theorem v_X3_judgeSwitch (l : Launch) : CMetC l 5 81 P_X3_judgeSwitch (EvQ (5 + 1) 81 Q_X3_judgeSwitch) :=
  CMetC.of KX3_judgeSwitch (uc2C [(52, P_X3_isFaulty, Q_X3_isFaulty), (62, P_X3_isWanted, Q_X3_isWanted), (82, P_X3_judgeCase, Q_X3_judgeCase), (118, P_X6_tell, Q_X6_tell)] ([52, 62, 82, 118].map (fun c => (c, EvF 5 c)))) hX3_judgeSwitch (by decide) (by decide) okX3_judgeSwitch (cc1C (CMetC.up (v_X3_isFaulty l) (by first | decide | omega)) (by decide) (cc1C (CMetC.up (v_X3_isWanted l) (by first | decide | omega)) (by decide) (cc1C (CMetC.up (v_X3_judgeCase l) (by first | decide | omega)) (by decide) (cc1C (CMetC.up (v_X6_tell l) (by first | decide | omega)) (by decide) cc0C)))) (lg_X3_judgeSwitch) (TbC.ev (b_X3_judgeSwitch) (L := 5) (μ := 81) (M := [217, 218]) rfl (by decide +kernel) rfl (by decide +kernel) (by decide +kernel) (fun _ _ _ _ hP _ => by
    obtain ⟨p0, p1, rfl, hH, ht⟩ := hP
    first
      | exact ⟨hH.1, ht⟩
      | exact ⟨hH.1, ht.1⟩) (fun _ _ _ _ _ _ => trivial) (Or.inl ⟨by decide +kernel, by decide +kernel⟩))
theorem v_X3_judgeJump (l : Launch) : CMetC l 2 83 P_X3_judgeJump (EvQ (2 + 1) 83 Q_X3_judgeJump) :=
  CMetC.of KX3_judgeJump (uc2C [(118, P_X6_tell, Q_X6_tell), (179, P_X8_isLoop, Q_X8_isLoop), (84, P_X3_isSameName, Q_X3_isSameName)] ([118, 179, 84].map (fun c => (c, EvF 2 c)))) hX3_judgeJump (by decide) (by decide) okX3_judgeJump (cc1C (CMetC.up (v_X6_tell l) (by first | decide | omega)) (by decide) (cc1C (CMetC.up (v_X8_isLoop l) (by first | decide | omega)) (by decide) (cc1C (CMetC.up (v_X3_isSameName l) (by first | decide | omega)) (by decide) cc0C))) (lg_X3_judgeJump) (TbC.ev (b_X3_judgeJump) (L := 2) (μ := 83) (M := [217, 218, 281]) rfl (by decide +kernel) rfl (by decide +kernel) (by decide +kernel) (fun _ _ _ _ hP _ => by
    obtain ⟨p0, p1, rfl, hH, ht⟩ := hP
    first
      | exact ⟨hH.1, ht⟩
      | exact ⟨hH.1, ht.1⟩) (fun _ _ _ _ _ _ => trivial) (Or.inl ⟨by decide +kernel, by decide +kernel⟩))
theorem v_X3_judgeLabel (l : Launch) : CMetC l 2 85 P_X3_judgeLabel (EvQ (2 + 1) 85 Q_X3_judgeLabel) :=
  CMetC.of KX3_judgeLabel (uc2C [(84, P_X3_isSameName, Q_X3_isSameName), (118, P_X6_tell, Q_X6_tell)] ([84, 118].map (fun c => (c, EvF 2 c)))) hX3_judgeLabel (by decide) (by decide) okX3_judgeLabel (cc1C (CMetC.up (v_X3_isSameName l) (by first | decide | omega)) (by decide) (cc1C (CMetC.up (v_X6_tell l) (by first | decide | omega)) (by decide) cc0C)) (lg_X3_judgeLabel) (TbC.ev (b_X3_judgeLabel) (L := 2) (μ := 85) (M := [217, 218]) rfl (by decide +kernel) rfl (by decide +kernel) (by decide +kernel) (fun _ _ _ _ hP _ => by
    obtain ⟨p0, p1, rfl, hH, ht⟩ := hP
    first
      | exact ⟨hH.1, ht⟩
      | exact ⟨hH.1, ht.1⟩) (fun _ _ _ _ _ _ => trivial) (Or.inl ⟨by decide +kernel, by decide +kernel⟩))
theorem v_X3_judgeReturn (l : Launch) : CMetC l 12 86 P_X3_judgeReturn (EvQ (12 + 1) 86 Q_X3_judgeReturn) :=
  CMetC.of KX3_judgeReturn (uc2C [(119, P_X6_methodOf, Q_X6_methodOf), (118, P_X6_tell, Q_X6_tell), (52, P_X3_isFaulty, Q_X3_isFaulty), (75, P_X3_fits, Q_X3_fits), (62, P_X3_isWanted, Q_X3_isWanted)] ([119, 118, 52, 75, 62].map (fun c => (c, EvF 12 c)))) hX3_judgeReturn (by decide) (by decide) okX3_judgeReturn (cc1C (CMetC.up (v_X6_methodOf l) (by first | decide | omega)) (by decide) (cc1C (CMetC.up (v_X6_tell l) (by first | decide | omega)) (by decide) (cc1C (CMetC.up (v_X3_isFaulty l) (by first | decide | omega)) (by decide) (cc1C (CMetC.up (v_X3_fits l) (by first | decide | omega)) (by decide) (cc1C (CMetC.up (v_X3_isWanted l) (by first | decide | omega)) (by decide) cc0C))))) (lg_X3_judgeReturn) (TbC.ev (b_X3_judgeReturn) (L := 12) (μ := 86) (M := [217, 218]) rfl (by decide +kernel) rfl (by decide +kernel) (by decide +kernel) (fun _ _ _ _ hP _ => by
    obtain ⟨p0, p1, rfl, hH, ht⟩ := hP
    first
      | exact ⟨hH.1, ht⟩
      | exact ⟨hH.1, ht.1⟩) (fun _ _ _ _ _ _ => trivial) (Or.inl ⟨by decide +kernel, by decide +kernel⟩))
theorem v_X3_judgeStatement (l : Launch) : CMetC l 13 80 P_X3_judgeStatement (EvQ (13 + 1) 80 Q_X3_judgeStatement) :=
  CMetC.of KX3_judgeStatement (uc2C [(85, P_X3_judgeLabel, Q_X3_judgeLabel), (52, P_X3_isFaulty, Q_X3_isFaulty), (62, P_X3_isWanted, Q_X3_isWanted), (81, P_X3_judgeSwitch, Q_X3_judgeSwitch), (83, P_X3_judgeJump, Q_X3_judgeJump), (86, P_X3_judgeReturn, Q_X3_judgeReturn), (75, P_X3_fits, Q_X3_fits), (18, P_X1_acts, Q_X1_acts), (118, P_X6_tell, Q_X6_tell)] ([85, 52, 62, 81, 83, 86, 75, 18, 118].map (fun c => (c, EvF 13 c)))) hX3_judgeStatement (by decide) (by decide) okX3_judgeStatement (cc1C (CMetC.up (v_X3_judgeLabel l) (by first | decide | omega)) (by decide) (cc1C (CMetC.up (v_X3_isFaulty l) (by first | decide | omega)) (by decide) (cc1C (CMetC.up (v_X3_isWanted l) (by first | decide | omega)) (by decide) (cc1C (CMetC.up (v_X3_judgeSwitch l) (by first | decide | omega)) (by decide) (cc1C (CMetC.up (v_X3_judgeJump l) (by first | decide | omega)) (by decide) (cc1C (CMetC.up (v_X3_judgeReturn l) (by first | decide | omega)) (by decide) (cc1C (CMetC.up (v_X3_fits l) (by first | decide | omega)) (by decide) (cc1C (CMetC.up (v_X1_acts l) (by first | decide | omega)) (by decide) (cc1C (CMetC.up (v_X6_tell l) (by first | decide | omega)) (by decide) cc0C))))))))) (lg_X3_judgeStatement) (TbC.ev (b_X3_judgeStatement) (L := 13) (μ := 80) (M := [217, 218, 281]) rfl (by decide +kernel) rfl (by decide +kernel) (by decide +kernel) (fun _ _ _ _ hP hQ => by
    obtain ⟨p0, p1, rfl, hH, ht⟩ := hP
    first
      | exact ⟨⟨hH.1, ht⟩, hQ.1⟩
      | exact ⟨⟨hH.1, ht.1⟩, hQ.1⟩) (fun _ _ _ _ _ _ => trivial) (Or.inl ⟨by decide +kernel, by decide +kernel⟩))
theorem v9_byteAt (l : Launch) : CMetC l 1 189 P_X9_byteAt (EvQ (1 + 1) 189 R_byteAt) :=
  CMetC.of KX9_byteAt (uc2C (uc2C [] []) ([].map (fun c => (c, EvF 1 c)))) hX9_byteAt (by decide) (by decide) okX9_byteAt cc0C lg_X9_byteAt (TbC.ev (b_X9_byteAt.and p_byteAt) (L := 1) (μ := 189) (M := []) rfl (by decide +kernel) rfl (by decide +kernel) (by decide +kernel) (fun _ _ _ _ _ h => h) (fun _ _ _ _ _ _ => trivial) (Or.inl ⟨by decide +kernel, by decide +kernel⟩))
theorem v9_behindBlanks (l : Launch) : CMetC l 2 190 P_X9_behindBlanks (EvQ (2 + 1) 190 R_behindBlanks) :=
  CMetC.of KX9_behindBlanks (uc2C (uc2C [(189, P_X9_byteAt, Q_X9_byteAt)] [(189, U_byteAt)]) ([189].map (fun c => (c, EvF 2 c)))) hX9_behindBlanks (by decide) (by decide) okX9_behindBlanks (cc1C (CMetC.up (v9_byteAt l) (by first | decide | omega)) (by decide) cc0C) lg_X9_behindBlanks (TbC.ev (b_X9_behindBlanks.and p_behindBlanks) (L := 2) (μ := 190) (M := []) rfl (by decide +kernel) rfl (by decide +kernel) (by decide +kernel) (fun _ _ _ _ _ h => h) (fun _ _ _ _ _ _ => trivial) (Or.inl ⟨by decide +kernel, by decide +kernel⟩))
theorem v9_isLetter (l : Launch) : CMetC l 1 192 P_X9_isLetter (EvQ (1 + 1) 192 (fun As σ w τ => Q_X9_isLetter As σ w τ ∧ U_isLetter As σ w τ)) :=
  CMetC.of KX9_isLetter (uc2C (uc2C [] []) ([].map (fun c => (c, EvF 1 c)))) hX9_isLetter (by decide) (by decide) okX9_isLetter cc0C lg_X9_isLetter (TbC.ev (b_X9_isLetter.and (P2 := fun _ _ _ => True) (fun _ => p_isLetter)) (L := 1) (μ := 192) (M := []) rfl (by decide +kernel) rfl (by decide +kernel) (by decide +kernel) (fun _ _ _ _ _ h => h) (fun _ _ _ _ _ _ => trivial) (Or.inl ⟨by decide +kernel, by decide +kernel⟩))
theorem v9_isDigit (l : Launch) : CMetC l 1 193 P_X9_isDigit (EvQ (1 + 1) 193 (fun As σ w τ => Q_X9_isDigit As σ w τ ∧ U_isDigit As σ w τ)) :=
  CMetC.of KX9_isDigit (uc2C (uc2C [] []) ([].map (fun c => (c, EvF 1 c)))) hX9_isDigit (by decide) (by decide) okX9_isDigit cc0C lg_X9_isDigit (TbC.ev (b_X9_isDigit.and (P2 := fun _ _ _ => True) (fun _ => p_isDigit)) (L := 1) (μ := 193) (M := []) rfl (by decide +kernel) rfl (by decide +kernel) (by decide +kernel) (fun _ _ _ _ _ h => h) (fun _ _ _ _ _ _ => trivial) (Or.inl ⟨by decide +kernel, by decide +kernel⟩))
theorem v9_cutCharacter (l : Launch) : CMetC l 2 196 P_X9_cutCharacter (EvQ (2 + 1) 196 (fun As σ w τ => Q_X9_cutCharacter As σ w τ ∧ U_cutCharacter As σ w τ)) :=
  CMetC.of KX9_cutCharacter (uc2C (uc2C [(189, P_X9_byteAt, Q_X9_byteAt)] [(189, U_byteAt)]) ([189].map (fun c => (c, EvF 2 c)))) hX9_cutCharacter (by decide) (by decide) okX9_cutCharacter (cc1C (CMetC.up (v9_byteAt l) (by first | decide | omega)) (by decide) cc0C) lg_X9_cutCharacter (TbC.ev (b_X9_cutCharacter.and p_cutCharacter) (L := 2) (μ := 196) (M := [900, 901]) rfl (by decide +kernel) rfl (by decide +kernel) (by decide +kernel) (fun _ _ _ _ _ h => h) (fun _ _ _ _ _ _ => trivial) (Or.inl ⟨by decide +kernel, by decide +kernel⟩))
theorem v9_cutNumber (l : Launch) : CMetC l 2 195 P_X9_cutNumber (EvQ (2 + 1) 195 (fun As σ w τ => Q_X9_cutNumber As σ w τ ∧ U_cutNumber As σ w τ)) :=
  CMetC.of KX9_cutNumber (uc2C (uc2C [(189, P_X9_byteAt, Q_X9_byteAt), (193, P_X9_isDigit, Q_X9_isDigit)] [(189, U_byteAt), (193, U_isDigit)]) ([189, 193].map (fun c => (c, EvF 2 c)))) hX9_cutNumber (by decide) (by decide) okX9_cutNumber (cc1C (CMetC.up (v9_byteAt l) (by first | decide | omega)) (by decide) (cc1C (CMetC.up (v9_isDigit l) (by first | decide | omega)) (by decide) cc0C)) lg_X9_cutNumber (TbC.ev (b_X9_cutNumber.and p_cutNumber) (L := 2) (μ := 195) (M := [900, 901]) rfl (by decide +kernel) rfl (by decide +kernel) (by decide +kernel) (fun _ _ _ _ _ h => h) (fun _ _ _ _ _ _ => trivial) (Or.inl ⟨by decide +kernel, by decide +kernel⟩))
theorem v9_standsThere (l : Launch) : CMetC l 11 198 P_X9_standsThere (EvQ (11 + 1) 198 (fun As σ w τ => Q_X9_standsThere As σ w τ ∧ U_standsThere As σ w τ)) :=
  CMetC.of KX9_standsThere (uc2C (uc2C [(238, P_J0_charAt_5068e, Q_J0_charAt_5068e), (189, P_X9_byteAt, Q_X9_byteAt)] [(189, U_byteAt)]) ([238, 189].map (fun c => (c, EvF 11 c)))) hX9_standsThere (by decide) (by decide) okX9_standsThere (cc1C (CMetC.up (v_J0_charAt_5068e l) (by first | decide | omega)) (by decide) (cc1C (CMetC.up (v9_byteAt l) (by first | decide | omega)) (by decide) cc0C)) lg_X9_standsThere (TbC.ev (b_X9_standsThere.and p_standsThere) (L := 11) (μ := 198) (M := []) rfl (by decide +kernel) rfl (by decide +kernel) (by decide +kernel) (fun _ _ _ _ _ h => h) (fun _ _ _ _ _ _ => trivial) (Or.inl ⟨by decide +kernel, by decide +kernel⟩))
theorem v9_cutSign (l : Launch) : CMetC l 12 197 P_X9_cutSign (EvQ (12 + 1) 197 (fun As σ w τ => Q_X9_cutSign As σ w τ ∧ U_cutSign As σ w τ)) :=
  CMetC.of KX9_cutSign (uc2C (uc2C [(239, P_J0_length_8abf5, Q_J0_length_8abf5), (238, P_J0_charAt_5068e, Q_J0_charAt_5068e), (198, P_X9_standsThere, Q_X9_standsThere)] [(198, U_standsThere)]) ([239, 238, 198].map (fun c => (c, EvF 12 c)))) hX9_cutSign (by decide) (by decide) okX9_cutSign (cc1C (CMetC.up (v_J0_length_8abf5 l) (by first | decide | omega)) (by decide) (cc1C (CMetC.up (v_J0_charAt_5068e l) (by first | decide | omega)) (by decide) (cc1C (CMetC.up (v9_standsThere l) (by first | decide | omega)) (by decide) cc0C))) lg_X9_cutSign (TbC.ev (b_X9_cutSign.and p_cutSign) (L := 12) (μ := 197) (M := [900]) rfl (by decide +kernel) rfl (by decide +kernel) (by decide +kernel) (fun _ _ _ _ _ h => h) (fun _ _ _ _ _ _ => trivial) (Or.inl ⟨by decide +kernel, by decide +kernel⟩))
theorem v9_longerKey (l : Launch) : CMetC l 1 185 P_X9_longerKey (EvQ (1 + 1) 185 (fun As σ w τ => Q_X9_longerKey As σ w τ ∧ U_longerKey As σ w τ)) :=
  CMetC.of KX9_longerKey (uc2C (uc2C [] []) ([].map (fun c => (c, EvF 1 c)))) hX9_longerKey (by decide) (by decide) okX9_longerKey cc0C lg_X9_longerKey (TbC.ev (b_X9_longerKey.and p_longerKey) (L := 1) (μ := 185) (M := []) rfl (by decide +kernel) rfl (by decide +kernel) (by decide +kernel) (fun _ _ _ _ _ h => h) (fun _ _ _ _ _ _ => trivial) (Or.inl ⟨by decide +kernel, by decide +kernel⟩))
theorem v_X9_longerKey (l : Launch) : CMetC l 1 185 P_X9_longerKey (EvQ (1 + 1) 185 Q_X9_longerKey) := (v9_longerKey l).mq (fun As σ w τ hP hg h => ⟨h.1.1, h.2⟩)
theorem v9_cutName (l : Launch) : CMetC l 2 194 P_X9_cutName (EvQ (2 + 1) 194 (fun As σ w τ => Q_X9_cutName As σ w τ ∧ U_cutName As σ w τ)) :=
  CMetC.of KX9_cutName (uc2C (uc2C [(189, P_X9_byteAt, Q_X9_byteAt), (192, P_X9_isLetter, Q_X9_isLetter), (185, P_X9_longerKey, Q_X9_longerKey), (193, P_X9_isDigit, Q_X9_isDigit)] [(189, U_byteAt), (192, U_isLetter), (193, U_isDigit), (185, U_longerKey)]) ([189, 192, 185, 193].map (fun c => (c, EvF 2 c)))) hX9_cutName (by decide) (by decide) okX9_cutName (cc1C (CMetC.up (v9_byteAt l) (by first | decide | omega)) (by decide) (cc1C (CMetC.up (v9_isLetter l) (by first | decide | omega)) (by decide) (cc1C (CMetC.up (v9_longerKey l) (by first | decide | omega)) (by decide) (cc1C (CMetC.up (v9_isDigit l) (by first | decide | omega)) (by decide) cc0C)))) lg_X9_cutName (TbC.ev (b_X9_cutName.and p_cutName) (L := 2) (μ := 194) (M := [900, 901]) rfl (by decide +kernel) rfl (by decide +kernel) (by decide +kernel) (fun _ _ _ _ _ h => h) (fun _ _ _ _ _ _ => trivial) (Or.inl ⟨by decide +kernel, by decide +kernel⟩))
theorem v9_cutOne (l : Launch) : CMetC l 13 191 P_X9_cutOne (EvQ (13 + 1) 191 (fun As σ w τ => Q_X9_cutOne As σ w τ ∧ U_cutOne As σ w τ)) :=
  CMetC.of KX9_cutOne (uc2C (uc2C [(189, P_X9_byteAt, Q_X9_byteAt), (192, P_X9_isLetter, Q_X9_isLetter), (193, P_X9_isDigit, Q_X9_isDigit), (197, P_X9_cutSign, Q_X9_cutSign), (196, P_X9_cutCharacter, Q_X9_cutCharacter), (195, P_X9_cutNumber, Q_X9_cutNumber), (194, P_X9_cutName, Q_X9_cutName)] [(189, U_byteAt), (192, U_isLetter), (193, U_isDigit), (197, U_cutSign), (196, U_cutCharacter), (195, U_cutNumber), (194, U_cutName)]) ([189, 192, 193, 197, 196, 195, 194].map (fun c => (c, EvF 13 c)))) hX9_cutOne (by decide) (by decide) okX9_cutOne (cc1C (CMetC.up (v9_byteAt l) (by first | decide | omega)) (by decide) (cc1C (CMetC.up (v9_isLetter l) (by first | decide | omega)) (by decide) (cc1C (CMetC.up (v9_isDigit l) (by first | decide | omega)) (by decide) (cc1C (CMetC.up (v9_cutSign l) (by first | decide | omega)) (by decide) (cc1C (CMetC.up (v9_cutCharacter l) (by first | decide | omega)) (by decide) (cc1C (CMetC.up (v9_cutNumber l) (by first | decide | omega)) (by decide) (cc1C (CMetC.up (v9_cutName l) (by first | decide | omega)) (by decide) cc0C))))))) lg_X9_cutOne (TbC.ev (b_X9_cutOne.and p_cutOne) (L := 13) (μ := 191) (M := [900, 901]) rfl (by decide +kernel) rfl (by decide +kernel) (by decide +kernel) (fun _ _ _ _ _ h => h) (fun _ _ _ _ _ _ => trivial) (Or.inl ⟨by decide +kernel, by decide +kernel⟩))
theorem v9_keyOf (l : Launch) : CMetC l 11 186 P_X9_keyOf (EvQ (11 + 1) 186 (fun As σ w τ => Q_X9_keyOf As σ w τ ∧ U_keyOf As σ w τ)) :=
  CMetC.of KX9_keyOf (uc2C (uc2C [(239, P_J0_length_8abf5, Q_J0_length_8abf5), (238, P_J0_charAt_5068e, Q_J0_charAt_5068e), (185, P_X9_longerKey, Q_X9_longerKey)] [(185, U_longerKey)]) ([239, 238, 185].map (fun c => (c, EvF 11 c)))) hX9_keyOf (by decide) (by decide) okX9_keyOf (cc1C (CMetC.up (v_J0_length_8abf5 l) (by first | decide | omega)) (by decide) (cc1C (CMetC.up (v_J0_charAt_5068e l) (by first | decide | omega)) (by decide) (cc1C (CMetC.up (v9_longerKey l) (by first | decide | omega)) (by decide) cc0C))) lg_X9_keyOf (TbC.ev (b_X9_keyOf.and p_keyOf) (L := 11) (μ := 186) (M := []) rfl (by decide +kernel) rfl (by decide +kernel) (by decide +kernel) (fun _ _ _ _ _ h => h) (fun _ _ _ _ _ _ => trivial) (Or.inl ⟨by decide +kernel, by decide +kernel⟩))
theorem v_X9_keyOf (l : Launch) : CMetC l 11 186 P_X9_keyOf (EvQ (11 + 1) 186 Q_X9_keyOf) := (v9_keyOf l).mq (fun As σ w τ hP hg h => ⟨h.1.1, h.2⟩)
theorem v9_cutText (l : Launch) : CMetC l 14 188 P_X9_cutText (EvQ (14 + 1) 188 (fun As σ w τ => Q_X9_cutText As σ w τ ∧ U_cutText As σ w τ)) :=
  CMetC.of KX9_cutText (uc2C (uc2C [(190, P_X9_behindBlanks, Q_X9_behindBlanks), (191, P_X9_cutOne, Q_X9_cutOne)] [(190, U_behindBlanks), (191, U_cutOne)]) ([190, 191].map (fun c => (c, EvF 14 c)))) hX9_cutText (by decide) (by decide) okX9_cutText (cc1C (CMetC.up (v9_behindBlanks l) (by first | decide | omega)) (by decide) (cc1C (CMetC.up (v9_cutOne l) (by first | decide | omega)) (by decide) cc0C)) lg_X9_cutText (TbC.ev (b_X9_cutText.and p_cutText) (L := 14) (μ := 188) (M := [305, 307, 308, 900, 901]) rfl (by decide +kernel) rfl (by decide +kernel) (by decide +kernel) (fun _ _ _ _ _ h => h) (fun _ _ _ _ _ _ => trivial) (Or.inl ⟨by decide +kernel, by decide +kernel⟩))
theorem v_X9_cutText (l : Launch) : CMetC l 14 188 P_X9_cutText (EvQ (14 + 1) 188 Q_X9_cutText) := (v9_cutText l).mq (fun As σ w τ hP hg h => ⟨h.1.1, h.2⟩)
theorem v_X2_markTarget (l : Launch) : CMetC l 2 27 P_X2_markTarget (EvQ (2 + 1) 27 Q_X2_markTarget) :=
  CMetC.of KX2_markTarget (uc2C [(181, P_X8_hasFinallyAhead, Q_X8_hasFinallyAhead)] ([181].map (fun c => (c, EvF 2 c)))) hX2_markTarget (by decide) (by decide) okX2_markTarget (cc1C (CMetC.up (v_X8_hasFinallyAhead l) (by first | decide | omega)) (by decide) cc0C) (lg_X2_markTarget) (TbC.ev (b_X2_markTarget) (L := 2) (μ := 27) (M := [283, 284]) rfl (by decide +kernel) rfl (by decide +kernel) (by decide +kernel) (fun _ _ _ _ hP _ => by
    obtain ⟨p0, rfl, hH, ht⟩ := hP
    first
      | exact ⟨hH.1, ht⟩
      | exact ⟨hH.1, ht.1⟩) (fun _ _ _ _ _ _ => trivial) (Or.inl ⟨by decide +kernel, by decide +kernel⟩))
theorem v_X2_toAside (l : Launch) : CMetC l 1 46 P_X2_toAside (EvQ (1 + 1) 46 Q_X2_toAside) :=
  CMetC.of KX2_toAside (uc2C [] ([].map (fun c => (c, EvF 1 c)))) hX2_toAside (by decide) (by decide) okX2_toAside cc0C (lg_X2_toAside) (TbC.ev (b_X2_toAside) (L := 1) (μ := 46) (M := [94, 901]) rfl (by decide +kernel) rfl (by decide +kernel) (by decide +kernel) (fun _ _ _ _ hP _ => by
    obtain ⟨p0, p1, rfl, hH, ht⟩ := hP
    first
      | exact ⟨hH.1, ht⟩
      | exact ⟨hH.1, ht.1⟩) (fun _ _ _ _ _ _ => trivial) (Or.inl ⟨by decide +kernel, by decide +kernel⟩))
theorem v_X2_fromAside (l : Launch) : CMetC l 1 47 P_X2_fromAside (EvQ (1 + 1) 47 Q_X2_fromAside) :=
  CMetC.of KX2_fromAside (uc2C [] ([].map (fun c => (c, EvF 1 c)))) hX2_fromAside (by decide) (by decide) okX2_fromAside cc0C (lg_X2_fromAside) (TbC.ev (b_X2_fromAside) (L := 1) (μ := 47) (M := [94]) rfl (by decide +kernel) rfl (by decide +kernel) (by decide +kernel) (fun _ _ _ _ hP _ => by
    obtain ⟨p0, rfl, hH, ht⟩ := hP
    first
      | exact ⟨hH.1, ht⟩
      | exact ⟨hH.1, ht.1⟩) (fun _ _ _ _ _ _ => trivial) (Or.inl ⟨by decide +kernel, by decide +kernel⟩))
theorem v_X2_fork (l : Launch) : CMetC l 2 41 P_X2_fork (EvQ (2 + 1) 41 Q_X2_fork) :=
  CMetC.of KX2_fork (uc2C [(46, P_X2_toAside, Q_X2_toAside)] ([46].map (fun c => (c, EvF 2 c)))) hX2_fork (by decide) (by decide) okX2_fork (cc1C (CMetC.up (v_X2_toAside l) (by first | decide | omega)) (by decide) cc0C) (lg_X2_fork) (TbC.ev (b_X2_fork) (L := 2) (μ := 41) (M := [91, 92, 94, 901]) rfl (by decide +kernel) rfl (by decide +kernel) (by decide +kernel) (fun _ _ _ _ hP _ => by
    obtain ⟨p0, p1, p2, rfl, hH, ht⟩ := hP
    first
      | exact ⟨hH.1, ht⟩
      | exact ⟨hH.1, ht.1⟩) (fun _ _ _ _ _ _ => trivial) (Or.inl ⟨by decide +kernel, by decide +kernel⟩))
theorem v_X2_passElse (l : Launch) : CMetC l 2 42 P_X2_passElse (EvQ (2 + 1) 42 Q_X2_passElse) :=
  CMetC.of KX2_passElse (uc2C [(47, P_X2_fromAside, Q_X2_fromAside), (46, P_X2_toAside, Q_X2_toAside)] ([47, 46].map (fun c => (c, EvF 2 c)))) hX2_passElse (by decide) (by decide) okX2_passElse (cc1C (CMetC.up (v_X2_fromAside l) (by first | decide | omega)) (by decide) (cc1C (CMetC.up (v_X2_toAside l) (by first | decide | omega)) (by decide) cc0C)) (lg_X2_passElse) (TbC.ev (b_X2_passElse) (L := 2) (μ := 42) (M := [91, 92, 94, 901]) rfl (by decide +kernel) rfl (by decide +kernel) (by decide +kernel) (fun _ _ _ _ hP _ => by
    obtain ⟨p0, rfl, hH, ht⟩ := hP
    first
      | exact ⟨hH.1, ht⟩
      | exact ⟨hH.1, ht.1⟩) (fun _ _ _ _ _ _ => trivial) (Or.inl ⟨by decide +kernel, by decide +kernel⟩))
theorem v_X2_join (l : Launch) : CMetC l 1 45 P_X2_join (EvQ (1 + 1) 45 Q_X2_join) :=
  CMetC.of KX2_join (uc2C [] ([].map (fun c => (c, EvF 1 c)))) hX2_join (by decide) (by decide) okX2_join cc0C (lg_X2_join) (TbC.ev (b_X2_join) (L := 1) (μ := 45) (M := [91, 92]) rfl (by decide +kernel) rfl (by decide +kernel) (by decide +kernel) (fun _ _ _ _ hP _ => by
    obtain ⟨p0, p1, p2, rfl, hH, ht⟩ := hP
    first
      | exact ⟨hH.1, ht⟩
      | exact ⟨hH.1, ht.1⟩) (fun _ _ _ _ _ _ => trivial) (Or.inl ⟨by decide +kernel, by decide +kernel⟩))
theorem v_X2_takeValue (l : Launch) : CMetC l 2 44 P_X2_takeValue (EvQ (2 + 1) 44 Q_X2_takeValue) :=
  CMetC.of KX2_takeValue (uc2C [(45, P_X2_join, Q_X2_join), (221, P_X11_has, Q_X11_has), (118, P_X6_tell, Q_X6_tell)] ([45, 221, 118].map (fun c => (c, EvF 2 c)))) hX2_takeValue (by decide) (by decide) okX2_takeValue (cc1C (CMetC.up (v_X2_join l) (by first | decide | omega)) (by decide) (cc1C (CMetC.up (v_X11_has l) (by first | decide | omega)) (by decide) (cc1C (CMetC.up (v_X6_tell l) (by first | decide | omega)) (by decide) cc0C))) (lg_X2_takeValue) (TbC.ev (b_X2_takeValue) (L := 2) (μ := 44) (M := [91, 92, 217, 218]) rfl (by decide +kernel) rfl (by decide +kernel) (by decide +kernel) (fun _ _ _ _ hP _ => by
    obtain ⟨p0, p1, rfl, hH, ht⟩ := hP
    first
      | exact ⟨hH.1, ht⟩
      | exact ⟨hH.1, ht.1⟩) (fun _ _ _ _ _ _ => trivial) (Or.inl ⟨by decide +kernel, by decide +kernel⟩))
theorem v_X2_passChain (l : Launch) : CMetC l 2 43 P_X2_passChain (EvQ (2 + 1) 43 Q_X2_passChain) :=
  CMetC.of KX2_passChain (uc2C [(45, P_X2_join, Q_X2_join), (47, P_X2_fromAside, Q_X2_fromAside)] ([45, 47].map (fun c => (c, EvF 2 c)))) hX2_passChain (by decide) (by decide) okX2_passChain (cc1C (CMetC.up (v_X2_join l) (by first | decide | omega)) (by decide) (cc1C (CMetC.up (v_X2_fromAside l) (by first | decide | omega)) (by decide) cc0C)) (lg_X2_passChain) (TbC.ev (b_X2_passChain) (L := 2) (μ := 43) (M := [91, 92, 94]) rfl (by decide +kernel) rfl (by decide +kernel) (by decide +kernel) (fun _ _ _ _ hP _ => by
    obtain ⟨p0, p1, rfl, hH, ht⟩ := hP
    first
      | exact ⟨hH.1, ht⟩
      | exact ⟨hH.1, ht.1⟩) (fun _ _ _ _ _ _ => trivial) (Or.inl ⟨by decide +kernel, by decide +kernel⟩))
theorem v_X2_pass (l : Launch) : CMetC l 3 40 P_X2_pass (EvQ (3 + 1) 40 Q_X2_pass) :=
  CMetC.of KX2_pass (uc2C [(44, P_X2_takeValue, Q_X2_takeValue), (45, P_X2_join, Q_X2_join), (43, P_X2_passChain, Q_X2_passChain), (47, P_X2_fromAside, Q_X2_fromAside), (222, P_X11_bit, Q_X11_bit), (41, P_X2_fork, Q_X2_fork), (42, P_X2_passElse, Q_X2_passElse)] ([44, 45, 43, 47, 222, 41, 42].map (fun c => (c, EvF 3 c)))) hX2_pass (by decide) (by decide) okX2_pass (cc1C (CMetC.up (v_X2_takeValue l) (by first | decide | omega)) (by decide) (cc1C (CMetC.up (v_X2_join l) (by first | decide | omega)) (by decide) (cc1C (CMetC.up (v_X2_passChain l) (by first | decide | omega)) (by decide) (cc1C (CMetC.up (v_X2_fromAside l) (by first | decide | omega)) (by decide) (cc1C (CMetC.up (v_X11_bit l) (by first | decide | omega)) (by decide) (cc1C (CMetC.up (v_X2_fork l) (by first | decide | omega)) (by decide) (cc1C (CMetC.up (v_X2_passElse l) (by first | decide | omega)) (by decide) cc0C))))))) (lg_X2_pass) (TbC.ev (b_X2_pass) (L := 3) (μ := 40) (M := [91, 92, 94, 217, 218, 901]) rfl (by decide +kernel) rfl (by decide +kernel) (by decide +kernel) (fun _ _ _ _ hP _ => by
    obtain ⟨p0, p1, rfl, hH, ht⟩ := hP
    first
      | exact ⟨hH.1, ht⟩
      | exact ⟨hH.1, ht.1⟩) (fun _ _ _ _ _ _ => trivial) (Or.inl ⟨by decide +kernel, by decide +kernel⟩))
theorem v_X2_behindExp (l : Launch) : CMetC l 11 39 P_X2_behindExp (EvQ (11 + 1) 39 Q_X2_behindExp) :=
  CMetC.of KX2_behindExp (uc2C [(234, P_Jx4a65c_size_8abf5, Q_Jx4a65c_size_8abf5), (235, P_Jx4a65c_get_915e3, Q_Jx4a65c_get_915e3), (40, P_X2_pass, Q_X2_pass)] ([234, 235, 40].map (fun c => (c, EvF 11 c)))) hX2_behindExp (by decide) (by decide) okX2_behindExp (cc1C (CMetC.up (v_Jx4a65c_size_8abf5 l) (by first | decide | omega)) (by decide) (cc1C (CMetC.up (v_Jx4a65c_get_915e3 l) (by first | decide | omega)) (by decide) (cc1C (CMetC.up (v_X2_pass l) (by first | decide | omega)) (by decide) cc0C))) (lg_X2_behindExp) (TbC.ev (b_X2_behindExp) (L := 11) (μ := 39) (M := [91, 92, 94, 217, 218, 901]) rfl (by decide +kernel) rfl (by decide +kernel) (by decide +kernel) (fun _ _ _ _ hP _ => by
    obtain ⟨p0, p1, p2, rfl, hH, ht⟩ := hP
    first
      | exact ⟨hH.1, ht⟩
      | exact ⟨hH.1, ht.1⟩) (fun _ _ _ _ _ _ => trivial) (Or.inl ⟨by decide +kernel, by decide +kernel⟩))
theorem v_X2_behindTold (l : Launch) : CMetC l 12 33 P_X2_behindTold (EvQ (12 + 1) 33 Q_X2_behindTold) :=
  CMetC.of KX2_behindTold (uc2C [(39, P_X2_behindExp, Q_X2_behindExp), (222, P_X11_bit, Q_X11_bit)] ([39, 222].map (fun c => (c, EvF 12 c)))) hX2_behindTold (by decide) (by decide) okX2_behindTold (cc1C (CMetC.up (v_X2_behindExp l) (by first | decide | omega)) (by decide) (cc1C (CMetC.up (v_X11_bit l) (by first | decide | omega)) (by decide) cc0C)) (lg_X2_behindTold) (TbC.ev (b_X2_behindTold) (L := 12) (μ := 33) (M := [91, 92, 94, 217, 218, 901]) rfl (by decide +kernel) rfl (by decide +kernel) (by decide +kernel) (fun _ _ _ _ hP _ => by
    obtain ⟨p0, p1, p2, rfl, hH, ht⟩ := hP
    first
      | exact ⟨hH.1, ht⟩
      | exact ⟨hH.1, ht.1⟩) (fun _ _ _ _ _ _ => trivial) (Or.inl ⟨by decide +kernel, by decide +kernel⟩))
theorem v_X2_leadTo (l : Launch) : CMetC l 2 34 P_X2_leadTo (EvQ (2 + 1) 34 Q_X2_leadTo) :=
  CMetC.of KX2_leadTo (uc2C [(181, P_X8_hasFinallyAhead, Q_X8_hasFinallyAhead)] ([181].map (fun c => (c, EvF 2 c)))) hX2_leadTo (by decide) (by decide) okX2_leadTo (cc1C (CMetC.up (v_X8_hasFinallyAhead l) (by first | decide | omega)) (by decide) cc0C) (lg_X2_leadTo) (TbC.ev (b_X2_leadTo) (L := 2) (μ := 34) (M := [287, 288]) rfl (by decide +kernel) rfl (by decide +kernel) (by decide +kernel) (fun _ _ _ _ hP _ => by
    obtain ⟨p0, p1, p2, rfl, hH, ht⟩ := hP
    first
      | exact ⟨hH.1, ht⟩
      | exact ⟨hH.1, ht.1⟩) (fun _ _ _ _ _ _ => trivial) (Or.inl ⟨by decide +kernel, by decide +kernel⟩))
theorem v_X0_put (l : Launch) : CMetC l 1 2 P_X0_put (EvQ (1 + 1) 2 Q_X0_put) :=
  CMetC.of KX0_put (uc2C [] ([].map (fun c => (c, EvF 1 c)))) hX0_put (by decide) (by decide) okX0_put cc0C (lg_X0_put) (TbC.ev (b_X0_put) (L := 1) (μ := 2) (M := [34, 900, 902]) rfl (by decide +kernel) rfl (by decide +kernel) (by decide +kernel) (fun _ _ _ _ hP _ => by
    obtain ⟨p0, p1, p2, rfl, hH, ht⟩ := hP
    first
      | exact ⟨hH.1, ht⟩
      | exact ⟨hH.1, ht.1⟩) (fun _ _ _ _ _ _ => trivial) (Or.inl ⟨by decide +kernel, by decide +kernel⟩))
theorem v_X0_jumpTo (l : Launch) : CMetC l 2 3 P_X0_jumpTo (EvQ (2 + 1) 3 Q_X0_jumpTo) :=
  CMetC.of KX0_jumpTo (uc2C [(2, P_X0_put, Q_X0_put)] ([2].map (fun c => (c, EvF 2 c)))) hX0_jumpTo (by decide) (by decide) okX0_jumpTo (cc1C (CMetC.up (v_X0_put l) (by first | decide | omega)) (by decide) cc0C) (lg_X0_jumpTo) (TbC.ev (b_X0_jumpTo) (L := 2) (μ := 3) (M := [34, 900, 902]) rfl (by decide +kernel) rfl (by decide +kernel) (by decide +kernel) (fun _ _ _ _ hP _ => by
    obtain ⟨p0, p1, p2, rfl, hH, ht⟩ := hP
    first
      | exact ⟨hH.1, ht⟩
      | exact ⟨hH.1, ht.1⟩) (fun _ _ _ _ _ _ => trivial) (Or.inl ⟨by decide +kernel, by decide +kernel⟩))
theorem v_X0_layOne (l : Launch) : CMetC l 2 16 P_X0_layOne (EvQ (2 + 1) 16 Q_X0_layOne) :=
  CMetC.of KX0_layOne (uc2C [(2, P_X0_put, Q_X0_put)] ([2].map (fun c => (c, EvF 2 c)))) hX0_layOne (by decide) (by decide) okX0_layOne (cc1C (CMetC.up (v_X0_put l) (by first | decide | omega)) (by decide) cc0C) (lg_X0_layOne) (TbC.ev (b_X0_layOne) (L := 2) (μ := 16) (M := [34, 77, 900, 902]) rfl (by decide +kernel) rfl (by decide +kernel) (by decide +kernel) (fun _ _ _ _ hP _ => by
    obtain ⟨p0, p1, rfl, hH, ht⟩ := hP
    first
      | exact ⟨hH.1, ht⟩
      | exact ⟨hH.1, ht.1⟩) (fun _ _ _ _ _ _ => trivial) (Or.inl ⟨by decide +kernel, by decide +kernel⟩))
theorem v_X0_layExp (l : Launch) : CMetC l 11 15 P_X0_layExp (EvQ (11 + 1) 15 Q_X0_layExp) :=
  CMetC.of KX0_layExp (uc2C [(234, P_Jx4a65c_size_8abf5, Q_Jx4a65c_size_8abf5), (235, P_Jx4a65c_get_915e3, Q_Jx4a65c_get_915e3), (16, P_X0_layOne, Q_X0_layOne)] ([234, 235, 16].map (fun c => (c, EvF 11 c)))) hX0_layExp (by decide) (by decide) okX0_layExp (cc1C (CMetC.up (v_Jx4a65c_size_8abf5 l) (by first | decide | omega)) (by decide) (cc1C (CMetC.up (v_Jx4a65c_get_915e3 l) (by first | decide | omega)) (by decide) (cc1C (CMetC.up (v_X0_layOne l) (by first | decide | omega)) (by decide) cc0C))) (lg_X0_layExp) (TbC.ev (b_X0_layExp) (L := 11) (μ := 15) (M := [34, 77, 900, 902]) rfl (by decide +kernel) rfl (by decide +kernel) (by decide +kernel) (fun _ _ _ _ hP _ => by
    obtain ⟨p0, p1, rfl, hH, ht⟩ := hP
    first
      | exact ⟨hH.1, ht⟩
      | exact ⟨hH.1, ht.1⟩) (fun _ _ _ _ _ _ => trivial) (Or.inl ⟨by decide +kernel, by decide +kernel⟩))
theorem v_X0_layTold (l : Launch) : CMetC l 12 9 P_X0_layTold (EvQ (12 + 1) 9 Q_X0_layTold) :=
  CMetC.of KX0_layTold (uc2C [(15, P_X0_layExp, Q_X0_layExp), (2, P_X0_put, Q_X0_put)] ([15, 2].map (fun c => (c, EvF 12 c)))) hX0_layTold (by decide) (by decide) okX0_layTold (cc1C (CMetC.up (v_X0_layExp l) (by first | decide | omega)) (by decide) (cc1C (CMetC.up (v_X0_put l) (by first | decide | omega)) (by decide) cc0C)) (lg_X0_layTold) (TbC.ev (b_X0_layTold) (L := 12) (μ := 9) (M := [34, 77, 900, 902]) rfl (by decide +kernel) rfl (by decide +kernel) (by decide +kernel) (fun _ _ _ _ hP _ => by
    obtain ⟨p0, p1, rfl, hH, ht⟩ := hP
    first
      | exact ⟨hH.1, ht⟩
      | exact ⟨hH.1, ht.1⟩) (fun _ _ _ _ _ _ => trivial) (Or.inl ⟨by decide +kernel, by decide +kernel⟩))
theorem v_X4_push (l : Launch) : CMetC l 1 91 P_X4_push (EvQ (1 + 1) 91 Q_X4_push) :=
  CMetC.of KX4_push (uc2C [] ([].map (fun c => (c, EvF 1 c)))) hX4_push (by decide) (by decide) okX4_push cc0C (lg_X4_push) (TbC.ev (b_X4_push) (L := 1) (μ := 91) (M := [162, 901]) rfl (by decide +kernel) rfl (by decide +kernel) (by decide +kernel) (fun _ _ _ _ hP _ => by
    obtain ⟨p0, p1, rfl, hH, ht⟩ := hP
    first
      | exact ⟨hH.1, ht⟩
      | exact ⟨hH.1, ht.1⟩) (fun _ _ _ _ _ _ => trivial) (Or.inl ⟨by decide +kernel, by decide +kernel⟩))
theorem v_X4_pop (l : Launch) : CMetC l 1 92 P_X4_pop (EvQ (1 + 1) 92 Q_X4_pop) :=
  CMetC.of KX4_pop (uc2C [] ([].map (fun c => (c, EvF 1 c)))) hX4_pop (by decide) (by decide) okX4_pop cc0C (lg_X4_pop) (TbC.ev (b_X4_pop) (L := 1) (μ := 92) (M := [162]) rfl (by decide +kernel) rfl (by decide +kernel) (by decide +kernel) (fun _ _ _ _ hP _ => by
    obtain ⟨p0, rfl, hH, ht⟩ := hP
    first
      | exact ⟨hH.1, ht⟩
      | exact ⟨hH.1, ht.1⟩) (fun _ _ _ _ _ _ => trivial) (Or.inl ⟨by decide +kernel, by decide +kernel⟩))
theorem v_X4_slot (l : Launch) : CMetC l 1 93 P_X4_slot (EvQ (1 + 1) 93 Q_X4_slot) :=
  CMetC.of KX4_slot (uc2C [] ([].map (fun c => (c, EvF 1 c)))) hX4_slot (by decide) (by decide) okX4_slot cc0C (lg_X4_slot) (TbC.ev (b_X4_slot) (L := 1) (μ := 93) (M := []) rfl (by decide +kernel) rfl (by decide +kernel) (by decide +kernel) (fun _ _ _ _ hP _ => by
    obtain ⟨p0, p1, rfl, hH, ht⟩ := hP
    first
      | exact ⟨hH.1, ht⟩
      | exact ⟨hH.1, ht.1⟩) (fun _ _ _ _ _ _ => trivial) (Or.inl ⟨by decide +kernel, by decide +kernel⟩))
theorem v_X4_step (l : Launch) : CMetC l 1 94 P_X4_step (EvQ (1 + 1) 94 Q_X4_step) :=
  CMetC.of KX4_step (uc2C [] ([].map (fun c => (c, EvF 1 c)))) hX4_step (by decide) (by decide) okX4_step cc0C (lg_X4_step) (TbC.ev (b_X4_step) (L := 1) (μ := 94) (M := [165, 169]) rfl (by decide +kernel) rfl (by decide +kernel) (by decide +kernel) (fun _ _ _ _ hP _ => by
    obtain ⟨p0, rfl, hH, ht⟩ := hP
    first
      | exact ⟨hH.1, ht⟩
      | exact ⟨hH.1, ht.1⟩) (fun _ _ _ _ _ _ => trivial) (Or.inl ⟨by decide +kernel, by decide +kernel⟩))
theorem v_X4_prepare (l : Launch) : CMetC l 1 88 P_X4_prepare (EvQ (1 + 1) 88 Q_X4_prepare) :=
  CMetC.of KX4_prepare (uc2C [] ([].map (fun c => (c, EvF 1 c)))) hX4_prepare (by decide) (by decide) okX4_prepare cc0C (lg_X4_prepare) (TbC.ev (b_X4_prepare) (L := 1) (μ := 88) (M := [159, 160, 162, 163, 165, 166, 167, 168, 169, 170]) rfl (by decide +kernel) rfl (by decide +kernel) (by decide +kernel) (fun _ _ _ _ hP _ => by
    obtain ⟨p0, p1, p2, rfl, hH, ht⟩ := hP
    first
      | exact ⟨hH.1, ht⟩
      | exact ⟨hH.1, ht.1⟩) (fun _ _ _ _ _ _ => trivial) (Or.inl ⟨by decide +kernel, by decide +kernel⟩))
theorem v_X4_tellNumber (l : Launch) : CMetC l 2 101 P_X4_tellNumber (EvQ (2 + 1) 101 Q_X4_tellNumber) :=
  CMetC.of KX4_tellNumber (uc2C [(91, P_X4_push, Q_X4_push)] ([91].map (fun c => (c, EvF 2 c)))) hX4_tellNumber (by decide) (by decide) okX4_tellNumber (cc1C (CMetC.up (v_X4_push l) (by first | decide | omega)) (by decide) cc0C) (lg_X4_tellNumber) (TbC.ev (b_X4_tellNumber) (L := 2) (μ := 101) (M := [162, 166, 169, 901]) rfl (by decide +kernel) rfl (by decide +kernel) (by decide +kernel) (fun _ _ _ _ hP _ => by
    obtain ⟨p0, p1, rfl, hH, ht⟩ := hP
    first
      | exact ⟨hH.1, ht⟩
      | exact ⟨hH.1, ht.1⟩) (fun _ _ _ _ _ _ => trivial) (Or.inl ⟨by decide +kernel, by decide +kernel⟩))
theorem v_X4_enter (l : Launch) : CMetC l 2 102 P_X4_enter (EvQ (2 + 1) 102 Q_X4_enter) :=
  CMetC.of KX4_enter (uc2C [(93, P_X4_slot, Q_X4_slot), (92, P_X4_pop, Q_X4_pop)] ([93, 92].map (fun c => (c, EvF 2 c)))) hX4_enter (by decide) (by decide) okX4_enter (cc1C (CMetC.up (v_X4_slot l) (by first | decide | omega)) (by decide) (cc1C (CMetC.up (v_X4_pop l) (by first | decide | omega)) (by decide) cc0C)) (lg_X4_enter) (TbC.ev (b_X4_enter) (L := 2) (μ := 102) (M := [161, 162, 163, 169, 900, 901]) rfl (by decide +kernel) rfl (by decide +kernel) (by decide +kernel) (fun _ _ _ _ hP _ => by
    obtain ⟨p0, p1, rfl, hH, ht⟩ := hP
    first
      | exact ⟨hH.1, ht⟩
      | exact ⟨hH.1, ht.1⟩) (fun _ _ _ _ _ _ => trivial) (Or.inl ⟨by decide +kernel, by decide +kernel⟩))
theorem v_X4_leaveCall (l : Launch) : CMetC l 2 103 P_X4_leaveCall (EvQ (2 + 1) 103 Q_X4_leaveCall) :=
  CMetC.of KX4_leaveCall (uc2C [(91, P_X4_push, Q_X4_push)] ([91].map (fun c => (c, EvF 2 c)))) hX4_leaveCall (by decide) (by decide) okX4_leaveCall (cc1C (CMetC.up (v_X4_push l) (by first | decide | omega)) (by decide) cc0C) (lg_X4_leaveCall) (TbC.ev (b_X4_leaveCall) (L := 2) (μ := 103) (M := [161, 162, 163, 169, 170, 901]) rfl (by decide +kernel) rfl (by decide +kernel) (by decide +kernel) (fun _ _ _ _ hP _ => by
    obtain ⟨p0, p1, rfl, hH, ht⟩ := hP
    first
      | exact ⟨hH.1, ht⟩
      | exact ⟨hH.1, ht.1⟩) (fun _ _ _ _ _ _ => trivial) (Or.inl ⟨by decide +kernel, by decide +kernel⟩))
theorem v_X4_operate (l : Launch) : CMetC l 3 97 P_X4_operate (EvQ (3 + 1) 97 Q_X4_operate) :=
  CMetC.of KX4_operate (uc2C [(227, P_X11_isDivision, Q_X11_isDivision), (229, P_X11_worked, Q_X11_worked), (91, P_X4_push, Q_X4_push)] ([227, 229, 91].map (fun c => (c, EvF 3 c)))) hX4_operate (by decide) (by decide) okX4_operate (cc1C (CMetC.up (v_X11_isDivision l) (by first | decide | omega)) (by decide) (cc1C (CMetC.up (v_X11_worked l) (by first | decide | omega)) (by decide) (cc1C (CMetC.up (v_X4_push l) (by first | decide | omega)) (by decide) cc0C))) (lg_X4_operate) (TbC.ev (b_X4_operate) (L := 3) (μ := 97) (M := [162, 169, 901]) rfl (by decide +kernel) rfl (by decide +kernel) (by decide +kernel) (fun _ _ _ _ hP _ => by
    obtain ⟨p0, p1, p2, p3, rfl, hH, ht⟩ := hP
    first
      | exact ⟨hH.1, ht⟩
      | exact ⟨hH.1, ht.1⟩) (fun _ _ _ _ _ _ => trivial) (Or.inl ⟨by decide +kernel, by decide +kernel⟩))
theorem v_X4_count (l : Launch) : CMetC l 2 98 P_X4_count (EvQ (2 + 1) 98 Q_X4_count) :=
  CMetC.of KX4_count (uc2C [(93, P_X4_slot, Q_X4_slot), (228, P_X11_narrowed, Q_X11_narrowed), (91, P_X4_push, Q_X4_push)] ([93, 228, 91].map (fun c => (c, EvF 2 c)))) hX4_count (by decide) (by decide) okX4_count (cc1C (CMetC.up (v_X4_slot l) (by first | decide | omega)) (by decide) (cc1C (CMetC.up (v_X11_narrowed l) (by first | decide | omega)) (by decide) (cc1C (CMetC.up (v_X4_push l) (by first | decide | omega)) (by decide) cc0C))) (lg_X4_count) (TbC.ev (b_X4_count) (L := 2) (μ := 98) (M := [162, 901]) rfl (by decide +kernel) rfl (by decide +kernel) (by decide +kernel) (fun _ _ _ _ hP _ => by
    obtain ⟨p0, p1, rfl, hH, ht⟩ := hP
    first
      | exact ⟨hH.1, ht⟩
      | exact ⟨hH.1, ht.1⟩) (fun _ _ _ _ _ _ => trivial) (Or.inl ⟨by decide +kernel, by decide +kernel⟩))
theorem v_X4_assign (l : Launch) : CMetC l 3 99 P_X4_assign (EvQ (3 + 1) 99 Q_X4_assign) :=
  CMetC.of KX4_assign (uc2C [(92, P_X4_pop, Q_X4_pop), (227, P_X11_isDivision, Q_X11_isDivision), (229, P_X11_worked, Q_X11_worked), (228, P_X11_narrowed, Q_X11_narrowed), (93, P_X4_slot, Q_X4_slot), (91, P_X4_push, Q_X4_push)] ([92, 227, 229, 228, 93, 91].map (fun c => (c, EvF 3 c)))) hX4_assign (by decide) (by decide) okX4_assign (cc1C (CMetC.up (v_X4_pop l) (by first | decide | omega)) (by decide) (cc1C (CMetC.up (v_X11_isDivision l) (by first | decide | omega)) (by decide) (cc1C (CMetC.up (v_X11_worked l) (by first | decide | omega)) (by decide) (cc1C (CMetC.up (v_X11_narrowed l) (by first | decide | omega)) (by decide) (cc1C (CMetC.up (v_X4_slot l) (by first | decide | omega)) (by decide) (cc1C (CMetC.up (v_X4_push l) (by first | decide | omega)) (by decide) cc0C)))))) (lg_X4_assign) (TbC.ev (b_X4_assign) (L := 3) (μ := 99) (M := [162, 169, 901]) rfl (by decide +kernel) rfl (by decide +kernel) (by decide +kernel) (fun _ _ _ _ hP _ => by
    obtain ⟨p0, p1, rfl, hH, ht⟩ := hP
    first
      | exact ⟨hH.1, ht⟩
      | exact ⟨hH.1, ht.1⟩) (fun _ _ _ _ _ _ => trivial) (Or.inl ⟨by decide +kernel, by decide +kernel⟩))
theorem v_X4_call (l : Launch) : CMetC l 12 100 P_X4_call (EvQ (12 + 1) 100 Q_X4_call) :=
  CMetC.of KX4_call (uc2C [(119, P_X6_methodOf, Q_X6_methodOf), (94, P_X4_step, Q_X4_step), (92, P_X4_pop, Q_X4_pop), (101, P_X4_tellNumber, Q_X4_tellNumber), (91, P_X4_push, Q_X4_push), (102, P_X4_enter, Q_X4_enter)] ([119, 94, 92, 101, 91, 102].map (fun c => (c, EvF 12 c)))) hX4_call (by decide) (by decide) okX4_call (cc1C (CMetC.up (v_X6_methodOf l) (by first | decide | omega)) (by decide) (cc1C (CMetC.up (v_X4_step l) (by first | decide | omega)) (by decide) (cc1C (CMetC.up (v_X4_pop l) (by first | decide | omega)) (by decide) (cc1C (CMetC.up (v_X4_tellNumber l) (by first | decide | omega)) (by decide) (cc1C (CMetC.up (v_X4_push l) (by first | decide | omega)) (by decide) (cc1C (CMetC.up (v_X4_enter l) (by first | decide | omega)) (by decide) cc0C)))))) (lg_X4_call) (TbC.ev (b_X4_call) (L := 12) (μ := 100) (M := [161, 162, 163, 165, 166, 167, 169, 900, 901]) rfl (by decide +kernel) rfl (by decide +kernel) (by decide +kernel) (fun _ _ _ _ hP _ => by
    obtain ⟨p0, p1, rfl, hH, ht⟩ := hP
    first
      | exact ⟨hH.1, ht⟩
      | exact ⟨hH.1, ht.1⟩) (fun _ _ _ _ _ _ => trivial) (Or.inl ⟨by decide +kernel, by decide +kernel⟩))
theorem v_X4_work (l : Launch) : CMetC l 13 96 P_X4_work (EvQ (13 + 1) 96 Q_X4_work) :=
  CMetC.of KX4_work (uc2C [(91, P_X4_push, Q_X4_push), (93, P_X4_slot, Q_X4_slot), (92, P_X4_pop, Q_X4_pop), (232, P_X11_workedAlone, Q_X11_workedAlone), (228, P_X11_narrowed, Q_X11_narrowed), (97, P_X4_operate, Q_X4_operate), (98, P_X4_count, Q_X4_count), (99, P_X4_assign, Q_X4_assign), (100, P_X4_call, Q_X4_call)] ([91, 93, 92, 232, 228, 97, 98, 99, 100].map (fun c => (c, EvF 13 c)))) hX4_work (by decide) (by decide) okX4_work (cc1C (CMetC.up (v_X4_push l) (by first | decide | omega)) (by decide) (cc1C (CMetC.up (v_X4_slot l) (by first | decide | omega)) (by decide) (cc1C (CMetC.up (v_X4_pop l) (by first | decide | omega)) (by decide) (cc1C (CMetC.up (v_X11_workedAlone l) (by first | decide | omega)) (by decide) (cc1C (CMetC.up (v_X11_narrowed l) (by first | decide | omega)) (by decide) (cc1C (CMetC.up (v_X4_operate l) (by first | decide | omega)) (by decide) (cc1C (CMetC.up (v_X4_count l) (by first | decide | omega)) (by decide) (cc1C (CMetC.up (v_X4_assign l) (by first | decide | omega)) (by decide) (cc1C (CMetC.up (v_X4_call l) (by first | decide | omega)) (by decide) cc0C))))))))) (lg_X4_work) (TbC.ev (b_X4_work) (L := 13) (μ := 96) (M := [161, 162, 163, 165, 166, 167, 169, 900, 901]) rfl (by decide +kernel) rfl (by decide +kernel) (by decide +kernel) (fun _ _ _ _ hP _ => by
    obtain ⟨p0, p1, p2, rfl, hH, ht⟩ := hP
    first
      | exact ⟨hH.1, ht⟩
      | exact ⟨hH.1, ht.1⟩) (fun _ _ _ _ _ _ => trivial) (Or.inl ⟨by decide +kernel, by decide +kernel⟩))
theorem v_X4_move (l : Launch) : CMetC l 2 104 P_X4_move (EvQ (2 + 1) 104 Q_X4_move) :=
  CMetC.of KX4_move (uc2C [(93, P_X4_slot, Q_X4_slot), (92, P_X4_pop, Q_X4_pop), (91, P_X4_push, Q_X4_push)] ([93, 92, 91].map (fun c => (c, EvF 2 c)))) hX4_move (by decide) (by decide) okX4_move (cc1C (CMetC.up (v_X4_slot l) (by first | decide | omega)) (by decide) (cc1C (CMetC.up (v_X4_pop l) (by first | decide | omega)) (by decide) (cc1C (CMetC.up (v_X4_push l) (by first | decide | omega)) (by decide) cc0C))) (lg_X4_move) (TbC.ev (b_X4_move) (L := 2) (μ := 104) (M := [161, 162, 901]) rfl (by decide +kernel) rfl (by decide +kernel) (by decide +kernel) (fun _ _ _ _ hP _ => by
    obtain ⟨p0, p1, p2, rfl, hH, ht⟩ := hP
    first
      | exact ⟨hH.1, ht⟩
      | exact ⟨hH.1, ht.1⟩) (fun _ _ _ _ _ _ => trivial) (Or.inl ⟨by decide +kernel, by decide +kernel⟩))
theorem v_X4_way (l : Launch) : CMetC l 1 106 P_X4_way (EvQ (1 + 1) 106 Q_X4_way) :=
  CMetC.of KX4_way (uc2C [] ([].map (fun c => (c, EvF 1 c)))) hX4_way (by decide) (by decide) okX4_way cc0C (lg_X4_way) (TbC.ev (b_X4_way) (L := 1) (μ := 106) (M := []) rfl (by decide +kernel) rfl (by decide +kernel) (by decide +kernel) (fun _ _ _ _ hP _ => by
    obtain ⟨p0, p1, rfl, hH, ht⟩ := hP
    first
      | exact ⟨hH.1, ht⟩
      | exact ⟨hH.1, ht.1⟩) (fun _ _ _ _ _ _ => trivial) (Or.inl ⟨by decide +kernel, by decide +kernel⟩))
theorem v_X4_choose (l : Launch) : CMetC l 1 107 P_X4_choose (EvQ (1 + 1) 107 Q_X4_choose) :=
  CMetC.of KX4_choose (uc2C [] ([].map (fun c => (c, EvF 1 c)))) hX4_choose (by decide) (by decide) okX4_choose cc0C (lg_X4_choose) (TbC.ev (b_X4_choose) (L := 1) (μ := 107) (M := [161]) rfl (by decide +kernel) rfl (by decide +kernel) (by decide +kernel) (fun _ _ _ _ hP _ => by
    obtain ⟨p0, p1, p2, rfl, hH, ht⟩ := hP
    first
      | exact ⟨hH.1, ht⟩
      | exact ⟨hH.1, ht.1⟩) (fun _ _ _ _ _ _ => trivial) (Or.inl ⟨by decide +kernel, by decide +kernel⟩))
theorem v_X4_goInto (l : Launch) : CMetC l 1 109 P_X4_goInto (EvQ (1 + 1) 109 Q_X4_goInto) :=
  CMetC.of KX4_goInto (uc2C [] ([].map (fun c => (c, EvF 1 c)))) hX4_goInto (by decide) (by decide) okX4_goInto cc0C (lg_X4_goInto) (TbC.ev (b_X4_goInto) (L := 1) (μ := 109) (M := [161, 162]) rfl (by decide +kernel) rfl (by decide +kernel) (by decide +kernel) (fun _ _ _ _ hP _ => by
    obtain ⟨p0, p1, rfl, hH, ht⟩ := hP
    first
      | exact ⟨hH.1, ht⟩
      | exact ⟨hH.1, ht.1⟩) (fun _ _ _ _ _ _ => trivial) (Or.inl ⟨by decide +kernel, by decide +kernel⟩))
theorem v_X4_behindMethod (l : Launch) : CMetC l 3 110 P_X4_behindMethod (EvQ (3 + 1) 110 Q_X4_behindMethod) :=
  CMetC.of KX4_behindMethod (uc2C [(103, P_X4_leaveCall, Q_X4_leaveCall)] ([103].map (fun c => (c, EvF 3 c)))) hX4_behindMethod (by decide) (by decide) okX4_behindMethod (cc1C (CMetC.up (v_X4_leaveCall l) (by first | decide | omega)) (by decide) cc0C) (lg_X4_behindMethod) (TbC.ev (b_X4_behindMethod) (L := 3) (μ := 110) (M := [161, 162, 163, 169, 170, 901]) rfl (by decide +kernel) rfl (by decide +kernel) (by decide +kernel) (fun _ _ _ _ hP _ => by
    obtain ⟨p0, p1, p2, rfl, hH, ht⟩ := hP
    first
      | exact ⟨hH.1, ht⟩
      | exact ⟨hH.1, ht.1⟩) (fun _ _ _ _ _ _ => trivial) (Or.inl ⟨by decide +kernel, by decide +kernel⟩))
theorem v_X4_leave (l : Launch) : CMetC l 4 108 P_X4_leave (EvQ (4 + 1) 108 Q_X4_leave) :=
  CMetC.of KX4_leave (uc2C [(181, P_X8_hasFinallyAhead, Q_X8_hasFinallyAhead), (110, P_X4_behindMethod, Q_X4_behindMethod), (106, P_X4_way, Q_X4_way), (109, P_X4_goInto, Q_X4_goInto), (182, P_X8_isCaught, Q_X8_isCaught), (93, P_X4_slot, Q_X4_slot)] ([181, 110, 106, 109, 182, 93].map (fun c => (c, EvF 4 c)))) hX4_leave (by decide) (by decide) okX4_leave (cc1C (CMetC.up (v_X8_hasFinallyAhead l) (by first | decide | omega)) (by decide) (cc1C (CMetC.up (v_X4_behindMethod l) (by first | decide | omega)) (by decide) (cc1C (CMetC.up (v_X4_way l) (by first | decide | omega)) (by decide) (cc1C (CMetC.up (v_X4_goInto l) (by first | decide | omega)) (by decide) (cc1C (CMetC.up (v_X8_isCaught l) (by first | decide | omega)) (by decide) (cc1C (CMetC.up (v_X4_slot l) (by first | decide | omega)) (by decide) cc0C)))))) (lg_X4_leave) (TbC.ev (b_X4_leave) (L := 4) (μ := 108) (M := [161, 162, 163, 169, 170, 900, 901, 902]) rfl (by decide +kernel) rfl (by decide +kernel) (by decide +kernel) (fun _ _ _ _ hP _ => by
    obtain ⟨p0, p1, p2, p3, p4, rfl, hH, ht⟩ := hP
    first
      | exact ⟨hH.1, ht⟩
      | exact ⟨hH.1, ht.1⟩) (fun _ _ _ _ _ _ => trivial) (Or.inl ⟨by decide +kernel, by decide +kernel⟩))
theorem v_X4_control (l : Launch) : CMetC l 5 105 P_X4_control (EvQ (5 + 1) 105 Q_X4_control) :=
  CMetC.of KX4_control (uc2C [(94, P_X4_step, Q_X4_step), (92, P_X4_pop, Q_X4_pop), (107, P_X4_choose, Q_X4_choose), (108, P_X4_leave, Q_X4_leave), (106, P_X4_way, Q_X4_way), (103, P_X4_leaveCall, Q_X4_leaveCall)] ([94, 92, 107, 108, 106, 103].map (fun c => (c, EvF 5 c)))) hX4_control (by decide) (by decide) okX4_control (cc1C (CMetC.up (v_X4_step l) (by first | decide | omega)) (by decide) (cc1C (CMetC.up (v_X4_pop l) (by first | decide | omega)) (by decide) (cc1C (CMetC.up (v_X4_choose l) (by first | decide | omega)) (by decide) (cc1C (CMetC.up (v_X4_leave l) (by first | decide | omega)) (by decide) (cc1C (CMetC.up (v_X4_way l) (by first | decide | omega)) (by decide) (cc1C (CMetC.up (v_X4_leaveCall l) (by first | decide | omega)) (by decide) cc0C)))))) (lg_X4_control) (TbC.ev (b_X4_control) (L := 5) (μ := 105) (M := [161, 162, 163, 165, 168, 169, 170, 900, 901, 902]) rfl (by decide +kernel) rfl (by decide +kernel) (by decide +kernel) (fun _ _ _ _ hP _ => by
    obtain ⟨p0, p1, p2, rfl, hH, ht⟩ := hP
    first
      | exact ⟨hH.1, ht⟩
      | exact ⟨hH.1, ht.1⟩) (fun _ _ _ _ _ _ => trivial) (Or.inl ⟨by decide +kernel, by decide +kernel⟩))
theorem v_X4_obey (l : Launch) : CMetC l 14 95 P_X4_obey (EvQ (14 + 1) 95 Q_X4_obey) :=
  CMetC.of KX4_obey (uc2C [(105, P_X4_control, Q_X4_control), (104, P_X4_move, Q_X4_move), (96, P_X4_work, Q_X4_work), (108, P_X4_leave, Q_X4_leave)] ([105, 104, 96, 108].map (fun c => (c, EvF 14 c)))) hX4_obey (by decide) (by decide) okX4_obey (cc1C (CMetC.up (v_X4_control l) (by first | decide | omega)) (by decide) (cc1C (CMetC.up (v_X4_move l) (by first | decide | omega)) (by decide) (cc1C (CMetC.up (v_X4_work l) (by first | decide | omega)) (by decide) (cc1C (CMetC.up (v_X4_leave l) (by first | decide | omega)) (by decide) cc0C)))) (lg_X4_obey) (TbC.ev (b_X4_obey) (L := 14) (μ := 95) (M := [161, 162, 163, 165, 166, 167, 168, 169, 170, 900, 901, 902]) rfl (by decide +kernel) rfl (by decide +kernel) (by decide +kernel) (fun _ _ _ _ hP _ => by
    obtain ⟨p0, rfl, hH, ht⟩ := hP
    first
      | exact ⟨hH.1, ht⟩
      | exact ⟨hH.1, ht.1⟩) (fun _ _ _ _ _ _ => trivial) (Or.inl ⟨by decide +kernel, by decide +kernel⟩))
theorem v_X4_perform (l : Launch) : CMetC l 15 89 P_X4_perform (EvQ (15 + 1) 89 Q_X4_perform) :=
  CMetC.of KX4_perform (uc2C [(94, P_X4_step, Q_X4_step), (102, P_X4_enter, Q_X4_enter), (228, P_X11_narrowed, Q_X11_narrowed), (91, P_X4_push, Q_X4_push), (95, P_X4_obey, Q_X4_obey)] ([94, 102, 228, 91, 95].map (fun c => (c, EvF 15 c)))) hX4_perform (by decide) (by decide) okX4_perform (cc1C (CMetC.up (v_X4_step l) (by first | decide | omega)) (by decide) (cc1C (CMetC.up (v_X4_enter l) (by first | decide | omega)) (by decide) (cc1C (CMetC.up (v_X11_narrowed l) (by first | decide | omega)) (by decide) (cc1C (CMetC.up (v_X4_push l) (by first | decide | omega)) (by decide) (cc1C (CMetC.up (v_X4_obey l) (by first | decide | omega)) (by decide) cc0C))))) (lg_X4_perform) (TbC.ev (b_X4_perform) (L := 15) (μ := 89) (M := [161, 162, 163, 164, 165, 166, 167, 168, 169, 170, 900, 901, 902]) rfl (by decide +kernel) rfl (by decide +kernel) (by decide +kernel) (fun _ _ _ _ hP _ => by
    obtain ⟨p0, p1, p2, p3, rfl, hH, ht⟩ := hP
    first
      | exact ⟨hH.1, ht⟩
      | exact ⟨hH.1, ht.1⟩) (fun _ _ _ _ _ _ => trivial) (Or.inl ⟨by decide +kernel, by decide +kernel⟩))
theorem vs_X2_reachRow (l : Launch) (d : Nat) (h_X2_reach : CMetC l (8 * d + 23) 22 (P_X2_reach d) (EvQ ((8 * d + 23) + 1) 22 Q_X2_reach)) : CMetC l (8 * (d + 1) + 21) 21 (P_X2_reachRow (d + 1)) (EvQ ((8 * (d + 1) + 21) + 1) 21 Q_X2_reachRow) :=
  CMetC.of KX2_reachRow (uc2C [(22, (P_X2_reach d), Q_X2_reach)] ([22].map (fun c => (c, EvF (8 * (d + 1) + 21) c)))) hX2_reachRow (by decide) (by omega) okX2_reachRow (cc1C (CMetC.up (h_X2_reach) (by first | decide | omega)) (by omega) cc0C) (lg_X2_reachRow d) (TbC.ev (b_X2_reachRow d) (L := (8 * (d + 1) + 21)) (μ := 21) (M := [217, 218, 282, 283, 284]) rfl (by decide +kernel) rfl (by decide +kernel) (by decide +kernel) (fun _ _ _ _ hP _ => by
    obtain ⟨p0, p1, rfl, hH, ht⟩ := hP
    first
      | exact ⟨hH.1, ht⟩
      | exact ⟨hH.1, ht.1⟩) (fun _ _ _ _ _ _ => trivial) (Or.inl ⟨by decide +kernel, by decide +kernel⟩))
theorem vs_X2_reachBody (l : Launch) (d : Nat) (h_X2_reach : CMetC l (8 * d + 23) 22 (P_X2_reach d) (EvQ ((8 * d + 23) + 1) 22 Q_X2_reach)) : CMetC l (8 * (d + 1) + 21) 24 (P_X2_reachBody (d + 1)) (EvQ ((8 * (d + 1) + 21) + 1) 24 Q_X2_reachBody) :=
  CMetC.of KX2_reachBody (uc2C [(22, (P_X2_reach d), Q_X2_reach)] ([22].map (fun c => (c, EvF (8 * (d + 1) + 21) c)))) hX2_reachBody (by decide) (by omega) okX2_reachBody (cc1C (CMetC.up (h_X2_reach) (by first | decide | omega)) (by omega) cc0C) (lg_X2_reachBody d) (TbC.ev (b_X2_reachBody d) (L := (8 * (d + 1) + 21)) (μ := 24) (M := [217, 218, 282, 283, 284]) rfl (by decide +kernel) rfl (by decide +kernel) (by decide +kernel) (fun _ _ _ _ hP _ => by
    obtain ⟨p0, p1, p2, rfl, hH, ht⟩ := hP
    first
      | exact ⟨hH.1, ht⟩
      | exact ⟨hH.1, ht.1⟩) (fun _ _ _ _ _ _ => trivial) (Or.inl ⟨by decide +kernel, by decide +kernel⟩))
theorem vs_X2_reachSwitch (l : Launch) (d : Nat) (h_X2_reach : CMetC l (8 * d + 23) 22 (P_X2_reach d) (EvQ ((8 * d + 23) + 1) 22 Q_X2_reach)) : CMetC l (8 * (d + 1) + 21) 25 (P_X2_reachSwitch (d + 1)) (EvQ ((8 * (d + 1) + 21) + 1) 25 Q_X2_reachSwitch) :=
  CMetC.of KX2_reachSwitch (uc2C [(22, (P_X2_reach d), Q_X2_reach)] ([22].map (fun c => (c, EvF (8 * (d + 1) + 21) c)))) hX2_reachSwitch (by decide) (by omega) okX2_reachSwitch (cc1C (CMetC.up (h_X2_reach) (by first | decide | omega)) (by omega) cc0C) (lg_X2_reachSwitch d) (TbC.ev (b_X2_reachSwitch d) (L := (8 * (d + 1) + 21)) (μ := 25) (M := [217, 218, 282, 283, 284]) rfl (by decide +kernel) rfl (by decide +kernel) (by decide +kernel) (fun _ _ _ _ hP _ => by
    obtain ⟨p0, p1, rfl, hH, ht⟩ := hP
    first
      | exact ⟨hH.1, ht⟩
      | exact ⟨hH.1, ht.1⟩) (fun _ _ _ _ _ _ => trivial) (Or.inl ⟨by decide +kernel, by decide +kernel⟩))
theorem vs_X2_reachTry (l : Launch) (d : Nat) (h_X2_reachRow : CMetC l (8 * d + 21) 21 (P_X2_reachRow d) (EvQ ((8 * d + 21) + 1) 21 Q_X2_reachRow)) : CMetC l (8 * (d + 1) + 21) 26 (P_X2_reachTry (d + 1)) (EvQ ((8 * (d + 1) + 21) + 1) 26 Q_X2_reachTry) :=
  CMetC.of KX2_reachTry (uc2C [(21, (P_X2_reachRow d), Q_X2_reachRow)] ([21].map (fun c => (c, EvF (8 * (d + 1) + 21) c)))) hX2_reachTry (by decide) (by omega) okX2_reachTry (cc1C (CMetC.up (h_X2_reachRow) (by first | decide | omega)) (by omega) cc0C) (lg_X2_reachTry d) (TbC.ev (b_X2_reachTry d) (L := (8 * (d + 1) + 21)) (μ := 26) (M := [217, 218, 282, 283, 284]) rfl (by decide +kernel) rfl (by decide +kernel) (by decide +kernel) (fun _ _ _ _ hP _ => by
    obtain ⟨p0, p1, rfl, hH, ht⟩ := hP
    first
      | exact ⟨hH.1, ht⟩
      | exact ⟨hH.1, ht.1⟩) (fun _ _ _ _ _ _ => trivial) (Or.inl ⟨by decide +kernel, by decide +kernel⟩))
theorem vs_X2_reachInside (l : Launch) (d : Nat) (h_X2_reachRow : CMetC l (8 * (d + 1) + 21) 21 (P_X2_reachRow (d + 1)) (EvQ ((8 * (d + 1) + 21) + 1) 21 Q_X2_reachRow)) (h_X2_reachBody : CMetC l (8 * (d + 1) + 21) 24 (P_X2_reachBody (d + 1)) (EvQ ((8 * (d + 1) + 21) + 1) 24 Q_X2_reachBody)) (h_X2_reach : CMetC l (8 * d + 23) 22 (P_X2_reach d) (EvQ ((8 * d + 23) + 1) 22 Q_X2_reach)) (h_X2_reachSwitch : CMetC l (8 * (d + 1) + 21) 25 (P_X2_reachSwitch (d + 1)) (EvQ ((8 * (d + 1) + 21) + 1) 25 Q_X2_reachSwitch)) (h_X2_reachTry : CMetC l (8 * (d + 1) + 21) 26 (P_X2_reachTry (d + 1)) (EvQ ((8 * (d + 1) + 21) + 1) 26 Q_X2_reachTry)) : CMetC l (8 * (d + 1) + 22) 23 (P_X2_reachInside (d + 1)) (EvQ ((8 * (d + 1) + 22) + 1) 23 Q_X2_reachInside) :=
  CMetC.of KX2_reachInside (uc2C [(21, (P_X2_reachRow (d + 1)), Q_X2_reachRow), (24, (P_X2_reachBody (d + 1)), Q_X2_reachBody), (22, (P_X2_reach d), Q_X2_reach), (183, P_X8_isAlways, Q_X8_isAlways), (25, (P_X2_reachSwitch (d + 1)), Q_X2_reachSwitch), (27, P_X2_markTarget, Q_X2_markTarget), (26, (P_X2_reachTry (d + 1)), Q_X2_reachTry)] ([21, 24, 22, 183, 25, 27, 26].map (fun c => (c, EvF (8 * (d + 1) + 22) c)))) hX2_reachInside (by decide) (by omega) okX2_reachInside (cc1C (CMetC.up (h_X2_reachRow) (by first | decide | omega)) (by omega) (cc1C (CMetC.up (h_X2_reachBody) (by first | decide | omega)) (by omega) (cc1C (CMetC.up (h_X2_reach) (by first | decide | omega)) (by omega) (cc1C (CMetC.up (v_X8_isAlways l) (by first | decide | omega)) (by omega) (cc1C (CMetC.up (h_X2_reachSwitch) (by first | decide | omega)) (by omega) (cc1C (CMetC.up (v_X2_markTarget l) (by first | decide | omega)) (by omega) (cc1C (CMetC.up (h_X2_reachTry) (by first | decide | omega)) (by omega) cc0C))))))) (lg_X2_reachInside d) (TbC.ev (b_X2_reachInside d) (L := (8 * (d + 1) + 22)) (μ := 23) (M := [217, 218, 282, 283, 284]) rfl (by decide +kernel) rfl (by decide +kernel) (by decide +kernel) (fun _ _ _ _ hP _ => by
    obtain ⟨p0, p1, rfl, hH, ht⟩ := hP
    first
      | exact ⟨hH.1, ht⟩
      | exact ⟨hH.1, ht.1⟩) (fun _ _ _ _ _ _ => trivial) (Or.inl ⟨by decide +kernel, by decide +kernel⟩))
theorem vs_X2_reach (l : Launch) (d : Nat) (h_X2_reachInside : CMetC l (8 * (d + 1) + 22) 23 (P_X2_reachInside (d + 1)) (EvQ ((8 * (d + 1) + 22) + 1) 23 Q_X2_reachInside)) : CMetC l (8 * (d + 1) + 23) 22 (P_X2_reach (d + 1)) (EvQ ((8 * (d + 1) + 23) + 1) 22 Q_X2_reach) :=
  CMetC.of KX2_reach (uc2C [(23, (P_X2_reachInside (d + 1)), Q_X2_reachInside), (118, P_X6_tell, Q_X6_tell)] ([23, 118].map (fun c => (c, EvF (8 * (d + 1) + 23) c)))) hX2_reach (by decide) (by omega) okX2_reach (cc1C (CMetC.up (h_X2_reachInside) (by first | decide | omega)) (by omega) (cc1C (CMetC.up (v_X6_tell l) (by first | decide | omega)) (by omega) cc0C)) (lg_X2_reach d) (TbC.ev (b_X2_reach d) (L := (8 * (d + 1) + 23)) (μ := 22) (M := [217, 218, 282, 283, 284]) rfl (by decide +kernel) rfl (by decide +kernel) (by decide +kernel) (fun _ _ _ _ hP _ => by
    obtain ⟨p0, p1, p2, rfl, hH, ht⟩ := hP
    first
      | exact ⟨hH.1, ht⟩
      | exact ⟨hH.1, ht.1⟩) (fun _ _ _ _ _ _ => trivial) (Or.inl ⟨by decide +kernel, by decide +kernel⟩))
theorem vs_X2_assignBody (l : Launch) (d : Nat) (h_X2_assign : CMetC l (8 * d + 24) 29 (P_X2_assign d) (EvQ ((8 * d + 24) + 1) 29 Q_X2_assign)) : CMetC l (8 * (d + 1) + 21) 31 (P_X2_assignBody (d + 1)) (EvQ ((8 * (d + 1) + 21) + 1) 31 Q_X2_assignBody) :=
  CMetC.of KX2_assignBody (uc2C [(29, (P_X2_assign d), Q_X2_assign)] ([29].map (fun c => (c, EvF (8 * (d + 1) + 21) c)))) hX2_assignBody (by decide) (by omega) okX2_assignBody (cc1C (CMetC.up (h_X2_assign) (by first | decide | omega)) (by omega) cc0C) (lg_X2_assignBody d) (TbC.ev (b_X2_assignBody d) (L := (8 * (d + 1) + 21)) (μ := 31) (M := [91, 92, 94, 217, 218, 285, 286, 287, 288, 901]) rfl (by decide +kernel) rfl (by decide +kernel) (by decide +kernel) (fun _ _ _ _ hP _ => by
    obtain ⟨p0, p1, p2, rfl, hH, ht⟩ := hP
    first
      | exact ⟨hH.1, ht⟩
      | exact ⟨hH.1, ht.1⟩) (fun _ _ _ _ _ _ => trivial) (Or.inl ⟨by decide +kernel, by decide +kernel⟩))
theorem vs_X2_behindIf (l : Launch) (d : Nat) (h_X2_assignBody : CMetC l (8 * (d + 1) + 21) 31 (P_X2_assignBody (d + 1)) (EvQ ((8 * (d + 1) + 21) + 1) 31 Q_X2_assignBody)) (h_X2_assign : CMetC l (8 * d + 24) 29 (P_X2_assign d) (EvQ ((8 * d + 24) + 1) 29 Q_X2_assign)) : CMetC l (8 * (d + 1) + 22) 35 (P_X2_behindIf (d + 1)) (EvQ ((8 * (d + 1) + 22) + 1) 35 Q_X2_behindIf) :=
  CMetC.of KX2_behindIf (uc2C [(39, P_X2_behindExp, Q_X2_behindExp), (31, (P_X2_assignBody (d + 1)), Q_X2_assignBody), (29, (P_X2_assign d), Q_X2_assign)] ([39, 31, 29].map (fun c => (c, EvF (8 * (d + 1) + 22) c)))) hX2_behindIf (by decide) (by omega) okX2_behindIf (cc1C (CMetC.up (v_X2_behindExp l) (by first | decide | omega)) (by omega) (cc1C (CMetC.up (h_X2_assignBody) (by first | decide | omega)) (by omega) (cc1C (CMetC.up (h_X2_assign) (by first | decide | omega)) (by omega) cc0C))) (lg_X2_behindIf d) (TbC.ev (b_X2_behindIf d) (L := (8 * (d + 1) + 22)) (μ := 35) (M := [91, 92, 94, 217, 218, 285, 286, 287, 288, 901]) rfl (by decide +kernel) rfl (by decide +kernel) (by decide +kernel) (fun _ _ _ _ hP _ => by
    obtain ⟨p0, p1, p2, rfl, hH, ht⟩ := hP
    first
      | exact ⟨hH.1, ht⟩
      | exact ⟨hH.1, ht.1⟩) (fun _ _ _ _ _ _ => trivial) (Or.inl ⟨by decide +kernel, by decide +kernel⟩))
theorem vs_X2_behindLoop (l : Launch) (d : Nat) (h_X2_assignBody : CMetC l (8 * (d + 1) + 21) 31 (P_X2_assignBody (d + 1)) (EvQ ((8 * (d + 1) + 21) + 1) 31 Q_X2_assignBody)) (h_X2_assignRow : CMetC l (8 * d + 25) 30 (P_X2_assignRow d) (EvQ ((8 * d + 25) + 1) 30 Q_X2_assignRow)) : CMetC l (8 * (d + 1) + 22) 36 (P_X2_behindLoop (d + 1)) (EvQ ((8 * (d + 1) + 22) + 1) 36 Q_X2_behindLoop) :=
  CMetC.of KX2_behindLoop (uc2C [(39, P_X2_behindExp, Q_X2_behindExp), (31, (P_X2_assignBody (d + 1)), Q_X2_assignBody), (30, (P_X2_assignRow d), Q_X2_assignRow)] ([39, 31, 30].map (fun c => (c, EvF (8 * (d + 1) + 22) c)))) hX2_behindLoop (by decide) (by omega) okX2_behindLoop (cc1C (CMetC.up (v_X2_behindExp l) (by first | decide | omega)) (by omega) (cc1C (CMetC.up (h_X2_assignBody) (by first | decide | omega)) (by omega) (cc1C (CMetC.up (h_X2_assignRow) (by first | decide | omega)) (by omega) cc0C))) (lg_X2_behindLoop d) (TbC.ev (b_X2_behindLoop d) (L := (8 * (d + 1) + 22)) (μ := 36) (M := [91, 92, 94, 217, 218, 285, 286, 287, 288, 901]) rfl (by decide +kernel) rfl (by decide +kernel) (by decide +kernel) (fun _ _ _ _ hP _ => by
    obtain ⟨p0, p1, p2, rfl, hH, ht⟩ := hP
    first
      | exact ⟨hH.1, ht⟩
      | exact ⟨hH.1, ht.1⟩) (fun _ _ _ _ _ _ => trivial) (Or.inl ⟨by decide +kernel, by decide +kernel⟩))
theorem vs_X2_behindSwitch (l : Launch) (d : Nat) (h_X2_assign : CMetC l (8 * d + 24) 29 (P_X2_assign d) (EvQ ((8 * d + 24) + 1) 29 Q_X2_assign)) : CMetC l (8 * (d + 1) + 22) 37 (P_X2_behindSwitch (d + 1)) (EvQ ((8 * (d + 1) + 22) + 1) 37 Q_X2_behindSwitch) :=
  CMetC.of KX2_behindSwitch (uc2C [(39, P_X2_behindExp, Q_X2_behindExp), (29, (P_X2_assign d), Q_X2_assign)] ([39, 29].map (fun c => (c, EvF (8 * (d + 1) + 22) c)))) hX2_behindSwitch (by decide) (by omega) okX2_behindSwitch (cc1C (CMetC.up (v_X2_behindExp l) (by first | decide | omega)) (by omega) (cc1C (CMetC.up (h_X2_assign) (by first | decide | omega)) (by omega) cc0C)) (lg_X2_behindSwitch d) (TbC.ev (b_X2_behindSwitch d) (L := (8 * (d + 1) + 22)) (μ := 37) (M := [91, 92, 94, 217, 218, 285, 286, 287, 288, 901]) rfl (by decide +kernel) rfl (by decide +kernel) (by decide +kernel) (fun _ _ _ _ hP _ => by
    obtain ⟨p0, p1, p2, rfl, hH, ht⟩ := hP
    first
      | exact ⟨hH.1, ht⟩
      | exact ⟨hH.1, ht.1⟩) (fun _ _ _ _ _ _ => trivial) (Or.inl ⟨by decide +kernel, by decide +kernel⟩))
theorem vs_X2_behindTry (l : Launch) (d : Nat) (h_X2_assign : CMetC l (8 * d + 24) 29 (P_X2_assign d) (EvQ ((8 * d + 24) + 1) 29 Q_X2_assign)) (h_X2_assignBody : CMetC l (8 * (d + 1) + 21) 31 (P_X2_assignBody (d + 1)) (EvQ ((8 * (d + 1) + 21) + 1) 31 Q_X2_assignBody)) : CMetC l (8 * (d + 1) + 22) 38 (P_X2_behindTry (d + 1)) (EvQ ((8 * (d + 1) + 22) + 1) 38 Q_X2_behindTry) :=
  CMetC.of KX2_behindTry (uc2C [(29, (P_X2_assign d), Q_X2_assign), (31, (P_X2_assignBody (d + 1)), Q_X2_assignBody), (222, P_X11_bit, Q_X11_bit)] ([29, 31, 222].map (fun c => (c, EvF (8 * (d + 1) + 22) c)))) hX2_behindTry (by decide) (by omega) okX2_behindTry (cc1C (CMetC.up (h_X2_assign) (by first | decide | omega)) (by omega) (cc1C (CMetC.up (h_X2_assignBody) (by first | decide | omega)) (by omega) (cc1C (CMetC.up (v_X11_bit l) (by first | decide | omega)) (by omega) cc0C))) (lg_X2_behindTry d) (TbC.ev (b_X2_behindTry d) (L := (8 * (d + 1) + 22)) (μ := 38) (M := [91, 92, 94, 217, 218, 285, 286, 287, 288, 901]) rfl (by decide +kernel) rfl (by decide +kernel) (by decide +kernel) (fun _ _ _ _ hP _ => by
    obtain ⟨p0, p1, p2, rfl, hH, ht⟩ := hP
    first
      | exact ⟨hH.1, ht⟩
      | exact ⟨hH.1, ht.1⟩) (fun _ _ _ _ _ _ => trivial) (Or.inl ⟨by decide +kernel, by decide +kernel⟩))
theorem vs_X2_behind (l : Launch) (d : Nat) (h_X2_assignRow : CMetC l (8 * d + 25) 30 (P_X2_assignRow d) (EvQ ((8 * d + 25) + 1) 30 Q_X2_assignRow)) (h_X2_assignBody : CMetC l (8 * (d + 1) + 21) 31 (P_X2_assignBody (d + 1)) (EvQ ((8 * (d + 1) + 21) + 1) 31 Q_X2_assignBody)) (h_X2_behindIf : CMetC l (8 * (d + 1) + 22) 35 (P_X2_behindIf (d + 1)) (EvQ ((8 * (d + 1) + 22) + 1) 35 Q_X2_behindIf)) (h_X2_behindLoop : CMetC l (8 * (d + 1) + 22) 36 (P_X2_behindLoop (d + 1)) (EvQ ((8 * (d + 1) + 22) + 1) 36 Q_X2_behindLoop)) (h_X2_behindSwitch : CMetC l (8 * (d + 1) + 22) 37 (P_X2_behindSwitch (d + 1)) (EvQ ((8 * (d + 1) + 22) + 1) 37 Q_X2_behindSwitch)) (h_X2_behindTry : CMetC l (8 * (d + 1) + 22) 38 (P_X2_behindTry (d + 1)) (EvQ ((8 * (d + 1) + 22) + 1) 38 Q_X2_behindTry)) : CMetC l (8 * (d + 1) + 23) 32 (P_X2_behind (d + 1)) (EvQ ((8 * (d + 1) + 23) + 1) 32 Q_X2_behind) :=
  CMetC.of KX2_behind (uc2C [(30, (P_X2_assignRow d), Q_X2_assignRow), (31, (P_X2_assignBody (d + 1)), Q_X2_assignBody), (35, (P_X2_behindIf (d + 1)), Q_X2_behindIf), (36, (P_X2_behindLoop (d + 1)), Q_X2_behindLoop), (37, (P_X2_behindSwitch (d + 1)), Q_X2_behindSwitch), (34, P_X2_leadTo, Q_X2_leadTo), (39, P_X2_behindExp, Q_X2_behindExp), (38, (P_X2_behindTry (d + 1)), Q_X2_behindTry), (33, P_X2_behindTold, Q_X2_behindTold)] ([30, 31, 35, 36, 37, 34, 39, 38, 33].map (fun c => (c, EvF (8 * (d + 1) + 23) c)))) hX2_behind (by decide) (by omega) okX2_behind (cc1C (CMetC.up (h_X2_assignRow) (by first | decide | omega)) (by omega) (cc1C (CMetC.up (h_X2_assignBody) (by first | decide | omega)) (by omega) (cc1C (CMetC.up (h_X2_behindIf) (by first | decide | omega)) (by omega) (cc1C (CMetC.up (h_X2_behindLoop) (by first | decide | omega)) (by omega) (cc1C (CMetC.up (h_X2_behindSwitch) (by first | decide | omega)) (by omega) (cc1C (CMetC.up (v_X2_leadTo l) (by first | decide | omega)) (by omega) (cc1C (CMetC.up (v_X2_behindExp l) (by first | decide | omega)) (by omega) (cc1C (CMetC.up (h_X2_behindTry) (by first | decide | omega)) (by omega) (cc1C (CMetC.up (v_X2_behindTold l) (by first | decide | omega)) (by omega) cc0C))))))))) (lg_X2_behind d) (TbC.ev (b_X2_behind d) (L := (8 * (d + 1) + 23)) (μ := 32) (M := [91, 92, 94, 217, 218, 285, 286, 287, 288, 901]) rfl (by decide +kernel) rfl (by decide +kernel) (by decide +kernel) (fun _ _ _ _ hP _ => by
    obtain ⟨p0, p1, p2, rfl, hH, ht⟩ := hP
    first
      | exact ⟨hH.1, ht⟩
      | exact ⟨hH.1, ht.1⟩) (fun _ _ _ _ _ _ => trivial) (Or.inl ⟨by decide +kernel, by decide +kernel⟩))
theorem vs_X2_assign (l : Launch) (d : Nat) (h_X2_behind : CMetC l (8 * (d + 1) + 23) 32 (P_X2_behind (d + 1)) (EvQ ((8 * (d + 1) + 23) + 1) 32 Q_X2_behind)) : CMetC l (8 * (d + 1) + 24) 29 (P_X2_assign (d + 1)) (EvQ ((8 * (d + 1) + 24) + 1) 29 Q_X2_assign) :=
  CMetC.of KX2_assign (uc2C [(32, (P_X2_behind (d + 1)), Q_X2_behind)] ([32].map (fun c => (c, EvF (8 * (d + 1) + 24) c)))) hX2_assign (by decide) (by omega) okX2_assign (cc1C (CMetC.up (h_X2_behind) (by first | decide | omega)) (by omega) cc0C) (lg_X2_assign d) (TbC.ev (b_X2_assign d) (L := (8 * (d + 1) + 24)) (μ := 29) (M := [91, 92, 94, 217, 218, 285, 286, 287, 288, 901]) rfl (by decide +kernel) rfl (by decide +kernel) (by decide +kernel) (fun _ _ _ _ hP _ => by
    obtain ⟨p0, p1, p2, rfl, hH, ht⟩ := hP
    first
      | exact ⟨hH.1, ht⟩
      | exact ⟨hH.1, ht.1⟩) (fun _ _ _ _ _ _ => trivial) (Or.inl ⟨by decide +kernel, by decide +kernel⟩))
theorem vs_X2_assignRow (l : Launch) (d : Nat) (h_X2_assign : CMetC l (8 * d + 24) 29 (P_X2_assign d) (EvQ ((8 * d + 24) + 1) 29 Q_X2_assign)) : CMetC l (8 * d + 25) 30 (P_X2_assignRow d) (EvQ ((8 * d + 25) + 1) 30 Q_X2_assignRow) :=
  CMetC.of KX2_assignRow (uc2C [(29, (P_X2_assign d), Q_X2_assign)] ([29].map (fun c => (c, EvF (8 * d + 25) c)))) hX2_assignRow (by decide) (by omega) okX2_assignRow (cc1C (CMetC.up (h_X2_assign) (by first | decide | omega)) (by omega) cc0C) (lg_X2_assignRow d) (TbC.ev (b_X2_assignRow d) (L := (8 * d + 25)) (μ := 30) (M := [91, 92, 94, 217, 218, 285, 286, 287, 288, 901]) rfl (by decide +kernel) rfl (by decide +kernel) (by decide +kernel) (fun _ _ _ _ hP _ => by
    obtain ⟨p0, p1, p2, rfl, hH, ht⟩ := hP
    first
      | exact ⟨hH.1, ht⟩
      | exact ⟨hH.1, ht.1⟩) (fun _ _ _ _ _ _ => trivial) (Or.inl ⟨by decide +kernel, by decide +kernel⟩))
theorem vs_X0_layBody (l : Launch) (d : Nat) (h_X0_layRow : CMetC l (8 * d + 25) 5 (P_X0_layRow d) (EvQ ((8 * d + 25) + 1) 5 Q_X0_layRow)) : CMetC l (8 * (d + 1) + 21) 4 (P_X0_layBody (d + 1)) (EvQ ((8 * (d + 1) + 21) + 1) 4 Q_X0_layBody) :=
  CMetC.of KX0_layBody (uc2C [(5, (P_X0_layRow d), Q_X0_layRow)] ([5].map (fun c => (c, EvF (8 * (d + 1) + 21) c)))) hX0_layBody (by decide) (by omega) okX0_layBody (cc1C (CMetC.up (h_X0_layRow) (by first | decide | omega)) (by omega) cc0C) (lg_X0_layBody d) (TbC.ev (b_X0_layBody d) (L := (8 * (d + 1) + 21)) (μ := 4) (M := [34, 36, 77, 289, 290, 900, 902]) rfl (by decide +kernel) rfl (by decide +kernel) (by decide +kernel) (fun _ _ _ _ hP _ => by
    obtain ⟨p0, p1, rfl, hH, ht⟩ := hP
    first
      | exact ⟨hH.1, ht⟩
      | exact ⟨hH.1, ht.1⟩) (fun _ _ _ _ _ _ => trivial) (Or.inl ⟨by decide +kernel, by decide +kernel⟩))
theorem vs_X0_layIf (l : Launch) (d : Nat) (h_X0_layInner : CMetC l (8 * d + 25) 7 (P_X0_layInner d) (EvQ ((8 * d + 25) + 1) 7 Q_X0_layInner)) (h_X0_layStatement : CMetC l (8 * d + 24) 6 (P_X0_layStatement d) (EvQ ((8 * d + 24) + 1) 6 Q_X0_layStatement)) : CMetC l (8 * (d + 1) + 22) 10 (P_X0_layIf (d + 1)) (EvQ ((8 * (d + 1) + 22) + 1) 10 Q_X0_layIf) :=
  CMetC.of KX0_layIf (uc2C [(15, P_X0_layExp, Q_X0_layExp), (2, P_X0_put, Q_X0_put), (7, (P_X0_layInner d), Q_X0_layInner), (6, (P_X0_layStatement d), Q_X0_layStatement)] ([15, 2, 7, 6].map (fun c => (c, EvF (8 * (d + 1) + 22) c)))) hX0_layIf (by decide) (by omega) okX0_layIf (cc1C (CMetC.up (v_X0_layExp l) (by first | decide | omega)) (by omega) (cc1C (CMetC.up (v_X0_put l) (by first | decide | omega)) (by omega) (cc1C (CMetC.up (h_X0_layInner) (by first | decide | omega)) (by omega) (cc1C (CMetC.up (h_X0_layStatement) (by first | decide | omega)) (by omega) cc0C)))) (lg_X0_layIf d) (TbC.ev (b_X0_layIf d) (L := (8 * (d + 1) + 22)) (μ := 10) (M := [34, 36, 77, 289, 290, 900, 902]) rfl (by decide +kernel) rfl (by decide +kernel) (by decide +kernel) (fun _ _ _ _ hP _ => by
    obtain ⟨p0, p1, rfl, hH, ht⟩ := hP
    first
      | exact ⟨hH.1, ht⟩
      | exact ⟨hH.1, ht.1⟩) (fun _ _ _ _ _ _ => trivial) (Or.inl ⟨by decide +kernel, by decide +kernel⟩))
theorem vs_X0_layWhile (l : Launch) (d : Nat) (h_X0_layInner : CMetC l (8 * d + 25) 7 (P_X0_layInner d) (EvQ ((8 * d + 25) + 1) 7 Q_X0_layInner)) : CMetC l (8 * (d + 1) + 22) 11 (P_X0_layWhile (d + 1)) (EvQ ((8 * (d + 1) + 22) + 1) 11 Q_X0_layWhile) :=
  CMetC.of KX0_layWhile (uc2C [(2, P_X0_put, Q_X0_put), (15, P_X0_layExp, Q_X0_layExp), (7, (P_X0_layInner d), Q_X0_layInner), (3, P_X0_jumpTo, Q_X0_jumpTo)] ([2, 15, 7, 3].map (fun c => (c, EvF (8 * (d + 1) + 22) c)))) hX0_layWhile (by decide) (by omega) okX0_layWhile (cc1C (CMetC.up (v_X0_put l) (by first | decide | omega)) (by omega) (cc1C (CMetC.up (v_X0_layExp l) (by first | decide | omega)) (by omega) (cc1C (CMetC.up (h_X0_layInner) (by first | decide | omega)) (by omega) (cc1C (CMetC.up (v_X0_jumpTo l) (by first | decide | omega)) (by omega) cc0C)))) (lg_X0_layWhile d) (TbC.ev (b_X0_layWhile d) (L := (8 * (d + 1) + 22)) (μ := 11) (M := [34, 36, 77, 289, 290, 900, 902]) rfl (by decide +kernel) rfl (by decide +kernel) (by decide +kernel) (fun _ _ _ _ hP _ => by
    obtain ⟨p0, p1, rfl, hH, ht⟩ := hP
    first
      | exact ⟨hH.1, ht⟩
      | exact ⟨hH.1, ht.1⟩) (fun _ _ _ _ _ _ => trivial) (Or.inl ⟨by decide +kernel, by decide +kernel⟩))
theorem vs_X0_layDo (l : Launch) (d : Nat) (h_X0_layInner : CMetC l (8 * d + 25) 7 (P_X0_layInner d) (EvQ ((8 * d + 25) + 1) 7 Q_X0_layInner)) : CMetC l (8 * (d + 1) + 22) 12 (P_X0_layDo (d + 1)) (EvQ ((8 * (d + 1) + 22) + 1) 12 Q_X0_layDo) :=
  CMetC.of KX0_layDo (uc2C [(7, (P_X0_layInner d), Q_X0_layInner), (2, P_X0_put, Q_X0_put), (15, P_X0_layExp, Q_X0_layExp), (3, P_X0_jumpTo, Q_X0_jumpTo)] ([7, 2, 15, 3].map (fun c => (c, EvF (8 * (d + 1) + 22) c)))) hX0_layDo (by decide) (by omega) okX0_layDo (cc1C (CMetC.up (h_X0_layInner) (by first | decide | omega)) (by omega) (cc1C (CMetC.up (v_X0_put l) (by first | decide | omega)) (by omega) (cc1C (CMetC.up (v_X0_layExp l) (by first | decide | omega)) (by omega) (cc1C (CMetC.up (v_X0_jumpTo l) (by first | decide | omega)) (by omega) cc0C)))) (lg_X0_layDo d) (TbC.ev (b_X0_layDo d) (L := (8 * (d + 1) + 22)) (μ := 12) (M := [34, 36, 77, 289, 290, 900, 902]) rfl (by decide +kernel) rfl (by decide +kernel) (by decide +kernel) (fun _ _ _ _ hP _ => by
    obtain ⟨p0, p1, rfl, hH, ht⟩ := hP
    first
      | exact ⟨hH.1, ht⟩
      | exact ⟨hH.1, ht.1⟩) (fun _ _ _ _ _ _ => trivial) (Or.inl ⟨by decide +kernel, by decide +kernel⟩))
theorem vs_X0_layFor (l : Launch) (d : Nat) (h_X0_layRow : CMetC l (8 * d + 25) 5 (P_X0_layRow d) (EvQ ((8 * d + 25) + 1) 5 Q_X0_layRow)) (h_X0_layInner : CMetC l (8 * d + 25) 7 (P_X0_layInner d) (EvQ ((8 * d + 25) + 1) 7 Q_X0_layInner)) : CMetC l (8 * (d + 1) + 22) 13 (P_X0_layFor (d + 1)) (EvQ ((8 * (d + 1) + 22) + 1) 13 Q_X0_layFor) :=
  CMetC.of KX0_layFor (uc2C [(5, (P_X0_layRow d), Q_X0_layRow), (2, P_X0_put, Q_X0_put), (3, P_X0_jumpTo, Q_X0_jumpTo), (7, (P_X0_layInner d), Q_X0_layInner), (15, P_X0_layExp, Q_X0_layExp)] ([5, 2, 3, 7, 15].map (fun c => (c, EvF (8 * (d + 1) + 22) c)))) hX0_layFor (by decide) (by omega) okX0_layFor (cc1C (CMetC.up (h_X0_layRow) (by first | decide | omega)) (by omega) (cc1C (CMetC.up (v_X0_put l) (by first | decide | omega)) (by omega) (cc1C (CMetC.up (v_X0_jumpTo l) (by first | decide | omega)) (by omega) (cc1C (CMetC.up (h_X0_layInner) (by first | decide | omega)) (by omega) (cc1C (CMetC.up (v_X0_layExp l) (by first | decide | omega)) (by omega) cc0C))))) (lg_X0_layFor d) (TbC.ev (b_X0_layFor d) (L := (8 * (d + 1) + 22)) (μ := 13) (M := [34, 36, 77, 289, 290, 900, 902]) rfl (by decide +kernel) rfl (by decide +kernel) (by decide +kernel) (fun _ _ _ _ hP _ => by
    obtain ⟨p0, p1, rfl, hH, ht⟩ := hP
    first
      | exact ⟨hH.1, ht⟩
      | exact ⟨hH.1, ht.1⟩) (fun _ _ _ _ _ _ => trivial) (Or.inl ⟨by decide +kernel, by decide +kernel⟩))
theorem vs_X0_layTry (l : Launch) (d : Nat) (h_X0_layBody : CMetC l (8 * d + 21) 4 (P_X0_layBody d) (EvQ ((8 * d + 21) + 1) 4 Q_X0_layBody)) : CMetC l (8 * (d + 1) + 22) 14 (P_X0_layTry (d + 1)) (EvQ ((8 * (d + 1) + 22) + 1) 14 Q_X0_layTry) :=
  CMetC.of KX0_layTry (uc2C [(2, P_X0_put, Q_X0_put), (4, (P_X0_layBody d), Q_X0_layBody)] ([2, 4].map (fun c => (c, EvF (8 * (d + 1) + 22) c)))) hX0_layTry (by decide) (by omega) okX0_layTry (cc1C (CMetC.up (v_X0_put l) (by first | decide | omega)) (by omega) (cc1C (CMetC.up (h_X0_layBody) (by first | decide | omega)) (by omega) cc0C)) (lg_X0_layTry d) (TbC.ev (b_X0_layTry d) (L := (8 * (d + 1) + 22)) (μ := 14) (M := [34, 36, 77, 289, 290, 900, 902]) rfl (by decide +kernel) rfl (by decide +kernel) (by decide +kernel) (fun _ _ _ _ hP _ => by
    obtain ⟨p0, p1, rfl, hH, ht⟩ := hP
    first
      | exact ⟨hH.1, ht⟩
      | exact ⟨hH.1, ht.1⟩) (fun _ _ _ _ _ _ => trivial) (Or.inl ⟨by decide +kernel, by decide +kernel⟩))
theorem vs_X0_layInside (l : Launch) (d : Nat) (h_X0_layRow : CMetC l (8 * d + 25) 5 (P_X0_layRow d) (EvQ ((8 * d + 25) + 1) 5 Q_X0_layRow)) (h_X0_layInner : CMetC l (8 * d + 25) 7 (P_X0_layInner d) (EvQ ((8 * d + 25) + 1) 7 Q_X0_layInner)) (h_X0_layIf : CMetC l (8 * (d + 1) + 22) 10 (P_X0_layIf (d + 1)) (EvQ ((8 * (d + 1) + 22) + 1) 10 Q_X0_layIf)) (h_X0_layWhile : CMetC l (8 * (d + 1) + 22) 11 (P_X0_layWhile (d + 1)) (EvQ ((8 * (d + 1) + 22) + 1) 11 Q_X0_layWhile)) (h_X0_layDo : CMetC l (8 * (d + 1) + 22) 12 (P_X0_layDo (d + 1)) (EvQ ((8 * (d + 1) + 22) + 1) 12 Q_X0_layDo)) (h_X0_layFor : CMetC l (8 * (d + 1) + 22) 13 (P_X0_layFor (d + 1)) (EvQ ((8 * (d + 1) + 22) + 1) 13 Q_X0_layFor)) (h_X0_layTry : CMetC l (8 * (d + 1) + 22) 14 (P_X0_layTry (d + 1)) (EvQ ((8 * (d + 1) + 22) + 1) 14 Q_X0_layTry)) : CMetC l (8 * (d + 1) + 23) 8 (P_X0_layInside (d + 1)) (EvQ ((8 * (d + 1) + 23) + 1) 8 Q_X0_layInside) :=
  CMetC.of KX0_layInside (uc2C [(5, (P_X0_layRow d), Q_X0_layRow), (7, (P_X0_layInner d), Q_X0_layInner), (10, (P_X0_layIf (d + 1)), Q_X0_layIf), (11, (P_X0_layWhile (d + 1)), Q_X0_layWhile), (12, (P_X0_layDo (d + 1)), Q_X0_layDo), (13, (P_X0_layFor (d + 1)), Q_X0_layFor), (15, P_X0_layExp, Q_X0_layExp), (2, P_X0_put, Q_X0_put), (14, (P_X0_layTry (d + 1)), Q_X0_layTry), (9, P_X0_layTold, Q_X0_layTold)] ([5, 7, 10, 11, 12, 13, 15, 2, 14, 9].map (fun c => (c, EvF (8 * (d + 1) + 23) c)))) hX0_layInside (by decide) (by omega) okX0_layInside (cc1C (CMetC.up (h_X0_layRow) (by first | decide | omega)) (by omega) (cc1C (CMetC.up (h_X0_layInner) (by first | decide | omega)) (by omega) (cc1C (CMetC.up (h_X0_layIf) (by first | decide | omega)) (by omega) (cc1C (CMetC.up (h_X0_layWhile) (by first | decide | omega)) (by omega) (cc1C (CMetC.up (h_X0_layDo) (by first | decide | omega)) (by omega) (cc1C (CMetC.up (h_X0_layFor) (by first | decide | omega)) (by omega) (cc1C (CMetC.up (v_X0_layExp l) (by first | decide | omega)) (by omega) (cc1C (CMetC.up (v_X0_put l) (by first | decide | omega)) (by omega) (cc1C (CMetC.up (h_X0_layTry) (by first | decide | omega)) (by omega) (cc1C (CMetC.up (v_X0_layTold l) (by first | decide | omega)) (by omega) cc0C)))))))))) (lg_X0_layInside d) (TbC.ev (b_X0_layInside d) (L := (8 * (d + 1) + 23)) (μ := 8) (M := [34, 36, 77, 289, 290, 900, 902]) rfl (by decide +kernel) rfl (by decide +kernel) (by decide +kernel) (fun _ _ _ _ hP _ => by
    obtain ⟨p0, p1, rfl, hH, ht⟩ := hP
    first
      | exact ⟨hH.1, ht⟩
      | exact ⟨hH.1, ht.1⟩) (fun _ _ _ _ _ _ => trivial) (Or.inl ⟨by decide +kernel, by decide +kernel⟩))
theorem vs_X0_layStatement (l : Launch) (d : Nat) (h_X0_layInside : CMetC l (8 * (d + 1) + 23) 8 (P_X0_layInside (d + 1)) (EvQ ((8 * (d + 1) + 23) + 1) 8 Q_X0_layInside)) : CMetC l (8 * (d + 1) + 24) 6 (P_X0_layStatement (d + 1)) (EvQ ((8 * (d + 1) + 24) + 1) 6 Q_X0_layStatement) :=
  CMetC.of KX0_layStatement (uc2C [(180, P_X8_isPart, Q_X8_isPart), (8, (P_X0_layInside (d + 1)), Q_X0_layInside), (2, P_X0_put, Q_X0_put)] ([180, 8, 2].map (fun c => (c, EvF (8 * (d + 1) + 24) c)))) hX0_layStatement (by decide) (by omega) okX0_layStatement (cc1C (CMetC.up (v_X8_isPart l) (by first | decide | omega)) (by omega) (cc1C (CMetC.up (h_X0_layInside) (by first | decide | omega)) (by omega) (cc1C (CMetC.up (v_X0_put l) (by first | decide | omega)) (by omega) cc0C))) (lg_X0_layStatement d) (TbC.ev (b_X0_layStatement d) (L := (8 * (d + 1) + 24)) (μ := 6) (M := [34, 36, 77, 289, 290, 900, 902]) rfl (by decide +kernel) rfl (by decide +kernel) (by decide +kernel) (fun _ _ _ _ hP _ => by
    obtain ⟨p0, p1, rfl, hH, ht⟩ := hP
    first
      | exact ⟨hH.1, ht⟩
      | exact ⟨hH.1, ht.1⟩) (fun _ _ _ _ _ _ => trivial) (Or.inl ⟨by decide +kernel, by decide +kernel⟩))
theorem vs_X0_layInner (l : Launch) (d : Nat) (h_X0_layStatement : CMetC l (8 * d + 24) 6 (P_X0_layStatement d) (EvQ ((8 * d + 24) + 1) 6 Q_X0_layStatement)) : CMetC l (8 * d + 25) 7 (P_X0_layInner d) (EvQ ((8 * d + 25) + 1) 7 Q_X0_layInner) :=
  CMetC.of KX0_layInner (uc2C [(6, (P_X0_layStatement d), Q_X0_layStatement)] ([6].map (fun c => (c, EvF (8 * d + 25) c)))) hX0_layInner (by decide) (by omega) okX0_layInner (cc1C (CMetC.up (h_X0_layStatement) (by first | decide | omega)) (by omega) cc0C) (lg_X0_layInner d) (TbC.ev (b_X0_layInner d) (L := (8 * d + 25)) (μ := 7) (M := [34, 36, 77, 289, 290, 900, 902]) rfl (by decide +kernel) rfl (by decide +kernel) (by decide +kernel) (fun _ _ _ _ hP _ => by
    obtain ⟨p0, p1, rfl, hH, ht⟩ := hP
    first
      | exact ⟨hH.1, ht⟩
      | exact ⟨hH.1, ht.1⟩) (fun _ _ _ _ _ _ => trivial) (Or.inl ⟨by decide +kernel, by decide +kernel⟩))
theorem vs_X0_layRow (l : Launch) (d : Nat) (h_X0_layStatement : CMetC l (8 * d + 24) 6 (P_X0_layStatement d) (EvQ ((8 * d + 24) + 1) 6 Q_X0_layStatement)) : CMetC l (8 * d + 25) 5 (P_X0_layRow d) (EvQ ((8 * d + 25) + 1) 5 Q_X0_layRow) :=
  CMetC.of KX0_layRow (uc2C [(6, (P_X0_layStatement d), Q_X0_layStatement)] ([6].map (fun c => (c, EvF (8 * d + 25) c)))) hX0_layRow (by decide) (by omega) okX0_layRow (cc1C (CMetC.up (h_X0_layStatement) (by first | decide | omega)) (by omega) cc0C) (lg_X0_layRow d) (TbC.ev (b_X0_layRow d) (L := (8 * d + 25)) (μ := 5) (M := [34, 36, 77, 289, 290, 900, 902]) rfl (by decide +kernel) rfl (by decide +kernel) (by decide +kernel) (fun _ _ _ _ hP _ => by
    obtain ⟨p0, p1, rfl, hH, ht⟩ := hP
    first
      | exact ⟨hH.1, ht⟩
      | exact ⟨hH.1, ht.1⟩) (fun _ _ _ _ _ _ => trivial) (Or.inl ⟨by decide +kernel, by decide +kernel⟩))
theorem vrecA (l : Launch) : ∀ n : Nat, CMetC l (8 * n + 21) 21 (P_X2_reachRow n) (EvQ ((8 * n + 21) + 1) 21 Q_X2_reachRow) ∧ CMetC l (8 * n + 21) 24 (P_X2_reachBody n) (EvQ ((8 * n + 21) + 1) 24 Q_X2_reachBody) ∧ CMetC l (8 * n + 21) 25 (P_X2_reachSwitch n) (EvQ ((8 * n + 21) + 1) 25 Q_X2_reachSwitch) ∧ CMetC l (8 * n + 21) 26 (P_X2_reachTry n) (EvQ ((8 * n + 21) + 1) 26 Q_X2_reachTry) ∧ CMetC l (8 * n + 22) 23 (P_X2_reachInside n) (EvQ ((8 * n + 22) + 1) 23 Q_X2_reachInside) ∧ CMetC l (8 * n + 23) 22 (P_X2_reach n) (EvQ ((8 * n + 23) + 1) 22 Q_X2_reach) := by
  intro n
  induction n with
  | zero =>
    have i_X2_reachRow : CMetC l (8 * 0 + 21) 21 (P_X2_reachRow 0) (EvQ ((8 * 0 + 21) + 1) 21 Q_X2_reachRow) := CMetC.no hX2_reachRow (by rintro As σ ⟨p0, p1, rfl, H0, h_0_0, h_1_0, q0, q1⟩; exact RkC.no H0 h_1_0 q0)
    have i_X2_reachBody : CMetC l (8 * 0 + 21) 24 (P_X2_reachBody 0) (EvQ ((8 * 0 + 21) + 1) 24 Q_X2_reachBody) := CMetC.no hX2_reachBody (by rintro As σ ⟨p0, p1, p2, rfl, H0, h_0_0, h_1_0, h_2_0, h_2_1, q0⟩; exact RkC.no H0 h_1_0 q0)
    have i_X2_reachSwitch : CMetC l (8 * 0 + 21) 25 (P_X2_reachSwitch 0) (EvQ ((8 * 0 + 21) + 1) 25 Q_X2_reachSwitch) := CMetC.no hX2_reachSwitch (by rintro As σ ⟨p0, p1, rfl, H0, h_0_0, h_1_0, q0, q1⟩; exact RkC.no H0 h_1_0 q0)
    have i_X2_reachTry : CMetC l (8 * 0 + 21) 26 (P_X2_reachTry 0) (EvQ ((8 * 0 + 21) + 1) 26 Q_X2_reachTry) := CMetC.no hX2_reachTry (by rintro As σ ⟨p0, p1, rfl, H0, h_0_0, h_1_0, q0, q1⟩; exact RkC.no H0 h_1_0 q0)
    have i_X2_reachInside : CMetC l (8 * 0 + 22) 23 (P_X2_reachInside 0) (EvQ ((8 * 0 + 22) + 1) 23 Q_X2_reachInside) := CMetC.no hX2_reachInside (by rintro As σ ⟨p0, p1, rfl, H0, h_0_0, h_1_0, q0⟩; exact RkC.no H0 h_1_0 q0)
    have i_X2_reach : CMetC l (8 * 0 + 23) 22 (P_X2_reach 0) (EvQ ((8 * 0 + 23) + 1) 22 Q_X2_reach) := CMetC.no hX2_reach (by rintro As σ ⟨p0, p1, p2, rfl, H0, h_0_0, h_1_0, h_2_0, h_2_1, q0⟩; exact RkC.no H0 h_1_0 q0)
    exact ⟨i_X2_reachRow, i_X2_reachBody, i_X2_reachSwitch, i_X2_reachTry, i_X2_reachInside, i_X2_reach⟩
  | succ d ih =>
    obtain ⟨o_X2_reachRow, o_X2_reachBody, o_X2_reachSwitch, o_X2_reachTry, o_X2_reachInside, o_X2_reach⟩ := ih
    have i_X2_reachRow : CMetC l (8 * (d + 1) + 21) 21 (P_X2_reachRow (d + 1)) (EvQ ((8 * (d + 1) + 21) + 1) 21 Q_X2_reachRow) := vs_X2_reachRow l d o_X2_reach
    have i_X2_reachBody : CMetC l (8 * (d + 1) + 21) 24 (P_X2_reachBody (d + 1)) (EvQ ((8 * (d + 1) + 21) + 1) 24 Q_X2_reachBody) := vs_X2_reachBody l d o_X2_reach
    have i_X2_reachSwitch : CMetC l (8 * (d + 1) + 21) 25 (P_X2_reachSwitch (d + 1)) (EvQ ((8 * (d + 1) + 21) + 1) 25 Q_X2_reachSwitch) := vs_X2_reachSwitch l d o_X2_reach
    have i_X2_reachTry : CMetC l (8 * (d + 1) + 21) 26 (P_X2_reachTry (d + 1)) (EvQ ((8 * (d + 1) + 21) + 1) 26 Q_X2_reachTry) := vs_X2_reachTry l d o_X2_reachRow
    have i_X2_reachInside : CMetC l (8 * (d + 1) + 22) 23 (P_X2_reachInside (d + 1)) (EvQ ((8 * (d + 1) + 22) + 1) 23 Q_X2_reachInside) := vs_X2_reachInside l d i_X2_reachRow i_X2_reachBody o_X2_reach i_X2_reachSwitch i_X2_reachTry
    have i_X2_reach : CMetC l (8 * (d + 1) + 23) 22 (P_X2_reach (d + 1)) (EvQ ((8 * (d + 1) + 23) + 1) 22 Q_X2_reach) := vs_X2_reach l d i_X2_reachInside
    exact ⟨i_X2_reachRow, i_X2_reachBody, i_X2_reachSwitch, i_X2_reachTry, i_X2_reachInside, i_X2_reach⟩
theorem v_X2_reachRow (l : Launch) (n : Nat) : CMetC l (8 * n + 21) 21 (P_X2_reachRow n) (EvQ ((8 * n + 21) + 1) 21 Q_X2_reachRow) := (vrecA l n).1
theorem v_X2_reachBody (l : Launch) (n : Nat) : CMetC l (8 * n + 21) 24 (P_X2_reachBody n) (EvQ ((8 * n + 21) + 1) 24 Q_X2_reachBody) := (vrecA l n).2.1
theorem v_X2_reachSwitch (l : Launch) (n : Nat) : CMetC l (8 * n + 21) 25 (P_X2_reachSwitch n) (EvQ ((8 * n + 21) + 1) 25 Q_X2_reachSwitch) := (vrecA l n).2.2.1
theorem v_X2_reachTry (l : Launch) (n : Nat) : CMetC l (8 * n + 21) 26 (P_X2_reachTry n) (EvQ ((8 * n + 21) + 1) 26 Q_X2_reachTry) := (vrecA l n).2.2.2.1
theorem v_X2_reachInside (l : Launch) (n : Nat) : CMetC l (8 * n + 22) 23 (P_X2_reachInside n) (EvQ ((8 * n + 22) + 1) 23 Q_X2_reachInside) := (vrecA l n).2.2.2.2.1
theorem v_X2_reach (l : Launch) (n : Nat) : CMetC l (8 * n + 23) 22 (P_X2_reach n) (EvQ ((8 * n + 23) + 1) 22 Q_X2_reach) := (vrecA l n).2.2.2.2.2

theorem vrecB (l : Launch) : ∀ n : Nat, CMetC l (8 * n + 21) 31 (P_X2_assignBody n) (EvQ ((8 * n + 21) + 1) 31 Q_X2_assignBody) ∧ CMetC l (8 * n + 22) 35 (P_X2_behindIf n) (EvQ ((8 * n + 22) + 1) 35 Q_X2_behindIf) ∧ CMetC l (8 * n + 22) 36 (P_X2_behindLoop n) (EvQ ((8 * n + 22) + 1) 36 Q_X2_behindLoop) ∧ CMetC l (8 * n + 22) 37 (P_X2_behindSwitch n) (EvQ ((8 * n + 22) + 1) 37 Q_X2_behindSwitch) ∧ CMetC l (8 * n + 22) 38 (P_X2_behindTry n) (EvQ ((8 * n + 22) + 1) 38 Q_X2_behindTry) ∧ CMetC l (8 * n + 23) 32 (P_X2_behind n) (EvQ ((8 * n + 23) + 1) 32 Q_X2_behind) ∧ CMetC l (8 * n + 24) 29 (P_X2_assign n) (EvQ ((8 * n + 24) + 1) 29 Q_X2_assign) ∧ CMetC l (8 * n + 25) 30 (P_X2_assignRow n) (EvQ ((8 * n + 25) + 1) 30 Q_X2_assignRow) := by
  intro n
  induction n with
  | zero =>
    have i_X2_assignBody : CMetC l (8 * 0 + 21) 31 (P_X2_assignBody 0) (EvQ ((8 * 0 + 21) + 1) 31 Q_X2_assignBody) := CMetC.no hX2_assignBody (by rintro As σ ⟨p0, p1, p2, rfl, H0, h_0_0, h_1_0, q0⟩; exact RkC.no H0 h_1_0 q0)
    have i_X2_behindIf : CMetC l (8 * 0 + 22) 35 (P_X2_behindIf 0) (EvQ ((8 * 0 + 22) + 1) 35 Q_X2_behindIf) := CMetC.no hX2_behindIf (by rintro As σ ⟨p0, p1, p2, rfl, H0, h_0_0, h_1_0, q0⟩; exact RkC.no H0 h_1_0 q0)
    have i_X2_behindLoop : CMetC l (8 * 0 + 22) 36 (P_X2_behindLoop 0) (EvQ ((8 * 0 + 22) + 1) 36 Q_X2_behindLoop) := CMetC.no hX2_behindLoop (by rintro As σ ⟨p0, p1, p2, rfl, H0, h_0_0, h_1_0, q0⟩; exact RkC.no H0 h_1_0 q0)
    have i_X2_behindSwitch : CMetC l (8 * 0 + 22) 37 (P_X2_behindSwitch 0) (EvQ ((8 * 0 + 22) + 1) 37 Q_X2_behindSwitch) := CMetC.no hX2_behindSwitch (by rintro As σ ⟨p0, p1, p2, rfl, H0, h_0_0, h_1_0, q0, q1⟩; exact RkC.no H0 h_1_0 q0)
    have i_X2_behindTry : CMetC l (8 * 0 + 22) 38 (P_X2_behindTry 0) (EvQ ((8 * 0 + 22) + 1) 38 Q_X2_behindTry) := CMetC.no hX2_behindTry (by rintro As σ ⟨p0, p1, p2, rfl, H0, h_0_0, h_1_0, q0⟩; exact RkC.no H0 h_1_0 q0)
    have i_X2_behind : CMetC l (8 * 0 + 23) 32 (P_X2_behind 0) (EvQ ((8 * 0 + 23) + 1) 32 Q_X2_behind) := CMetC.no hX2_behind (by rintro As σ ⟨p0, p1, p2, rfl, H0, h_0_0, h_1_0, q0⟩; exact RkC.no H0 h_1_0 q0)
    have i_X2_assign : CMetC l (8 * 0 + 24) 29 (P_X2_assign 0) (EvQ ((8 * 0 + 24) + 1) 29 Q_X2_assign) := CMetC.no hX2_assign (by rintro As σ ⟨p0, p1, p2, rfl, H0, h_0_0, h_1_0, q0⟩; exact RkC.no H0 h_1_0 q0)
    have i_X2_assignRow : CMetC l (8 * 0 + 25) 30 (P_X2_assignRow 0) (EvQ ((8 * 0 + 25) + 1) 30 Q_X2_assignRow) := vs_X2_assignRow l 0 i_X2_assign
    exact ⟨i_X2_assignBody, i_X2_behindIf, i_X2_behindLoop, i_X2_behindSwitch, i_X2_behindTry, i_X2_behind, i_X2_assign, i_X2_assignRow⟩
  | succ d ih =>
    obtain ⟨o_X2_assignBody, o_X2_behindIf, o_X2_behindLoop, o_X2_behindSwitch, o_X2_behindTry, o_X2_behind, o_X2_assign, o_X2_assignRow⟩ := ih
    have i_X2_assignBody : CMetC l (8 * (d + 1) + 21) 31 (P_X2_assignBody (d + 1)) (EvQ ((8 * (d + 1) + 21) + 1) 31 Q_X2_assignBody) := vs_X2_assignBody l d o_X2_assign
    have i_X2_behindIf : CMetC l (8 * (d + 1) + 22) 35 (P_X2_behindIf (d + 1)) (EvQ ((8 * (d + 1) + 22) + 1) 35 Q_X2_behindIf) := vs_X2_behindIf l d i_X2_assignBody o_X2_assign
    have i_X2_behindLoop : CMetC l (8 * (d + 1) + 22) 36 (P_X2_behindLoop (d + 1)) (EvQ ((8 * (d + 1) + 22) + 1) 36 Q_X2_behindLoop) := vs_X2_behindLoop l d i_X2_assignBody o_X2_assignRow
    have i_X2_behindSwitch : CMetC l (8 * (d + 1) + 22) 37 (P_X2_behindSwitch (d + 1)) (EvQ ((8 * (d + 1) + 22) + 1) 37 Q_X2_behindSwitch) := vs_X2_behindSwitch l d o_X2_assign
    have i_X2_behindTry : CMetC l (8 * (d + 1) + 22) 38 (P_X2_behindTry (d + 1)) (EvQ ((8 * (d + 1) + 22) + 1) 38 Q_X2_behindTry) := vs_X2_behindTry l d o_X2_assign i_X2_assignBody
    have i_X2_behind : CMetC l (8 * (d + 1) + 23) 32 (P_X2_behind (d + 1)) (EvQ ((8 * (d + 1) + 23) + 1) 32 Q_X2_behind) := vs_X2_behind l d o_X2_assignRow i_X2_assignBody i_X2_behindIf i_X2_behindLoop i_X2_behindSwitch i_X2_behindTry
    have i_X2_assign : CMetC l (8 * (d + 1) + 24) 29 (P_X2_assign (d + 1)) (EvQ ((8 * (d + 1) + 24) + 1) 29 Q_X2_assign) := vs_X2_assign l d i_X2_behind
    have i_X2_assignRow : CMetC l (8 * (d + 1) + 25) 30 (P_X2_assignRow (d + 1)) (EvQ ((8 * (d + 1) + 25) + 1) 30 Q_X2_assignRow) := vs_X2_assignRow l (d + 1) i_X2_assign
    exact ⟨i_X2_assignBody, i_X2_behindIf, i_X2_behindLoop, i_X2_behindSwitch, i_X2_behindTry, i_X2_behind, i_X2_assign, i_X2_assignRow⟩
theorem v_X2_assignBody (l : Launch) (n : Nat) : CMetC l (8 * n + 21) 31 (P_X2_assignBody n) (EvQ ((8 * n + 21) + 1) 31 Q_X2_assignBody) := (vrecB l n).1
theorem v_X2_behindIf (l : Launch) (n : Nat) : CMetC l (8 * n + 22) 35 (P_X2_behindIf n) (EvQ ((8 * n + 22) + 1) 35 Q_X2_behindIf) := (vrecB l n).2.1
theorem v_X2_behindLoop (l : Launch) (n : Nat) : CMetC l (8 * n + 22) 36 (P_X2_behindLoop n) (EvQ ((8 * n + 22) + 1) 36 Q_X2_behindLoop) := (vrecB l n).2.2.1
theorem v_X2_behindSwitch (l : Launch) (n : Nat) : CMetC l (8 * n + 22) 37 (P_X2_behindSwitch n) (EvQ ((8 * n + 22) + 1) 37 Q_X2_behindSwitch) := (vrecB l n).2.2.2.1
theorem v_X2_behindTry (l : Launch) (n : Nat) : CMetC l (8 * n + 22) 38 (P_X2_behindTry n) (EvQ ((8 * n + 22) + 1) 38 Q_X2_behindTry) := (vrecB l n).2.2.2.2.1
theorem v_X2_behind (l : Launch) (n : Nat) : CMetC l (8 * n + 23) 32 (P_X2_behind n) (EvQ ((8 * n + 23) + 1) 32 Q_X2_behind) := (vrecB l n).2.2.2.2.2.1
theorem v_X2_assign (l : Launch) (n : Nat) : CMetC l (8 * n + 24) 29 (P_X2_assign n) (EvQ ((8 * n + 24) + 1) 29 Q_X2_assign) := (vrecB l n).2.2.2.2.2.2.1
theorem v_X2_assignRow (l : Launch) (n : Nat) : CMetC l (8 * n + 25) 30 (P_X2_assignRow n) (EvQ ((8 * n + 25) + 1) 30 Q_X2_assignRow) := (vrecB l n).2.2.2.2.2.2.2

theorem vrecC (l : Launch) : ∀ n : Nat, CMetC l (8 * n + 21) 4 (P_X0_layBody n) (EvQ ((8 * n + 21) + 1) 4 Q_X0_layBody) ∧ CMetC l (8 * n + 22) 10 (P_X0_layIf n) (EvQ ((8 * n + 22) + 1) 10 Q_X0_layIf) ∧ CMetC l (8 * n + 22) 11 (P_X0_layWhile n) (EvQ ((8 * n + 22) + 1) 11 Q_X0_layWhile) ∧ CMetC l (8 * n + 22) 12 (P_X0_layDo n) (EvQ ((8 * n + 22) + 1) 12 Q_X0_layDo) ∧ CMetC l (8 * n + 22) 13 (P_X0_layFor n) (EvQ ((8 * n + 22) + 1) 13 Q_X0_layFor) ∧ CMetC l (8 * n + 22) 14 (P_X0_layTry n) (EvQ ((8 * n + 22) + 1) 14 Q_X0_layTry) ∧ CMetC l (8 * n + 23) 8 (P_X0_layInside n) (EvQ ((8 * n + 23) + 1) 8 Q_X0_layInside) ∧ CMetC l (8 * n + 24) 6 (P_X0_layStatement n) (EvQ ((8 * n + 24) + 1) 6 Q_X0_layStatement) ∧ CMetC l (8 * n + 25) 7 (P_X0_layInner n) (EvQ ((8 * n + 25) + 1) 7 Q_X0_layInner) ∧ CMetC l (8 * n + 25) 5 (P_X0_layRow n) (EvQ ((8 * n + 25) + 1) 5 Q_X0_layRow) := by
  intro n
  induction n with
  | zero =>
    have i_X0_layBody : CMetC l (8 * 0 + 21) 4 (P_X0_layBody 0) (EvQ ((8 * 0 + 21) + 1) 4 Q_X0_layBody) := CMetC.no hX0_layBody (by rintro As σ ⟨p0, p1, rfl, H0, h_0_0, h_1_0, q0, q1⟩; exact RkC.no H0 h_1_0 q0)
    have i_X0_layIf : CMetC l (8 * 0 + 22) 10 (P_X0_layIf 0) (EvQ ((8 * 0 + 22) + 1) 10 Q_X0_layIf) := CMetC.no hX0_layIf (by rintro As σ ⟨p0, p1, rfl, H0, h_0_0, h_1_0, q0⟩; exact RkC.no H0 h_1_0 q0)
    have i_X0_layWhile : CMetC l (8 * 0 + 22) 11 (P_X0_layWhile 0) (EvQ ((8 * 0 + 22) + 1) 11 Q_X0_layWhile) := CMetC.no hX0_layWhile (by rintro As σ ⟨p0, p1, rfl, H0, h_0_0, h_1_0, q0⟩; exact RkC.no H0 h_1_0 q0)
    have i_X0_layDo : CMetC l (8 * 0 + 22) 12 (P_X0_layDo 0) (EvQ ((8 * 0 + 22) + 1) 12 Q_X0_layDo) := CMetC.no hX0_layDo (by rintro As σ ⟨p0, p1, rfl, H0, h_0_0, h_1_0, q0⟩; exact RkC.no H0 h_1_0 q0)
    have i_X0_layFor : CMetC l (8 * 0 + 22) 13 (P_X0_layFor 0) (EvQ ((8 * 0 + 22) + 1) 13 Q_X0_layFor) := CMetC.no hX0_layFor (by rintro As σ ⟨p0, p1, rfl, H0, h_0_0, h_1_0, q0, q1⟩; exact RkC.no H0 h_1_0 q0)
    have i_X0_layTry : CMetC l (8 * 0 + 22) 14 (P_X0_layTry 0) (EvQ ((8 * 0 + 22) + 1) 14 Q_X0_layTry) := CMetC.no hX0_layTry (by rintro As σ ⟨p0, p1, rfl, H0, h_0_0, h_1_0, q0, q1⟩; exact RkC.no H0 h_1_0 q0)
    have i_X0_layInside : CMetC l (8 * 0 + 23) 8 (P_X0_layInside 0) (EvQ ((8 * 0 + 23) + 1) 8 Q_X0_layInside) := CMetC.no hX0_layInside (by rintro As σ ⟨p0, p1, rfl, H0, h_0_0, h_1_0, q0⟩; exact RkC.no H0 h_1_0 q0)
    have i_X0_layStatement : CMetC l (8 * 0 + 24) 6 (P_X0_layStatement 0) (EvQ ((8 * 0 + 24) + 1) 6 Q_X0_layStatement) := CMetC.no hX0_layStatement (by rintro As σ ⟨p0, p1, rfl, H0, h_0_0, h_1_0, q0⟩; exact RkC.no H0 h_1_0 q0)
    have i_X0_layInner : CMetC l (8 * 0 + 25) 7 (P_X0_layInner 0) (EvQ ((8 * 0 + 25) + 1) 7 Q_X0_layInner) := vs_X0_layInner l 0 i_X0_layStatement
    have i_X0_layRow : CMetC l (8 * 0 + 25) 5 (P_X0_layRow 0) (EvQ ((8 * 0 + 25) + 1) 5 Q_X0_layRow) := vs_X0_layRow l 0 i_X0_layStatement
    exact ⟨i_X0_layBody, i_X0_layIf, i_X0_layWhile, i_X0_layDo, i_X0_layFor, i_X0_layTry, i_X0_layInside, i_X0_layStatement, i_X0_layInner, i_X0_layRow⟩
  | succ d ih =>
    obtain ⟨o_X0_layBody, o_X0_layIf, o_X0_layWhile, o_X0_layDo, o_X0_layFor, o_X0_layTry, o_X0_layInside, o_X0_layStatement, o_X0_layInner, o_X0_layRow⟩ := ih
    have i_X0_layBody : CMetC l (8 * (d + 1) + 21) 4 (P_X0_layBody (d + 1)) (EvQ ((8 * (d + 1) + 21) + 1) 4 Q_X0_layBody) := vs_X0_layBody l d o_X0_layRow
    have i_X0_layIf : CMetC l (8 * (d + 1) + 22) 10 (P_X0_layIf (d + 1)) (EvQ ((8 * (d + 1) + 22) + 1) 10 Q_X0_layIf) := vs_X0_layIf l d o_X0_layInner o_X0_layStatement
    have i_X0_layWhile : CMetC l (8 * (d + 1) + 22) 11 (P_X0_layWhile (d + 1)) (EvQ ((8 * (d + 1) + 22) + 1) 11 Q_X0_layWhile) := vs_X0_layWhile l d o_X0_layInner
    have i_X0_layDo : CMetC l (8 * (d + 1) + 22) 12 (P_X0_layDo (d + 1)) (EvQ ((8 * (d + 1) + 22) + 1) 12 Q_X0_layDo) := vs_X0_layDo l d o_X0_layInner
    have i_X0_layFor : CMetC l (8 * (d + 1) + 22) 13 (P_X0_layFor (d + 1)) (EvQ ((8 * (d + 1) + 22) + 1) 13 Q_X0_layFor) := vs_X0_layFor l d o_X0_layRow o_X0_layInner
    have i_X0_layTry : CMetC l (8 * (d + 1) + 22) 14 (P_X0_layTry (d + 1)) (EvQ ((8 * (d + 1) + 22) + 1) 14 Q_X0_layTry) := vs_X0_layTry l d o_X0_layBody
    have i_X0_layInside : CMetC l (8 * (d + 1) + 23) 8 (P_X0_layInside (d + 1)) (EvQ ((8 * (d + 1) + 23) + 1) 8 Q_X0_layInside) := vs_X0_layInside l d o_X0_layRow o_X0_layInner i_X0_layIf i_X0_layWhile i_X0_layDo i_X0_layFor i_X0_layTry
    have i_X0_layStatement : CMetC l (8 * (d + 1) + 24) 6 (P_X0_layStatement (d + 1)) (EvQ ((8 * (d + 1) + 24) + 1) 6 Q_X0_layStatement) := vs_X0_layStatement l d i_X0_layInside
    have i_X0_layInner : CMetC l (8 * (d + 1) + 25) 7 (P_X0_layInner (d + 1)) (EvQ ((8 * (d + 1) + 25) + 1) 7 Q_X0_layInner) := vs_X0_layInner l (d + 1) i_X0_layStatement
    have i_X0_layRow : CMetC l (8 * (d + 1) + 25) 5 (P_X0_layRow (d + 1)) (EvQ ((8 * (d + 1) + 25) + 1) 5 Q_X0_layRow) := vs_X0_layRow l (d + 1) i_X0_layStatement
    exact ⟨i_X0_layBody, i_X0_layIf, i_X0_layWhile, i_X0_layDo, i_X0_layFor, i_X0_layTry, i_X0_layInside, i_X0_layStatement, i_X0_layInner, i_X0_layRow⟩
theorem v_X0_layBody (l : Launch) (n : Nat) : CMetC l (8 * n + 21) 4 (P_X0_layBody n) (EvQ ((8 * n + 21) + 1) 4 Q_X0_layBody) := (vrecC l n).1
theorem v_X0_layIf (l : Launch) (n : Nat) : CMetC l (8 * n + 22) 10 (P_X0_layIf n) (EvQ ((8 * n + 22) + 1) 10 Q_X0_layIf) := (vrecC l n).2.1
theorem v_X0_layWhile (l : Launch) (n : Nat) : CMetC l (8 * n + 22) 11 (P_X0_layWhile n) (EvQ ((8 * n + 22) + 1) 11 Q_X0_layWhile) := (vrecC l n).2.2.1
theorem v_X0_layDo (l : Launch) (n : Nat) : CMetC l (8 * n + 22) 12 (P_X0_layDo n) (EvQ ((8 * n + 22) + 1) 12 Q_X0_layDo) := (vrecC l n).2.2.2.1
theorem v_X0_layFor (l : Launch) (n : Nat) : CMetC l (8 * n + 22) 13 (P_X0_layFor n) (EvQ ((8 * n + 22) + 1) 13 Q_X0_layFor) := (vrecC l n).2.2.2.2.1
theorem v_X0_layTry (l : Launch) (n : Nat) : CMetC l (8 * n + 22) 14 (P_X0_layTry n) (EvQ ((8 * n + 22) + 1) 14 Q_X0_layTry) := (vrecC l n).2.2.2.2.2.1
theorem v_X0_layInside (l : Launch) (n : Nat) : CMetC l (8 * n + 23) 8 (P_X0_layInside n) (EvQ ((8 * n + 23) + 1) 8 Q_X0_layInside) := (vrecC l n).2.2.2.2.2.2.1
theorem v_X0_layStatement (l : Launch) (n : Nat) : CMetC l (8 * n + 24) 6 (P_X0_layStatement n) (EvQ ((8 * n + 24) + 1) 6 Q_X0_layStatement) := (vrecC l n).2.2.2.2.2.2.2.1
theorem v_X0_layInner (l : Launch) (n : Nat) : CMetC l (8 * n + 25) 7 (P_X0_layInner n) (EvQ ((8 * n + 25) + 1) 7 Q_X0_layInner) := (vrecC l n).2.2.2.2.2.2.2.2.1
theorem v_X0_layRow (l : Launch) (n : Nat) : CMetC l (8 * n + 25) 5 (P_X0_layRow n) (EvQ ((8 * n + 25) + 1) 5 Q_X0_layRow) := (vrecC l n).2.2.2.2.2.2.2.2.2
theorem v_X2_reachAll (l : Launch) : CMetC l 510 20 P_X2_reachAll (EvQ (510 + 1) 20 Q_X2_reachAll) :=
  CMetC.of KX2_reachAll (uc2C [(234, P_Jx4a65c_size_8abf5, Q_Jx4a65c_size_8abf5), (235, P_Jx4a65c_get_915e3, Q_Jx4a65c_get_915e3), (21, (P_X2_reachRow 61), Q_X2_reachRow), (118, P_X6_tell, Q_X6_tell)] ([234, 235, 21, 118].map (fun c => (c, EvF 510 c)))) hX2_reachAll (by decide) (by decide) okX2_reachAll (cc1C (CMetC.up (v_Jx4a65c_size_8abf5 l) (by first | decide | omega)) (by decide) (cc1C (CMetC.up (v_Jx4a65c_get_915e3 l) (by first | decide | omega)) (by decide) (cc1C (CMetC.up (v_X2_reachRow l 61) (by first | decide | omega)) (by decide) (cc1C (CMetC.up (v_X6_tell l) (by first | decide | omega)) (by decide) cc0C)))) (lg_X2_reachAll) (TbC.ev (b_X2_reachAll) (L := 510) (μ := 20) (M := [90, 217, 218, 282, 283, 284]) rfl (by decide +kernel) rfl (by decide +kernel) (by decide +kernel) (fun _ _ _ _ hP hQ => by
    obtain ⟨p0, p1, rfl, hH, ht⟩ := hP
    first
      | exact ⟨⟨hH.1, ht⟩, hQ.1⟩
      | exact ⟨⟨hH.1, ht.1⟩, hQ.1⟩) (fun _ _ _ _ _ _ => trivial) (Or.inl ⟨by decide +kernel, by decide +kernel⟩))
theorem v_X2_assignAll (l : Launch) : CMetC l 513 28 P_X2_assignAll (EvQ (513 + 1) 28 Q_X2_assignAll) :=
  CMetC.of KX2_assignAll (uc2C [(234, P_Jx4a65c_size_8abf5, Q_Jx4a65c_size_8abf5), (235, P_Jx4a65c_get_915e3, Q_Jx4a65c_get_915e3), (29, (P_X2_assign 61), Q_X2_assign), (222, P_X11_bit, Q_X11_bit)] ([234, 235, 29, 222].map (fun c => (c, EvF 513 c)))) hX2_assignAll (by decide) (by decide) okX2_assignAll (cc1C (CMetC.up (v_Jx4a65c_size_8abf5 l) (by first | decide | omega)) (by decide) (cc1C (CMetC.up (v_Jx4a65c_get_915e3 l) (by first | decide | omega)) (by decide) (cc1C (CMetC.up (v_X2_assign l 61) (by first | decide | omega)) (by decide) (cc1C (CMetC.up (v_X11_bit l) (by first | decide | omega)) (by decide) cc0C)))) (lg_X2_assignAll) (TbC.ev (b_X2_assignAll) (L := 513) (μ := 28) (M := [90, 91, 92, 94, 217, 218, 285, 286, 287, 288, 901]) rfl (by decide +kernel) rfl (by decide +kernel) (by decide +kernel) (fun _ _ _ _ hP hQ => by
    obtain ⟨p0, p1, rfl, hH, ht⟩ := hP
    first
      | exact ⟨⟨hH.1, ht⟩, hQ.1⟩
      | exact ⟨⟨hH.1, ht.1⟩, hQ.1⟩) (fun _ _ _ _ _ _ => trivial) (Or.inl ⟨by decide +kernel, by decide +kernel⟩))
theorem v_X0_lay (l : Launch) : CMetC l 510 1 P_X0_lay (EvQ (510 + 1) 1 Q_X0_lay) :=
  CMetC.of KX0_lay (uc2C [(234, P_Jx4a65c_size_8abf5, Q_Jx4a65c_size_8abf5), (235, P_Jx4a65c_get_915e3, Q_Jx4a65c_get_915e3), (4, (P_X0_layBody 61), Q_X0_layBody), (2, P_X0_put, Q_X0_put)] ([234, 235, 4, 2].map (fun c => (c, EvF 510 c)))) hX0_lay (by decide) (by decide) okX0_lay (cc1C (CMetC.up (v_Jx4a65c_size_8abf5 l) (by first | decide | omega)) (by decide) (cc1C (CMetC.up (v_Jx4a65c_get_915e3 l) (by first | decide | omega)) (by decide) (cc1C (CMetC.up (v_X0_layBody l 61) (by first | decide | omega)) (by decide) (cc1C (CMetC.up (v_X0_put l) (by first | decide | omega)) (by decide) cc0C)))) (lg_X0_lay) (TbC.ev (b_X0_lay) (L := 510) (μ := 1) (M := [34, 35, 36, 77, 289, 290, 900, 902]) rfl (by decide +kernel) rfl (by decide +kernel) (by decide +kernel) (fun _ _ _ _ hP _ => by
    obtain ⟨p0, p1, rfl, hH, ht⟩ := hP
    first
      | exact ⟨hH.1, ht⟩
      | exact ⟨hH.1, ht.1⟩) (fun _ _ _ _ _ h => h) (Or.inl ⟨by decide +kernel, by decide +kernel⟩))
theorem v_X3_judgeMethod (l : Launch) : CMetC l 12 50 P_X3_judgeMethod (EvQ (12 + 1) 50 Q_X3_judgeMethod) :=
  CMetC.of KX3_judgeMethod (uc2C [(235, P_Jx4a65c_get_915e3, Q_Jx4a65c_get_915e3), (119, P_X6_methodOf, Q_X6_methodOf), (113, P_X5_hasSameParams, Q_X5_hasSameParams), (118, P_X6_tell, Q_X6_tell)] ([235, 119, 113, 118].map (fun c => (c, EvF 12 c)))) hX3_judgeMethod (by decide) (by decide) okX3_judgeMethod (cc1C (CMetC.up (v_Jx4a65c_get_915e3 l) (by first | decide | omega)) (by decide) (cc1C (CMetC.up (v_X6_methodOf l) (by first | decide | omega)) (by decide) (cc1C (CMetC.up (v_X5_hasSameParams l) (by first | decide | omega)) (by decide) (cc1C (CMetC.up (v_X6_tell l) (by first | decide | omega)) (by decide) cc0C)))) (lg_X3_judgeMethod) (TbC.ev (b_X3_judgeMethod) (L := 12) (μ := 50) (M := [217, 218]) rfl (by decide +kernel) rfl (by decide +kernel) (by decide +kernel) (fun _ _ _ _ hP hQ => by
    obtain ⟨p0, p1, rfl, hH, ht⟩ := hP
    first
      | exact ⟨⟨hH.1, ht⟩, hQ.1⟩
      | exact ⟨⟨hH.1, ht.1⟩, hQ.1⟩) (fun _ _ _ _ _ _ => trivial) (Or.inl ⟨by decide +kernel, by decide +kernel⟩))
theorem v_X3_judgeProgram (l : Launch) : CMetC l 514 49 P_X3_judgeProgram (EvQ (514 + 1) 49 Q_X3_judgeProgram) :=
  CMetC.of KX3_judgeProgram (uc2C [(234, P_Jx4a65c_size_8abf5, Q_Jx4a65c_size_8abf5), (50, P_X3_judgeMethod, Q_X3_judgeMethod), (235, P_Jx4a65c_get_915e3, Q_Jx4a65c_get_915e3), (118, P_X6_tell, Q_X6_tell), (53, P_X3_judgeExp, Q_X3_judgeExp), (28, P_X2_assignAll, Q_X2_assignAll), (20, P_X2_reachAll, Q_X2_reachAll), (80, P_X3_judgeStatement, Q_X3_judgeStatement)] ([234, 50, 235, 118, 53, 28, 20, 80].map (fun c => (c, EvF 514 c)))) hX3_judgeProgram (by decide) (by decide) okX3_judgeProgram (cc1C (CMetC.up (v_Jx4a65c_size_8abf5 l) (by first | decide | omega)) (by decide) (cc1C (CMetC.up (v_X3_judgeMethod l) (by first | decide | omega)) (by decide) (cc1C (CMetC.up (v_Jx4a65c_get_915e3 l) (by first | decide | omega)) (by decide) (cc1C (CMetC.up (v_X6_tell l) (by first | decide | omega)) (by decide) (cc1C (CMetC.up (v_X3_judgeExp l) (by first | decide | omega)) (by decide) (cc1C (CMetC.up (v_X2_assignAll l) (by first | decide | omega)) (by decide) (cc1C (CMetC.up (v_X2_reachAll l) (by first | decide | omega)) (by decide) (cc1C (CMetC.up (v_X3_judgeStatement l) (by first | decide | omega)) (by decide) cc0C)))))))) (lg_X3_judgeProgram) (TbC.ev (b_X3_judgeProgram) (L := 514) (μ := 49) (M := [67, 68, 69, 70, 71, 90, 91, 92, 94, 121, 217, 218, 281, 282, 283, 284, 285, 286, 287, 288, 335, 336, 900, 901]) rfl (by decide +kernel) rfl (by decide +kernel) (by decide +kernel) (fun _ _ _ _ hP _ => by
    obtain ⟨p0, p1, rfl, hH, ht⟩ := hP
    first
      | exact ⟨hH.1, ht⟩
      | exact ⟨hH.1, ht.1⟩) (fun _ _ _ _ _ h => h) (Or.inl ⟨by decide +kernel, by decide +kernel⟩))
theorem v_X11_cut (l : Launch) : CMetC l 1 203 P_X11_cut (EvQ (1 + 1) 203 Q_X11_cut) :=
  CMetC.of KX11_cut (uc2C [] ([].map (fun c => (c, EvF 1 c)))) hX11_cut (by decide) (by decide) okX11_cut cc0C (lg_X11_cut) (TbC.ev (b_X11_cut) (L := 1) (μ := 203) (M := [369]) rfl (by decide +kernel) rfl (by decide +kernel) (by decide +kernel) (fun _ _ _ _ hP _ => by
    obtain ⟨p0, p1, rfl, hH, ht⟩ := hP
    first
      | exact ⟨hH.1, ht⟩
      | exact ⟨hH.1, ht.1⟩) (fun _ _ _ _ _ _ => trivial) (Or.inl ⟨by decide +kernel, by decide +kernel⟩))
theorem v_X11_judge (l : Launch) : CMetC l 1 206 P_X11_judge (EvQ (1 + 1) 206 Q_X11_judge) :=
  CMetC.of KX11_judge (uc2C [] ([].map (fun c => (c, EvF 1 c)))) hX11_judge (by decide) (by decide) okX11_judge cc0C (lg_X11_judge) (TbC.ev (b_X11_judge) (L := 1) (μ := 206) (M := [371]) rfl (by decide +kernel) rfl (by decide +kernel) (by decide +kernel) (fun _ _ _ _ hP _ => by
    obtain ⟨p0, rfl, hH, ht⟩ := hP
    first
      | exact ⟨hH.1, ht⟩
      | exact ⟨hH.1, ht.1⟩) (fun _ _ _ _ _ _ => trivial) (Or.inl ⟨by decide +kernel, by decide +kernel⟩))
theorem v_X11_means (l : Launch) : CMetC l 1 211 P_X11_means (EvQ (1 + 1) 211 Q_X11_means) :=
  CMetC.of KX11_means (uc2C [] ([].map (fun c => (c, EvF 1 c)))) hX11_means (by decide) (by decide) okX11_means cc0C (lg_X11_means) (TbC.ev (b_X11_means) (L := 1) (μ := 211) (M := []) rfl (by decide +kernel) rfl (by decide +kernel) (by decide +kernel) (fun _ _ _ _ hP _ => by
    obtain ⟨p0, p1, rfl, hH, ht⟩ := hP
    first
      | exact ⟨hH.1, ht⟩
      | exact ⟨hH.1, ht.1⟩) (fun _ _ _ _ _ _ => trivial) (Or.inl ⟨by decide +kernel, by decide +kernel⟩))
theorem v_X11_type (l : Launch) : CMetC l 12 212 P_X11_type (EvQ (12 + 1) 212 Q_X11_type) :=
  CMetC.of KX11_type (uc2C [(120, P_X6_expAt, Q_X6_expAt)] ([120].map (fun c => (c, EvF 12 c)))) hX11_type (by decide) (by decide) okX11_type (cc1C (CMetC.up (v_X6_expAt l) (by first | decide | omega)) (by decide) cc0C) (lg_X11_type) (TbC.ev (b_X11_type) (L := 12) (μ := 212) (M := []) rfl (by decide +kernel) rfl (by decide +kernel) (by decide +kernel) (fun _ _ _ _ hP _ => by
    obtain ⟨p0, p1, p2, rfl, hH, ht⟩ := hP
    first
      | exact ⟨hH.1, ht⟩
      | exact ⟨hH.1, ht.1⟩) (fun _ _ _ _ _ _ => trivial) (Or.inl ⟨by decide +kernel, by decide +kernel⟩))
theorem v_X11_constant (l : Launch) : CMetC l 12 213 P_X11_constant (EvQ (12 + 1) 213 Q_X11_constant) :=
  CMetC.of KX11_constant (uc2C [(120, P_X6_expAt, Q_X6_expAt)] ([120].map (fun c => (c, EvF 12 c)))) hX11_constant (by decide) (by decide) okX11_constant (cc1C (CMetC.up (v_X6_expAt l) (by first | decide | omega)) (by decide) cc0C) (lg_X11_constant) (TbC.ev (b_X11_constant) (L := 12) (μ := 213) (M := []) rfl (by decide +kernel) rfl (by decide +kernel) (by decide +kernel) (fun _ _ _ _ hP _ => by
    obtain ⟨p0, p1, p2, rfl, hH, ht⟩ := hP
    first
      | exact ⟨hH.1, ht⟩
      | exact ⟨hH.1, ht.1⟩) (fun _ _ _ _ _ _ => trivial) (Or.inl ⟨by decide +kernel, by decide +kernel⟩))
theorem v_X11_ends (l : Launch) : CMetC l 12 214 P_X11_ends (EvQ (12 + 1) 214 Q_X11_ends) :=
  CMetC.of KX11_ends (uc2C [(121, P_X6_statementAt, Q_X6_statementAt)] ([121].map (fun c => (c, EvF 12 c)))) hX11_ends (by decide) (by decide) okX11_ends (cc1C (CMetC.up (v_X6_statementAt l) (by first | decide | omega)) (by decide) cc0C) (lg_X11_ends) (TbC.ev (b_X11_ends) (L := 12) (μ := 214) (M := []) rfl (by decide +kernel) rfl (by decide +kernel) (by decide +kernel) (fun _ _ _ _ hP _ => by
    obtain ⟨p0, p1, rfl, hH, ht⟩ := hP
    first
      | exact ⟨hH.1, ht⟩
      | exact ⟨hH.1, ht.1⟩) (fun _ _ _ _ _ _ => trivial) (Or.inl ⟨by decide +kernel, by decide +kernel⟩))
theorem v_X11_assigned (l : Launch) : CMetC l 12 215 P_X11_assigned (EvQ (12 + 1) 215 Q_X11_assigned) :=
  CMetC.of KX11_assigned (uc2C [(121, P_X6_statementAt, Q_X6_statementAt), (234, P_Jx4a65c_size_8abf5, Q_Jx4a65c_size_8abf5), (221, P_X11_has, Q_X11_has)] ([121, 234, 221].map (fun c => (c, EvF 12 c)))) hX11_assigned (by decide) (by decide) okX11_assigned (cc1C (CMetC.up (v_X6_statementAt l) (by first | decide | omega)) (by decide) (cc1C (CMetC.up (v_Jx4a65c_size_8abf5 l) (by first | decide | omega)) (by decide) (cc1C (CMetC.up (v_X11_has l) (by first | decide | omega)) (by decide) cc0C))) (lg_X11_assigned) (TbC.ev (b_X11_assigned) (L := 12) (μ := 215) (M := []) rfl (by decide +kernel) rfl (by decide +kernel) (by decide +kernel) (fun _ _ _ _ hP _ => by
    obtain ⟨p0, p1, p2, rfl, hH, ht⟩ := hP
    first
      | exact ⟨hH.1, ht⟩
      | exact ⟨hH.1, ht.1⟩) (fun _ _ _ _ _ _ => trivial) (Or.inl ⟨by decide +kernel, by decide +kernel⟩))
theorem v_X11_argument (l : Launch) : CMetC l 1 216 P_X11_argument (EvQ (1 + 1) 216 Q_X11_argument) :=
  CMetC.of KX11_argument (uc2C [] ([].map (fun c => (c, EvF 1 c)))) hX11_argument (by decide) (by decide) okX11_argument cc0C (lg_X11_argument) (TbC.ev (b_X11_argument) (L := 1) (μ := 216) (M := [901]) rfl (by decide +kernel) rfl (by decide +kernel) (by decide +kernel) (fun _ _ _ _ hP _ => by
    obtain ⟨p0, p1, p2, rfl, hH, ht⟩ := hP
    first
      | exact ⟨hH.1, ht⟩
      | exact ⟨hH.1, ht.1⟩) (fun _ _ _ _ _ _ => trivial) (Or.inl ⟨by decide +kernel, by decide +kernel⟩))
theorem v_X11_input (l : Launch) : CMetC l 1 217 P_X11_input (EvQ (1 + 1) 217 Q_X11_input) :=
  CMetC.of KX11_input (uc2C [] ([].map (fun c => (c, EvF 1 c)))) hX11_input (by decide) (by decide) okX11_input cc0C (lg_X11_input) (TbC.ev (b_X11_input) (L := 1) (μ := 217) (M := [370, 900]) rfl (by decide +kernel) rfl (by decide +kernel) (by decide +kernel) (fun _ _ _ _ hP _ => by
    obtain ⟨p0, p1, rfl, hH, ht⟩ := hP
    first
      | exact ⟨hH.1, ht⟩
      | exact ⟨hH.1, ht.1⟩) (fun _ _ _ _ _ _ => trivial) (Or.inl ⟨by decide +kernel, by decide +kernel⟩))
theorem v_X11_drain (l : Launch) : CMetC l 1 218 P_X11_drain (EvQ (1 + 1) 218 Q_X11_drain) :=
  CMetC.of KX11_drain (uc2C [] ([].map (fun c => (c, EvF 1 c)))) hX11_drain (by decide) (by decide) okX11_drain cc0C (lg_X11_drain) (TbC.ev (b_X11_drain) (L := 1) (μ := 218) (M := [370]) rfl (by decide +kernel) rfl (by decide +kernel) (by decide +kernel) (fun _ _ _ _ hP _ => by
    obtain ⟨p0, rfl, hH, ht⟩ := hP
    first
      | exact ⟨hH.1, ht⟩
      | exact ⟨hH.1, ht.1⟩) (fun _ _ _ _ _ _ => trivial) (Or.inl ⟨by decide +kernel, by decide +kernel⟩))
theorem v_X11_run (l : Launch) : CMetC l 16 219 P_X11_run (EvQ (16 + 1) 219 Q_X11_run) :=
  CMetC.of KX11_run (uc2C [(234, P_Jx4a65c_size_8abf5, Q_Jx4a65c_size_8abf5), (88, P_X4_prepare, Q_X4_prepare), (235, P_Jx4a65c_get_915e3, Q_Jx4a65c_get_915e3), (89, P_X4_perform, Q_X4_perform)] ([234, 88, 235, 89].map (fun c => (c, EvF 16 c)))) hX11_run (by decide) (by decide) okX11_run (cc1C (CMetC.up (v_Jx4a65c_size_8abf5 l) (by first | decide | omega)) (by decide) (cc1C (CMetC.up (v_X4_prepare l) (by first | decide | omega)) (by decide) (cc1C (CMetC.up (v_Jx4a65c_get_915e3 l) (by first | decide | omega)) (by decide) (cc1C (CMetC.up (v_X4_perform l) (by first | decide | omega)) (by decide) cc0C)))) (lg_X11_run) (TbC.ev (b_X11_run) (L := 16) (μ := 219) (M := [159, 160, 161, 162, 163, 164, 165, 166, 167, 168, 169, 170, 372, 900, 901, 902]) rfl (by decide +kernel) rfl (by decide +kernel) (by decide +kernel) (fun _ _ _ _ hP _ => by
    obtain ⟨p0, p1, p2, rfl, hH, ht⟩ := hP
    first
      | exact ⟨hH.1, ht⟩
      | exact ⟨hH.1, ht.1⟩) (fun _ _ _ _ _ h => h) (Or.inl ⟨by decide +kernel, by decide +kernel⟩))
theorem v_X1_init (l : Launch) : CMetC l 1 17 P_X1_init (EvQ (1 + 1) 17 Q_X1_init) :=
  CMetC.of KX1_init (uc2C [] ([].map (fun c => (c, EvF 1 c)))) hX1_init (by decide) (by decide) okX1_init cc0C (lg_X1_init) (TbC.ev (b_X1_init) (L := 1) (μ := 17) (M := [60, 61, 62, 63, 66, 67, 68]) rfl (by decide +kernel) rfl (by decide +kernel) (by decide +kernel) (fun _ _ _ _ hP hQ => by
    obtain ⟨p0, p1, p2, p3, p4, rfl, _⟩ := hP
    obtain ⟨_, _, he, _⟩ := hQ
    exact fun a ha hn => (he.2.2 a ha hn).1.1) (fun _ _ _ _ _ _ => trivial) (Or.inl ⟨by decide +kernel, by decide +kernel⟩))
theorem v_X8_init (l : Launch) : CMetC l 1 178 P_X8_init (EvQ (1 + 1) 178 Q_X8_init) :=
  CMetC.of KX8_init (uc2C [] ([].map (fun c => (c, EvF 1 c)))) hX8_init (by decide) (by decide) okX8_init cc0C (lg_X8_init) (TbC.ev (b_X8_init) (L := 1) (μ := 178) (M := [270, 271, 272, 273, 274, 280, 287, 288]) rfl (by decide +kernel) rfl (by decide +kernel) (by decide +kernel) (fun _ _ _ _ hP hQ => by
    obtain ⟨p0, p1, p2, p3, p4, p5, rfl, _⟩ := hP
    obtain ⟨_, _, he, _⟩ := hQ
    exact fun a ha hn => (he.2.2 a ha hn).1.1) (fun _ _ _ _ _ _ => trivial) (Or.inl ⟨by decide +kernel, by decide +kernel⟩))
theorem v_X10_init (l : Launch) : CMetC l 1 199 P_X10_init (EvQ (1 + 1) 199 Q_X10_init) :=
  CMetC.of KX10_init (uc2C [] ([].map (fun c => (c, EvF 1 c)))) hX10_init (by decide) (by decide) okX10_init cc0C (lg_X10_init) (TbC.ev (b_X10_init) (L := 1) (μ := 199) (M := [330, 331, 332, 333]) rfl (by decide +kernel) rfl (by decide +kernel) (by decide +kernel) (fun _ _ _ _ hP hQ => by
    obtain ⟨p0, p1, p2, p3, p4, rfl, _⟩ := hP
    obtain ⟨_, _, he, _⟩ := hQ
    exact fun a ha hn => (he.2.2 a ha hn).1.1) (fun _ _ _ _ _ _ => trivial) (Or.inl ⟨by decide +kernel, by decide +kernel⟩))
theorem v_X5_init (l : Launch) : CMetC l 2 111 P_X5_init (EvQ (2 + 1) 111 Q_X5_init) :=
  CMetC.of KX5_init (uc2C [(178, P_X8_init, Q_X8_init)] ([178].map (fun c => (c, EvF 2 c)))) hX5_init (by decide) (by decide) okX5_init (cc1C (CMetC.up (v_X8_init l) (by first | decide | omega)) (by decide) cc0C) (lg_X5_init) (TbC.ev (b_X5_init) (L := 2) (μ := 111) (M := [180, 181, 182, 183, 184, 186, 270, 271, 272, 273, 274, 280, 287, 288]) rfl (by decide +kernel) rfl (by decide +kernel) (by decide +kernel) (fun _ _ _ _ hP hQ => by
    obtain ⟨p0, p1, p2, p3, p4, rfl, _⟩ := hP
    obtain ⟨_, _, he, _⟩ := hQ
    exact fun a ha hn => (he.2.2 a ha hn).1.1) (fun _ _ _ _ _ _ => trivial) (Or.inl ⟨by decide +kernel, by decide +kernel⟩))
theorem v_X7_init (l : Launch) : CMetC l 1 122 P_X7_init (EvQ (1 + 1) 122 Q_X7_init) :=
  CMetC.of KX7_init (uc2C [] ([].map (fun c => (c, EvF 1 c)))) hX7_init (by decide) (by decide) okX7_init cc0C (lg_X7_init) (TbC.ev (b_X7_init) (L := 1) (μ := 122) (M := [240, 241]) rfl (by decide +kernel) rfl (by decide +kernel) (by decide +kernel) (fun _ _ _ _ _ _ => trivial) (fun _ _ _ _ _ h => h) (Or.inl ⟨by decide +kernel, by decide +kernel⟩))
theorem v_X2_init (l : Launch) : CMetC l 1 19 P_X2_init (EvQ (1 + 1) 19 Q_X2_init) :=
  CMetC.of KX2_init (uc2C [] ([].map (fun c => (c, EvF 1 c)))) hX2_init (by decide) (by decide) okX2_init cc0C (lg_X2_init) (TbC.ev (b_X2_init) (L := 1) (μ := 19) (M := [90, 93]) rfl (by decide +kernel) rfl (by decide +kernel) (by decide +kernel) (fun _ _ _ _ _ _ => trivial) (fun _ _ _ _ _ _ => trivial) (Or.inl ⟨by decide +kernel, by decide +kernel⟩))
theorem v_X3_init (l : Launch) : CMetC l 2 48 P_X3_init (EvQ (2 + 1) 48 Q_X3_init) :=
  CMetC.of KX3_init (uc2C [(19, P_X2_init, Q_X2_init)] ([19].map (fun c => (c, EvF 2 c)))) hX3_init (by decide) (by decide) okX3_init (cc1C (CMetC.up (v_X2_init l) (by first | decide | omega)) (by decide) cc0C) (lg_X3_init) (TbC.ev (b_X3_init) (L := 2) (μ := 48) (M := [90, 93, 120, 121]) rfl (by decide +kernel) rfl (by decide +kernel) (by decide +kernel) (fun _ _ _ _ _ _ => trivial) (fun _ _ _ _ _ h => h) (Or.inl ⟨by decide +kernel, by decide +kernel⟩))
theorem v_X0_init (l : Launch) : CMetC l 2 0 P_X0_init (EvQ (2 + 1) 0 Q_X0_init) :=
  CMetC.of KX0_init (uc2C [(178, P_X8_init, Q_X8_init)] ([178].map (fun c => (c, EvF 2 c)))) hX0_init (by decide) (by decide) okX0_init (cc1C (CMetC.up (v_X8_init l) (by first | decide | omega)) (by decide) cc0C) (lg_X0_init) (TbC.ev (b_X0_init) (L := 2) (μ := 0) (M := [30, 31, 32, 33, 35, 36, 270, 271, 272, 273, 274, 280, 287, 288]) rfl (by decide +kernel) rfl (by decide +kernel) (by decide +kernel) (fun _ _ _ _ _ _ => trivial) (fun _ _ _ _ _ h => h) (Or.inl ⟨by decide +kernel, by decide +kernel⟩))
theorem v_X4_init (l : Launch) : CMetC l 1 87 P_X4_init (EvQ (1 + 1) 87 Q_X4_init) :=
  CMetC.of KX4_init (uc2C [] ([].map (fun c => (c, EvF 1 c)))) hX4_init (by decide) (by decide) okX4_init cc0C (lg_X4_init) (TbC.ev (b_X4_init) (L := 1) (μ := 87) (M := [150, 151, 152, 153, 154, 155, 156, 157, 158, 159]) rfl (by decide +kernel) rfl (by decide +kernel) (by decide +kernel) (fun _ _ _ _ _ _ => trivial) (fun _ _ _ _ _ h => h) (Or.inl ⟨by decide +kernel, by decide +kernel⟩))
theorem v9_ini9 (l : Launch) : CMetC l 11 184 P_X9_init (EvQ (11 + 1) 184 (fun As σ w τ => Q_X9_init As σ w τ ∧ U_ini9 As σ w τ)) :=
  CMetC.of KX9_init (uc2C (uc2C [(239, P_J0_length_8abf5, Q_J0_length_8abf5), (238, P_J0_charAt_5068e, Q_J0_charAt_5068e), (185, P_X9_longerKey, Q_X9_longerKey)] [(185, U_longerKey)]) ([239, 238, 185].map (fun c => (c, EvF 11 c)))) hX9_init (by decide) (by decide) okX9_init (cc1C (CMetC.up (v_J0_length_8abf5 l) (by first | decide | omega)) (by decide) (cc1C (CMetC.up (v_J0_charAt_5068e l) (by first | decide | omega)) (by decide) (cc1C (CMetC.up (v9_longerKey l) (by first | decide | omega)) (by decide) cc0C))) lg_X9_init (TbC.ev (b_X9_init.and p_ini9) (L := 11) (μ := 184) (M := [300, 301, 302, 303, 304, 306, 307, 901]) rfl (by decide +kernel) rfl (by decide +kernel) (by decide +kernel) (fun _ _ _ _ _ _ => trivial) (fun _ _ _ _ _ h => h) (Or.inl ⟨by decide +kernel, by decide +kernel⟩))
theorem lg_linv : ∀ (As : List AvC) (σ : CsC), P_Jx4a65c_init_da8c8 As σ → lgC As ≤ rJx4a65c_init_da8c8.2.2.1 := by
  rintro As σ ⟨p0, rfl, -⟩
  exact Nat.le_of_ble_eq_true rfl
theorem b_linv : TbC KJx4a65c_init_da8c8 [(250, P_in1, Q_in1)] P_Jx4a65c_init_da8c8 (fun As σ w τ => Q_Jx4a65c_init_da8c8 As σ w τ ∧ U_lin As σ w τ) := by
  rintro As σ0 ⟨p0, rfl, H0, r0, z0, -, -⟩ hgr G hB hW
  change G 0 [(0, .inr (.inr (some p0)))] [] σ0
  refine hB _ _ _ _ (kgoC (is := KJx4a65c_init_da8c8_0) rfl (k_aload_n rfl (k_spec (P := P_in1) (Q := Q_in1) rfl rfl rfl rfl (Nat.le_of_ble_eq_true rfl) ⟨p0, rfl, r0.ob⟩ (fun w σ1 hq => ?_))))
  obtain ⟨rfl, z, rfl⟩ := hq
  have H1 : HIC (pIC σ0 p0 0 z) := H0.pIr r0.ge
  have H2 : HIC (pRC (pIC σ0 p0 0 z) p0 1 (some 1000000)) := H1.pRr r0.ge
  have e2 : fIC (pRC (pIC σ0 p0 0 z) p0 1 (some 1000000)) p0 2 = 0 := (fI_pI (σ := σ0) (a := p0) (k := 0) (v := z) (b := p0) (j := 2) (Or.inl (by decide))).trans (z0 2).1
  have e1 : fRC (pRC (pIC σ0 p0 0 z) p0 1 (some 1000000)) p0 1 = some 1000000 := fR_pRs
  have H3 : HIC (rTC (pRC (pIC σ0 p0 0 z) p0 1 (some 1000000)) p0 0 (ghC σ0 p0)) := HIC.fin (σ := pRC (pIC σ0 p0 0 z) p0 1 (some 1000000)) (c := 0) H2 r0 rfl (fn0 (by rw [e2]; exact ⟨by decide, by decide⟩)) (XaC.of0 rT_tg (Or.inl ⟨e1, congrArg Int32.toInt e2⟩)) (fun z => absurd z (by decide))
  exact k_st (st' := []) rfl (k_aload_n rfl (k_gets (k_putRg (k := 1) r0.ob (by decide) (k_returnW (τ := rTC (pRC (pIC σ0 p0 0 z) p0 1 (some 1000000)) p0 0 (ghC σ0 p0)) (RawC.we (σ := pRC (pIC σ0 p0 0 z) p0 1 (some 1000000)) r0) ⟨⟨rfl, H3, (ExT.pI.tr ExT.pR).tr ExT.rT, ⟨r0.1, rT_tg, fun z => absurd z (by decide)⟩, rT_gh, rfl, rfl⟩, e2⟩))))
theorem v9_lin (l : Launch) : CMetC l 10 233 P_Jx4a65c_init_da8c8 (EvQ (10 + 1) 233 (fun As σ w τ => Q_Jx4a65c_init_da8c8 As σ w τ ∧ U_lin As σ w τ)) :=
  CMetC.of KJx4a65c_init_da8c8 (uc2C [(250, P_in1, Q_in1)] ([250].map (fun c => (c, EvF 10 c)))) hJx4a65c_init_da8c8 (by decide) (by decide) okJx4a65c_init_da8c8 (cc1C (CMetC.up (v_in1 l) (by first | decide | omega)) (by decide) cc0C) lg_linv (TbC.ev b_linv (L := 10) (μ := 233) (M := [0, 1]) rfl (by decide +kernel) rfl (by decide +kernel) (by decide +kernel) (fun _ _ _ _ _ _ => trivial) (fun _ _ _ _ _ h => h) (Or.inl ⟨by decide +kernel, by decide +kernel⟩))
theorem v9_ini6 (l : Launch) : CMetC l 12 116 P_X6_init (EvQ (12 + 1) 116 (fun As σ w τ => Q_X6_init As σ w τ ∧ U_ini6 As σ w τ)) :=
  CMetC.of KX6_init (uc2C (uc2C [(184, P_X9_init, Q_X9_init), (233, P_Jx4a65c_init_da8c8, Q_Jx4a65c_init_da8c8), (186, P_X9_keyOf, Q_X9_keyOf), (111, P_X5_init, Q_X5_init), (112, P_X5_addParam, Q_X5_addParam)] [(184, U_ini9), (233, U_lin)]) ([184, 233, 186, 111, 112].map (fun c => (c, EvF 12 c)))) hX6_init (by decide) (by decide) okX6_init (cc1C (CMetC.up (v9_ini9 l) (by first | decide | omega)) (by decide) (cc1C (CMetC.up (v9_lin l) (by first | decide | omega)) (by decide) (cc1C (CMetC.up (v_X9_keyOf l) (by first | decide | omega)) (by decide) (cc1C (CMetC.up (v_X5_init l) (by first | decide | omega)) (by decide) (cc1C (CMetC.up (v_X5_addParam l) (by first | decide | omega)) (by decide) cc0C))))) lg_X6_init (TbC.ev (b_X6_init.and p_ini6) (L := 12) (μ := 116) (M := [0, 1, 180, 181, 182, 183, 184, 185, 186, 210, 211, 212, 213, 214, 215, 216, 270, 271, 272, 273, 274, 280, 287, 288, 300, 301, 302, 303, 304, 306, 307, 900, 901]) rfl (by decide +kernel) rfl (by decide +kernel) (by decide +kernel) (fun _ _ _ _ _ _ => trivial) (fun _ _ _ _ _ h => h) (Or.inl ⟨by decide +kernel, by decide +kernel⟩))
theorem v9_ini11 (l : Launch) : CMetC l 13 200 P_X11_init (EvQ (13 + 1) 200 (fun As σ w τ => Q_X11_init As σ w τ ∧ U_ini11 As σ w τ)) :=
  CMetC.of KX11_init (uc2C (uc2C [(116, P_X6_init, Q_X6_init), (122, P_X7_init, Q_X7_init), (48, P_X3_init, Q_X3_init), (0, P_X0_init, Q_X0_init), (87, P_X4_init, Q_X4_init)] [(116, U_ini6)]) ([116, 122, 48, 0, 87].map (fun c => (c, EvF 13 c)))) hX11_init (by decide) (by decide) okX11_init (cc1C (CMetC.up (v9_ini6 l) (by first | decide | omega)) (by decide) (cc1C (CMetC.up (v_X7_init l) (by first | decide | omega)) (by decide) (cc1C (CMetC.up (v_X3_init l) (by first | decide | omega)) (by decide) (cc1C (CMetC.up (v_X0_init l) (by first | decide | omega)) (by decide) (cc1C (CMetC.up (v_X4_init l) (by first | decide | omega)) (by decide) cc0C))))) lg_X11_init (TbC.ev (b_X11_init.and p_ini11) (L := 13) (μ := 200) (M := [0, 1, 30, 31, 32, 33, 35, 36, 90, 93, 120, 121, 150, 151, 152, 153, 154, 155, 156, 157, 158, 159, 180, 181, 182, 183, 184, 185, 186, 210, 211, 212, 213, 214, 215, 216, 240, 241, 270, 271, 272, 273, 274, 280, 287, 288, 300, 301, 302, 303, 304, 306, 307, 360, 361, 362, 363, 364, 365, 366, 367, 368, 371, 900, 901]) rfl (by decide +kernel) rfl (by decide +kernel) (by decide +kernel) (fun _ _ _ _ _ _ => trivial) (fun _ _ _ _ _ h => h) (Or.inl ⟨by decide +kernel, by decide +kernel⟩))
theorem v9_append (l : Launch) : CMetC l 1 202 P_X11_append (EvQ (1 + 1) 202 (fun As σ w τ => Q_X11_append As σ w τ ∧ U_append As σ w τ)) :=
  CMetC.of KX11_append (uc2C (uc2C [] []) ([].map (fun c => (c, EvF 1 c)))) hX11_append (by decide) (by decide) okX11_append cc0C lg_X11_append (TbC.ev (b_X11_append.and p_append) (L := 1) (μ := 202) (M := [369, 900]) rfl (by decide +kernel) rfl (by decide +kernel) (by decide +kernel) (fun _ _ _ _ hP _ => by
    obtain ⟨p0, p1, rfl, hH, ht⟩ := hP
    first
      | exact ⟨hH.1, ht⟩
      | exact ⟨hH.1, ht.1⟩) (fun _ _ _ _ _ h => h) (Or.inl ⟨by decide +kernel, by decide +kernel⟩))
theorem v9_feed (l : Launch) : CMetC l 2 201 P_X11_feed (EvQ (2 + 1) 201 (fun As σ w τ => Q_X11_feed As σ w τ ∧ U_feed As σ w τ)) :=
  CMetC.of KX11_feed (uc2C (uc2C [(202, P_X11_append, Q_X11_append)] [(202, U_append)]) ([202].map (fun c => (c, EvF 2 c)))) hX11_feed (by decide) (by decide) okX11_feed (cc1C (CMetC.up (v9_append l) (by first | decide | omega)) (by decide) cc0C) lg_X11_feed (TbC.ev (b_X11_feed.and p_feed) (L := 2) (μ := 201) (M := [369, 900]) rfl (by decide +kernel) rfl (by decide +kernel) (by decide +kernel) (fun _ _ _ _ hP _ => by
    obtain ⟨p0, p1, p2, p3, p4, p5, rfl, hH, ht⟩ := hP
    first
      | exact ⟨hH.1, ht⟩
      | exact ⟨hH.1, ht.1⟩) (fun _ _ _ _ _ h => h) (Or.inl ⟨by decide +kernel, by decide +kernel⟩))
theorem v_X7_code (l : Launch) : CMetC l 1 125 P_X7_code (EvQ (1 + 1) 125 Q_X7_code) :=
  CMetC.of KX7_code (uc2C [] ([].map (fun c => (c, EvF 1 c)))) hX7_code (by decide) (by decide) okX7_code cc0C (lg_X7_code) (TbC.ev (b_X7_code) (L := 1) (μ := 125) (M := []) rfl (by decide +kernel) rfl (by decide +kernel) (by decide +kernel) (fun _ _ _ _ hP _ => by
    obtain ⟨p0, rfl, hH, ht⟩ := hP
    first
      | exact ⟨hH.1, ht⟩
      | exact ⟨hH.1, ht.1⟩) (fun _ _ _ _ _ _ => trivial) (Or.inl ⟨by decide +kernel, by decide +kernel⟩))
theorem v_X7_codeBehind (l : Launch) : CMetC l 1 126 P_X7_codeBehind (EvQ (1 + 1) 126 Q_X7_codeBehind) :=
  CMetC.of KX7_codeBehind (uc2C [] ([].map (fun c => (c, EvF 1 c)))) hX7_codeBehind (by decide) (by decide) okX7_codeBehind cc0C (lg_X7_codeBehind) (TbC.ev (b_X7_codeBehind) (L := 1) (μ := 126) (M := []) rfl (by decide +kernel) rfl (by decide +kernel) (by decide +kernel) (fun _ _ _ _ hP _ => by
    obtain ⟨p0, rfl, hH, ht⟩ := hP
    first
      | exact ⟨hH.1, ht⟩
      | exact ⟨hH.1, ht.1⟩) (fun _ _ _ _ _ _ => trivial) (Or.inl ⟨by decide +kernel, by decide +kernel⟩))
theorem v_X7_raise (l : Launch) : CMetC l 1 127 P_X7_raise (EvQ (1 + 1) 127 Q_X7_raise) :=
  CMetC.of KX7_raise (uc2C [] ([].map (fun c => (c, EvF 1 c)))) hX7_raise (by decide) (by decide) okX7_raise cc0C (lg_X7_raise) (TbC.ev (b_X7_raise) (L := 1) (μ := 127) (M := [243, 244]) rfl (by decide +kernel) rfl (by decide +kernel) (by decide +kernel) (fun _ _ _ _ hP _ => by
    obtain ⟨p0, p1, rfl, hH, ht⟩ := hP
    first
      | exact ⟨hH.1, ht⟩
      | exact ⟨hH.1, ht.1⟩) (fun _ _ _ _ hP hQ => by
    obtain ⟨p0, p1, rfl, _⟩ := hP
    exact fun a ha => (hQ.2.2.1.2.2 a ha).1.1) (Or.inl ⟨by decide +kernel, by decide +kernel⟩))
theorem v_X7_accept (l : Launch) : CMetC l 2 128 P_X7_accept (EvQ (2 + 1) 128 Q_X7_accept) :=
  CMetC.of KX7_accept (uc2C [(127, P_X7_raise, Q_X7_raise)] ([127].map (fun c => (c, EvF 2 c)))) hX7_accept (by decide) (by decide) okX7_accept (cc1C (CMetC.up (v_X7_raise l) (by first | decide | omega)) (by decide) cc0C) (lg_X7_accept) (TbC.ev (b_X7_accept) (L := 2) (μ := 128) (M := [242, 243, 244]) rfl (by decide +kernel) rfl (by decide +kernel) (by decide +kernel) (fun _ _ _ _ hP _ => by
    obtain ⟨p0, rfl, hH, ht⟩ := hP
    first
      | exact ⟨hH.1, ht⟩
      | exact ⟨hH.1, ht.1⟩) (fun _ _ _ _ hP hQ => by
    obtain ⟨p0, rfl, _⟩ := hP
    exact fun a ha => (hQ.2.2.1.2.2 a ha).1.1) (Or.inl ⟨by decide +kernel, by decide +kernel⟩))
theorem v_X7_expect (l : Launch) : CMetC l 3 129 P_X7_expect (EvQ (3 + 1) 129 Q_X7_expect) :=
  CMetC.of KX7_expect (uc2C [(125, P_X7_code, Q_X7_code), (127, P_X7_raise, Q_X7_raise), (128, P_X7_accept, Q_X7_accept)] ([125, 127, 128].map (fun c => (c, EvF 3 c)))) hX7_expect (by decide) (by decide) okX7_expect (cc1C (CMetC.up (v_X7_code l) (by first | decide | omega)) (by decide) (cc1C (CMetC.up (v_X7_raise l) (by first | decide | omega)) (by decide) (cc1C (CMetC.up (v_X7_accept l) (by first | decide | omega)) (by decide) cc0C))) (lg_X7_expect) (TbC.ev (b_X7_expect) (L := 3) (μ := 129) (M := [242, 243, 244]) rfl (by decide +kernel) rfl (by decide +kernel) (by decide +kernel) (fun _ _ _ _ hP _ => by
    obtain ⟨p0, p1, rfl, hH, ht⟩ := hP
    first
      | exact ⟨hH.1, ht⟩
      | exact ⟨hH.1, ht.1⟩) (fun _ _ _ _ hP hQ => by
    obtain ⟨p0, p1, rfl, _⟩ := hP
    exact fun a ha => (hQ.2.2.1.2.2 a ha).1.1) (Or.inl ⟨by decide +kernel, by decide +kernel⟩))
theorem v_X7_takes (l : Launch) : CMetC l 3 130 P_X7_takes (EvQ (3 + 1) 130 Q_X7_takes) :=
  CMetC.of KX7_takes (uc2C [(125, P_X7_code, Q_X7_code), (128, P_X7_accept, Q_X7_accept)] ([125, 128].map (fun c => (c, EvF 3 c)))) hX7_takes (by decide) (by decide) okX7_takes (cc1C (CMetC.up (v_X7_code l) (by first | decide | omega)) (by decide) (cc1C (CMetC.up (v_X7_accept l) (by first | decide | omega)) (by decide) cc0C)) (lg_X7_takes) (TbC.ev (b_X7_takes) (L := 3) (μ := 130) (M := [242, 243, 244]) rfl (by decide +kernel) rfl (by decide +kernel) (by decide +kernel) (fun _ _ _ _ hP _ => by
    obtain ⟨p0, p1, rfl, hH, ht⟩ := hP
    first
      | exact ⟨hH.1, ht⟩
      | exact ⟨hH.1, ht.1⟩) (fun _ _ _ _ _ _ => trivial) (Or.inl ⟨by decide +kernel, by decide +kernel⟩))
theorem v_X7_isTooDeep (l : Launch) : CMetC l 2 131 P_X7_isTooDeep (EvQ (2 + 1) 131 Q_X7_isTooDeep) :=
  CMetC.of KX7_isTooDeep (uc2C [(127, P_X7_raise, Q_X7_raise)] ([127].map (fun c => (c, EvF 2 c)))) hX7_isTooDeep (by decide) (by decide) okX7_isTooDeep (cc1C (CMetC.up (v_X7_raise l) (by first | decide | omega)) (by decide) cc0C) (lg_X7_isTooDeep) (TbC.ev (b_X7_isTooDeep) (L := 2) (μ := 131) (M := [243, 244]) rfl (by decide +kernel) rfl (by decide +kernel) (by decide +kernel) (fun _ _ _ _ hP _ => by
    obtain ⟨p0, p1, rfl, hH, ht⟩ := hP
    first
      | exact ⟨hH.1, ht⟩
      | exact ⟨hH.1, ht.1⟩) (fun _ _ _ _ _ _ => trivial) (Or.inl ⟨by decide +kernel, by decide +kernel⟩))
theorem v_X7_isType (l : Launch) : CMetC l 1 132 P_X7_isType (EvQ (1 + 1) 132 Q_X7_isType) :=
  CMetC.of KX7_isType (uc2C [] ([].map (fun c => (c, EvF 1 c)))) hX7_isType (by decide) (by decide) okX7_isType cc0C (lg_X7_isType) (TbC.ev (b_X7_isType) (L := 1) (μ := 132) (M := []) rfl (by decide +kernel) rfl (by decide +kernel) (by decide +kernel) (fun _ _ _ _ _ _ => trivial) (fun _ _ _ _ _ _ => trivial) (Or.inl ⟨by decide +kernel, by decide +kernel⟩))
theorem v_X7_isAssign (l : Launch) : CMetC l 1 133 P_X7_isAssign (EvQ (1 + 1) 133 Q_X7_isAssign) :=
  CMetC.of KX7_isAssign (uc2C [] ([].map (fun c => (c, EvF 1 c)))) hX7_isAssign (by decide) (by decide) okX7_isAssign cc0C (lg_X7_isAssign) (TbC.ev (b_X7_isAssign) (L := 1) (μ := 133) (M := []) rfl (by decide +kernel) rfl (by decide +kernel) (by decide +kernel) (fun _ _ _ _ _ _ => trivial) (fun _ _ _ _ _ _ => trivial) (Or.inl ⟨by decide +kernel, by decide +kernel⟩))
theorem v_X7_faultPlace (l : Launch) : CMetC l 1 124 P_X7_faultPlace (EvQ (1 + 1) 124 Q_X7_faultPlace) :=
  CMetC.of KX7_faultPlace (uc2C [] ([].map (fun c => (c, EvF 1 c)))) hX7_faultPlace (by decide) (by decide) okX7_faultPlace cc0C (lg_X7_faultPlace) (TbC.ev (b_X7_faultPlace) (L := 1) (μ := 124) (M := []) rfl (by decide +kernel) rfl (by decide +kernel) (by decide +kernel) (fun _ _ _ _ hP _ => by
    obtain ⟨p0, rfl, hH, ht⟩ := hP
    first
      | exact ⟨hH.1, ht⟩
      | exact ⟨hH.1, ht.1⟩) (fun _ _ _ _ _ h => h) (Or.inl ⟨by decide +kernel, by decide +kernel⟩))
theorem v_X7_readType (l : Launch) : CMetC l 3 136 P_X7_readType (EvQ (3 + 1) 136 Q_X7_readType) :=
  CMetC.of KX7_readType (uc2C [(125, P_X7_code, Q_X7_code), (132, P_X7_isType, Q_X7_isType), (127, P_X7_raise, Q_X7_raise), (128, P_X7_accept, Q_X7_accept)] ([125, 132, 127, 128].map (fun c => (c, EvF 3 c)))) hX7_readType (by decide) (by decide) okX7_readType (cc1C (CMetC.up (v_X7_code l) (by first | decide | omega)) (by decide) (cc1C (CMetC.up (v_X7_isType l) (by first | decide | omega)) (by decide) (cc1C (CMetC.up (v_X7_raise l) (by first | decide | omega)) (by decide) (cc1C (CMetC.up (v_X7_accept l) (by first | decide | omega)) (by decide) cc0C)))) (lg_X7_readType) (TbC.ev (b_X7_readType) (L := 3) (μ := 136) (M := [242, 243, 244]) rfl (by decide +kernel) rfl (by decide +kernel) (by decide +kernel) (fun _ _ _ _ hP _ => by
    obtain ⟨p0, rfl, hH, ht⟩ := hP
    first
      | exact ⟨hH.1, ht⟩
      | exact ⟨hH.1, ht.1⟩) (fun _ _ _ _ _ _ => trivial) (Or.inl ⟨by decide +kernel, by decide +kernel⟩))
theorem v_X7_know (l : Launch) : CMetC l 2 138 P_X7_know (EvQ (2 + 1) 138 Q_X7_know) :=
  CMetC.of KX7_know (uc2C [(222, P_X11_bit, Q_X11_bit)] ([222].map (fun c => (c, EvF 2 c)))) hX7_know (by decide) (by decide) okX7_know (cc1C (CMetC.up (v_X11_bit l) (by first | decide | omega)) (by decide) cc0C) (lg_X7_know) (TbC.ev (b_X7_know) (L := 2) (μ := 138) (M := [245]) rfl (by decide +kernel) rfl (by decide +kernel) (by decide +kernel) (fun _ _ _ _ hP _ => by
    obtain ⟨p0, p1, rfl, hH, ht⟩ := hP
    first
      | exact ⟨hH.1, ht⟩
      | exact ⟨hH.1, ht.1⟩) (fun _ _ _ _ hP hQ => by
    obtain ⟨p0, p1, rfl, _⟩ := hP
    exact fun a ha => (hQ.2.2.2.2 a ha).1.1) (Or.inl ⟨by decide +kernel, by decide +kernel⟩))
theorem v_X7_lookUp (l : Launch) : CMetC l 11 139 P_X7_lookUp (EvQ (11 + 1) 139 Q_X7_lookUp) :=
  CMetC.of KX7_lookUp (uc2C [(234, P_Jx4a65c_size_8abf5, Q_Jx4a65c_size_8abf5), (221, P_X11_has, Q_X11_has), (235, P_Jx4a65c_get_915e3, Q_Jx4a65c_get_915e3)] ([234, 221, 235].map (fun c => (c, EvF 11 c)))) hX7_lookUp (by decide) (by decide) okX7_lookUp (cc1C (CMetC.up (v_Jx4a65c_size_8abf5 l) (by first | decide | omega)) (by decide) (cc1C (CMetC.up (v_X11_has l) (by first | decide | omega)) (by decide) (cc1C (CMetC.up (v_Jx4a65c_get_915e3 l) (by first | decide | omega)) (by decide) cc0C))) (lg_X7_lookUp) (TbC.ev (b_X7_lookUp) (L := 11) (μ := 139) (M := []) rfl (by decide +kernel) rfl (by decide +kernel) (by decide +kernel) (fun _ _ _ _ hP _ => by
    obtain ⟨p0, p1, rfl, hH, ht⟩ := hP
    first
      | exact ⟨hH.1, ht⟩
      | exact ⟨hH.1, ht.1⟩) (fun _ _ _ _ _ _ => trivial) (Or.inl ⟨by decide +kernel, by decide +kernel⟩))
theorem v_X7_meant (l : Launch) : CMetC l 12 140 P_X7_meant (EvQ (12 + 1) 140 Q_X7_meant) :=
  CMetC.of KX7_meant (uc2C [(139, P_X7_lookUp, Q_X7_lookUp)] ([139].map (fun c => (c, EvF 12 c)))) hX7_meant (by decide) (by decide) okX7_meant (cc1C (CMetC.up (v_X7_lookUp l) (by first | decide | omega)) (by decide) cc0C) (lg_X7_meant) (TbC.ev (b_X7_meant) (L := 12) (μ := 140) (M := [900]) rfl (by decide +kernel) rfl (by decide +kernel) (by decide +kernel) (fun _ _ _ _ hP _ => by
    obtain ⟨p0, p1, rfl, hH, ht⟩ := hP
    first
      | exact ⟨hH.1, ht⟩
      | exact ⟨hH.1, ht.1⟩) (fun _ _ _ _ _ _ => trivial) (Or.inl ⟨by decide +kernel, by decide +kernel⟩))
theorem v_X7_declare (l : Launch) : CMetC l 12 137 P_X7_declare (EvQ (12 + 1) 137 Q_X7_declare) :=
  CMetC.of KX7_declare (uc2C [(234, P_Jx4a65c_size_8abf5, Q_Jx4a65c_size_8abf5), (125, P_X7_code, Q_X7_code), (127, P_X7_raise, Q_X7_raise), (199, P_X10_init, Q_X10_init), (139, P_X7_lookUp, Q_X7_lookUp), (236, P_Jx4a65c_add_9ea2d, Q_Jx4a65c_add_9ea2d), (128, P_X7_accept, Q_X7_accept)] ([234, 125, 127, 199, 139, 236, 128].map (fun c => (c, EvF 12 c)))) hX7_declare (by decide) (by decide) okX7_declare (cc1C (CMetC.up (v_Jx4a65c_size_8abf5 l) (by first | decide | omega)) (by decide) (cc1C (CMetC.up (v_X7_code l) (by first | decide | omega)) (by decide) (cc1C (CMetC.up (v_X7_raise l) (by first | decide | omega)) (by decide) (cc1C (CMetC.up (v_X10_init l) (by first | decide | omega)) (by decide) (cc1C (CMetC.up (v_X7_lookUp l) (by first | decide | omega)) (by decide) (cc1C (CMetC.up (v_Jx4a65c_add_9ea2d l) (by first | decide | omega)) (by decide) (cc1C (CMetC.up (v_X7_accept l) (by first | decide | omega)) (by decide) cc0C))))))) (lg_X7_declare) (TbC.ev (b_X7_declare) (L := 12) (μ := 137) (M := [0, 1, 2, 242, 243, 244, 330, 331, 332, 333, 334, 900, 902]) rfl (by decide +kernel) rfl (by decide +kernel) (by decide +kernel) (fun _ _ _ _ hP _ => by
    obtain ⟨p0, p1, p2, p3, rfl, hH, ht⟩ := hP
    first
      | exact ⟨hH.1, ht⟩
      | exact ⟨hH.1, ht.1⟩) (fun _ _ _ _ _ _ => trivial) (Or.inl ⟨by decide +kernel, by decide +kernel⟩))
theorem v_X7_begin (l : Launch) : CMetC l 11 142 P_X7_begin (EvQ (11 + 1) 142 Q_X7_begin) :=
  CMetC.of KX7_begin (uc2C [(178, P_X8_init, Q_X8_init), (236, P_Jx4a65c_add_9ea2d, Q_Jx4a65c_add_9ea2d)] ([178, 236].map (fun c => (c, EvF 11 c)))) hX7_begin (by decide) (by decide) okX7_begin (cc1C (CMetC.up (v_X8_init l) (by first | decide | omega)) (by decide) (cc1C (CMetC.up (v_Jx4a65c_add_9ea2d l) (by first | decide | omega)) (by decide) cc0C)) (lg_X7_begin) (TbC.ev (b_X7_begin) (L := 11) (μ := 142) (M := [0, 1, 2, 270, 271, 272, 273, 274, 280, 287, 288, 902]) rfl (by decide +kernel) rfl (by decide +kernel) (by decide +kernel) (fun _ _ _ _ hP _ => by
    obtain ⟨p0, p1, p2, rfl, hH, ht⟩ := hP
    first
      | exact ⟨hH.1, ht⟩
      | exact ⟨hH.1, ht.1⟩) (fun _ _ _ _ _ _ => trivial) (Or.inl ⟨by decide +kernel, by decide +kernel⟩))
theorem v_X7_put (l : Launch) : CMetC l 11 161 P_X7_put (EvQ (11 + 1) 161 Q_X7_put) :=
  CMetC.of KX7_put (uc2C [(234, P_Jx4a65c_size_8abf5, Q_Jx4a65c_size_8abf5), (236, P_Jx4a65c_add_9ea2d, Q_Jx4a65c_add_9ea2d)] ([234, 236].map (fun c => (c, EvF 11 c)))) hX7_put (by decide) (by decide) okX7_put (cc1C (CMetC.up (v_Jx4a65c_size_8abf5 l) (by first | decide | omega)) (by decide) (cc1C (CMetC.up (v_Jx4a65c_add_9ea2d l) (by first | decide | omega)) (by decide) cc0C)) (lg_X7_put) (TbC.ev (b_X7_put) (L := 11) (μ := 161) (M := [0, 1, 2, 64, 65, 902]) rfl (by decide +kernel) rfl (by decide +kernel) (by decide +kernel) (fun _ _ _ _ hP _ => by
    obtain ⟨p0, p1, rfl, hH, ht⟩ := hP
    first
      | exact ⟨hH.1, ht⟩
      | exact ⟨hH.1, ht.1⟩) (fun _ _ _ _ _ _ => trivial) (Or.inl ⟨by decide +kernel, by decide +kernel⟩))
theorem v_X7_opened (l : Launch) : CMetC l 11 162 P_X7_opened (EvQ (11 + 1) 162 Q_X7_opened) :=
  CMetC.of KX7_opened (uc2C [(234, P_Jx4a65c_size_8abf5, Q_Jx4a65c_size_8abf5), (17, P_X1_init, Q_X1_init)] ([234, 17].map (fun c => (c, EvF 11 c)))) hX7_opened (by decide) (by decide) okX7_opened (cc1C (CMetC.up (v_Jx4a65c_size_8abf5 l) (by first | decide | omega)) (by decide) (cc1C (CMetC.up (v_X1_init l) (by first | decide | omega)) (by decide) cc0C)) (lg_X7_opened) (TbC.ev (b_X7_opened) (L := 11) (μ := 162) (M := [60, 61, 62, 63, 66, 67, 68]) rfl (by decide +kernel) rfl (by decide +kernel) (by decide +kernel) (fun _ _ _ _ hP _ => by
    obtain ⟨p0, p1, p2, rfl, hH, ht⟩ := hP
    first
      | exact ⟨hH.1, ht⟩
      | exact ⟨hH.1, ht.1⟩) (fun _ _ _ _ _ _ => trivial) (Or.inl ⟨by decide +kernel, by decide +kernel⟩))
theorem v_X7_putMark (l : Launch) : CMetC l 12 163 P_X7_putMark (EvQ (12 + 1) 163 Q_X7_putMark) :=
  CMetC.of KX7_putMark (uc2C [(162, P_X7_opened, Q_X7_opened), (161, P_X7_put, Q_X7_put)] ([162, 161].map (fun c => (c, EvF 12 c)))) hX7_putMark (by decide) (by decide) okX7_putMark (cc1C (CMetC.up (v_X7_opened l) (by first | decide | omega)) (by decide) (cc1C (CMetC.up (v_X7_put l) (by first | decide | omega)) (by decide) cc0C)) (lg_X7_putMark) (TbC.ev (b_X7_putMark) (L := 12) (μ := 163) (M := [0, 1, 2, 60, 61, 62, 63, 64, 65, 66, 67, 68, 902]) rfl (by decide +kernel) rfl (by decide +kernel) (by decide +kernel) (fun _ _ _ _ hP _ => by
    obtain ⟨p0, p1, p2, rfl, hH, ht⟩ := hP
    first
      | exact ⟨hH.1, ht⟩
      | exact ⟨hH.1, ht.1⟩) (fun _ _ _ _ _ _ => trivial) (Or.inl ⟨by decide +kernel, by decide +kernel⟩))
theorem v_X7_readLiteral (l : Launch) : CMetC l 12 177 P_X7_readLiteral (EvQ (12 + 1) 177 Q_X7_readLiteral) :=
  CMetC.of KX7_readLiteral (uc2C [(125, P_X7_code, Q_X7_code), (162, P_X7_opened, Q_X7_opened), (128, P_X7_accept, Q_X7_accept), (161, P_X7_put, Q_X7_put)] ([125, 162, 128, 161].map (fun c => (c, EvF 12 c)))) hX7_readLiteral (by decide) (by decide) okX7_readLiteral (cc1C (CMetC.up (v_X7_code l) (by first | decide | omega)) (by decide) (cc1C (CMetC.up (v_X7_opened l) (by first | decide | omega)) (by decide) (cc1C (CMetC.up (v_X7_accept l) (by first | decide | omega)) (by decide) (cc1C (CMetC.up (v_X7_put l) (by first | decide | omega)) (by decide) cc0C)))) (lg_X7_readLiteral) (TbC.ev (b_X7_readLiteral) (L := 12) (μ := 177) (M := [0, 1, 2, 60, 61, 62, 63, 64, 65, 66, 67, 68, 70, 71, 242, 243, 244, 902]) rfl (by decide +kernel) rfl (by decide +kernel) (by decide +kernel) (fun _ _ _ _ hP _ => by
    obtain ⟨p0, rfl, hH, ht⟩ := hP
    first
      | exact ⟨hH.1, ht⟩
      | exact ⟨hH.1, ht.1⟩) (fun _ _ _ _ _ _ => trivial) (Or.inl ⟨by decide +kernel, by decide +kernel⟩))
theorem v_X7_readCountAhead (l : Launch) : CMetC l 13 173 P_X7_readCountAhead (EvQ (13 + 1) 173 Q_X7_readCountAhead) :=
  CMetC.of KX7_readCountAhead (uc2C [(125, P_X7_code, Q_X7_code), (162, P_X7_opened, Q_X7_opened), (128, P_X7_accept, Q_X7_accept), (129, P_X7_expect, Q_X7_expect), (161, P_X7_put, Q_X7_put), (140, P_X7_meant, Q_X7_meant)] ([125, 162, 128, 129, 161, 140].map (fun c => (c, EvF 13 c)))) hX7_readCountAhead (by decide) (by decide) okX7_readCountAhead (cc1C (CMetC.up (v_X7_code l) (by first | decide | omega)) (by decide) (cc1C (CMetC.up (v_X7_opened l) (by first | decide | omega)) (by decide) (cc1C (CMetC.up (v_X7_accept l) (by first | decide | omega)) (by decide) (cc1C (CMetC.up (v_X7_expect l) (by first | decide | omega)) (by decide) (cc1C (CMetC.up (v_X7_put l) (by first | decide | omega)) (by decide) (cc1C (CMetC.up (v_X7_meant l) (by first | decide | omega)) (by decide) cc0C)))))) (lg_X7_readCountAhead) (TbC.ev (b_X7_readCountAhead) (L := 13) (μ := 173) (M := [0, 1, 2, 60, 61, 62, 63, 64, 65, 66, 67, 68, 242, 243, 244, 900, 902]) rfl (by decide +kernel) rfl (by decide +kernel) (by decide +kernel) (fun _ _ _ _ hP _ => by
    obtain ⟨p0, rfl, hH, ht⟩ := hP
    first
      | exact ⟨hH.1, ht⟩
      | exact ⟨hH.1, ht.1⟩) (fun _ _ _ _ _ _ => trivial) (Or.inl ⟨by decide +kernel, by decide +kernel⟩))
theorem v_X7_waitingFor (l : Launch) : CMetC l 13 168 P_X7_waitingFor (EvQ (13 + 1) 168 Q_X7_waitingFor) :=
  CMetC.of KX7_waitingFor (uc2C [(17, P_X1_init, Q_X1_init), (163, P_X7_putMark, Q_X7_putMark)] ([17, 163].map (fun c => (c, EvF 13 c)))) hX7_waitingFor (by decide) (by decide) okX7_waitingFor (cc1C (CMetC.up (v_X1_init l) (by first | decide | omega)) (by decide) (cc1C (CMetC.up (v_X7_putMark l) (by first | decide | omega)) (by decide) cc0C)) (lg_X7_waitingFor) (TbC.ev (b_X7_waitingFor) (L := 13) (μ := 168) (M := [0, 1, 2, 60, 61, 62, 63, 64, 65, 66, 67, 68, 72, 75, 76, 902]) rfl (by decide +kernel) rfl (by decide +kernel) (by decide +kernel) (fun _ _ _ _ hP _ => by
    obtain ⟨p0, p1, p2, p3, rfl, hH, ht⟩ := hP
    first
      | exact ⟨hH.1, ht⟩
      | exact ⟨hH.1, ht.1⟩) (fun _ _ _ _ _ _ => trivial) (Or.inl ⟨by decide +kernel, by decide +kernel⟩))
theorem v_X7_closed (l : Launch) : CMetC l 12 169 P_X7_closed (EvQ (12 + 1) 169 Q_X7_closed) :=
  CMetC.of KX7_closed (uc2C [(161, P_X7_put, Q_X7_put)] ([161].map (fun c => (c, EvF 12 c)))) hX7_closed (by decide) (by decide) okX7_closed (cc1C (CMetC.up (v_X7_put l) (by first | decide | omega)) (by decide) cc0C) (lg_X7_closed) (TbC.ev (b_X7_closed) (L := 12) (μ := 169) (M := [0, 1, 2, 64, 65, 73, 75, 902]) rfl (by decide +kernel) rfl (by decide +kernel) (by decide +kernel) (fun _ _ _ _ hP _ => by
    obtain ⟨p0, p1, p2, rfl, hH, ht⟩ := hP
    first
      | exact ⟨hH.1, ht⟩
      | exact ⟨hH.1, ht.1⟩) (fun _ _ _ _ _ _ => trivial) (Or.inl ⟨by decide +kernel, by decide +kernel⟩))
theorem vs_X7_readCall (l : Launch) (d : Nat) (h_X7_readExp : CMetC l (13 * d + 36) 164 (P_X7_readExp d) (EvQ ((13 * d + 36) + 1) 164 (Q_X7_readExp d))) : CMetC l (13 * (d + 1) + 31) 176 (P_X7_readCall (d + 1)) (EvQ ((13 * (d + 1) + 31) + 1) 176 (Q_X7_readCall (d + 1))) :=
  CMetC.of KX7_readCall (uc2C [(162, P_X7_opened, Q_X7_opened), (128, P_X7_accept, Q_X7_accept), (131, P_X7_isTooDeep, Q_X7_isTooDeep), (125, P_X7_code, Q_X7_code), (129, P_X7_expect, Q_X7_expect), (161, P_X7_put, Q_X7_put), (164, (P_X7_readExp d), (Q_X7_readExp d)), (130, P_X7_takes, Q_X7_takes)] ([162, 128, 131, 125, 129, 161, 164, 130].map (fun c => (c, EvF (13 * (d + 1) + 31) c)))) hX7_readCall (by decide) (by omega) okX7_readCall (cc1C (CMetC.up (v_X7_opened l) (by first | decide | omega)) (by omega) (cc1C (CMetC.up (v_X7_accept l) (by first | decide | omega)) (by omega) (cc1C (CMetC.up (v_X7_isTooDeep l) (by first | decide | omega)) (by omega) (cc1C (CMetC.up (v_X7_code l) (by first | decide | omega)) (by omega) (cc1C (CMetC.up (v_X7_expect l) (by first | decide | omega)) (by omega) (cc1C (CMetC.up (v_X7_put l) (by first | decide | omega)) (by omega) (cc1C (CMetC.up (h_X7_readExp) (by first | decide | omega)) (by omega) (cc1C (CMetC.up (v_X7_takes l) (by first | decide | omega)) (by omega) cc0C)))))))) (lg_X7_readCall d) (TbC.ev (b_X7_readCall d) (L := (13 * (d + 1) + 31)) (μ := 176) (M := [0, 1, 2, 60, 61, 62, 63, 64, 65, 66, 67, 68, 69, 70, 71, 72, 73, 74, 75, 76, 242, 243, 244, 900, 902]) rfl (by decide +kernel) rfl (by decide +kernel) (by decide +kernel) (fun _ _ _ _ hP _ => by
    obtain ⟨p0, p1, rfl, hH, ht⟩ := hP
    first
      | exact ⟨hH.1, ht⟩
      | exact ⟨hH.1, ht.1⟩) (fun _ _ _ _ _ _ => trivial) (Or.inl ⟨by decide +kernel, by decide +kernel⟩))
theorem vs_X7_readAlone (l : Launch) (d : Nat) (h_X7_readInnerOperand : CMetC l (13 * d + 34) 171 (P_X7_readInnerOperand d) (EvQ ((13 * d + 34) + 1) 171 (Q_X7_readInnerOperand d))) : CMetC l (13 * (d + 1) + 31) 172 (P_X7_readAlone (d + 1)) (EvQ ((13 * (d + 1) + 31) + 1) 172 (Q_X7_readAlone (d + 1))) :=
  CMetC.of KX7_readAlone (uc2C [(125, P_X7_code, Q_X7_code), (162, P_X7_opened, Q_X7_opened), (128, P_X7_accept, Q_X7_accept), (171, (P_X7_readInnerOperand d), (Q_X7_readInnerOperand d)), (161, P_X7_put, Q_X7_put)] ([125, 162, 128, 171, 161].map (fun c => (c, EvF (13 * (d + 1) + 31) c)))) hX7_readAlone (by decide) (by omega) okX7_readAlone (cc1C (CMetC.up (v_X7_code l) (by first | decide | omega)) (by omega) (cc1C (CMetC.up (v_X7_opened l) (by first | decide | omega)) (by omega) (cc1C (CMetC.up (v_X7_accept l) (by first | decide | omega)) (by omega) (cc1C (CMetC.up (h_X7_readInnerOperand) (by first | decide | omega)) (by omega) (cc1C (CMetC.up (v_X7_put l) (by first | decide | omega)) (by omega) cc0C))))) (lg_X7_readAlone d) (TbC.ev (b_X7_readAlone d) (L := (13 * (d + 1) + 31)) (μ := 172) (M := [0, 1, 2, 60, 61, 62, 63, 64, 65, 66, 67, 68, 69, 70, 71, 72, 73, 74, 75, 76, 242, 243, 244, 900, 902]) rfl (by decide +kernel) rfl (by decide +kernel) (by decide +kernel) (fun _ _ _ _ hP _ => by
    obtain ⟨p0, p1, rfl, hH, ht⟩ := hP
    first
      | exact ⟨hH.1, ht⟩
      | exact ⟨hH.1, ht.1⟩) (fun _ _ _ _ _ _ => trivial) (Or.inl ⟨by decide +kernel, by decide +kernel⟩))
theorem vs_X7_readBehindOpen (l : Launch) (d : Nat) (h_X7_readExp : CMetC l (13 * d + 36) 164 (P_X7_readExp d) (EvQ ((13 * d + 36) + 1) 164 (Q_X7_readExp d))) (h_X7_readInnerOperand : CMetC l (13 * d + 34) 171 (P_X7_readInnerOperand d) (EvQ ((13 * d + 34) + 1) 171 (Q_X7_readInnerOperand d))) : CMetC l (13 * (d + 1) + 31) 174 (P_X7_readBehindOpen (d + 1)) (EvQ ((13 * (d + 1) + 31) + 1) 174 (Q_X7_readBehindOpen (d + 1))) :=
  CMetC.of KX7_readBehindOpen (uc2C [(234, P_Jx4a65c_size_8abf5, Q_Jx4a65c_size_8abf5), (128, P_X7_accept, Q_X7_accept), (125, P_X7_code, Q_X7_code), (132, P_X7_isType, Q_X7_isType), (17, P_X1_init, Q_X1_init), (164, (P_X7_readExp d), (Q_X7_readExp d)), (129, P_X7_expect, Q_X7_expect), (161, P_X7_put, Q_X7_put), (136, P_X7_readType, Q_X7_readType), (171, (P_X7_readInnerOperand d), (Q_X7_readInnerOperand d))] ([234, 128, 125, 132, 17, 164, 129, 161, 136, 171].map (fun c => (c, EvF (13 * (d + 1) + 31) c)))) hX7_readBehindOpen (by decide) (by omega) okX7_readBehindOpen (cc1C (CMetC.up (v_Jx4a65c_size_8abf5 l) (by first | decide | omega)) (by omega) (cc1C (CMetC.up (v_X7_accept l) (by first | decide | omega)) (by omega) (cc1C (CMetC.up (v_X7_code l) (by first | decide | omega)) (by omega) (cc1C (CMetC.up (v_X7_isType l) (by first | decide | omega)) (by omega) (cc1C (CMetC.up (v_X1_init l) (by first | decide | omega)) (by omega) (cc1C (CMetC.up (h_X7_readExp) (by first | decide | omega)) (by omega) (cc1C (CMetC.up (v_X7_expect l) (by first | decide | omega)) (by omega) (cc1C (CMetC.up (v_X7_put l) (by first | decide | omega)) (by omega) (cc1C (CMetC.up (v_X7_readType l) (by first | decide | omega)) (by omega) (cc1C (CMetC.up (h_X7_readInnerOperand) (by first | decide | omega)) (by omega) cc0C)))))))))) (lg_X7_readBehindOpen d) (TbC.ev (b_X7_readBehindOpen d) (L := (13 * (d + 1) + 31)) (μ := 174) (M := [0, 1, 2, 60, 61, 62, 63, 64, 65, 66, 67, 68, 69, 70, 71, 72, 73, 74, 75, 76, 242, 243, 244, 900, 902]) rfl (by decide +kernel) rfl (by decide +kernel) (by decide +kernel) (fun _ _ _ _ hP _ => by
    obtain ⟨p0, p1, rfl, hH, ht⟩ := hP
    first
      | exact ⟨hH.1, ht⟩
      | exact ⟨hH.1, ht.1⟩) (fun _ _ _ _ _ _ => trivial) (Or.inl ⟨by decide +kernel, by decide +kernel⟩))
theorem vs_X7_readName (l : Launch) (d : Nat) (h_X7_readCall : CMetC l (13 * d + 31) 176 (P_X7_readCall d) (EvQ ((13 * d + 31) + 1) 176 (Q_X7_readCall d))) : CMetC l (13 * d + 32) 175 (P_X7_readName d) (EvQ ((13 * d + 32) + 1) 175 (Q_X7_readName d)) :=
  CMetC.of KX7_readName (uc2C [(126, P_X7_codeBehind, Q_X7_codeBehind), (162, P_X7_opened, Q_X7_opened), (140, P_X7_meant, Q_X7_meant), (128, P_X7_accept, Q_X7_accept), (161, P_X7_put, Q_X7_put), (176, (P_X7_readCall d), (Q_X7_readCall d))] ([126, 162, 140, 128, 161, 176].map (fun c => (c, EvF (13 * d + 32) c)))) hX7_readName (by decide) (by omega) okX7_readName (cc1C (CMetC.up (v_X7_codeBehind l) (by first | decide | omega)) (by omega) (cc1C (CMetC.up (v_X7_opened l) (by first | decide | omega)) (by omega) (cc1C (CMetC.up (v_X7_meant l) (by first | decide | omega)) (by omega) (cc1C (CMetC.up (v_X7_accept l) (by first | decide | omega)) (by omega) (cc1C (CMetC.up (v_X7_put l) (by first | decide | omega)) (by omega) (cc1C (CMetC.up (h_X7_readCall) (by first | decide | omega)) (by omega) cc0C)))))) (lg_X7_readName d) (TbC.ev (b_X7_readName d) (L := (13 * d + 32)) (μ := 175) (M := [0, 1, 2, 60, 61, 62, 63, 64, 65, 66, 67, 68, 69, 70, 71, 72, 73, 74, 75, 76, 242, 243, 244, 900, 902]) rfl (by decide +kernel) rfl (by decide +kernel) (by decide +kernel) (fun _ _ _ _ hP _ => by
    obtain ⟨p0, p1, rfl, hH, ht⟩ := hP
    first
      | exact ⟨hH.1, ht⟩
      | exact ⟨hH.1, ht.1⟩) (fun _ _ _ _ _ _ => trivial) (Or.inl ⟨by decide +kernel, by decide +kernel⟩))
theorem vs_X7_readInnerOperand (l : Launch) (d : Nat) (h_X7_readOperand : CMetC l (13 * d + 33) 170 (P_X7_readOperand d) (EvQ ((13 * d + 33) + 1) 170 (Q_X7_readOperand d))) : CMetC l (13 * d + 34) 171 (P_X7_readInnerOperand d) (EvQ ((13 * d + 34) + 1) 171 (Q_X7_readInnerOperand d)) :=
  CMetC.of KX7_readInnerOperand (uc2C [(131, P_X7_isTooDeep, Q_X7_isTooDeep), (170, (P_X7_readOperand d), (Q_X7_readOperand d)), (162, P_X7_opened, Q_X7_opened)] ([131, 170, 162].map (fun c => (c, EvF (13 * d + 34) c)))) hX7_readInnerOperand (by decide) (by omega) okX7_readInnerOperand (cc1C (CMetC.up (v_X7_isTooDeep l) (by first | decide | omega)) (by omega) (cc1C (CMetC.up (h_X7_readOperand) (by first | decide | omega)) (by omega) (cc1C (CMetC.up (v_X7_opened l) (by first | decide | omega)) (by omega) cc0C))) (lg_X7_readInnerOperand d) (TbC.ev (b_X7_readInnerOperand d) (L := (13 * d + 34)) (μ := 171) (M := [0, 1, 2, 60, 61, 62, 63, 64, 65, 66, 67, 68, 69, 70, 71, 72, 73, 74, 75, 76, 242, 243, 244, 900, 902]) rfl (by decide +kernel) rfl (by decide +kernel) (by decide +kernel) (fun _ _ _ _ hP _ => by
    obtain ⟨p0, p1, rfl, hH, ht⟩ := hP
    first
      | exact ⟨hH.1, ht⟩
      | exact ⟨hH.1, ht.1⟩) (fun _ _ _ _ _ _ => trivial) (Or.inl ⟨by decide +kernel, by decide +kernel⟩))
theorem vs_X7_readOperand (l : Launch) (d : Nat) (h_X7_readBehindOpen : CMetC l (13 * d + 31) 174 (P_X7_readBehindOpen d) (EvQ ((13 * d + 31) + 1) 174 (Q_X7_readBehindOpen d))) (h_X7_readAlone : CMetC l (13 * d + 31) 172 (P_X7_readAlone d) (EvQ ((13 * d + 31) + 1) 172 (Q_X7_readAlone d))) (h_X7_readName : CMetC l (13 * d + 32) 175 (P_X7_readName d) (EvQ ((13 * d + 32) + 1) 175 (Q_X7_readName d))) : CMetC l (13 * d + 33) 170 (P_X7_readOperand d) (EvQ ((13 * d + 33) + 1) 170 (Q_X7_readOperand d)) :=
  CMetC.of KX7_readOperand (uc2C [(125, P_X7_code, Q_X7_code), (174, (P_X7_readBehindOpen d), (Q_X7_readBehindOpen d)), (172, (P_X7_readAlone d), (Q_X7_readAlone d)), (173, P_X7_readCountAhead, Q_X7_readCountAhead), (177, P_X7_readLiteral, Q_X7_readLiteral), (175, (P_X7_readName d), (Q_X7_readName d)), (127, P_X7_raise, Q_X7_raise), (162, P_X7_opened, Q_X7_opened)] ([125, 174, 172, 173, 177, 175, 127, 162].map (fun c => (c, EvF (13 * d + 33) c)))) hX7_readOperand (by decide) (by omega) okX7_readOperand (cc1C (CMetC.up (v_X7_code l) (by first | decide | omega)) (by omega) (cc1C (CMetC.up (h_X7_readBehindOpen) (by first | decide | omega)) (by omega) (cc1C (CMetC.up (h_X7_readAlone) (by first | decide | omega)) (by omega) (cc1C (CMetC.up (v_X7_readCountAhead l) (by first | decide | omega)) (by omega) (cc1C (CMetC.up (v_X7_readLiteral l) (by first | decide | omega)) (by omega) (cc1C (CMetC.up (h_X7_readName) (by first | decide | omega)) (by omega) (cc1C (CMetC.up (v_X7_raise l) (by first | decide | omega)) (by omega) (cc1C (CMetC.up (v_X7_opened l) (by first | decide | omega)) (by omega) cc0C)))))))) (lg_X7_readOperand d) (TbC.ev (b_X7_readOperand d) (L := (13 * d + 33)) (μ := 170) (M := [0, 1, 2, 60, 61, 62, 63, 64, 65, 66, 67, 68, 69, 70, 71, 72, 73, 74, 75, 76, 242, 243, 244, 900, 902]) rfl (by decide +kernel) rfl (by decide +kernel) (by decide +kernel) (fun _ _ _ _ hP _ => by
    obtain ⟨p0, p1, rfl, hH, ht⟩ := hP
    first
      | exact ⟨hH.1, ht⟩
      | exact ⟨hH.1, ht.1⟩) (fun _ _ _ _ _ _ => trivial) (Or.inl ⟨by decide +kernel, by decide +kernel⟩))
theorem vs_X7_readChoice (l : Launch) (d : Nat) (h_X7_readChain : CMetC l (13 * (d + 1) + 34) 167 (P_X7_readChain (d + 1)) (EvQ ((13 * (d + 1) + 34) + 1) 167 (Q_X7_readChain (d + 1)))) (h_X7_readExp : CMetC l (13 * d + 36) 164 (P_X7_readExp d) (EvQ ((13 * d + 36) + 1) 164 (Q_X7_readExp d))) (h_X7_readChoice : CMetC l (13 * d + 35) 166 (P_X7_readChoice d) (EvQ ((13 * d + 35) + 1) 166 (Q_X7_readChoice d))) : CMetC l (13 * (d + 1) + 35) 166 (P_X7_readChoice (d + 1)) (EvQ ((13 * (d + 1) + 35) + 1) 166 (Q_X7_readChoice (d + 1))) :=
  CMetC.of KX7_readChoice (uc2C [(234, P_Jx4a65c_size_8abf5, Q_Jx4a65c_size_8abf5), (167, (P_X7_readChain (d + 1)), (Q_X7_readChain (d + 1))), (125, P_X7_code, Q_X7_code), (17, P_X1_init, Q_X1_init), (163, P_X7_putMark, Q_X7_putMark), (128, P_X7_accept, Q_X7_accept), (164, (P_X7_readExp d), (Q_X7_readExp d)), (129, P_X7_expect, Q_X7_expect), (131, P_X7_isTooDeep, Q_X7_isTooDeep), (166, (P_X7_readChoice d), (Q_X7_readChoice d)), (161, P_X7_put, Q_X7_put), (162, P_X7_opened, Q_X7_opened)] ([234, 167, 125, 17, 163, 128, 164, 129, 131, 166, 161, 162].map (fun c => (c, EvF (13 * (d + 1) + 35) c)))) hX7_readChoice (by decide) (by omega) okX7_readChoice (cc1C (CMetC.up (v_Jx4a65c_size_8abf5 l) (by first | decide | omega)) (by omega) (cc1C (CMetC.up (h_X7_readChain) (by first | decide | omega)) (by omega) (cc1C (CMetC.up (v_X7_code l) (by first | decide | omega)) (by omega) (cc1C (CMetC.up (v_X1_init l) (by first | decide | omega)) (by omega) (cc1C (CMetC.up (v_X7_putMark l) (by first | decide | omega)) (by omega) (cc1C (CMetC.up (v_X7_accept l) (by first | decide | omega)) (by omega) (cc1C (CMetC.up (h_X7_readExp) (by first | decide | omega)) (by omega) (cc1C (CMetC.up (v_X7_expect l) (by first | decide | omega)) (by omega) (cc1C (CMetC.up (v_X7_isTooDeep l) (by first | decide | omega)) (by omega) (cc1C (CMetC.up (h_X7_readChoice) (by first | decide | omega)) (by omega) (cc1C (CMetC.up (v_X7_put l) (by first | decide | omega)) (by omega) (cc1C (CMetC.up (v_X7_opened l) (by first | decide | omega)) (by omega) cc0C)))))))))))) (lg_X7_readChoice d) (TbC.ev (b_X7_readChoice d) (L := (13 * (d + 1) + 35)) (μ := 166) (M := [0, 1, 2, 60, 61, 62, 63, 64, 65, 66, 67, 68, 69, 70, 71, 72, 73, 74, 75, 76, 242, 243, 244, 900, 902]) rfl (by decide +kernel) rfl (by decide +kernel) (by decide +kernel) (fun _ _ _ _ hP _ => by
    obtain ⟨p0, p1, rfl, hH, ht⟩ := hP
    first
      | exact ⟨hH.1, ht⟩
      | exact ⟨hH.1, ht.1⟩) (fun _ _ _ _ _ _ => trivial) (Or.inl ⟨by decide +kernel, by decide +kernel⟩))
theorem vs_X7_readAssignment (l : Launch) (d : Nat) (h_X7_readExp : CMetC l (13 * d + 36) 164 (P_X7_readExp d) (EvQ ((13 * d + 36) + 1) 164 (Q_X7_readExp d))) : CMetC l (13 * (d + 1) + 35) 165 (P_X7_readAssignment (d + 1)) (EvQ ((13 * (d + 1) + 35) + 1) 165 (Q_X7_readAssignment (d + 1))) :=
  CMetC.of KX7_readAssignment (uc2C [(126, P_X7_codeBehind, Q_X7_codeBehind), (226, P_X11_operatorOf, Q_X11_operatorOf), (162, P_X7_opened, Q_X7_opened), (140, P_X7_meant, Q_X7_meant), (128, P_X7_accept, Q_X7_accept), (164, (P_X7_readExp d), (Q_X7_readExp d)), (161, P_X7_put, Q_X7_put), (163, P_X7_putMark, Q_X7_putMark)] ([126, 226, 162, 140, 128, 164, 161, 163].map (fun c => (c, EvF (13 * (d + 1) + 35) c)))) hX7_readAssignment (by decide) (by omega) okX7_readAssignment (cc1C (CMetC.up (v_X7_codeBehind l) (by first | decide | omega)) (by omega) (cc1C (CMetC.up (v_X11_operatorOf l) (by first | decide | omega)) (by omega) (cc1C (CMetC.up (v_X7_opened l) (by first | decide | omega)) (by omega) (cc1C (CMetC.up (v_X7_meant l) (by first | decide | omega)) (by omega) (cc1C (CMetC.up (v_X7_accept l) (by first | decide | omega)) (by omega) (cc1C (CMetC.up (h_X7_readExp) (by first | decide | omega)) (by omega) (cc1C (CMetC.up (v_X7_put l) (by first | decide | omega)) (by omega) (cc1C (CMetC.up (v_X7_putMark l) (by first | decide | omega)) (by omega) cc0C)))))))) (lg_X7_readAssignment d) (TbC.ev (b_X7_readAssignment d) (L := (13 * (d + 1) + 35)) (μ := 165) (M := [0, 1, 2, 60, 61, 62, 63, 64, 65, 66, 67, 68, 69, 70, 71, 72, 73, 74, 75, 76, 242, 243, 244, 900, 902]) rfl (by decide +kernel) rfl (by decide +kernel) (by decide +kernel) (fun _ _ _ _ hP _ => by
    obtain ⟨p0, p1, rfl, hH, ht⟩ := hP
    first
      | exact ⟨hH.1, ht⟩
      | exact ⟨hH.1, ht.1⟩) (fun _ _ _ _ _ _ => trivial) (Or.inl ⟨by decide +kernel, by decide +kernel⟩))
theorem vs_X7_readExp (l : Launch) (d : Nat) (h_X7_readChoice : CMetC l (13 * d + 35) 166 (P_X7_readChoice d) (EvQ ((13 * d + 35) + 1) 166 (Q_X7_readChoice d))) (h_X7_readAssignment : CMetC l (13 * d + 35) 165 (P_X7_readAssignment d) (EvQ ((13 * d + 35) + 1) 165 (Q_X7_readAssignment d))) : CMetC l (13 * d + 36) 164 (P_X7_readExp d) (EvQ ((13 * d + 36) + 1) 164 (Q_X7_readExp d)) :=
  CMetC.of KX7_readExp (uc2C [(131, P_X7_isTooDeep, Q_X7_isTooDeep), (125, P_X7_code, Q_X7_code), (166, (P_X7_readChoice d), (Q_X7_readChoice d)), (126, P_X7_codeBehind, Q_X7_codeBehind), (133, P_X7_isAssign, Q_X7_isAssign), (165, (P_X7_readAssignment d), (Q_X7_readAssignment d)), (162, P_X7_opened, Q_X7_opened)] ([131, 125, 166, 126, 133, 165, 162].map (fun c => (c, EvF (13 * d + 36) c)))) hX7_readExp (by decide) (by omega) okX7_readExp (cc1C (CMetC.up (v_X7_isTooDeep l) (by first | decide | omega)) (by omega) (cc1C (CMetC.up (v_X7_code l) (by first | decide | omega)) (by omega) (cc1C (CMetC.up (h_X7_readChoice) (by first | decide | omega)) (by omega) (cc1C (CMetC.up (v_X7_codeBehind l) (by first | decide | omega)) (by omega) (cc1C (CMetC.up (v_X7_isAssign l) (by first | decide | omega)) (by omega) (cc1C (CMetC.up (h_X7_readAssignment) (by first | decide | omega)) (by omega) (cc1C (CMetC.up (v_X7_opened l) (by first | decide | omega)) (by omega) cc0C))))))) (lg_X7_readExp d) (TbC.ev (b_X7_readExp d) (L := (13 * d + 36)) (μ := 164) (M := [0, 1, 2, 60, 61, 62, 63, 64, 65, 66, 67, 68, 69, 70, 71, 72, 73, 74, 75, 76, 242, 243, 244, 900, 902]) rfl (by decide +kernel) rfl (by decide +kernel) (by decide +kernel) (fun _ _ _ _ hP _ => by
    obtain ⟨p0, p1, rfl, hH, ht⟩ := hP
    first
      | exact ⟨hH.1, ht⟩
      | exact ⟨hH.1, ht.1⟩) (fun _ _ _ _ _ _ => trivial) (Or.inl ⟨by decide +kernel, by decide +kernel⟩))
theorem vs_X7_readChain (l : Launch) (d : Nat) (h_X7_readOperand : CMetC l (13 * d + 33) 170 (P_X7_readOperand d) (EvQ ((13 * d + 33) + 1) 170 (Q_X7_readOperand d))) : CMetC l (13 * d + 34) 167 (P_X7_readChain d) (EvQ ((13 * d + 34) + 1) 167 (Q_X7_readChain d)) :=
  CMetC.of KX7_readChain (uc2C [(170, (P_X7_readOperand d), (Q_X7_readOperand d)), (125, P_X7_code, Q_X7_code), (225, P_X11_strength, Q_X11_strength), (168, P_X7_waitingFor, Q_X7_waitingFor), (128, P_X7_accept, Q_X7_accept), (169, P_X7_closed, Q_X7_closed)] ([170, 125, 225, 168, 128, 169].map (fun c => (c, EvF (13 * d + 34) c)))) hX7_readChain (by decide) (by omega) okX7_readChain (cc1C (CMetC.up (h_X7_readOperand) (by first | decide | omega)) (by omega) (cc1C (CMetC.up (v_X7_code l) (by first | decide | omega)) (by omega) (cc1C (CMetC.up (v_X11_strength l) (by first | decide | omega)) (by omega) (cc1C (CMetC.up (v_X7_waitingFor l) (by first | decide | omega)) (by omega) (cc1C (CMetC.up (v_X7_accept l) (by first | decide | omega)) (by omega) (cc1C (CMetC.up (v_X7_closed l) (by first | decide | omega)) (by omega) cc0C)))))) (lg_X7_readChain d) (TbC.ev (b_X7_readChain d) (L := (13 * d + 34)) (μ := 167) (M := [0, 1, 2, 60, 61, 62, 63, 64, 65, 66, 67, 68, 69, 70, 71, 72, 73, 74, 75, 76, 242, 243, 244, 900, 902]) rfl (by decide +kernel) rfl (by decide +kernel) (by decide +kernel) (fun _ _ _ _ hP _ => by
    obtain ⟨p0, p1, rfl, hH, ht⟩ := hP
    first
      | exact ⟨hH.1, ht⟩
      | exact ⟨hH.1, ht.1⟩) (fun _ _ _ _ _ _ => trivial) (Or.inl ⟨by decide +kernel, by decide +kernel⟩))
theorem v_X8_init6 (l : Launch) : CMetC l 1 178 P_X8_init6 (EvQ (1 + 1) 178 Q_X8_init6) :=
  CMetC.of KX8_init (uc2C [] ([].map (fun c => (c, EvF 1 c)))) hX8_init (by decide) (by decide) okX8_init cc0C (lg_X8_init6) (TbC.ev (b_X8_init6) (L := 1) (μ := 178) (M := [270, 271, 272, 273, 274, 280, 287, 288]) rfl (by decide +kernel) rfl (by decide +kernel) (by decide +kernel) (fun _ _ _ _ hP hQ => by
    obtain ⟨p0, p1, p2, p3, p4, p5, rfl, _⟩ := hP
    obtain ⟨_, _, he, _⟩ := hQ
    exact fun a ha hn => (he.2.2 a ha hn).1.1) (fun _ _ _ _ _ _ => trivial) (Or.inl ⟨by decide +kernel, by decide +kernel⟩))
theorem v_X7_begin6 (l : Launch) : CMetC l 11 142 P_X7_begin6 (EvQ (11 + 1) 142 Q_X7_begin6) :=
  CMetC.of KX7_begin (uc2C [(178, P_X8_init6, Q_X8_init6), (236, P_add6, Q_add6)] ([178, 236].map (fun c => (c, EvF 11 c)))) hX7_begin (by decide) (by decide) okX7_begin (cc1C (CMetC.up (v_X8_init6 l) (by first | decide | omega)) (by decide) (cc1C (CMetC.up (v_add6 l) (by first | decide | omega)) (by decide) cc0C)) (lg_X7_begin6) (TbC.ev (b_X7_begin6) (L := 11) (μ := 142) (M := [0, 1, 2, 270, 271, 272, 273, 274, 280, 287, 288, 902]) rfl (by decide +kernel) rfl (by decide +kernel) (by decide +kernel) (fun _ _ _ _ hP _ => by
    obtain ⟨p0, p1, p2, rfl, hH, ht⟩ := hP
    first
      | exact ⟨hH.1, ht⟩
      | exact ⟨hH.1, ht.1⟩) (fun _ _ _ _ _ _ => trivial) (Or.inl ⟨by decide +kernel, by decide +kernel⟩))
theorem vs_X7_readCondition (l : Launch) (d : Nat) (h_X7_readExp : CMetC l (13 * d + 36) 164 (P_X7_readExp d) (EvQ ((13 * d + 36) + 1) 164 (Q_X7_readExp d))) : CMetC l (13 * d + 37) 153 (P_X7_readCondition d) (EvQ ((13 * d + 37) + 1) 153 (Q_X7_readCondition d)) :=
  CMetC.of KX7_readCondition (uc2C [(129, P_X7_expect, Q_X7_expect), (164, (P_X7_readExp d), (Q_X7_readExp d))] ([129, 164].map (fun c => (c, EvF (13 * d + 37) c)))) hX7_readCondition (by decide) (by omega) okX7_readCondition (cc1C (CMetC.up (v_X7_expect l) (by first | decide | omega)) (by omega) (cc1C (CMetC.up (h_X7_readExp) (by first | decide | omega)) (by omega) cc0C)) (lg_X7_readCondition d) (TbC.ev (b_X7_readCondition d) (L := (13 * d + 37)) (μ := 153) (M := [0, 1, 2, 60, 61, 62, 63, 64, 65, 66, 67, 68, 69, 70, 71, 72, 73, 74, 75, 76, 242, 243, 244, 279, 900, 902]) rfl (by decide +kernel) rfl (by decide +kernel) (by decide +kernel) (fun _ _ _ _ hP _ => by
    obtain ⟨p0, p1, p2, rfl, hH, ht⟩ := hP
    first
      | exact ⟨hH.1, ht⟩
      | exact ⟨hH.1, ht.1⟩) (fun _ _ _ _ hP hQ => by
    obtain ⟨p0, p1, p2, rfl, _⟩ := hP
    exact fun a ha => (hQ.2.2.1.2.2 a ha).1.1) (Or.inl ⟨by decide +kernel, by decide +kernel⟩))
theorem vs_X7_readExpStatement (l : Launch) (d : Nat) (h_X7_readExp : CMetC l (13 * d + 36) 164 (P_X7_readExp d) (EvQ ((13 * d + 36) + 1) 164 (Q_X7_readExp d))) : CMetC l (13 * d + 37) 152 (P_X7_readExpStatement d) (EvQ ((13 * d + 37) + 1) 152 (Q_X7_readExpStatement d)) :=
  CMetC.of KX7_readExpStatement (uc2C [(142, P_X7_begin, Q_X7_begin), (164, (P_X7_readExp d), (Q_X7_readExp d)), (129, P_X7_expect, Q_X7_expect)] ([142, 164, 129].map (fun c => (c, EvF (13 * d + 37) c)))) hX7_readExpStatement (by decide) (by omega) okX7_readExpStatement (cc1C (CMetC.up (v_X7_begin l) (by first | decide | omega)) (by omega) (cc1C (CMetC.up (h_X7_readExp) (by first | decide | omega)) (by omega) (cc1C (CMetC.up (v_X7_expect l) (by first | decide | omega)) (by omega) cc0C))) (lg_X7_readExpStatement d) (TbC.ev (b_X7_readExpStatement d) (L := (13 * d + 37)) (μ := 152) (M := [0, 1, 2, 60, 61, 62, 63, 64, 65, 66, 67, 68, 69, 70, 71, 72, 73, 74, 75, 76, 242, 243, 244, 270, 271, 272, 273, 274, 279, 280, 287, 288, 900, 902]) rfl (by decide +kernel) rfl (by decide +kernel) (by decide +kernel) (fun _ _ _ _ hP _ => by
    obtain ⟨p0, p1, rfl, hH, ht⟩ := hP
    first
      | exact ⟨hH.1, ht⟩
      | exact ⟨hH.1, ht.1⟩) (fun _ _ _ _ _ _ => trivial) (Or.inl ⟨by decide +kernel, by decide +kernel⟩))
theorem vs_X7_readVariable (l : Launch) (d : Nat) (h_X7_readExp : CMetC l (13 * d + 36) 164 (P_X7_readExp d) (EvQ ((13 * d + 36) + 1) 164 (Q_X7_readExp d))) : CMetC l (13 * d + 37) 141 (P_X7_readVariable d) (EvQ ((13 * d + 37) + 1) 141 (Q_X7_readVariable d)) :=
  CMetC.of KX7_readVariable (uc2C [(142, P_X7_begin, Q_X7_begin), (130, P_X7_takes, Q_X7_takes), (136, P_X7_readType, Q_X7_readType), (137, P_X7_declare, Q_X7_declare), (138, P_X7_know, Q_X7_know), (125, P_X7_code, Q_X7_code), (129, P_X7_expect, Q_X7_expect), (164, (P_X7_readExp d), (Q_X7_readExp d)), (17, P_X1_init, Q_X1_init), (161, P_X7_put, Q_X7_put)] ([142, 130, 136, 137, 138, 125, 129, 164, 17, 161].map (fun c => (c, EvF (13 * d + 37) c)))) hX7_readVariable (by decide) (by omega) okX7_readVariable (cc1C (CMetC.up (v_X7_begin l) (by first | decide | omega)) (by omega) (cc1C (CMetC.up (v_X7_takes l) (by first | decide | omega)) (by omega) (cc1C (CMetC.up (v_X7_readType l) (by first | decide | omega)) (by omega) (cc1C (CMetC.up (v_X7_declare l) (by first | decide | omega)) (by omega) (cc1C (CMetC.up (v_X7_know l) (by first | decide | omega)) (by omega) (cc1C (CMetC.up (v_X7_code l) (by first | decide | omega)) (by omega) (cc1C (CMetC.up (v_X7_expect l) (by first | decide | omega)) (by omega) (cc1C (CMetC.up (h_X7_readExp) (by first | decide | omega)) (by omega) (cc1C (CMetC.up (v_X1_init l) (by first | decide | omega)) (by omega) (cc1C (CMetC.up (v_X7_put l) (by first | decide | omega)) (by omega) cc0C)))))))))) (lg_X7_readVariable d) (TbC.ev (b_X7_readVariable d) (L := (13 * d + 37)) (μ := 141) (M := [0, 1, 2, 60, 61, 62, 63, 64, 65, 66, 67, 68, 69, 70, 71, 72, 73, 74, 75, 76, 242, 243, 244, 245, 270, 271, 272, 273, 274, 279, 280, 287, 288, 330, 331, 332, 333, 334, 900, 902]) rfl (by decide +kernel) rfl (by decide +kernel) (by decide +kernel) (fun _ _ _ _ hP _ => by
    obtain ⟨p0, p1, p2, rfl, hH, ht⟩ := hP
    first
      | exact ⟨hH.1, ht⟩
      | exact ⟨hH.1, ht.1⟩) (fun _ _ _ _ _ _ => trivial) (Or.inl ⟨by decide +kernel, by decide +kernel⟩))
theorem vs_X7_readForExps (l : Launch) (d : Nat) (h_X7_readExp : CMetC l (13 * d + 36) 164 (P_X7_readExp d) (EvQ ((13 * d + 36) + 1) 164 (Q_X7_readExp d))) : CMetC l (13 * d + 37) 158 (P_X7_readForExps d) (EvQ ((13 * d + 37) + 1) 158 (Q_X7_readForExps d)) :=
  CMetC.of KX7_readForExps (uc2C [(142, P_X7_begin, Q_X7_begin), (164, (P_X7_readExp d), (Q_X7_readExp d)), (130, P_X7_takes, Q_X7_takes)] ([142, 164, 130].map (fun c => (c, EvF (13 * d + 37) c)))) hX7_readForExps (by decide) (by omega) okX7_readForExps (cc1C (CMetC.up (v_X7_begin l) (by first | decide | omega)) (by omega) (cc1C (CMetC.up (h_X7_readExp) (by first | decide | omega)) (by omega) (cc1C (CMetC.up (v_X7_takes l) (by first | decide | omega)) (by omega) cc0C))) (lg_X7_readForExps d) (TbC.ev (b_X7_readForExps d) (L := (13 * d + 37)) (μ := 158) (M := [0, 1, 2, 60, 61, 62, 63, 64, 65, 66, 67, 68, 69, 70, 71, 72, 73, 74, 75, 76, 242, 243, 244, 270, 271, 272, 273, 274, 275, 279, 280, 287, 288, 900, 902]) rfl (by decide +kernel) rfl (by decide +kernel) (by decide +kernel) (fun _ _ _ _ hP _ => by
    obtain ⟨p0, p1, rfl, hH, ht⟩ := hP
    first
      | exact ⟨hH.1, ht⟩
      | exact ⟨hH.1, ht.1⟩) (fun _ _ _ _ _ _ => trivial) (Or.inl ⟨by decide +kernel, by decide +kernel⟩))
theorem vs_X7_readCase (l : Launch) (d : Nat) (h_X7_readExp : CMetC l (13 * d + 36) 164 (P_X7_readExp d) (EvQ ((13 * d + 36) + 1) 164 (Q_X7_readExp d))) : CMetC l (13 * d + 37) 147 (P_X7_readCase d) (EvQ ((13 * d + 37) + 1) 147 (Q_X7_readCase d)) :=
  CMetC.of KX7_readCase (uc2C [(125, P_X7_code, Q_X7_code), (142, P_X7_begin, Q_X7_begin), (128, P_X7_accept, Q_X7_accept), (129, P_X7_expect, Q_X7_expect), (164, (P_X7_readExp d), (Q_X7_readExp d))] ([125, 142, 128, 129, 164].map (fun c => (c, EvF (13 * d + 37) c)))) hX7_readCase (by decide) (by omega) okX7_readCase (cc1C (CMetC.up (v_X7_code l) (by first | decide | omega)) (by omega) (cc1C (CMetC.up (v_X7_begin l) (by first | decide | omega)) (by omega) (cc1C (CMetC.up (v_X7_accept l) (by first | decide | omega)) (by omega) (cc1C (CMetC.up (v_X7_expect l) (by first | decide | omega)) (by omega) (cc1C (CMetC.up (h_X7_readExp) (by first | decide | omega)) (by omega) cc0C))))) (lg_X7_readCase d) (TbC.ev (b_X7_readCase d) (L := (13 * d + 37)) (μ := 147) (M := [0, 1, 2, 60, 61, 62, 63, 64, 65, 66, 67, 68, 69, 70, 71, 72, 73, 74, 75, 76, 242, 243, 244, 270, 271, 272, 273, 274, 279, 280, 287, 288, 900, 902]) rfl (by decide +kernel) rfl (by decide +kernel) (by decide +kernel) (fun _ _ _ _ hP _ => by
    obtain ⟨p0, p1, rfl, hH, ht⟩ := hP
    first
      | exact ⟨hH.1, ht⟩
      | exact ⟨hH.1, ht.1⟩) (fun _ _ _ _ _ _ => trivial) (Or.inl ⟨by decide +kernel, by decide +kernel⟩))
theorem vs_X7_readInner (l : Launch) (d : Nat) (h_X7_readStatement : CMetC l (13 * d + 40) 149 (P_X7_readStatement d) (EvQ ((13 * d + 40) + 1) 149 (Q_X7_readStatement d))) : CMetC l (13 * (d + 1) + 37) 148 (P_X7_readInner (d + 1)) (EvQ ((13 * (d + 1) + 37) + 1) 148 (Q_X7_readInner (d + 1))) :=
  CMetC.of KX7_readInner (uc2C [(149, (P_X7_readStatement d), (Q_X7_readStatement d))] ([149].map (fun c => (c, EvF (13 * (d + 1) + 37) c)))) hX7_readInner (by decide) (by omega) okX7_readInner (cc1C (CMetC.up (h_X7_readStatement) (by first | decide | omega)) (by omega) cc0C) (lg_X7_readInner d) (TbC.ev (b_X7_readInner d) (L := (13 * (d + 1) + 37)) (μ := 148) (M := [0, 1, 2, 60, 61, 62, 63, 64, 65, 66, 67, 68, 69, 70, 71, 72, 73, 74, 75, 76, 242, 243, 244, 245, 246, 270, 271, 272, 273, 274, 275, 276, 277, 278, 279, 280, 287, 288, 330, 331, 332, 333, 334, 900, 902]) rfl (by decide +kernel) rfl (by decide +kernel) (by decide +kernel) (fun _ _ _ _ hP _ => by
    obtain ⟨p0, p1, p2, rfl, hH, ht⟩ := hP
    first
      | exact ⟨hH.1, ht⟩
      | exact ⟨hH.1, ht.1⟩) (fun _ _ _ _ _ _ => trivial) (Or.inl ⟨by decide +kernel, by decide +kernel⟩))
theorem vs_X7_readBlock (l : Launch) (d : Nat) (h_X7_readRow : CMetC l (13 * d + 42) 145 (P_X7_readRow d) (EvQ ((13 * d + 42) + 1) 145 (Q_X7_readRow d))) : CMetC l (13 * (d + 1) + 37) 144 (P_X7_readBlock (d + 1)) (EvQ ((13 * (d + 1) + 37) + 1) 144 (Q_X7_readBlock (d + 1))) :=
  CMetC.of KX7_readBlock (uc2C [(129, P_X7_expect, Q_X7_expect), (145, (P_X7_readRow d), (Q_X7_readRow d))] ([129, 145].map (fun c => (c, EvF (13 * (d + 1) + 37) c)))) hX7_readBlock (by decide) (by omega) okX7_readBlock (cc1C (CMetC.up (v_X7_expect l) (by first | decide | omega)) (by omega) (cc1C (CMetC.up (h_X7_readRow) (by first | decide | omega)) (by omega) cc0C)) (lg_X7_readBlock d) (TbC.ev (b_X7_readBlock d) (L := (13 * (d + 1) + 37)) (μ := 144) (M := [0, 1, 2, 60, 61, 62, 63, 64, 65, 66, 67, 68, 69, 70, 71, 72, 73, 74, 75, 76, 242, 243, 244, 245, 246, 270, 271, 272, 273, 274, 275, 276, 277, 278, 279, 280, 287, 288, 330, 331, 332, 333, 334, 900, 902]) rfl (by decide +kernel) rfl (by decide +kernel) (by decide +kernel) (fun _ _ _ _ hP _ => by
    obtain ⟨p0, p1, p2, rfl, hH, ht⟩ := hP
    first
      | exact ⟨hH.1, ht⟩
      | exact ⟨hH.1, ht.1⟩) (fun _ _ _ _ hP hQ => by
    obtain ⟨p0, p1, p2, rfl, _⟩ := hP
    exact fun a ha => (hQ.2.2.1.2.2 a ha).1.1) (Or.inl ⟨by decide +kernel, by decide +kernel⟩))
theorem vs_X7_readBody (l : Launch) (d : Nat) (h_X7_readBlock : CMetC l (13 * d + 37) 144 (P_X7_readBlock d) (EvQ ((13 * d + 37) + 1) 144 (Q_X7_readBlock d))) : CMetC l (13 * d + 38) 143 (P_X7_readBody d) (EvQ ((13 * d + 38) + 1) 143 (Q_X7_readBody d)) :=
  CMetC.of KX7_readBody (uc2C [(142, P_X7_begin, Q_X7_begin), (144, (P_X7_readBlock d), (Q_X7_readBlock d))] ([142, 144].map (fun c => (c, EvF (13 * d + 38) c)))) hX7_readBody (by decide) (by omega) okX7_readBody (cc1C (CMetC.up (v_X7_begin l) (by first | decide | omega)) (by omega) (cc1C (CMetC.up (h_X7_readBlock) (by first | decide | omega)) (by omega) cc0C)) (lg_X7_readBody d) (TbC.ev (b_X7_readBody d) (L := (13 * d + 38)) (μ := 143) (M := [0, 1, 2, 60, 61, 62, 63, 64, 65, 66, 67, 68, 69, 70, 71, 72, 73, 74, 75, 76, 242, 243, 244, 245, 246, 270, 271, 272, 273, 274, 275, 276, 277, 278, 279, 280, 287, 288, 330, 331, 332, 333, 334, 900, 902]) rfl (by decide +kernel) rfl (by decide +kernel) (by decide +kernel) (fun _ _ _ _ hP _ => by
    obtain ⟨p0, p1, rfl, hH, ht⟩ := hP
    first
      | exact ⟨hH.1, ht⟩
      | exact ⟨hH.1, ht.1⟩) (fun _ _ _ _ _ _ => trivial) (Or.inl ⟨by decide +kernel, by decide +kernel⟩))
theorem vs_X7_readIf (l : Launch) (d : Nat) (h_X7_readCondition : CMetC l (13 * d + 37) 153 (P_X7_readCondition d) (EvQ ((13 * d + 37) + 1) 153 (Q_X7_readCondition d))) (h_X7_readInner : CMetC l (13 * d + 37) 148 (P_X7_readInner d) (EvQ ((13 * d + 37) + 1) 148 (Q_X7_readInner d))) : CMetC l (13 * d + 38) 154 (P_X7_readIf d) (EvQ ((13 * d + 38) + 1) 154 (Q_X7_readIf d)) :=
  CMetC.of KX7_readIf (uc2C [(142, P_X7_begin, Q_X7_begin), (128, P_X7_accept, Q_X7_accept), (153, (P_X7_readCondition d), (Q_X7_readCondition d)), (148, (P_X7_readInner d), (Q_X7_readInner d)), (130, P_X7_takes, Q_X7_takes)] ([142, 128, 153, 148, 130].map (fun c => (c, EvF (13 * d + 38) c)))) hX7_readIf (by decide) (by omega) okX7_readIf (cc1C (CMetC.up (v_X7_begin l) (by first | decide | omega)) (by omega) (cc1C (CMetC.up (v_X7_accept l) (by first | decide | omega)) (by omega) (cc1C (CMetC.up (h_X7_readCondition) (by first | decide | omega)) (by omega) (cc1C (CMetC.up (h_X7_readInner) (by first | decide | omega)) (by omega) (cc1C (CMetC.up (v_X7_takes l) (by first | decide | omega)) (by omega) cc0C))))) (lg_X7_readIf d) (TbC.ev (b_X7_readIf d) (L := (13 * d + 38)) (μ := 154) (M := [0, 1, 2, 60, 61, 62, 63, 64, 65, 66, 67, 68, 69, 70, 71, 72, 73, 74, 75, 76, 242, 243, 244, 245, 246, 270, 271, 272, 273, 274, 275, 276, 277, 278, 279, 280, 287, 288, 330, 331, 332, 333, 334, 900, 902]) rfl (by decide +kernel) rfl (by decide +kernel) (by decide +kernel) (fun _ _ _ _ hP _ => by
    obtain ⟨p0, p1, rfl, hH, ht⟩ := hP
    first
      | exact ⟨hH.1, ht⟩
      | exact ⟨hH.1, ht.1⟩) (fun _ _ _ _ _ _ => trivial) (Or.inl ⟨by decide +kernel, by decide +kernel⟩))
theorem vs_X7_readWhile (l : Launch) (d : Nat) (h_X7_readCondition : CMetC l (13 * d + 37) 153 (P_X7_readCondition d) (EvQ ((13 * d + 37) + 1) 153 (Q_X7_readCondition d))) (h_X7_readInner : CMetC l (13 * d + 37) 148 (P_X7_readInner d) (EvQ ((13 * d + 37) + 1) 148 (Q_X7_readInner d))) : CMetC l (13 * d + 38) 155 (P_X7_readWhile d) (EvQ ((13 * d + 38) + 1) 155 (Q_X7_readWhile d)) :=
  CMetC.of KX7_readWhile (uc2C [(142, P_X7_begin, Q_X7_begin), (128, P_X7_accept, Q_X7_accept), (153, (P_X7_readCondition d), (Q_X7_readCondition d)), (148, (P_X7_readInner d), (Q_X7_readInner d))] ([142, 128, 153, 148].map (fun c => (c, EvF (13 * d + 38) c)))) hX7_readWhile (by decide) (by omega) okX7_readWhile (cc1C (CMetC.up (v_X7_begin l) (by first | decide | omega)) (by omega) (cc1C (CMetC.up (v_X7_accept l) (by first | decide | omega)) (by omega) (cc1C (CMetC.up (h_X7_readCondition) (by first | decide | omega)) (by omega) (cc1C (CMetC.up (h_X7_readInner) (by first | decide | omega)) (by omega) cc0C)))) (lg_X7_readWhile d) (TbC.ev (b_X7_readWhile d) (L := (13 * d + 38)) (μ := 155) (M := [0, 1, 2, 60, 61, 62, 63, 64, 65, 66, 67, 68, 69, 70, 71, 72, 73, 74, 75, 76, 242, 243, 244, 245, 246, 270, 271, 272, 273, 274, 275, 276, 277, 278, 279, 280, 287, 288, 330, 331, 332, 333, 334, 900, 902]) rfl (by decide +kernel) rfl (by decide +kernel) (by decide +kernel) (fun _ _ _ _ hP _ => by
    obtain ⟨p0, p1, rfl, hH, ht⟩ := hP
    first
      | exact ⟨hH.1, ht⟩
      | exact ⟨hH.1, ht.1⟩) (fun _ _ _ _ _ _ => trivial) (Or.inl ⟨by decide +kernel, by decide +kernel⟩))
theorem vs_X7_readDo (l : Launch) (d : Nat) (h_X7_readInner : CMetC l (13 * d + 37) 148 (P_X7_readInner d) (EvQ ((13 * d + 37) + 1) 148 (Q_X7_readInner d))) (h_X7_readCondition : CMetC l (13 * d + 37) 153 (P_X7_readCondition d) (EvQ ((13 * d + 37) + 1) 153 (Q_X7_readCondition d))) : CMetC l (13 * d + 38) 156 (P_X7_readDo d) (EvQ ((13 * d + 38) + 1) 156 (Q_X7_readDo d)) :=
  CMetC.of KX7_readDo (uc2C [(142, P_X7_begin, Q_X7_begin), (128, P_X7_accept, Q_X7_accept), (148, (P_X7_readInner d), (Q_X7_readInner d)), (129, P_X7_expect, Q_X7_expect), (153, (P_X7_readCondition d), (Q_X7_readCondition d))] ([142, 128, 148, 129, 153].map (fun c => (c, EvF (13 * d + 38) c)))) hX7_readDo (by decide) (by omega) okX7_readDo (cc1C (CMetC.up (v_X7_begin l) (by first | decide | omega)) (by omega) (cc1C (CMetC.up (v_X7_accept l) (by first | decide | omega)) (by omega) (cc1C (CMetC.up (h_X7_readInner) (by first | decide | omega)) (by omega) (cc1C (CMetC.up (v_X7_expect l) (by first | decide | omega)) (by omega) (cc1C (CMetC.up (h_X7_readCondition) (by first | decide | omega)) (by omega) cc0C))))) (lg_X7_readDo d) (TbC.ev (b_X7_readDo d) (L := (13 * d + 38)) (μ := 156) (M := [0, 1, 2, 60, 61, 62, 63, 64, 65, 66, 67, 68, 69, 70, 71, 72, 73, 74, 75, 76, 242, 243, 244, 245, 246, 270, 271, 272, 273, 274, 275, 276, 277, 278, 279, 280, 287, 288, 330, 331, 332, 333, 334, 900, 902]) rfl (by decide +kernel) rfl (by decide +kernel) (by decide +kernel) (fun _ _ _ _ hP _ => by
    obtain ⟨p0, p1, rfl, hH, ht⟩ := hP
    first
      | exact ⟨hH.1, ht⟩
      | exact ⟨hH.1, ht.1⟩) (fun _ _ _ _ _ _ => trivial) (Or.inl ⟨by decide +kernel, by decide +kernel⟩))
theorem vs_X7_readFor (l : Launch) (d : Nat) (h_X7_readVariable : CMetC l (13 * d + 37) 141 (P_X7_readVariable d) (EvQ ((13 * d + 37) + 1) 141 (Q_X7_readVariable d))) (h_X7_readInner : CMetC l (13 * d + 37) 148 (P_X7_readInner d) (EvQ ((13 * d + 37) + 1) 148 (Q_X7_readInner d))) (h_X7_readForExps : CMetC l (13 * d + 37) 158 (P_X7_readForExps d) (EvQ ((13 * d + 37) + 1) 158 (Q_X7_readForExps d))) (h_X7_readExp : CMetC l (13 * d + 36) 164 (P_X7_readExp d) (EvQ ((13 * d + 36) + 1) 164 (Q_X7_readExp d))) : CMetC l (13 * d + 38) 157 (P_X7_readFor d) (EvQ ((13 * d + 38) + 1) 157 (Q_X7_readFor d)) :=
  CMetC.of KX7_readFor (uc2C [(142, P_X7_begin, Q_X7_begin), (128, P_X7_accept, Q_X7_accept), (129, P_X7_expect, Q_X7_expect), (125, P_X7_code, Q_X7_code), (141, (P_X7_readVariable d), (Q_X7_readVariable d)), (148, (P_X7_readInner d), (Q_X7_readInner d)), (158, (P_X7_readForExps d), (Q_X7_readForExps d)), (164, (P_X7_readExp d), (Q_X7_readExp d)), (132, P_X7_isType, Q_X7_isType)] ([142, 128, 129, 125, 141, 148, 158, 164, 132].map (fun c => (c, EvF (13 * d + 38) c)))) hX7_readFor (by decide) (by omega) okX7_readFor (cc1C (CMetC.up (v_X7_begin l) (by first | decide | omega)) (by omega) (cc1C (CMetC.up (v_X7_accept l) (by first | decide | omega)) (by omega) (cc1C (CMetC.up (v_X7_expect l) (by first | decide | omega)) (by omega) (cc1C (CMetC.up (v_X7_code l) (by first | decide | omega)) (by omega) (cc1C (CMetC.up (h_X7_readVariable) (by first | decide | omega)) (by omega) (cc1C (CMetC.up (h_X7_readInner) (by first | decide | omega)) (by omega) (cc1C (CMetC.up (h_X7_readForExps) (by first | decide | omega)) (by omega) (cc1C (CMetC.up (h_X7_readExp) (by first | decide | omega)) (by omega) (cc1C (CMetC.up (v_X7_isType l) (by first | decide | omega)) (by omega) cc0C))))))))) (lg_X7_readFor d) (TbC.ev (b_X7_readFor d) (L := (13 * d + 38)) (μ := 157) (M := [0, 1, 2, 60, 61, 62, 63, 64, 65, 66, 67, 68, 69, 70, 71, 72, 73, 74, 75, 76, 242, 243, 244, 245, 246, 270, 271, 272, 273, 274, 275, 276, 277, 278, 279, 280, 287, 288, 330, 331, 332, 333, 334, 900, 902]) rfl (by decide +kernel) rfl (by decide +kernel) (by decide +kernel) (fun _ _ _ _ hP _ => by
    obtain ⟨p0, p1, rfl, hH, ht⟩ := hP
    first
      | exact ⟨hH.1, ht⟩
      | exact ⟨hH.1, ht.1⟩) (fun _ _ _ _ _ _ => trivial) (Or.inl ⟨by decide +kernel, by decide +kernel⟩))
theorem vs_X7_readSwitch (l : Launch) (d : Nat) (h_X7_readCondition : CMetC l (13 * (d + 1) + 37) 153 (P_X7_readCondition (d + 1)) (EvQ ((13 * (d + 1) + 37) + 1) 153 (Q_X7_readCondition (d + 1)))) (h_X7_readRow : CMetC l (13 * d + 42) 145 (P_X7_readRow d) (EvQ ((13 * d + 42) + 1) 145 (Q_X7_readRow d))) : CMetC l (13 * (d + 1) + 38) 159 (P_X7_readSwitch (d + 1)) (EvQ ((13 * (d + 1) + 38) + 1) 159 (Q_X7_readSwitch (d + 1))) :=
  CMetC.of KX7_readSwitch (uc2C [(142, P_X7_begin, Q_X7_begin), (128, P_X7_accept, Q_X7_accept), (153, (P_X7_readCondition (d + 1)), (Q_X7_readCondition (d + 1))), (129, P_X7_expect, Q_X7_expect), (145, (P_X7_readRow d), (Q_X7_readRow d))] ([142, 128, 153, 129, 145].map (fun c => (c, EvF (13 * (d + 1) + 38) c)))) hX7_readSwitch (by decide) (by omega) okX7_readSwitch (cc1C (CMetC.up (v_X7_begin l) (by first | decide | omega)) (by omega) (cc1C (CMetC.up (v_X7_accept l) (by first | decide | omega)) (by omega) (cc1C (CMetC.up (h_X7_readCondition) (by first | decide | omega)) (by omega) (cc1C (CMetC.up (v_X7_expect l) (by first | decide | omega)) (by omega) (cc1C (CMetC.up (h_X7_readRow) (by first | decide | omega)) (by omega) cc0C))))) (lg_X7_readSwitch d) (TbC.ev (b_X7_readSwitch d) (L := (13 * (d + 1) + 38)) (μ := 159) (M := [0, 1, 2, 60, 61, 62, 63, 64, 65, 66, 67, 68, 69, 70, 71, 72, 73, 74, 75, 76, 242, 243, 244, 245, 246, 270, 271, 272, 273, 274, 275, 276, 277, 278, 279, 280, 287, 288, 330, 331, 332, 333, 334, 900, 902]) rfl (by decide +kernel) rfl (by decide +kernel) (by decide +kernel) (fun _ _ _ _ hP _ => by
    obtain ⟨p0, p1, rfl, hH, ht⟩ := hP
    first
      | exact ⟨hH.1, ht⟩
      | exact ⟨hH.1, ht.1⟩) (fun _ _ _ _ _ _ => trivial) (Or.inl ⟨by decide +kernel, by decide +kernel⟩))
theorem vs_X7_readSimple (l : Launch) (d : Nat) (h_X7_readExp : CMetC l (13 * d + 36) 164 (P_X7_readExp d) (EvQ ((13 * d + 36) + 1) 164 (Q_X7_readExp d))) (h_X7_readBlock : CMetC l (13 * d + 37) 144 (P_X7_readBlock d) (EvQ ((13 * d + 37) + 1) 144 (Q_X7_readBlock d))) : CMetC l (13 * d + 38) 150 (P_X7_readSimple d) (EvQ ((13 * d + 38) + 1) 150 (Q_X7_readSimple d)) :=
  CMetC.of KX7_readSimple (uc2C [(125, P_X7_code, Q_X7_code), (142, P_X7_begin, Q_X7_begin), (128, P_X7_accept, Q_X7_accept), (164, (P_X7_readExp d), (Q_X7_readExp d)), (129, P_X7_expect, Q_X7_expect), (234, P_Jx4a65c_size_8abf5, Q_Jx4a65c_size_8abf5), (144, (P_X7_readBlock d), (Q_X7_readBlock d))] ([125, 142, 128, 164, 129, 234, 144].map (fun c => (c, EvF (13 * d + 38) c)))) hX7_readSimple (by decide) (by omega) okX7_readSimple (cc1C (CMetC.up (v_X7_code l) (by first | decide | omega)) (by omega) (cc1C (CMetC.up (v_X7_begin l) (by first | decide | omega)) (by omega) (cc1C (CMetC.up (v_X7_accept l) (by first | decide | omega)) (by omega) (cc1C (CMetC.up (h_X7_readExp) (by first | decide | omega)) (by omega) (cc1C (CMetC.up (v_X7_expect l) (by first | decide | omega)) (by omega) (cc1C (CMetC.up (v_Jx4a65c_size_8abf5 l) (by first | decide | omega)) (by omega) (cc1C (CMetC.up (h_X7_readBlock) (by first | decide | omega)) (by omega) cc0C))))))) (lg_X7_readSimple d) (TbC.ev (b_X7_readSimple d) (L := (13 * d + 38)) (μ := 150) (M := [0, 1, 2, 60, 61, 62, 63, 64, 65, 66, 67, 68, 69, 70, 71, 72, 73, 74, 75, 76, 242, 243, 244, 245, 246, 270, 271, 272, 273, 274, 275, 276, 277, 278, 279, 280, 287, 288, 330, 331, 332, 333, 334, 900, 902]) rfl (by decide +kernel) rfl (by decide +kernel) (by decide +kernel) (fun _ _ _ _ hP _ => by
    obtain ⟨p0, p1, rfl, hH, ht⟩ := hP
    first
      | exact ⟨hH.1, ht⟩
      | exact ⟨hH.1, ht.1⟩) (fun _ _ _ _ _ _ => trivial) (Or.inl ⟨by decide +kernel, by decide +kernel⟩))
theorem vs_X7_readLabel (l : Launch) (d : Nat) (h_X7_readInner : CMetC l (13 * d + 37) 148 (P_X7_readInner d) (EvQ ((13 * d + 37) + 1) 148 (Q_X7_readInner d))) : CMetC l (13 * d + 38) 151 (P_X7_readLabel d) (EvQ ((13 * d + 38) + 1) 151 (Q_X7_readLabel d)) :=
  CMetC.of KX7_readLabel (uc2C [(142, P_X7_begin6, Q_X7_begin6), (128, P_X7_accept, Q_X7_accept), (129, P_X7_expect, Q_X7_expect), (148, (P_X7_readInner d), (Q_X7_readInner d))] ([142, 128, 129, 148].map (fun c => (c, EvF (13 * d + 38) c)))) hX7_readLabel (by decide) (by omega) okX7_readLabel (cc1C (CMetC.up (v_X7_begin6 l) (by first | decide | omega)) (by omega) (cc1C (CMetC.up (v_X7_accept l) (by first | decide | omega)) (by omega) (cc1C (CMetC.up (v_X7_expect l) (by first | decide | omega)) (by omega) (cc1C (CMetC.up (h_X7_readInner) (by first | decide | omega)) (by omega) cc0C)))) (lg_X7_readLabel d) (TbC.ev (b_X7_readLabel d) (L := (13 * d + 38)) (μ := 151) (M := [0, 1, 2, 60, 61, 62, 63, 64, 65, 66, 67, 68, 69, 70, 71, 72, 73, 74, 75, 76, 242, 243, 244, 245, 246, 270, 271, 272, 273, 274, 275, 276, 277, 278, 279, 280, 287, 288, 330, 331, 332, 333, 334, 900, 902]) rfl (by decide +kernel) rfl (by decide +kernel) (by decide +kernel) (fun _ _ _ _ hP _ => by
    obtain ⟨p0, p1, rfl, hH, ht⟩ := hP
    first
      | exact ⟨hH.1, ht⟩
      | exact ⟨hH.1, ht.1⟩) (fun _ _ _ _ _ _ => trivial) (Or.inl ⟨by decide +kernel, by decide +kernel⟩))
theorem vs_X7_readTry (l : Launch) (d : Nat) (h_X7_readBody : CMetC l (13 * d + 38) 143 (P_X7_readBody d) (EvQ ((13 * d + 38) + 1) 143 (Q_X7_readBody d))) : CMetC l (13 * d + 39) 160 (P_X7_readTry d) (EvQ ((13 * d + 39) + 1) 160 (Q_X7_readTry d)) :=
  CMetC.of KX7_readTry (uc2C [(142, P_X7_begin, Q_X7_begin), (128, P_X7_accept, Q_X7_accept), (143, (P_X7_readBody d), (Q_X7_readBody d)), (125, P_X7_code, Q_X7_code), (130, P_X7_takes, Q_X7_takes), (129, P_X7_expect, Q_X7_expect), (137, P_X7_declare, Q_X7_declare), (138, P_X7_know, Q_X7_know), (127, P_X7_raise, Q_X7_raise)] ([142, 128, 143, 125, 130, 129, 137, 138, 127].map (fun c => (c, EvF (13 * d + 39) c)))) hX7_readTry (by decide) (by omega) okX7_readTry (cc1C (CMetC.up (v_X7_begin l) (by first | decide | omega)) (by omega) (cc1C (CMetC.up (v_X7_accept l) (by first | decide | omega)) (by omega) (cc1C (CMetC.up (h_X7_readBody) (by first | decide | omega)) (by omega) (cc1C (CMetC.up (v_X7_code l) (by first | decide | omega)) (by omega) (cc1C (CMetC.up (v_X7_takes l) (by first | decide | omega)) (by omega) (cc1C (CMetC.up (v_X7_expect l) (by first | decide | omega)) (by omega) (cc1C (CMetC.up (v_X7_declare l) (by first | decide | omega)) (by omega) (cc1C (CMetC.up (v_X7_know l) (by first | decide | omega)) (by omega) (cc1C (CMetC.up (v_X7_raise l) (by first | decide | omega)) (by omega) cc0C))))))))) (lg_X7_readTry d) (TbC.ev (b_X7_readTry d) (L := (13 * d + 39)) (μ := 160) (M := [0, 1, 2, 60, 61, 62, 63, 64, 65, 66, 67, 68, 69, 70, 71, 72, 73, 74, 75, 76, 242, 243, 244, 245, 246, 270, 271, 272, 273, 274, 275, 276, 277, 278, 279, 280, 287, 288, 330, 331, 332, 333, 334, 900, 902]) rfl (by decide +kernel) rfl (by decide +kernel) (by decide +kernel) (fun _ _ _ _ hP _ => by
    obtain ⟨p0, p1, rfl, hH, ht⟩ := hP
    first
      | exact ⟨hH.1, ht⟩
      | exact ⟨hH.1, ht.1⟩) (fun _ _ _ _ _ _ => trivial) (Or.inl ⟨by decide +kernel, by decide +kernel⟩))
theorem vs_X7_readStatement (l : Launch) (d : Nat) (h_X7_readSimple : CMetC l (13 * d + 38) 150 (P_X7_readSimple d) (EvQ ((13 * d + 38) + 1) 150 (Q_X7_readSimple d))) (h_X7_readIf : CMetC l (13 * d + 38) 154 (P_X7_readIf d) (EvQ ((13 * d + 38) + 1) 154 (Q_X7_readIf d))) (h_X7_readWhile : CMetC l (13 * d + 38) 155 (P_X7_readWhile d) (EvQ ((13 * d + 38) + 1) 155 (Q_X7_readWhile d))) (h_X7_readDo : CMetC l (13 * d + 38) 156 (P_X7_readDo d) (EvQ ((13 * d + 38) + 1) 156 (Q_X7_readDo d))) (h_X7_readFor : CMetC l (13 * d + 38) 157 (P_X7_readFor d) (EvQ ((13 * d + 38) + 1) 157 (Q_X7_readFor d))) (h_X7_readSwitch : CMetC l (13 * d + 38) 159 (P_X7_readSwitch d) (EvQ ((13 * d + 38) + 1) 159 (Q_X7_readSwitch d))) (h_X7_readTry : CMetC l (13 * d + 39) 160 (P_X7_readTry d) (EvQ ((13 * d + 39) + 1) 160 (Q_X7_readTry d))) (h_X7_readExpStatement : CMetC l (13 * d + 37) 152 (P_X7_readExpStatement d) (EvQ ((13 * d + 37) + 1) 152 (Q_X7_readExpStatement d))) (h_X7_readLabel : CMetC l (13 * d + 38) 151 (P_X7_readLabel d) (EvQ ((13 * d + 38) + 1) 151 (Q_X7_readLabel d))) : CMetC l (13 * d + 40) 149 (P_X7_readStatement d) (EvQ ((13 * d + 40) + 1) 149 (Q_X7_readStatement d)) :=
  CMetC.of KX7_readStatement (uc2C [(131, P_X7_isTooDeep, Q_X7_isTooDeep), (125, P_X7_code, Q_X7_code), (150, (P_X7_readSimple d), (Q_X7_readSimple d)), (154, (P_X7_readIf d), (Q_X7_readIf d)), (155, (P_X7_readWhile d), (Q_X7_readWhile d)), (156, (P_X7_readDo d), (Q_X7_readDo d)), (157, (P_X7_readFor d), (Q_X7_readFor d)), (159, (P_X7_readSwitch d), (Q_X7_readSwitch d)), (160, (P_X7_readTry d), (Q_X7_readTry d)), (152, (P_X7_readExpStatement d), (Q_X7_readExpStatement d)), (126, P_X7_codeBehind, Q_X7_codeBehind), (151, (P_X7_readLabel d), (Q_X7_readLabel d))] ([131, 125, 150, 154, 155, 156, 157, 159, 160, 152, 126, 151].map (fun c => (c, EvF (13 * d + 40) c)))) hX7_readStatement (by decide) (by omega) okX7_readStatement (cc1C (CMetC.up (v_X7_isTooDeep l) (by first | decide | omega)) (by omega) (cc1C (CMetC.up (v_X7_code l) (by first | decide | omega)) (by omega) (cc1C (CMetC.up (h_X7_readSimple) (by first | decide | omega)) (by omega) (cc1C (CMetC.up (h_X7_readIf) (by first | decide | omega)) (by omega) (cc1C (CMetC.up (h_X7_readWhile) (by first | decide | omega)) (by omega) (cc1C (CMetC.up (h_X7_readDo) (by first | decide | omega)) (by omega) (cc1C (CMetC.up (h_X7_readFor) (by first | decide | omega)) (by omega) (cc1C (CMetC.up (h_X7_readSwitch) (by first | decide | omega)) (by omega) (cc1C (CMetC.up (h_X7_readTry) (by first | decide | omega)) (by omega) (cc1C (CMetC.up (h_X7_readExpStatement) (by first | decide | omega)) (by omega) (cc1C (CMetC.up (v_X7_codeBehind l) (by first | decide | omega)) (by omega) (cc1C (CMetC.up (h_X7_readLabel) (by first | decide | omega)) (by omega) cc0C)))))))))))) (lg_X7_readStatement d) (TbC.ev (b_X7_readStatement d) (L := (13 * d + 40)) (μ := 149) (M := [0, 1, 2, 60, 61, 62, 63, 64, 65, 66, 67, 68, 69, 70, 71, 72, 73, 74, 75, 76, 242, 243, 244, 245, 246, 270, 271, 272, 273, 274, 275, 276, 277, 278, 279, 280, 287, 288, 330, 331, 332, 333, 334, 900, 902]) rfl (by decide +kernel) rfl (by decide +kernel) (by decide +kernel) (fun _ _ _ _ hP _ => by
    obtain ⟨p0, p1, rfl, hH, ht⟩ := hP
    first
      | exact ⟨hH.1, ht⟩
      | exact ⟨hH.1, ht.1⟩) (fun _ _ _ _ _ _ => trivial) (Or.inl ⟨by decide +kernel, by decide +kernel⟩))
theorem vs_X7_readRowPart (l : Launch) (d : Nat) (h_X7_readVariable : CMetC l (13 * d + 37) 141 (P_X7_readVariable d) (EvQ ((13 * d + 37) + 1) 141 (Q_X7_readVariable d))) (h_X7_readStatement : CMetC l (13 * d + 40) 149 (P_X7_readStatement d) (EvQ ((13 * d + 40) + 1) 149 (Q_X7_readStatement d))) (h_X7_readCase : CMetC l (13 * d + 37) 147 (P_X7_readCase d) (EvQ ((13 * d + 37) + 1) 147 (Q_X7_readCase d))) : CMetC l (13 * d + 41) 146 (P_X7_readRowPart d) (EvQ ((13 * d + 41) + 1) 146 (Q_X7_readRowPart d)) :=
  CMetC.of KX7_readRowPart (uc2C [(125, P_X7_code, Q_X7_code), (141, (P_X7_readVariable d), (Q_X7_readVariable d)), (129, P_X7_expect, Q_X7_expect), (132, P_X7_isType, Q_X7_isType), (149, (P_X7_readStatement d), (Q_X7_readStatement d)), (147, (P_X7_readCase d), (Q_X7_readCase d)), (127, P_X7_raise, Q_X7_raise)] ([125, 141, 129, 132, 149, 147, 127].map (fun c => (c, EvF (13 * d + 41) c)))) hX7_readRowPart (by decide) (by omega) okX7_readRowPart (cc1C (CMetC.up (v_X7_code l) (by first | decide | omega)) (by omega) (cc1C (CMetC.up (h_X7_readVariable) (by first | decide | omega)) (by omega) (cc1C (CMetC.up (v_X7_expect l) (by first | decide | omega)) (by omega) (cc1C (CMetC.up (v_X7_isType l) (by first | decide | omega)) (by omega) (cc1C (CMetC.up (h_X7_readStatement) (by first | decide | omega)) (by omega) (cc1C (CMetC.up (h_X7_readCase) (by first | decide | omega)) (by omega) (cc1C (CMetC.up (v_X7_raise l) (by first | decide | omega)) (by omega) cc0C))))))) (lg_X7_readRowPart d) (TbC.ev (b_X7_readRowPart d) (L := (13 * d + 41)) (μ := 146) (M := [0, 1, 2, 60, 61, 62, 63, 64, 65, 66, 67, 68, 69, 70, 71, 72, 73, 74, 75, 76, 242, 243, 244, 245, 246, 270, 271, 272, 273, 274, 275, 276, 277, 278, 279, 280, 287, 288, 330, 331, 332, 333, 334, 900, 902]) rfl (by decide +kernel) rfl (by decide +kernel) (by decide +kernel) (fun _ _ _ _ hP _ => by
    obtain ⟨p0, p1, p2, p3, rfl, hH, ht⟩ := hP
    first
      | exact ⟨hH.1, ht⟩
      | exact ⟨hH.1, ht.1⟩) (fun _ _ _ _ _ _ => trivial) (Or.inl ⟨by decide +kernel, by decide +kernel⟩))
theorem vs_X7_readRow (l : Launch) (d : Nat) (h_X7_readRowPart : CMetC l (13 * d + 41) 146 (P_X7_readRowPart d) (EvQ ((13 * d + 41) + 1) 146 (Q_X7_readRowPart d))) : CMetC l (13 * d + 42) 145 (P_X7_readRow d) (EvQ ((13 * d + 42) + 1) 145 (Q_X7_readRow d)) :=
  CMetC.of KX7_readRow (uc2C [(131, P_X7_isTooDeep, Q_X7_isTooDeep), (125, P_X7_code, Q_X7_code), (146, (P_X7_readRowPart d), (Q_X7_readRowPart d))] ([131, 125, 146].map (fun c => (c, EvF (13 * d + 42) c)))) hX7_readRow (by decide) (by omega) okX7_readRow (cc1C (CMetC.up (v_X7_isTooDeep l) (by first | decide | omega)) (by omega) (cc1C (CMetC.up (v_X7_code l) (by first | decide | omega)) (by omega) (cc1C (CMetC.up (h_X7_readRowPart) (by first | decide | omega)) (by omega) cc0C))) (lg_X7_readRow d) (TbC.ev (b_X7_readRow d) (L := (13 * d + 42)) (μ := 145) (M := [0, 1, 2, 60, 61, 62, 63, 64, 65, 66, 67, 68, 69, 70, 71, 72, 73, 74, 75, 76, 242, 243, 244, 245, 246, 270, 271, 272, 273, 274, 275, 276, 277, 278, 279, 280, 287, 288, 330, 331, 332, 333, 334, 900, 902]) rfl (by decide +kernel) rfl (by decide +kernel) (by decide +kernel) (fun _ _ _ _ hP _ => by
    obtain ⟨p0, p1, p2, rfl, hH, ht⟩ := hP
    first
      | exact ⟨hH.1, ht⟩
      | exact ⟨hH.1, ht.1⟩) (fun _ _ _ _ _ _ => trivial) (Or.inl ⟨by decide +kernel, by decide +kernel⟩))
theorem vrecR (l : Launch) : ∀ n : Nat, CMetC l (13 * n + 31) 176 (P_X7_readCall n) (EvQ ((13 * n + 31) + 1) 176 (Q_X7_readCall n)) ∧ CMetC l (13 * n + 31) 172 (P_X7_readAlone n) (EvQ ((13 * n + 31) + 1) 172 (Q_X7_readAlone n)) ∧ CMetC l (13 * n + 31) 174 (P_X7_readBehindOpen n) (EvQ ((13 * n + 31) + 1) 174 (Q_X7_readBehindOpen n)) ∧ CMetC l (13 * n + 32) 175 (P_X7_readName n) (EvQ ((13 * n + 32) + 1) 175 (Q_X7_readName n)) ∧ CMetC l (13 * n + 33) 170 (P_X7_readOperand n) (EvQ ((13 * n + 33) + 1) 170 (Q_X7_readOperand n)) ∧ CMetC l (13 * n + 34) 171 (P_X7_readInnerOperand n) (EvQ ((13 * n + 34) + 1) 171 (Q_X7_readInnerOperand n)) ∧ CMetC l (13 * n + 34) 167 (P_X7_readChain n) (EvQ ((13 * n + 34) + 1) 167 (Q_X7_readChain n)) ∧ CMetC l (13 * n + 35) 166 (P_X7_readChoice n) (EvQ ((13 * n + 35) + 1) 166 (Q_X7_readChoice n)) ∧ CMetC l (13 * n + 35) 165 (P_X7_readAssignment n) (EvQ ((13 * n + 35) + 1) 165 (Q_X7_readAssignment n)) ∧ CMetC l (13 * n + 36) 164 (P_X7_readExp n) (EvQ ((13 * n + 36) + 1) 164 (Q_X7_readExp n)) ∧ CMetC l (13 * n + 37) 153 (P_X7_readCondition n) (EvQ ((13 * n + 37) + 1) 153 (Q_X7_readCondition n)) ∧ CMetC l (13 * n + 37) 152 (P_X7_readExpStatement n) (EvQ ((13 * n + 37) + 1) 152 (Q_X7_readExpStatement n)) ∧ CMetC l (13 * n + 37) 141 (P_X7_readVariable n) (EvQ ((13 * n + 37) + 1) 141 (Q_X7_readVariable n)) ∧ CMetC l (13 * n + 37) 158 (P_X7_readForExps n) (EvQ ((13 * n + 37) + 1) 158 (Q_X7_readForExps n)) ∧ CMetC l (13 * n + 37) 147 (P_X7_readCase n) (EvQ ((13 * n + 37) + 1) 147 (Q_X7_readCase n)) ∧ CMetC l (13 * n + 37) 148 (P_X7_readInner n) (EvQ ((13 * n + 37) + 1) 148 (Q_X7_readInner n)) ∧ CMetC l (13 * n + 37) 144 (P_X7_readBlock n) (EvQ ((13 * n + 37) + 1) 144 (Q_X7_readBlock n)) ∧ CMetC l (13 * n + 38) 143 (P_X7_readBody n) (EvQ ((13 * n + 38) + 1) 143 (Q_X7_readBody n)) ∧ CMetC l (13 * n + 38) 154 (P_X7_readIf n) (EvQ ((13 * n + 38) + 1) 154 (Q_X7_readIf n)) ∧ CMetC l (13 * n + 38) 155 (P_X7_readWhile n) (EvQ ((13 * n + 38) + 1) 155 (Q_X7_readWhile n)) ∧ CMetC l (13 * n + 38) 156 (P_X7_readDo n) (EvQ ((13 * n + 38) + 1) 156 (Q_X7_readDo n)) ∧ CMetC l (13 * n + 38) 157 (P_X7_readFor n) (EvQ ((13 * n + 38) + 1) 157 (Q_X7_readFor n)) ∧ CMetC l (13 * n + 38) 159 (P_X7_readSwitch n) (EvQ ((13 * n + 38) + 1) 159 (Q_X7_readSwitch n)) ∧ CMetC l (13 * n + 38) 150 (P_X7_readSimple n) (EvQ ((13 * n + 38) + 1) 150 (Q_X7_readSimple n)) ∧ CMetC l (13 * n + 38) 151 (P_X7_readLabel n) (EvQ ((13 * n + 38) + 1) 151 (Q_X7_readLabel n)) ∧ CMetC l (13 * n + 39) 160 (P_X7_readTry n) (EvQ ((13 * n + 39) + 1) 160 (Q_X7_readTry n)) ∧ CMetC l (13 * n + 40) 149 (P_X7_readStatement n) (EvQ ((13 * n + 40) + 1) 149 (Q_X7_readStatement n)) ∧ CMetC l (13 * n + 41) 146 (P_X7_readRowPart n) (EvQ ((13 * n + 41) + 1) 146 (Q_X7_readRowPart n)) ∧ CMetC l (13 * n + 42) 145 (P_X7_readRow n) (EvQ ((13 * n + 42) + 1) 145 (Q_X7_readRow n)) := by
  intro n
  induction n with
  | zero =>
    have i_X7_readCall : CMetC l (13 * 0 + 31) 176 (P_X7_readCall 0) (EvQ ((13 * 0 + 31) + 1) 176 (Q_X7_readCall 0)) := CMetC.no hX7_readCall (by rintro As σ ⟨p0, p1, rfl, H0, h_0_0, h_1_0, h_1_1, rd_cd, rd_at, rd_bl, rd_lv, rd_tk, rd_dp⟩; omega)
    have i_X7_readAlone : CMetC l (13 * 0 + 31) 172 (P_X7_readAlone 0) (EvQ ((13 * 0 + 31) + 1) 172 (Q_X7_readAlone 0)) := CMetC.no hX7_readAlone (by rintro As σ ⟨p0, p1, rfl, H0, h_0_0, h_1_0, h_1_1, rd_cd, rd_at, rd_bl, rd_lv, rd_tk, rd_dp⟩; omega)
    have i_X7_readBehindOpen : CMetC l (13 * 0 + 31) 174 (P_X7_readBehindOpen 0) (EvQ ((13 * 0 + 31) + 1) 174 (Q_X7_readBehindOpen 0)) := CMetC.no hX7_readBehindOpen (by rintro As σ ⟨p0, p1, rfl, H0, h_0_0, h_1_0, h_1_1, rd_cd, rd_at, rd_bl, rd_lv, rd_tk, rd_dp⟩; omega)
    have i_X7_readName : CMetC l (13 * 0 + 32) 175 (P_X7_readName 0) (EvQ ((13 * 0 + 32) + 1) 175 (Q_X7_readName 0)) := vs_X7_readName l 0 i_X7_readCall
    have i_X7_readOperand : CMetC l (13 * 0 + 33) 170 (P_X7_readOperand 0) (EvQ ((13 * 0 + 33) + 1) 170 (Q_X7_readOperand 0)) := vs_X7_readOperand l 0 i_X7_readBehindOpen i_X7_readAlone i_X7_readName
    have i_X7_readInnerOperand : CMetC l (13 * 0 + 34) 171 (P_X7_readInnerOperand 0) (EvQ ((13 * 0 + 34) + 1) 171 (Q_X7_readInnerOperand 0)) := vs_X7_readInnerOperand l 0 i_X7_readOperand
    have i_X7_readChain : CMetC l (13 * 0 + 34) 167 (P_X7_readChain 0) (EvQ ((13 * 0 + 34) + 1) 167 (Q_X7_readChain 0)) := vs_X7_readChain l 0 i_X7_readOperand
    have i_X7_readChoice : CMetC l (13 * 0 + 35) 166 (P_X7_readChoice 0) (EvQ ((13 * 0 + 35) + 1) 166 (Q_X7_readChoice 0)) := CMetC.no hX7_readChoice (by rintro As σ ⟨p0, p1, rfl, H0, h_0_0, h_1_0, h_1_1, rd_cd, rd_at, rd_bg, rd_dp⟩; omega)
    have i_X7_readAssignment : CMetC l (13 * 0 + 35) 165 (P_X7_readAssignment 0) (EvQ ((13 * 0 + 35) + 1) 165 (Q_X7_readAssignment 0)) := CMetC.no hX7_readAssignment (by rintro As σ ⟨p0, p1, rfl, H0, h_0_0, h_1_0, h_1_1, rd_cd, rd_at, rd_bl, rd_lv, rd_tk, rd_dp⟩; omega)
    have i_X7_readExp : CMetC l (13 * 0 + 36) 164 (P_X7_readExp 0) (EvQ ((13 * 0 + 36) + 1) 164 (Q_X7_readExp 0)) := vs_X7_readExp l 0 i_X7_readChoice i_X7_readAssignment
    have i_X7_readCondition : CMetC l (13 * 0 + 37) 153 (P_X7_readCondition 0) (EvQ ((13 * 0 + 37) + 1) 153 (Q_X7_readCondition 0)) := vs_X7_readCondition l 0 i_X7_readExp
    have i_X7_readExpStatement : CMetC l (13 * 0 + 37) 152 (P_X7_readExpStatement 0) (EvQ ((13 * 0 + 37) + 1) 152 (Q_X7_readExpStatement 0)) := vs_X7_readExpStatement l 0 i_X7_readExp
    have i_X7_readVariable : CMetC l (13 * 0 + 37) 141 (P_X7_readVariable 0) (EvQ ((13 * 0 + 37) + 1) 141 (Q_X7_readVariable 0)) := vs_X7_readVariable l 0 i_X7_readExp
    have i_X7_readForExps : CMetC l (13 * 0 + 37) 158 (P_X7_readForExps 0) (EvQ ((13 * 0 + 37) + 1) 158 (Q_X7_readForExps 0)) := vs_X7_readForExps l 0 i_X7_readExp
    have i_X7_readCase : CMetC l (13 * 0 + 37) 147 (P_X7_readCase 0) (EvQ ((13 * 0 + 37) + 1) 147 (Q_X7_readCase 0)) := vs_X7_readCase l 0 i_X7_readExp
    have i_X7_readInner : CMetC l (13 * 0 + 37) 148 (P_X7_readInner 0) (EvQ ((13 * 0 + 37) + 1) 148 (Q_X7_readInner 0)) := CMetC.no hX7_readInner (by rintro As σ ⟨p0, p1, p2, rfl, H0, h_0_0, h_1_0, h_2_0, h_2_1, rd_cd, rd_at, rd_bg, rd_dp⟩; omega)
    have i_X7_readBlock : CMetC l (13 * 0 + 37) 144 (P_X7_readBlock 0) (EvQ ((13 * 0 + 37) + 1) 144 (Q_X7_readBlock 0)) := CMetC.no hX7_readBlock (by rintro As σ ⟨p0, p1, p2, rfl, H0, h_0_0, h_1_0, h_2_0, h_2_1, rd_cd, rd_at, rd_bg, rd_dp, q0, q1⟩; omega)
    have i_X7_readBody : CMetC l (13 * 0 + 38) 143 (P_X7_readBody 0) (EvQ ((13 * 0 + 38) + 1) 143 (Q_X7_readBody 0)) := vs_X7_readBody l 0 i_X7_readBlock
    have i_X7_readIf : CMetC l (13 * 0 + 38) 154 (P_X7_readIf 0) (EvQ ((13 * 0 + 38) + 1) 154 (Q_X7_readIf 0)) := vs_X7_readIf l 0 i_X7_readCondition i_X7_readInner
    have i_X7_readWhile : CMetC l (13 * 0 + 38) 155 (P_X7_readWhile 0) (EvQ ((13 * 0 + 38) + 1) 155 (Q_X7_readWhile 0)) := vs_X7_readWhile l 0 i_X7_readCondition i_X7_readInner
    have i_X7_readDo : CMetC l (13 * 0 + 38) 156 (P_X7_readDo 0) (EvQ ((13 * 0 + 38) + 1) 156 (Q_X7_readDo 0)) := vs_X7_readDo l 0 i_X7_readInner i_X7_readCondition
    have i_X7_readFor : CMetC l (13 * 0 + 38) 157 (P_X7_readFor 0) (EvQ ((13 * 0 + 38) + 1) 157 (Q_X7_readFor 0)) := vs_X7_readFor l 0 i_X7_readVariable i_X7_readInner i_X7_readForExps i_X7_readExp
    have i_X7_readSwitch : CMetC l (13 * 0 + 38) 159 (P_X7_readSwitch 0) (EvQ ((13 * 0 + 38) + 1) 159 (Q_X7_readSwitch 0)) := CMetC.no hX7_readSwitch (by rintro As σ ⟨p0, p1, rfl, H0, h_0_0, h_1_0, h_1_1, rd_cd, rd_at, rd_bl, rd_lv, rd_tk, rd_dp⟩; omega)
    have i_X7_readSimple : CMetC l (13 * 0 + 38) 150 (P_X7_readSimple 0) (EvQ ((13 * 0 + 38) + 1) 150 (Q_X7_readSimple 0)) := vs_X7_readSimple l 0 i_X7_readExp i_X7_readBlock
    have i_X7_readLabel : CMetC l (13 * 0 + 38) 151 (P_X7_readLabel 0) (EvQ ((13 * 0 + 38) + 1) 151 (Q_X7_readLabel 0)) := vs_X7_readLabel l 0 i_X7_readInner
    have i_X7_readTry : CMetC l (13 * 0 + 39) 160 (P_X7_readTry 0) (EvQ ((13 * 0 + 39) + 1) 160 (Q_X7_readTry 0)) := vs_X7_readTry l 0 i_X7_readBody
    have i_X7_readStatement : CMetC l (13 * 0 + 40) 149 (P_X7_readStatement 0) (EvQ ((13 * 0 + 40) + 1) 149 (Q_X7_readStatement 0)) := vs_X7_readStatement l 0 i_X7_readSimple i_X7_readIf i_X7_readWhile i_X7_readDo i_X7_readFor i_X7_readSwitch i_X7_readTry i_X7_readExpStatement i_X7_readLabel
    have i_X7_readRowPart : CMetC l (13 * 0 + 41) 146 (P_X7_readRowPart 0) (EvQ ((13 * 0 + 41) + 1) 146 (Q_X7_readRowPart 0)) := vs_X7_readRowPart l 0 i_X7_readVariable i_X7_readStatement i_X7_readCase
    have i_X7_readRow : CMetC l (13 * 0 + 42) 145 (P_X7_readRow 0) (EvQ ((13 * 0 + 42) + 1) 145 (Q_X7_readRow 0)) := vs_X7_readRow l 0 i_X7_readRowPart
    exact ⟨i_X7_readCall, i_X7_readAlone, i_X7_readBehindOpen, i_X7_readName, i_X7_readOperand, i_X7_readInnerOperand, i_X7_readChain, i_X7_readChoice, i_X7_readAssignment, i_X7_readExp, i_X7_readCondition, i_X7_readExpStatement, i_X7_readVariable, i_X7_readForExps, i_X7_readCase, i_X7_readInner, i_X7_readBlock, i_X7_readBody, i_X7_readIf, i_X7_readWhile, i_X7_readDo, i_X7_readFor, i_X7_readSwitch, i_X7_readSimple, i_X7_readLabel, i_X7_readTry, i_X7_readStatement, i_X7_readRowPart, i_X7_readRow⟩
  | succ d ih =>
    obtain ⟨o_X7_readCall, o_X7_readAlone, o_X7_readBehindOpen, o_X7_readName, o_X7_readOperand, o_X7_readInnerOperand, o_X7_readChain, o_X7_readChoice, o_X7_readAssignment, o_X7_readExp, o_X7_readCondition, o_X7_readExpStatement, o_X7_readVariable, o_X7_readForExps, o_X7_readCase, o_X7_readInner, o_X7_readBlock, o_X7_readBody, o_X7_readIf, o_X7_readWhile, o_X7_readDo, o_X7_readFor, o_X7_readSwitch, o_X7_readSimple, o_X7_readLabel, o_X7_readTry, o_X7_readStatement, o_X7_readRowPart, o_X7_readRow⟩ := ih
    have i_X7_readCall : CMetC l (13 * (d + 1) + 31) 176 (P_X7_readCall (d + 1)) (EvQ ((13 * (d + 1) + 31) + 1) 176 (Q_X7_readCall (d + 1))) := vs_X7_readCall l d o_X7_readExp
    have i_X7_readAlone : CMetC l (13 * (d + 1) + 31) 172 (P_X7_readAlone (d + 1)) (EvQ ((13 * (d + 1) + 31) + 1) 172 (Q_X7_readAlone (d + 1))) := vs_X7_readAlone l d o_X7_readInnerOperand
    have i_X7_readBehindOpen : CMetC l (13 * (d + 1) + 31) 174 (P_X7_readBehindOpen (d + 1)) (EvQ ((13 * (d + 1) + 31) + 1) 174 (Q_X7_readBehindOpen (d + 1))) := vs_X7_readBehindOpen l d o_X7_readExp o_X7_readInnerOperand
    have i_X7_readName : CMetC l (13 * (d + 1) + 32) 175 (P_X7_readName (d + 1)) (EvQ ((13 * (d + 1) + 32) + 1) 175 (Q_X7_readName (d + 1))) := vs_X7_readName l (d + 1) i_X7_readCall
    have i_X7_readOperand : CMetC l (13 * (d + 1) + 33) 170 (P_X7_readOperand (d + 1)) (EvQ ((13 * (d + 1) + 33) + 1) 170 (Q_X7_readOperand (d + 1))) := vs_X7_readOperand l (d + 1) i_X7_readBehindOpen i_X7_readAlone i_X7_readName
    have i_X7_readInnerOperand : CMetC l (13 * (d + 1) + 34) 171 (P_X7_readInnerOperand (d + 1)) (EvQ ((13 * (d + 1) + 34) + 1) 171 (Q_X7_readInnerOperand (d + 1))) := vs_X7_readInnerOperand l (d + 1) i_X7_readOperand
    have i_X7_readChain : CMetC l (13 * (d + 1) + 34) 167 (P_X7_readChain (d + 1)) (EvQ ((13 * (d + 1) + 34) + 1) 167 (Q_X7_readChain (d + 1))) := vs_X7_readChain l (d + 1) i_X7_readOperand
    have i_X7_readChoice : CMetC l (13 * (d + 1) + 35) 166 (P_X7_readChoice (d + 1)) (EvQ ((13 * (d + 1) + 35) + 1) 166 (Q_X7_readChoice (d + 1))) := vs_X7_readChoice l d i_X7_readChain o_X7_readExp o_X7_readChoice
    have i_X7_readAssignment : CMetC l (13 * (d + 1) + 35) 165 (P_X7_readAssignment (d + 1)) (EvQ ((13 * (d + 1) + 35) + 1) 165 (Q_X7_readAssignment (d + 1))) := vs_X7_readAssignment l d o_X7_readExp
    have i_X7_readExp : CMetC l (13 * (d + 1) + 36) 164 (P_X7_readExp (d + 1)) (EvQ ((13 * (d + 1) + 36) + 1) 164 (Q_X7_readExp (d + 1))) := vs_X7_readExp l (d + 1) i_X7_readChoice i_X7_readAssignment
    have i_X7_readCondition : CMetC l (13 * (d + 1) + 37) 153 (P_X7_readCondition (d + 1)) (EvQ ((13 * (d + 1) + 37) + 1) 153 (Q_X7_readCondition (d + 1))) := vs_X7_readCondition l (d + 1) i_X7_readExp
    have i_X7_readExpStatement : CMetC l (13 * (d + 1) + 37) 152 (P_X7_readExpStatement (d + 1)) (EvQ ((13 * (d + 1) + 37) + 1) 152 (Q_X7_readExpStatement (d + 1))) := vs_X7_readExpStatement l (d + 1) i_X7_readExp
    have i_X7_readVariable : CMetC l (13 * (d + 1) + 37) 141 (P_X7_readVariable (d + 1)) (EvQ ((13 * (d + 1) + 37) + 1) 141 (Q_X7_readVariable (d + 1))) := vs_X7_readVariable l (d + 1) i_X7_readExp
    have i_X7_readForExps : CMetC l (13 * (d + 1) + 37) 158 (P_X7_readForExps (d + 1)) (EvQ ((13 * (d + 1) + 37) + 1) 158 (Q_X7_readForExps (d + 1))) := vs_X7_readForExps l (d + 1) i_X7_readExp
    have i_X7_readCase : CMetC l (13 * (d + 1) + 37) 147 (P_X7_readCase (d + 1)) (EvQ ((13 * (d + 1) + 37) + 1) 147 (Q_X7_readCase (d + 1))) := vs_X7_readCase l (d + 1) i_X7_readExp
    have i_X7_readInner : CMetC l (13 * (d + 1) + 37) 148 (P_X7_readInner (d + 1)) (EvQ ((13 * (d + 1) + 37) + 1) 148 (Q_X7_readInner (d + 1))) := vs_X7_readInner l d o_X7_readStatement
    have i_X7_readBlock : CMetC l (13 * (d + 1) + 37) 144 (P_X7_readBlock (d + 1)) (EvQ ((13 * (d + 1) + 37) + 1) 144 (Q_X7_readBlock (d + 1))) := vs_X7_readBlock l d o_X7_readRow
    have i_X7_readBody : CMetC l (13 * (d + 1) + 38) 143 (P_X7_readBody (d + 1)) (EvQ ((13 * (d + 1) + 38) + 1) 143 (Q_X7_readBody (d + 1))) := vs_X7_readBody l (d + 1) i_X7_readBlock
    have i_X7_readIf : CMetC l (13 * (d + 1) + 38) 154 (P_X7_readIf (d + 1)) (EvQ ((13 * (d + 1) + 38) + 1) 154 (Q_X7_readIf (d + 1))) := vs_X7_readIf l (d + 1) i_X7_readCondition i_X7_readInner
    have i_X7_readWhile : CMetC l (13 * (d + 1) + 38) 155 (P_X7_readWhile (d + 1)) (EvQ ((13 * (d + 1) + 38) + 1) 155 (Q_X7_readWhile (d + 1))) := vs_X7_readWhile l (d + 1) i_X7_readCondition i_X7_readInner
    have i_X7_readDo : CMetC l (13 * (d + 1) + 38) 156 (P_X7_readDo (d + 1)) (EvQ ((13 * (d + 1) + 38) + 1) 156 (Q_X7_readDo (d + 1))) := vs_X7_readDo l (d + 1) i_X7_readInner i_X7_readCondition
    have i_X7_readFor : CMetC l (13 * (d + 1) + 38) 157 (P_X7_readFor (d + 1)) (EvQ ((13 * (d + 1) + 38) + 1) 157 (Q_X7_readFor (d + 1))) := vs_X7_readFor l (d + 1) i_X7_readVariable i_X7_readInner i_X7_readForExps i_X7_readExp
    have i_X7_readSwitch : CMetC l (13 * (d + 1) + 38) 159 (P_X7_readSwitch (d + 1)) (EvQ ((13 * (d + 1) + 38) + 1) 159 (Q_X7_readSwitch (d + 1))) := vs_X7_readSwitch l d i_X7_readCondition o_X7_readRow
    have i_X7_readSimple : CMetC l (13 * (d + 1) + 38) 150 (P_X7_readSimple (d + 1)) (EvQ ((13 * (d + 1) + 38) + 1) 150 (Q_X7_readSimple (d + 1))) := vs_X7_readSimple l (d + 1) i_X7_readExp i_X7_readBlock
    have i_X7_readLabel : CMetC l (13 * (d + 1) + 38) 151 (P_X7_readLabel (d + 1)) (EvQ ((13 * (d + 1) + 38) + 1) 151 (Q_X7_readLabel (d + 1))) := vs_X7_readLabel l (d + 1) i_X7_readInner
    have i_X7_readTry : CMetC l (13 * (d + 1) + 39) 160 (P_X7_readTry (d + 1)) (EvQ ((13 * (d + 1) + 39) + 1) 160 (Q_X7_readTry (d + 1))) := vs_X7_readTry l (d + 1) i_X7_readBody
    have i_X7_readStatement : CMetC l (13 * (d + 1) + 40) 149 (P_X7_readStatement (d + 1)) (EvQ ((13 * (d + 1) + 40) + 1) 149 (Q_X7_readStatement (d + 1))) := vs_X7_readStatement l (d + 1) i_X7_readSimple i_X7_readIf i_X7_readWhile i_X7_readDo i_X7_readFor i_X7_readSwitch i_X7_readTry i_X7_readExpStatement i_X7_readLabel
    have i_X7_readRowPart : CMetC l (13 * (d + 1) + 41) 146 (P_X7_readRowPart (d + 1)) (EvQ ((13 * (d + 1) + 41) + 1) 146 (Q_X7_readRowPart (d + 1))) := vs_X7_readRowPart l (d + 1) i_X7_readVariable i_X7_readStatement i_X7_readCase
    have i_X7_readRow : CMetC l (13 * (d + 1) + 42) 145 (P_X7_readRow (d + 1)) (EvQ ((13 * (d + 1) + 42) + 1) 145 (Q_X7_readRow (d + 1))) := vs_X7_readRow l (d + 1) i_X7_readRowPart
    exact ⟨i_X7_readCall, i_X7_readAlone, i_X7_readBehindOpen, i_X7_readName, i_X7_readOperand, i_X7_readInnerOperand, i_X7_readChain, i_X7_readChoice, i_X7_readAssignment, i_X7_readExp, i_X7_readCondition, i_X7_readExpStatement, i_X7_readVariable, i_X7_readForExps, i_X7_readCase, i_X7_readInner, i_X7_readBlock, i_X7_readBody, i_X7_readIf, i_X7_readWhile, i_X7_readDo, i_X7_readFor, i_X7_readSwitch, i_X7_readSimple, i_X7_readLabel, i_X7_readTry, i_X7_readStatement, i_X7_readRowPart, i_X7_readRow⟩
theorem v_X7_readCall (l : Launch) (n : Nat) : CMetC l (13 * n + 31) 176 (P_X7_readCall n) (EvQ ((13 * n + 31) + 1) 176 (Q_X7_readCall n)) := (vrecR l n).1
theorem v_X7_readAlone (l : Launch) (n : Nat) : CMetC l (13 * n + 31) 172 (P_X7_readAlone n) (EvQ ((13 * n + 31) + 1) 172 (Q_X7_readAlone n)) := (vrecR l n).2.1
theorem v_X7_readBehindOpen (l : Launch) (n : Nat) : CMetC l (13 * n + 31) 174 (P_X7_readBehindOpen n) (EvQ ((13 * n + 31) + 1) 174 (Q_X7_readBehindOpen n)) := (vrecR l n).2.2.1
theorem v_X7_readName (l : Launch) (n : Nat) : CMetC l (13 * n + 32) 175 (P_X7_readName n) (EvQ ((13 * n + 32) + 1) 175 (Q_X7_readName n)) := (vrecR l n).2.2.2.1
theorem v_X7_readOperand (l : Launch) (n : Nat) : CMetC l (13 * n + 33) 170 (P_X7_readOperand n) (EvQ ((13 * n + 33) + 1) 170 (Q_X7_readOperand n)) := (vrecR l n).2.2.2.2.1
theorem v_X7_readInnerOperand (l : Launch) (n : Nat) : CMetC l (13 * n + 34) 171 (P_X7_readInnerOperand n) (EvQ ((13 * n + 34) + 1) 171 (Q_X7_readInnerOperand n)) := (vrecR l n).2.2.2.2.2.1
theorem v_X7_readChain (l : Launch) (n : Nat) : CMetC l (13 * n + 34) 167 (P_X7_readChain n) (EvQ ((13 * n + 34) + 1) 167 (Q_X7_readChain n)) := (vrecR l n).2.2.2.2.2.2.1
theorem v_X7_readChoice (l : Launch) (n : Nat) : CMetC l (13 * n + 35) 166 (P_X7_readChoice n) (EvQ ((13 * n + 35) + 1) 166 (Q_X7_readChoice n)) := (vrecR l n).2.2.2.2.2.2.2.1
theorem v_X7_readAssignment (l : Launch) (n : Nat) : CMetC l (13 * n + 35) 165 (P_X7_readAssignment n) (EvQ ((13 * n + 35) + 1) 165 (Q_X7_readAssignment n)) := (vrecR l n).2.2.2.2.2.2.2.2.1
theorem v_X7_readExp (l : Launch) (n : Nat) : CMetC l (13 * n + 36) 164 (P_X7_readExp n) (EvQ ((13 * n + 36) + 1) 164 (Q_X7_readExp n)) := (vrecR l n).2.2.2.2.2.2.2.2.2.1
theorem v_X7_readCondition (l : Launch) (n : Nat) : CMetC l (13 * n + 37) 153 (P_X7_readCondition n) (EvQ ((13 * n + 37) + 1) 153 (Q_X7_readCondition n)) := (vrecR l n).2.2.2.2.2.2.2.2.2.2.1
theorem v_X7_readExpStatement (l : Launch) (n : Nat) : CMetC l (13 * n + 37) 152 (P_X7_readExpStatement n) (EvQ ((13 * n + 37) + 1) 152 (Q_X7_readExpStatement n)) := (vrecR l n).2.2.2.2.2.2.2.2.2.2.2.1
theorem v_X7_readVariable (l : Launch) (n : Nat) : CMetC l (13 * n + 37) 141 (P_X7_readVariable n) (EvQ ((13 * n + 37) + 1) 141 (Q_X7_readVariable n)) := (vrecR l n).2.2.2.2.2.2.2.2.2.2.2.2.1
theorem v_X7_readForExps (l : Launch) (n : Nat) : CMetC l (13 * n + 37) 158 (P_X7_readForExps n) (EvQ ((13 * n + 37) + 1) 158 (Q_X7_readForExps n)) := (vrecR l n).2.2.2.2.2.2.2.2.2.2.2.2.2.1
theorem v_X7_readCase (l : Launch) (n : Nat) : CMetC l (13 * n + 37) 147 (P_X7_readCase n) (EvQ ((13 * n + 37) + 1) 147 (Q_X7_readCase n)) := (vrecR l n).2.2.2.2.2.2.2.2.2.2.2.2.2.2.1
theorem v_X7_readInner (l : Launch) (n : Nat) : CMetC l (13 * n + 37) 148 (P_X7_readInner n) (EvQ ((13 * n + 37) + 1) 148 (Q_X7_readInner n)) := (vrecR l n).2.2.2.2.2.2.2.2.2.2.2.2.2.2.2.1
theorem v_X7_readBlock (l : Launch) (n : Nat) : CMetC l (13 * n + 37) 144 (P_X7_readBlock n) (EvQ ((13 * n + 37) + 1) 144 (Q_X7_readBlock n)) := (vrecR l n).2.2.2.2.2.2.2.2.2.2.2.2.2.2.2.2.1
theorem v_X7_readBody (l : Launch) (n : Nat) : CMetC l (13 * n + 38) 143 (P_X7_readBody n) (EvQ ((13 * n + 38) + 1) 143 (Q_X7_readBody n)) := (vrecR l n).2.2.2.2.2.2.2.2.2.2.2.2.2.2.2.2.2.1
theorem v_X7_readIf (l : Launch) (n : Nat) : CMetC l (13 * n + 38) 154 (P_X7_readIf n) (EvQ ((13 * n + 38) + 1) 154 (Q_X7_readIf n)) := (vrecR l n).2.2.2.2.2.2.2.2.2.2.2.2.2.2.2.2.2.2.1
theorem v_X7_readWhile (l : Launch) (n : Nat) : CMetC l (13 * n + 38) 155 (P_X7_readWhile n) (EvQ ((13 * n + 38) + 1) 155 (Q_X7_readWhile n)) := (vrecR l n).2.2.2.2.2.2.2.2.2.2.2.2.2.2.2.2.2.2.2.1
theorem v_X7_readDo (l : Launch) (n : Nat) : CMetC l (13 * n + 38) 156 (P_X7_readDo n) (EvQ ((13 * n + 38) + 1) 156 (Q_X7_readDo n)) := (vrecR l n).2.2.2.2.2.2.2.2.2.2.2.2.2.2.2.2.2.2.2.2.1
theorem v_X7_readFor (l : Launch) (n : Nat) : CMetC l (13 * n + 38) 157 (P_X7_readFor n) (EvQ ((13 * n + 38) + 1) 157 (Q_X7_readFor n)) := (vrecR l n).2.2.2.2.2.2.2.2.2.2.2.2.2.2.2.2.2.2.2.2.2.1
theorem v_X7_readSwitch (l : Launch) (n : Nat) : CMetC l (13 * n + 38) 159 (P_X7_readSwitch n) (EvQ ((13 * n + 38) + 1) 159 (Q_X7_readSwitch n)) := (vrecR l n).2.2.2.2.2.2.2.2.2.2.2.2.2.2.2.2.2.2.2.2.2.2.1
theorem v_X7_readSimple (l : Launch) (n : Nat) : CMetC l (13 * n + 38) 150 (P_X7_readSimple n) (EvQ ((13 * n + 38) + 1) 150 (Q_X7_readSimple n)) := (vrecR l n).2.2.2.2.2.2.2.2.2.2.2.2.2.2.2.2.2.2.2.2.2.2.2.1
theorem v_X7_readLabel (l : Launch) (n : Nat) : CMetC l (13 * n + 38) 151 (P_X7_readLabel n) (EvQ ((13 * n + 38) + 1) 151 (Q_X7_readLabel n)) := (vrecR l n).2.2.2.2.2.2.2.2.2.2.2.2.2.2.2.2.2.2.2.2.2.2.2.2.1
theorem v_X7_readTry (l : Launch) (n : Nat) : CMetC l (13 * n + 39) 160 (P_X7_readTry n) (EvQ ((13 * n + 39) + 1) 160 (Q_X7_readTry n)) := (vrecR l n).2.2.2.2.2.2.2.2.2.2.2.2.2.2.2.2.2.2.2.2.2.2.2.2.2.1
theorem v_X7_readStatement (l : Launch) (n : Nat) : CMetC l (13 * n + 40) 149 (P_X7_readStatement n) (EvQ ((13 * n + 40) + 1) 149 (Q_X7_readStatement n)) := (vrecR l n).2.2.2.2.2.2.2.2.2.2.2.2.2.2.2.2.2.2.2.2.2.2.2.2.2.2.1
theorem v_X7_readRowPart (l : Launch) (n : Nat) : CMetC l (13 * n + 41) 146 (P_X7_readRowPart n) (EvQ ((13 * n + 41) + 1) 146 (Q_X7_readRowPart n)) := (vrecR l n).2.2.2.2.2.2.2.2.2.2.2.2.2.2.2.2.2.2.2.2.2.2.2.2.2.2.2.1
theorem v_X7_readRow (l : Launch) (n : Nat) : CMetC l (13 * n + 42) 145 (P_X7_readRow n) (EvQ ((13 * n + 42) + 1) 145 (Q_X7_readRow n)) := (vrecR l n).2.2.2.2.2.2.2.2.2.2.2.2.2.2.2.2.2.2.2.2.2.2.2.2.2.2.2.2
theorem v_X7_readParams (l : Launch) : CMetC l 13 135 P_X7_readParams (EvQ (13 + 1) 135 Q_X7_readParams) :=
  CMetC.of KX7_readParams (uc2C [(129, P_X7_expect, Q_X7_expect), (125, P_X7_code, Q_X7_code), (130, P_X7_takes, Q_X7_takes), (136, P_X7_readType, Q_X7_readType), (137, P_X7_declare, Q_X7_declare), (138, P_X7_know, Q_X7_know), (112, P_X5_addParam, Q_X5_addParam)] ([129, 125, 130, 136, 137, 138, 112].map (fun c => (c, EvF 13 c)))) hX7_readParams (by decide) (by decide) okX7_readParams (cc1C (CMetC.up (v_X7_expect l) (by first | decide | omega)) (by decide) (cc1C (CMetC.up (v_X7_code l) (by first | decide | omega)) (by decide) (cc1C (CMetC.up (v_X7_takes l) (by first | decide | omega)) (by decide) (cc1C (CMetC.up (v_X7_readType l) (by first | decide | omega)) (by decide) (cc1C (CMetC.up (v_X7_declare l) (by first | decide | omega)) (by decide) (cc1C (CMetC.up (v_X7_know l) (by first | decide | omega)) (by decide) (cc1C (CMetC.up (v_X5_addParam l) (by first | decide | omega)) (by decide) cc0C))))))) (lg_X7_readParams) (TbC.ev (b_X7_readParams) (L := 13) (μ := 135) (M := [0, 1, 2, 185, 242, 243, 244, 245, 330, 331, 332, 333, 334, 900, 902]) rfl (by decide +kernel) rfl (by decide +kernel) (by decide +kernel) (fun _ _ _ _ hP _ => by
    obtain ⟨p0, p1, rfl, hH, ht⟩ := hP
    first
      | exact ⟨hH.1, ht⟩
      | exact ⟨hH.1, ht.1⟩) (fun _ _ _ _ hP hQ => by
    obtain ⟨p0, p1, rfl, _⟩ := hP
    exact fun a ha => (hQ.2.2.1.2.2 a ha).1.1) (Or.inl ⟨by decide +kernel, by decide +kernel⟩))
theorem v_X7_readMethod (l : Launch) : CMetC l 312 134 P_X7_readMethod (EvQ (312 + 1) 134 Q_X7_readMethod) :=
  CMetC.of KX7_readMethod (uc2C [(125, P_X7_code, Q_X7_code), (132, P_X7_isType, Q_X7_isType), (128, P_X7_accept, Q_X7_accept), (234, P_Jx4a65c_size_8abf5, Q_Jx4a65c_size_8abf5), (111, P_X5_init, Q_X5_init), (236, P_Jx4a65c_add_9ea2d, Q_Jx4a65c_add_9ea2d), (135, P_X7_readParams, Q_X7_readParams), (143, (P_X7_readBody 21), (Q_X7_readBody 21)), (127, P_X7_raise, Q_X7_raise)] ([125, 132, 128, 234, 111, 236, 135, 143, 127].map (fun c => (c, EvF 312 c)))) hX7_readMethod (by decide) (by decide) okX7_readMethod (cc1C (CMetC.up (v_X7_code l) (by first | decide | omega)) (by decide) (cc1C (CMetC.up (v_X7_isType l) (by first | decide | omega)) (by decide) (cc1C (CMetC.up (v_X7_accept l) (by first | decide | omega)) (by decide) (cc1C (CMetC.up (v_Jx4a65c_size_8abf5 l) (by first | decide | omega)) (by decide) (cc1C (CMetC.up (v_X5_init l) (by first | decide | omega)) (by decide) (cc1C (CMetC.up (v_Jx4a65c_add_9ea2d l) (by first | decide | omega)) (by decide) (cc1C (CMetC.up (v_X7_readParams l) (by first | decide | omega)) (by decide) (cc1C (CMetC.up (v_X7_readBody l 21) (by first | decide | omega)) (by decide) (cc1C (CMetC.up (v_X7_raise l) (by first | decide | omega)) (by decide) cc0C))))))))) (lg_X7_readMethod) (TbC.ev (b_X7_readMethod) (L := 312) (μ := 134) (M := [0, 1, 2, 60, 61, 62, 63, 64, 65, 66, 67, 68, 69, 70, 71, 72, 73, 74, 75, 76, 180, 181, 182, 183, 184, 185, 186, 242, 243, 244, 245, 246, 270, 271, 272, 273, 274, 275, 276, 277, 278, 279, 280, 287, 288, 330, 331, 332, 333, 334, 900, 902]) rfl (by decide +kernel) rfl (by decide +kernel) (by decide +kernel) (fun _ _ _ _ hP _ => by
    obtain ⟨p0, rfl, hH, ht⟩ := hP
    first
      | exact ⟨hH.1, ht⟩
      | exact ⟨hH.1, ht.1⟩) (fun _ _ _ _ hP hQ => by
    obtain ⟨p0, rfl, _⟩ := hP
    exact fun a ha => (hQ.2.2.1.2.2 a ha).1.1) (Or.inl ⟨by decide +kernel, by decide +kernel⟩))
theorem v9_readProgram (l : Launch) : CMetC l 313 123 P_X7_readProgram (EvQ (313 + 1) 123 (fun As σ w τ => Q_X7_readProgram As σ w τ ∧ U_readProgram As σ w τ)) :=
  CMetC.of KX7_readProgram (uc2C (uc2C [(117, P_X6_clear, Q_X6_clear), (188, P_X9_cutText, Q_X9_cutText), (125, P_X7_code, Q_X7_code), (134, P_X7_readMethod, Q_X7_readMethod)] [(188, U_cutText), (117, U_clear)]) ([117, 188, 125, 134].map (fun c => (c, EvF 313 c)))) hX7_readProgram (by decide) (by decide) okX7_readProgram (cc1C (CMetC.up (v9_clear l) (by first | decide | omega)) (by decide) (cc1C (CMetC.up (v9_cutText l) (by first | decide | omega)) (by decide) (cc1C (CMetC.up (v_X7_code l) (by first | decide | omega)) (by decide) (cc1C (CMetC.up (v_X7_readMethod l) (by first | decide | omega)) (by decide) cc0C)))) lg_X7_readProgram (TbC.ev (b_X7_readProgram.and p_readProgram) (L := 313) (μ := 123) (M := [0, 1, 2, 60, 61, 62, 63, 64, 65, 66, 67, 68, 69, 70, 71, 72, 73, 74, 75, 76, 180, 181, 182, 183, 184, 185, 186, 217, 218, 240, 241, 242, 243, 244, 245, 246, 270, 271, 272, 273, 274, 275, 276, 277, 278, 279, 280, 287, 288, 305, 307, 308, 330, 331, 332, 333, 334, 900, 901, 902]) rfl (by decide +kernel) rfl (by decide +kernel) (by decide +kernel) (fun _ _ _ _ hP _ => by
    obtain ⟨p0, p1, p2, p3, rfl, hH, ht⟩ := hP
    first
      | exact ⟨hH.1, ht⟩
      | exact ⟨hH.1, ht.1⟩) (fun _ _ _ _ _ h => h) (Or.inl ⟨by decide +kernel, by decide +kernel⟩))
theorem v9_read (l : Launch) : CMetC l 515 204 P_X11_read (EvQ (515 + 1) 204 (fun As σ w τ => Q_X11_read As σ w τ ∧ U_read As σ w τ)) :=
  CMetC.of KX11_read (uc2C (uc2C [(123, P_X7_readProgram, Q_X7_readProgram), (49, P_X3_judgeProgram, Q_X3_judgeProgram), (234, P_Jx4a65c_size_8abf5, Q_Jx4a65c_size_8abf5), (1, P_X0_lay, Q_X0_lay), (124, P_X7_faultPlace, Q_X7_faultPlace)] [(123, U_readProgram)]) ([123, 49, 234, 1, 124].map (fun c => (c, EvF 515 c)))) hX11_read (by decide) (by decide) okX11_read (cc1C (CMetC.up (v9_readProgram l) (by first | decide | omega)) (by decide) (cc1C (CMetC.up (v_X3_judgeProgram l) (by first | decide | omega)) (by decide) (cc1C (CMetC.up (v_Jx4a65c_size_8abf5 l) (by first | decide | omega)) (by decide) (cc1C (CMetC.up (v_X0_lay l) (by first | decide | omega)) (by decide) (cc1C (CMetC.up (v_X7_faultPlace l) (by first | decide | omega)) (by decide) cc0C))))) lg_X11_read (TbC.ev (b_X11_read.and p_read) (L := 515) (μ := 204) (M := [0, 1, 2, 34, 35, 36, 60, 61, 62, 63, 64, 65, 66, 67, 68, 69, 70, 71, 72, 73, 74, 75, 76, 77, 90, 91, 92, 94, 121, 180, 181, 182, 183, 184, 185, 186, 217, 218, 240, 241, 242, 243, 244, 245, 246, 270, 271, 272, 273, 274, 275, 276, 277, 278, 279, 280, 281, 282, 283, 284, 285, 286, 287, 288, 289, 290, 305, 307, 308, 330, 331, 332, 333, 334, 335, 336, 363, 364, 369, 371, 372, 900, 901, 902]) rfl (by decide +kernel) rfl (by decide +kernel) (by decide +kernel) (fun _ _ _ _ hP _ => by
    obtain ⟨p0, rfl, hH, ht⟩ := hP
    first
      | exact ⟨hH.1, ht⟩
      | exact ⟨hH.1, ht.1⟩) (fun _ _ _ _ _ h => h) (Or.inl ⟨by decide +kernel, by decide +kernel⟩))
