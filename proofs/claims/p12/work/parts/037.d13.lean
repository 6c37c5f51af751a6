/-! lists -/
theorem HIC.p2 {σ : CsC} {a : Nat} {v : Int32} (h : HIC σ) (t : TyC σ a 0) (hv : IvC 2 v) (hx : X0C (pIC σ a 2 v) a) : HIC (pIC σ a 2 v) := h.pIx t (by decide) (by decide) hv (XaC.of0 t.2.1 hx)
theorem X0C.z {σ : CsC} {a : Nat} {v : Int32} (hv : v.toInt = 0) (h : X0C σ a) : X0C (pIC σ a 2 v) a := by
  rcases h with ⟨p1, -⟩ | ⟨r, p1, p2, ⟨q1, q2, q3, q4⟩, p4⟩
  · exact Or.inl ⟨p1, by rw [fI_pIs]; exact hv⟩
  · refine Or.inr ⟨r, p1, p2, ⟨by rw [fI_pIs, hv]; exact Int.natCast_nonneg _, q2, q3, fun _ => by rw [fI_pIs, hv]; decide⟩, fun j hj => ?_⟩
    rw [fI_pIs] at hj
    have : v.toNatClampNeg = 0 := by show v.toInt.toNat = 0; rw [hv]; rfl
    omega
theorem HI0.q103 {σ : CsC} {a r : Nat} {f : Nat → Option Nat} (h : HI0 σ) (hr : tgC σ r = 103) (hg : ghC σ r = a + 1) (hz : (fIC σ a 2).toInt = 0) : HI0 (qRC σ r f) := by
  intro b hb
  refine ⟨fun k hk => (h b hb).1 k hk, ?_⟩
  obtain ⟨x0, x2, x5, x9, x10, x100, x104, x105, x6⟩ := (h b hb).2
  refine ⟨fun ht => ?_, x2, x5, x9, x10, x100, fun ht j c hc => ?_, fun ht j c hc => ?_, x6⟩
  · rcases x0 ht with q | ⟨s, p1, ⟨p2, p3, p4⟩, p5, p6⟩
    · exact Or.inl q
    · refine Or.inr ⟨s, p1, ⟨p2, p3, p4⟩, p5, fun j hj => ?_⟩
      by_cases e : s = r
      · exfalso
        subst e
        have e2 : b = a := by omega
        subst e2
        have hj : j < (fIC σ b 2).toNatClampNeg := hj
        have : (fIC σ b 2).toNatClampNeg = 0 := by show (fIC σ b 2).toInt.toNat = 0; rw [hz]; rfl
        omega
      · have e1 : eRC (qRC σ r f) s = eRC σ s := u1C_ne e
        rw [e1]
        exact p6 j hj
  · have ht' : tgC σ b = 104 := ht
    have e1 : eRC (qRC σ r f) b = eRC σ b := u1C_ne (fun q => by subst q; omega)
    rw [e1] at hc
    exact x104 ht j c hc
  · have ht' : tgC σ b = 105 := ht
    have e1 : eRC (qRC σ r f) b = eRC σ b := u1C_ne (fun q => by subst q; omega)
    rw [e1] at hc
    exact x105 ht j c hc
theorem elC_q {σ : CsC} {b r p0 j : Nat} {f : Nat → Option Nat} (x : tgC σ b = 0 → X0C σ b) (ht : tgC σ b = 0) (hg : ghC σ r = p0 + 1) (hn : b ≠ p0) (hj : (j : Int) < (fIC σ b 2).toInt) : elC (qRC σ r f) b j = elC σ b j := by
  rcases x ht with ⟨-, p2⟩ | ⟨r', p1, ⟨-, -, p4⟩, -⟩
  · omega
  · rw [el_of p1, el_of (σ := qRC σ r f) p1]
    have hr : r' ≠ r := fun q => by rw [q, hg] at p4; omega
    exact congrFun (show eRC (qRC σ r f) r' = eRC σ r' from u1C_ne hr) j
theorem m_Jx4a65c_clear_da8c8 (l : Launch) : CMetC l 10 237 P_Jx4a65c_clear_da8c8 Q_Jx4a65c_clear_da8c8 := by
  refine CMetC.of KJx4a65c_clear_da8c8 [] hJx4a65c_clear_da8c8 (by decide) (by decide) okJx4a65c_clear_da8c8 cc0C ?_ ?_
  · rintro As σ ⟨p0, rfl, -⟩
    exact Nat.le_of_ble_eq_true rfl
  · rintro As σ0 ⟨p0, rfl, H0, t0⟩ hgr G hB hW
    change G 0 [(0, .inr (.inr (some p0)))] [] σ0
    have hend : ∀ (d : Option Nat) (i n : Int32) (s : CsC), HIC s → ExC [0, 2] σ0 s → (fIC s p0 2).toInt = 0 → (∀ b, b ≠ p0 → fIC s b 2 = fIC σ0 b 2) → (∀ b, b < cnC σ0 → tgC σ0 b = 0 → b ≠ p0 → ∀ j : Nat, (j : Int) < (fIC σ0 b 2).toInt → elC s b j = elC σ0 b j) → G 42 [(3, .inl i), (2, .inl n), (1, .inr (.inr d)), (0, .inr (.inr (some p0)))] [] s := fun d i n s h1 h2 h3 h4 h6 => hB _ _ _ _ (kgoC (is := KJx4a65c_clear_da8c8_42) rfl (k_return ⟨rfl, h1, h2, h3, h4, h6⟩))
    have loop : ∀ (r : Nat) (k : Nat) (i n : Int32) (s : CsC), (n.toInt - i.toInt).toNat = k → 0 ≤ i.toInt → n.toInt ≤ 20000 → HIC s → ExC [0, 2] σ0 s → (fIC s p0 2).toInt = 0 → (∀ b, b ≠ p0 → fIC s b 2 = fIC σ0 b 2) → (∀ b, b < cnC σ0 → tgC σ0 b = 0 → b ≠ p0 → ∀ j : Nat, (j : Int) < (fIC σ0 b 2).toInt → elC s b j = elC σ0 b j) → (i.toInt < n.toInt → RwC s r 103 ∧ ghC s r = p0 + 1 ∧ n.toInt ≤ alC s r) → G 27 [(3, .inl i), (2, .inl n), (1, .inr (.inr (some r))), (0, .inr (.inr (some p0)))] [] s := by
      intro r k
      induction k using Nat.strongRecOn with
      | _ k ih =>
        intro i n s hk hi hn h1 h2 h3 h4 h6 h5
        refine hB _ _ _ _ (kgoC (is := KJx4a65c_clear_da8c8_27) rfl (k_iload_n rfl (k_iload_n rfl (k_ic_ge (fun h => hend _ _ _ _ h1 h2 h3 h4 h6) (fun h => k_nil ?_)))))
        obtain ⟨g1, g2, g3⟩ := h5 h
        refine hB _ _ _ _ (kgoC (is := KJx4a65c_clear_da8c8_32) rfl (k_aload_n rfl (k_iload_n rfl (k_aconst_null (k_aas g1 hi (by omega) trivial ?_)))))
        obtain ⟨i', e1, e2⟩ := iincC (n := 1) (m := 1) (v := i) rfl (by omega) (by omega)
        refine k_iinc (ls' := [(3, .inl i'), (2, .inl n), (1, .inr (.inr (some r))), (0, .inr (.inr (some p0)))]) rfl e1 rfl (k_goto ?_)
        refine ih ((n.toInt - i'.toInt).toNat) (by omega) i' n _ rfl (by omega) hn ⟨h1.1.q103 g1.2 g2 h3, h1.2⟩ (h2.tr (ExC.qR (fun _ => rfl))) h3 h4 (fun b hb ht hn j hj => (elC_q (h1.1 b (Nat.lt_of_lt_of_le hb h2.1)).2.1 ((h2.2.2 b hb).1.1.trans ht) g2 hn (by rw [h4 b hn]; exact hj)).trans (h6 b hb ht hn j hj)) (fun _ => ⟨g1, g2, g3⟩)
    obtain ⟨x, e1, e2, h1, h2⟩ := cg2 H0.1 t0
    obtain ⟨d, hd, hrow⟩ : ∃ d, fRC σ0 p0 1 = some d ∧ (0 < x.toInt → RwC σ0 d 103 ∧ ghC σ0 d = p0 + 1 ∧ x.toInt ≤ alC σ0 d) := by
      rcases (H0.1 p0 t0.1).2.1 t0.2.1 with ⟨q1, q2⟩ | ⟨r, q1, ⟨q2, q3, q4⟩, q5, -⟩
      · exact ⟨_, q1, fun h => by rw [e2] at q2; omega⟩
      · exact ⟨r, q1, fun _ => ⟨⟨q2, q3⟩, q4, by rw [← e2]; exact q5.1⟩⟩
    refine hB _ _ _ _ (kgoC (is := KJx4a65c_clear_da8c8_0) rfl (k_aload_n rfl (k_dupR (k_getO (k := 0) (v := .inl (fIC σ0 p0 0)) (t0.ob (by decide)) rfl (k_iconst (m := 1) rfl (fun x1 hx1 => k_iadd_u (fun z => k_putIg (k := 0) (t0.ob (by decide)) (by decide) ?_)))))))
    have X1 : ExC [0, 2] σ0 (pIC σ0 p0 0 z) := ExC.pI (by decide) (Or.inr (by decide))
    have H1 : HIC (pIC σ0 p0 0 z) := H0.pI t0 (by decide) (by decide) (tiC z)
    have t1 := t0.x X1
    refine k_aload_n rfl (k_getO (k := 1) (v := .inr (.inr (some d))) (t1.ob (by decide)) (by show (Sum.inr (Sum.inr (fRC σ0 p0 1)) : AvC) = _; rw [hd]) ?_)
    refine k_astore_n (ls' := [(1, .inr (.inr (some d))), (0, .inr (.inr (some p0)))]) rfl (k_aload_n rfl (k_getO (k := 2) (v := .inl x) (t1.ob (by decide)) ?_ ?_))
    · have e9 : fIC (pIC σ0 p0 0 z) p0 2 = x := (fI_pI (Or.inl (by decide))).trans e2
      show (Sum.inl (fIC (pIC σ0 p0 0 z) p0 2) : AvC) = _
      rw [e9]
    refine k_istore_n (ls' := [(2, .inl x), (1, .inr (.inr (some d))), (0, .inr (.inr (some p0)))]) rfl (k_aload_n rfl (k_iconst (m := 0) rfl (fun o ho => k_dup_x1I (k_putIg (k := 2) (t1.ob (by decide)) (by decide) ?_))))
    refine k_istore_n (ls' := [(3, .inl o), (2, .inl x), (1, .inr (.inr (some d))), (0, .inr (.inr (some p0)))]) rfl (k_nil ?_)
    have X2 : ExC [0, 2] (pIC σ0 p0 0 z) (pIC (pIC σ0 p0 0 z) p0 2 o) := ExC.pI (by decide) (Or.inr (by decide))
    have H2 : HIC (pIC (pIC σ0 p0 0 z) p0 2 o) := H1.p2 t1 ⟨by show (0 : Int) ≤ _; omega, by show _ ≤ (20000 : Int); omega⟩ (X0C.z ho ((H1.1 p0 t1.1).2.1 t1.2.1))
    refine loop d _ o x _ rfl (by omega) h2 H2 (X1.tr X2) (by rw [fI_pIs]; exact ho) (fun b hb => by rw [fI_pI (Or.inr hb), fI_pI (Or.inl (by decide))]) (fun _ _ _ _ _ _ => rfl) (fun h => hrow (by omega))
