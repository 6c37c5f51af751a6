/-! the JDK's members -/
theorem stv_ok : ∀ j, j < 43 → 0 < (stvC.getD j 0).toInt → 20 ≤ j ∧ j ≤ 38 := by decide
theorem stv_ok2 : ∀ j, j < 43 → 20 ≤ j → j ≤ 38 → 0 < (stvC.getD j 0).toInt := by decide
theorem cpsC {x : Int32} (h : 0 ≤ x.toInt) : (x.toNatClampNeg : Int) = x.toInt := by show ((x.toInt.toNat : Nat) : Int) = _; omega
theorem i0C : (0 : Int32).toInt = 0 := rfl
section KJ
variable {ct : CcC} {K : CkC} {Z : Option AvC → CsC → Prop} {is : List RI} {pc d b : Nat} {q : Int} {cs : List (Int × Nat)} {ls : ClC} {st : List AvC} {σ : CsC}
theorem k_gets {j c : Nat} (h : cwpC ct K Z is (pc + 3) ls (.inr (.inr (some c)) :: st) σ) : cwpC ct K Z ((.getstatic j, d, q, c, cs) :: is) pc ls st σ := h
theorem k_alenK {a n : Nat} (hn : (a = 1000000 ∧ n = 0) ∨ (a = 1000001 ∧ n = 43) ∨ (a = 1000002 ∧ n = 11)) (h : ∀ x : Int32, x.toInt = (n : Int) → cwpC ct K Z is (pc + 1) ls (.inl x :: st) σ) : cwpC ct K Z ((.arraylength, d, q, b, cs) :: is) pc ls (.inr (.inr (some a)) :: st) σ :=
  ⟨a, rfl, Or.inr ⟨n, hn, h _ (Int32.toInt_ofNat_of_lt (by omega))⟩⟩
theorem k_ialS {x : Int32} (h0 : 0 ≤ x.toInt) (h1 : x.toInt < 43) (h : cwpC ct K Z is (pc + 1) ls (.inl (stvC.getD x.toNatClampNeg 0) :: st) σ) : cwpC ct K Z ((.iaload, d, q, b, cs) :: is) pc ls (.inl x :: .inr (.inr (some 1000001)) :: st) σ := ⟨_, rfl, Or.inr (Or.inl ⟨rfl, inC_of h0 h1, h⟩)⟩
theorem k_ialO {x : Int32} (h0 : 0 ≤ x.toInt) (h1 : x.toInt < 11) (h : cwpC ct K Z is (pc + 1) ls (.inl (opvC.getD x.toNatClampNeg 0) :: st) σ) : cwpC ct K Z ((.iaload, d, q, b, cs) :: is) pc ls (.inl x :: .inr (.inr (some 1000002)) :: st) σ := ⟨_, rfl, Or.inr (Or.inr ⟨rfl, inC_of h0 h1, h⟩)⟩
theorem k_aal {x : Int32} {a : Nat} (hr : RwC σ a 103) (h0 : 0 ≤ x.toInt) (h1 : x.toInt < alC σ a) (h : cwpC ct K Z is (pc + 1) ls (.inr (.inr (eRC σ a x.toNatClampNeg)) :: st) σ) : cwpC ct K Z ((.aaload, d, q, b, cs) :: is) pc ls (.inl x :: .inr (.inr (some a)) :: st) σ := ⟨a, 103, rfl, hr, Or.inl rfl, inC_of h0 h1, h⟩
theorem k_aas {x : Int32} {a : Nat} {w : Option Nat} (hr : RwC σ a 103) (h0 : 0 ≤ x.toInt) (h1 : x.toInt < alC σ a) (hw : hoC σ 103 w) (h : cwpC ct K Z is (pc + 1) ls st (qRC σ a (va_up (eRC σ a) x.toNatClampNeg w))) : cwpC ct K Z ((.aastore, d, q, b, cs) :: is) pc ls (.inr (.inr w) :: .inl x :: .inr (.inr (some a)) :: st) σ := ⟨a, 103, rfl, hr, Or.inl rfl, inC_of h0 h1, hw, h⟩
theorem k_alenR {a n : Nat} (hr : RwC σ a 103) (e : alC σ a = n) (hn : n < 2147483648) (h : ∀ x : Int32, x.toInt = (n : Int) → cwpC ct K Z is (pc + 1) ls (.inl x :: st) σ) : cwpC ct K Z ((.arraylength, d, q, b, cs) :: is) pc ls (.inr (.inr (some a)) :: st) σ := by
  refine ⟨a, rfl, Or.inl ⟨hr.1, by rw [hr.2]; decide, by rw [hr.2]; decide, by rw [e]; exact hn, h _ ?_⟩⟩
  rw [e]
  exact Int32.toInt_ofNat_of_lt hn
theorem k_putIg {j k a : Nat} {w : Int32} (o : ObC σ a (k / 30)) (hk : fkC k = 0) (h : cwpC ct K Z is (pc + 3) ls st (pIC σ a k w)) : cwpC ct K Z ((.putfield j, d, q, k, cs) :: is) pc ls (.inl w :: .inr (.inr (some a)) :: st) σ := ⟨a, rfl, o, Or.inl hk, h⟩
end KJ
theorem m_X11_strength (l : Launch) : CMetC l 10 225 P_X11_strength Q_X11_strength := by
  refine CMetC.of KX11_strength [] hX11_strength (by decide) (by decide) okX11_strength cc0C ?_ ?_
  · rintro As σ ⟨p0, rfl, -⟩
    exact Nat.le_of_ble_eq_true rfl
  · rintro As σ0 ⟨p0, rfl, H0⟩ hgr G hB hW
    change G 0 [(0, .inl p0)] [] σ0
    have hz : (p0.toInt < 0 ∨ 43 ≤ p0.toInt) → G 20 [(0, .inl p0)] [] σ0 := by
      intro hz0
      refine hB _ _ _ _ (kgoC (is := KX11_strength_20) rfl (k_iconst (m := 0) rfl (fun x hx => k_nil ?_)))
      exact hB _ _ _ _ (kgoC (is := KX11_strength_21) rfl (k_ireturn (fun hz => absurd hz (by decide)) ⟨_, rfl, rfl, fun h => by omega, fun _ _ => by omega⟩))
    refine hB _ _ _ _ (kgoC (is := KX11_strength_0) rfl (k_iload_n rfl (k_if_lt (fun h => hz (Or.inl (by omega))) (fun h => k_nil ?_))))
    refine hB _ _ _ _ (kgoC (is := KX11_strength_4) rfl (k_iload_n rfl (k_gets (k_alenK (n := 43) (by omega) (fun x hx => k_ic_ge (fun h2 => hz (Or.inr (by omega))) (fun h2 => k_nil ?_))))))
    refine hB _ _ _ _ (kgoC (is := KX11_strength_12) rfl (k_gets (k_iload_n rfl (k_ialS (by omega) (by omega) (k_goto ?_)))))
    refine hB _ _ _ _ (kgoC (is := KX11_strength_21) rfl (k_ireturn (fun hz => absurd hz (by decide)) ⟨_, rfl, rfl, fun h3 => ?_, fun h3 h6 => ?_⟩))
    · have h4 := cpsC h
      have h5 := stv_ok p0.toNatClampNeg (by omega) h3
      omega
    · have h4 := cpsC h
      exact stv_ok2 p0.toNatClampNeg (by omega) (by omega) (by omega)
theorem m_X11_operatorOf (l : Launch) : CMetC l 10 226 P_X11_operatorOf Q_X11_operatorOf := by
  refine CMetC.of KX11_operatorOf [] hX11_operatorOf (by decide) (by decide) okX11_operatorOf cc0C ?_ ?_
  · rintro As σ ⟨p0, rfl, -⟩
    exact Nat.le_of_ble_eq_true rfl
  · rintro As σ0 ⟨p0, rfl, H0⟩ hgr G hB hW
    change G 0 [(0, .inl p0)] [] σ0
    refine hB _ _ _ _ (kgoC (is := KX11_operatorOf_0) rfl (k_iload_n rfl (k_bipush (m := 8) rfl (fun x hx => k_isub_u (fun y => k_iconst (m := 1) rfl (fun x2 hx2 => k_isub_u (fun v => k_istore_n (ls' := [(1, .inl v), (0, .inl p0)]) rfl ?_)))))))
    have hz : G 27 [(1, .inl v), (0, .inl p0)] [] σ0 := by
      refine hB _ _ _ _ (kgoC (is := KX11_operatorOf_27) rfl (k_iload_n rfl (k_nil ?_)))
      exact hB _ _ _ _ (kgoC (is := KX11_operatorOf_28) rfl (k_ireturn (fun hz => absurd hz (by decide)) ⟨_, rfl, rfl⟩))
    refine k_iload_n rfl (k_if_lt (fun h => hz) (fun h => k_nil ?_))
    refine hB _ _ _ _ (kgoC (is := KX11_operatorOf_11) rfl (k_iload_n rfl (k_gets (k_alenK (n := 11) (by omega) (fun x hx => k_ic_ge (fun h2 => hz) (fun h2 => k_nil ?_))))))
    refine hB _ _ _ _ (kgoC (is := KX11_operatorOf_19) rfl (k_gets (k_iload_n rfl (k_ialO (by omega) (by omega) (k_goto ?_)))))
    exact hB _ _ _ _ (kgoC (is := KX11_operatorOf_28) rfl (k_ireturn (fun hz => absurd hz (by decide)) ⟨_, rfl, rfl⟩))
theorem m_Jx4a65c_size_8abf5 (l : Launch) : CMetC l 10 234 P_Jx4a65c_size_8abf5 Q_Jx4a65c_size_8abf5 := by
  refine CMetC.of KJx4a65c_size_8abf5 [] hJx4a65c_size_8abf5 (by decide) (by decide) okJx4a65c_size_8abf5 cc0C ?_ ?_
  · rintro As σ ⟨p0, rfl, -⟩
    exact Nat.le_of_ble_eq_true rfl
  · rintro As σ0 ⟨p0, rfl, H0, t0⟩ hgr G hB hW
    change G 0 [(0, .inr (.inr (some p0)))] [] σ0
    obtain ⟨x, e1, e2, h1, h2⟩ := cg2 H0.1 t0
    refine hB _ _ _ _ (kgoC (is := KJx4a65c_size_8abf5_0) rfl (k_aload_n rfl (k_get kg2 t0 e1 (k_ireturn (fun hz => absurd hz (by decide)) ⟨x, rfl, rfl, h1, h2, e2, fun hg => ?_⟩))))
    rw [← e2]
    rcases (H0.1 p0 t0.1).2.1 t0.2.1 with ⟨-, q⟩ | ⟨r, -, -, q, -⟩
    · omega
    · exact q.2.2.2 hg
abbrev P_ck3 : CpC := fun As σ => ∃ (i n : Int32), As = [.inl i, .inl n, .inr (.inr none)] ∧ 0 ≤ i.toInt ∧ i.toInt < n.toInt
abbrev Q_ck3 : CqC := fun As σ w τ => match As with
  | [.inl i, .inl _, .inr (.inr none)] => w = some (.inl i) ∧ σ = τ
  | _ => False
theorem m_ck3 (l : Launch) : CMetC l 1 248 P_ck3 Q_ck3 := by
  refine CMetC.of KJ3_checkIndex_8e157 [] hJ3_checkIndex_8e157 (by decide) (by decide) okJ3_checkIndex_8e157 cc0C ?_ ?_
  · rintro As σ ⟨i, n, rfl, -⟩
    exact Nat.le_of_ble_eq_true rfl
  · rintro As σ0 ⟨i, n, rfl, h0, h1⟩ hgr G hB hW
    change G 0 [(0, .inl i), (1, .inl n), (2, .inr (.inr none))] [] σ0
    refine hB _ _ _ _ (kgoC (is := KJ3_checkIndex_8e157_0) rfl (k_iload_n rfl (k_if_lt (fun h => by exfalso; omega) (fun h => k_nil ?_))))
    refine hB _ _ _ _ (kgoC (is := KJ3_checkIndex_8e157_4) rfl (k_iload_n rfl (k_iload_n rfl (k_ic_lt (fun h => ?_) (fun h => by exfalso; omega)))))
    exact hB _ _ _ _ (kgoC (is := KJ3_checkIndex_8e157_16) rfl (k_iload_n rfl (k_ireturn (fun hz => absurd hz (by decide)) ⟨rfl, rfl⟩)))
abbrev P_ck15 : CpC := fun As σ => ∃ (i n : Int32), As = [.inl i, .inl n] ∧ 0 ≤ i.toInt ∧ i.toInt < n.toInt
abbrev Q_ck15 : CqC := fun As σ w τ => match As with
  | [.inl i, .inl _] => w = some (.inl i) ∧ σ = τ
  | _ => False
theorem m_ck15 (l : Launch) : CMetC l 2 247 P_ck15 Q_ck15 := by
  refine CMetC.of KJ15_checkIndex_7cf53 [(248, P_ck3, Q_ck3)] hJ15_checkIndex_7cf53 (by decide) (by decide) okJ15_checkIndex_7cf53 (cc1C (m_ck3 l) (by decide) cc0C) ?_ ?_
  · rintro As σ ⟨i, n, rfl, -⟩
    exact Nat.le_of_ble_eq_true rfl
  · rintro As σ0 ⟨i, n, rfl, h0, h1⟩ hgr G hB hW
    change G 0 [(0, .inl i), (1, .inl n)] [] σ0
    refine hB _ _ _ _ (kgoC (is := KJ15_checkIndex_7cf53_0) rfl (k_iload_n rfl (k_iload_n rfl (k_aconst_null (k_stat (P := P_ck3) (Q := Q_ck3) rfl rfl (Nat.le_of_ble_eq_true rfl) rfl rfl (Nat.le_of_ble_eq_true rfl) ⟨i, n, rfl, h0, h1⟩ (fun w σ1 hq => ?_))))))
    obtain ⟨rfl, rfl⟩ := hq
    exact k_ireturn (fun hz => absurd hz (by decide)) ⟨rfl, rfl⟩
abbrev P_eld : CpC := fun As σ => ∃ (a : Nat) (i : Int32) (r : Nat), As = [.inr (.inr (some a)), .inl i] ∧ ObC σ a 0 ∧ fRC σ a 1 = some r ∧ RwC σ r 103 ∧ 0 ≤ i.toInt ∧ i.toInt < alC σ r
abbrev Q_eld : CqC := fun As σ w τ => match As with
  | [.inr (.inr (some a)), .inl i] => σ = τ ∧ ∀ r, fRC σ a 1 = some r → w = some (.inr (.inr (eRC σ r i.toNatClampNeg)))
  | _ => False
theorem m_eld (l : Launch) : CMetC l 1 241 P_eld Q_eld := by
  refine CMetC.of KJx4a65c_elementData_915e3 [] hJx4a65c_elementData_915e3 (by decide) (by decide) okJx4a65c_elementData_915e3 cc0C ?_ ?_
  · rintro As σ ⟨a, i, r, rfl, -⟩
    exact Nat.le_of_ble_eq_true rfl
  · rintro As σ0 ⟨a, i, r, rfl, ho, hr, hw, h0, h1⟩ hgr G hB hW
    change G 0 [(0, .inr (.inr (some a))), (1, .inl i)] [] σ0
    refine hB _ _ _ _ (kgoC (is := KJx4a65c_elementData_915e3_0) rfl (k_aload_n rfl (k_getO (k := 1) ho (congrArg (fun z : Option Nat => (Sum.inr (Sum.inr z) : AvC)) hr) (k_iload_n rfl (k_aal hw h0 h1 (k_areturn ⟨rfl, fun r' h' => ?_⟩))))))
    cases hr.symm.trans h'
    rfl
theorem m_Jx4a65c_get_915e3 (l : Launch) : CMetC l 10 235 P_Jx4a65c_get_915e3 Q_Jx4a65c_get_915e3 := by
  refine CMetC.of KJx4a65c_get_915e3 [(247, P_ck15, Q_ck15), (241, P_eld, Q_eld)] hJx4a65c_get_915e3 (by decide) (by decide) okJx4a65c_get_915e3 (cc1C (m_ck15 l) (by decide) (cc1C (m_eld l) (by decide) cc0C)) ?_ ?_
  · rintro As σ ⟨p0, p1, rfl, -⟩
    exact Nat.le_of_ble_eq_true rfl
  · rintro As σ0 ⟨p0, p1, rfl, H0, t0, h0, h1⟩ hgr G hB hW
    change G 0 [(0, .inr (.inr (some p0))), (1, .inl p1)] [] σ0
    obtain ⟨x, e1, e2, h3, h4⟩ := cg2 H0.1 t0
    have h1' : p1.toInt < x.toInt := by rw [← e2]; exact h1
    obtain ⟨r, hr, ⟨hr1, hr2, hr3⟩, hsz, hel⟩ : ∃ r, fRC σ0 p0 1 = some r ∧ (r < cnC σ0 ∧ tgC σ0 r = 103 ∧ ghC σ0 r = p0 + 1) ∧ ((fIC σ0 p0 2).toInt ≤ alC σ0 r ∧ alC σ0 r ≤ 20000 ∧ 10 ≤ alC σ0 r ∧ (ghC σ0 p0 = 6 → (fIC σ0 p0 2).toInt ≤ 100)) ∧ ∀ j, j < (fIC σ0 p0 2).toNatClampNeg → ∃ b, eRC σ0 r j = some b ∧ ElC σ0 (ghC σ0 p0) b := by
      rcases (H0.1 p0 t0.1).2.1 t0.2.1 with ⟨-, q⟩ | q
      · omega
      · exact q
    refine hB _ _ _ _ (kgoC (is := KJx4a65c_get_915e3_0) rfl (k_iload_n rfl (k_aload_n rfl (k_get kg2 t0 e1 (k_stat (P := P_ck15) (Q := Q_ck15) rfl rfl (Nat.le_of_ble_eq_true rfl) rfl rfl (Nat.le_of_ble_eq_true rfl) ⟨p1, x, rfl, h0, h1'⟩ (fun w σ1 hq => ?_))))))
    obtain ⟨rfl, rfl⟩ := hq
    refine k_st (st' := [.inl p1]) rfl (k_popI (k_aload_n rfl (k_iload_n rfl (k_inv (P := P_eld) (Q := Q_eld) rfl rfl rfl rfl (Nat.le_of_ble_eq_true rfl) (t0.rc (by decide)) ⟨p0, p1, r, rfl, t0.ob (by decide), hr, ⟨hr1, hr2⟩, h0, by omega⟩ (fun w σ1 hq => ?_)))))
    obtain ⟨rfl, hw⟩ := hq
    obtain rfl := hw r hr
    have h9 := cpsC h0
    have h10 : 0 ≤ (fIC σ0 p0 2).toInt := by rw [e2]; exact h3
    have h11 := cpsC h10
    obtain ⟨b, hb1, hb2⟩ := hel p1.toNatClampNeg (by omega)
    refine k_st (st' := [.inr (.inr (some b))]) (by rw [hb1]; rfl) (k_areturn ⟨b, rfl, rfl, hb2⟩)
