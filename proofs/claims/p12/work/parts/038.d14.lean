/-! lists that grow -/
abbrev P_nl : CpC := fun As σ => ∃ (n m p : Int32), As = [.inl n, .inl m, .inl p] ∧ 0 ≤ n.toInt ∧ n.toInt ≤ 20000 ∧ 1 ≤ m.toInt ∧ m.toInt ≤ 20000 ∧ 0 ≤ p.toInt ∧ p.toInt ≤ 20000
abbrev Q_nl : CqC := fun As σ w τ => match As with
  | [.inl n, .inl m, .inl p] => ∃ r : Int32, w = some (.inl r) ∧ σ = τ ∧ r.toInt = n.toInt + max m.toInt p.toInt
  | _ => False
theorem m_nl (l : Launch) : CMetC l 1 249 P_nl Q_nl := by
  refine CMetC.of KJ8_newLength_cabcc [] hJ8_newLength_cabcc (by decide) (by decide) okJ8_newLength_cabcc cc0C ?_ ?_
  · rintro As σ ⟨n, m, p, rfl, -⟩
    exact Nat.le_of_ble_eq_true rfl
  · rintro As σ0 ⟨n, m, p, rfl, h1, h2, h3, h4, h5, h6⟩ hgr G hB hW
    change G 0 [(0, .inl n), (1, .inl m), (2, .inl p)] [] σ0
    refine hB _ _ _ _ (kgoC (is := KJ8_newLength_cabcc_0) rfl (k_iload_n rfl (k_iload_n rfl (k_iload_n rfl (k_mmax (Nat.le_of_ble_eq_true rfl) (fun z hz => k_iadd (by omega) (by omega) (fun s hs => k_istore_n (ls' := [(3, .inl s), (0, .inl n), (1, .inl m), (2, .inl p)]) rfl (k_iconst (m := 0) rfl (fun o ho => k_iload_n rfl (k_ic_ge (fun h => by exfalso; omega) (fun h => k_nil ?_)))))))))))
    refine hB _ _ _ _ (kgoC (is := KJ8_newLength_cabcc_13) rfl (k_iload_n rfl (k_ldcI (m := 2147483639) rfl (fun x hx => k_ic_gt (fun h => by exfalso; omega) (fun h => k_nil ?_)))))
    exact hB _ _ _ _ (kgoC (is := KJ8_newLength_cabcc_19) rfl (k_iload_n rfl (k_ireturn (fun hz => absurd hz (by decide)) ⟨s, rfl, rfl, by omega⟩)))
section KJ2
variable {ct : CcC} {K : CkC} {Z : Option AvC → CsC → Prop} {is : List RI} {pc d b : Nat} {q : Int} {cs : List (Int × Nat)} {ls : ClC} {st : List AvC} {σ : CsC}
theorem k_acmpN {o : Int} {v : Option Nat} (h : cwpC ct K Z is (pc + 3) ls st σ) : cwpC ct K Z ((.if_acmp .ne o, d, q, b, cs) :: is) pc ls (.inr (.inr v) :: .inr (.inr v) :: st) σ := ⟨⟨fun z => absurd rfl z, fun _ => h⟩, Or.inl rfl⟩
theorem k_acmpY {o : Int} {v : Option Nat} (h : K b ls st σ) : cwpC ct K Z ((.if_acmp .eq o, d, q, b, cs) :: is) pc ls (.inr (.inr v) :: .inr (.inr v) :: st) σ := ⟨⟨fun _ => h, fun z => absurd rfl z⟩, Or.inl rfl⟩
theorem k_anew {j n : Nat} {x : Int32} (hx : x.toInt = (n : Int)) (hn : n ≤ 20000) (h1 : cnC σ + 1 ≤ cpC σ) (h2 : slC σ + n ≤ spC σ) (h : cwpC ct K Z is (pc + 3) ls (.inr (.inr (some (cnC σ))) :: st) (nAC σ 103 n 0)) : cwpC ct K Z ((.anewarray j, d, 0, 103, cs) :: is) pc ls (.inl x :: st) σ := by
  have hc : x.toNatClampNeg = n := by show x.toInt.toNat = n; omega
  have h0 : (0 : Int32) ≤ x := Int32.le_iff_toInt_le.mpr (by show (0 : Int) ≤ _; omega)
  have h9 : x ≤ (1000000 : Int32) := Int32.le_iff_toInt_le.mpr (by show _ ≤ (1000000 : Int); omega)
  refine ⟨h0, h9, h1, by rw [hc]; exact h2, ?_⟩
  show cwpC ct K Z is (pc + 3) ls _ (nAC σ 103 x.toNatClampNeg 0)
  rw [hc]
  exact h
theorem k_gcl {j a : Nat} (hr : RwC σ a 103) (h8 : csC st ≤ 8) (h : cwpC ct K Z is (pc + 3) ls (.inr (.inr (some 1000011)) :: st) σ) : cwpC ct K Z ((.invokevirtual j, d, q, 9998, cs) :: is) pc ls (.inr (.inr (some a)) :: st) σ := ⟨a, rfl, hr, h8, h⟩
theorem k_acp {j a c n : Nat} {x y z : Int32} (ha : RwC σ a 103) (hc : RwC σ c 103) (hx : x.toInt = 0) (hy : y.toInt = 0) (hz : z.toInt = (n : Int)) (h1 : n ≤ alC σ a) (h2 : n ≤ alC σ c) (he : ∀ i, i < n → hoC σ 103 (eRC σ a i)) (h8 : csC st ≤ 8) (h : cwpC ct K Z is (pc + 3) ls st (qRC σ c (va_cpy (eRC σ a) (eRC σ c) 0 0 n))) : cwpC ct K Z ((.invokestatic j, d, q, 9997, cs) :: is) pc ls (.inl z :: .inl y :: .inr (.inr (some c)) :: .inl x :: .inr (.inr (some a)) :: st) σ := by
  have ex : x.toNatClampNeg = 0 := by show x.toInt.toNat = 0; omega
  have ey : y.toNatClampNeg = 0 := by show y.toInt.toNat = 0; omega
  have ez : z.toNatClampNeg = n := by show z.toInt.toNat = n; omega
  have hlt : ∀ w : Int32, 0 ≤ w.toInt → ¬ w < 0 := fun w hw q => by have := Int32.lt_iff_toInt_lt.mp q; have e0 : (0 : Int32).toInt = 0 := rfl; omega
  refine ⟨a, c, rfl, rfl, ha, hc, ⟨hlt x (by omega), hlt y (by omega), hlt z (by omega)⟩, ⟨by rw [ex, ez]; omega, by rw [ey, ez]; omega⟩, fun i hi => ?_, h8, ?_⟩
  · rw [ez] at hi
    rw [ex, Nat.zero_add]
    exact he i hi
  · show cwpC ct K Z is (pc + 3) ls st (qRC σ c (va_cpy (eRC σ a) (eRC σ c) x.toNatClampNeg y.toNatClampNeg z.toNatClampNeg))
    rw [ex, ey, ez]
    exact h
end KJ2
/-- a longer row in place of an old one -/
def cpyC (σ : CsC) (r n m : Nat) : CsC := qRC (nAC σ 103 m 0) (cnC σ) (va_cpy (eRC σ r) (fun _ => none) 0 0 n)
theorem nA_rw {σ : CsC} {r m : Nat} (h : RwC σ r 103) : RwC (nAC σ 103 m 0) r 103 ∧ alC (nAC σ 103 m 0) r = alC σ r ∧ eRC (nAC σ 103 m 0) r = eRC σ r := by
  have hn : r ≠ cnC σ := by have := h.1; omega
  have e : (nAC σ 103 m 0).2.1 r = σ.2.1 r := u1C_ne hn
  exact ⟨⟨Nat.lt_succ_of_lt h.1, by unfold tgC; rw [e]; exact h.2⟩, by unfold alC; rw [e], u1C_ne hn⟩
theorem nA_new {σ : CsC} {m : Nat} : RwC (nAC σ 103 m 0) (cnC σ) 103 ∧ alC (nAC σ 103 m 0) (cnC σ) = m ∧ eRC (nAC σ 103 m 0) (cnC σ) = fun _ => none := by
  have e : (nAC σ 103 m 0).2.1 (cnC σ) = (103, m, 0) := u1C_eq
  exact ⟨⟨Nat.lt_succ_self _, by unfold tgC; rw [e]⟩, by unfold alC; rw [e], u1C_eq⟩
theorem hoC_nA {σ : CsC} {m : Nat} {o : Option Nat} (h : hoC σ 103 o) : hoC (nAC σ 103 m 0) 103 o := by
  cases o with
  | none => trivial
  | some b =>
    rcases h with ⟨q, -⟩ | ⟨q, -⟩ | ⟨-, c, hc, h1, h2, h3⟩
    · cases q
    · cases q
    · have hn : b ≠ cnC σ := by omega
      have e : (nAC σ 103 m 0).2.1 b = σ.2.1 b := u1C_ne hn
      exact Or.inr (Or.inr ⟨rfl, c, hc, Nat.lt_succ_of_lt h1, by unfold tgC; rw [e]; exact h2, by unfold tgC; rw [e]; exact h3⟩)
abbrev P_cp3 : CpC := fun As σ => ∃ (r : Nat) (x : Int32) (n m : Nat), As = [.inr (.inr (some r)), .inl x, .inr (.inr (some 1000011))] ∧ RwC σ r 103 ∧ alC σ r = n ∧ n ≤ m ∧ m ≤ 20000 ∧ x.toInt = (m : Int) ∧ (∀ i, i < n → hoC σ 103 (eRC σ r i)) ∧ cnC σ + 1 ≤ cpC σ ∧ slC σ + m ≤ spC σ
abbrev Q_cp3 : CqC := fun As σ w τ => match As with
  | [.inr (.inr (some r)), .inl x, .inr (.inr (some _))] => w = some (.inr (.inr (some (cnC σ)))) ∧ τ = cpyC σ r (alC σ r) x.toNatClampNeg
  | _ => False
theorem m_cp3 (l : Launch) : CMetC l 2 246 P_cp3 Q_cp3 := by
  refine CMetC.of KJ7_copyOf_6403c [] hJ7_copyOf_6403c (by decide) (by decide) okJ7_copyOf_6403c cc0C ?_ ?_
  · rintro As σ ⟨r, x, n, m, rfl, -⟩
    exact Nat.le_of_ble_eq_true rfl
  · rintro As σ0 ⟨r, x, n, m, rfl, hr, hn, hnm, hm, hx, he, h1, h2⟩ hgr G hB hW
    change G 0 [(0, .inr (.inr (some r))), (1, .inl x), (2, .inr (.inr (some 1000011)))] [] σ0
    obtain ⟨a1, a2, a3⟩ := nA_rw (m := m) hr
    obtain ⟨b1, b2, b3⟩ := nA_new (σ := σ0) (m := m)
    have hxm : x.toNatClampNeg = m := by show x.toInt.toNat = m; omega
    refine hB _ _ _ _ (kgoC (is := KJ7_copyOf_6403c_0) rfl (k_aload_n rfl (k_ldcR rfl (k_acmpN (k_nil ?_)))))
    refine hB _ _ _ _ (kgoC (is := KJ7_copyOf_6403c_6) rfl (k_iload_n rfl (k_anew hx hm h1 h2 (k_goto ?_))))
    refine hB _ _ _ _ (kgoC (is := KJ7_copyOf_6403c_24) rfl (k_astore_n (ls' := [(3, .inr (.inr (some (cnC σ0)))), (0, .inr (.inr (some r))), (1, .inl x), (2, .inr (.inr (some 1000011)))]) rfl (k_aload_n rfl (k_iconst (m := 0) rfl (fun o1 ho1 => k_aload_n rfl (k_iconst (m := 0) rfl (fun o2 ho2 => k_aload_n rfl (k_alenR a1 (a2.trans hn) (by omega) (fun y hy => k_iload_n rfl (k_mmin (Nat.le_of_ble_eq_true rfl) (fun z z1 z2 z3 => k_acp (n := n) a1 b1 ho1 ho2 (by omega) (by rw [a2]; omega) (by rw [b2]; omega) (fun i hi => by rw [a3]; exact hoC_nA (he i hi)) (Nat.le_of_ble_eq_true rfl) (k_aload_n rfl (k_areturn ⟨rfl, ?_⟩)))))))))))))
    unfold cpyC
    rw [hxm, hn, a3, b3]
abbrev P_cp2 : CpC := fun As σ => ∃ (r : Nat) (x : Int32) (n m : Nat), As = [.inr (.inr (some r)), .inl x] ∧ RwC σ r 103 ∧ alC σ r = n ∧ n ≤ m ∧ m ≤ 20000 ∧ x.toInt = (m : Int) ∧ (∀ i, i < n → hoC σ 103 (eRC σ r i)) ∧ cnC σ + 1 ≤ cpC σ ∧ slC σ + m ≤ spC σ
abbrev Q_cp2 : CqC := fun As σ w τ => match As with
  | [.inr (.inr (some r)), .inl x] => w = some (.inr (.inr (some (cnC σ)))) ∧ τ = cpyC σ r (alC σ r) x.toNatClampNeg
  | _ => False
theorem m_cp2 (l : Launch) : CMetC l 3 245 P_cp2 Q_cp2 := by
  refine CMetC.of KJ7_copyOf_1904c [(246, P_cp3, Q_cp3)] hJ7_copyOf_1904c (by decide) (by decide) okJ7_copyOf_1904c (cc1C (m_cp3 l) (by decide) cc0C) ?_ ?_
  · rintro As σ ⟨r, x, n, m, rfl, -⟩
    exact Nat.le_of_ble_eq_true rfl
  · rintro As σ0 ⟨r, x, n, m, rfl, hr, hn, hnm, hm, hx, he, h1, h2⟩ hgr G hB hW
    change G 0 [(0, .inr (.inr (some r))), (1, .inl x)] [] σ0
    refine hB _ _ _ _ (kgoC (is := KJ7_copyOf_1904c_0) rfl (k_aload_n rfl (k_iload_n rfl (k_aload_n rfl (k_gcl hr (Nat.le_of_ble_eq_true rfl) (k_stat (P := P_cp3) (Q := Q_cp3) rfl rfl (Nat.le_of_ble_eq_true rfl) rfl rfl (Nat.le_of_ble_eq_true rfl) ⟨r, x, n, m, rfl, hr, hn, hnm, hm, hx, he, h1, h2⟩ (fun w σ1 hq => ?_)))))))
    obtain ⟨rfl, rfl⟩ := hq
    exact k_areturn ⟨rfl, rfl⟩
