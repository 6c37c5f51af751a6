/-! lists take in -/
section KJ3
variable {ct : CcC} {K : CkC} {Z : Option AvC → CsC → Prop} {is : List RI} {pc d b : Nat} {q : Int} {cs : List (Int × Nat)} {ls : ClC} {st : List AvC} {σ : CsC}
theorem k_shr1 {x y : Int32} {n : Nat} (hx : x.toInt = (n : Int)) (hn : n ≤ 20000) (hy : y.toInt = 1) (h : ∀ z : Int32, z.toInt = ((n / 2 : Nat) : Int) → cwpC ct K Z is (pc + 1) ls (.inl z :: st) σ) : cwpC ct K Z ((.ishr, d, q, b, cs) :: is) pc ls (.inl y :: .inl x :: st) σ := by
  have ex : x = nI n := Int32.toInt_inj.mp (hx.trans (Int32.toInt_ofNat_of_lt (by omega)).symm)
  have ey : y = 1 := Int32.toInt_inj.mp hy
  refine h (x >>> (y &&& 31)) ?_
  rw [ex, ey, show ((1 : Int32) &&& 31) = 1 from rfl, pk_shrN (by omega) 1 1 (by decide)]
  exact Int32.toInt_ofNat_of_lt (by omega)
end KJ3
/-- a list with a longer row -/
def grwC (σ : CsC) (a m : Nat) (f : Nat → Option Nat) : CsC := pRC (qRC (nAC σ 103 m 0) (cnC σ) f) a 1 (some (cnC σ))
theorem qR_no {σ : CsC} {m : Nat} : qRC (nAC σ 103 m 0) (cnC σ) (fun _ => none) = nAC σ 103 m 0 := by
  have e : u1C (u1C σ.2.2.2.2.2 (cnC σ) (fun _ => none)) (cnC σ) (fun _ => none) = u1C σ.2.2.2.2.2 (cnC σ) (fun _ => none) := by
    funext b
    by_cases q : b = cnC σ
    · subst q; rw [u1C_eq, u1C_eq]
    · rw [u1C_ne q]
  unfold qRC nAC
  dsimp only
  exact congrArg (fun z => ((((cnC σ + 1, slC σ + m), σ.1.2), u1C σ.2.1 (cnC σ) (103, m, 0), σ.2.2.1, (u1C σ.2.2.2.1 (cnC σ) (fun _ => (0 : Int32)), u1C σ.2.2.2.2.1 (cnC σ) (fun _ => (0 : Int64)), z)) : CsC)) e
/-- what a list holds ahead of its growth -/
def GfC (σ : CsC) (a n : Nat) : Prop := ObC σ a 0 ∧ ((fRC σ a 1 = some 1000000 ∧ n = 0) ∨ ∃ r, fRC σ a 1 = some r ∧ RwC σ r 103 ∧ alC σ r = n ∧ 10 ≤ n ∧ n ≤ 4300 ∧ ∀ i, i < n → hoC σ 103 (eRC σ r i)) ∧ cnC σ + 1 ≤ cpC σ ∧ slC σ + 10000 ≤ spC σ
def GtC (σ : CsC) (a m : Nat) (f : Nat → Option Nat) : Prop := (fRC σ a 1 = some 1000000 ∧ m = 10) ∨ ∃ r, fRC σ a 1 = some r ∧ RwC σ r 103 ∧ m = alC σ r + alC σ r / 2 ∧ f = va_cpy (eRC σ r) (fun _ => none) 0 0 (alC σ r)
abbrev P_gr1 : CpC := fun As σ => ∃ (a : Nat) (x : Int32) (n : Nat), As = [.inr (.inr (some a)), .inl x] ∧ GfC σ a n ∧ x.toInt = (n : Int) + 1
abbrev Q_gr1 : CqC := fun As σ w τ => match As with
  | [.inr (.inr (some a)), .inl _] => ∃ m f, w = some (.inr (.inr (some (cnC σ)))) ∧ τ = grwC σ a m f ∧ GtC σ a m f
  | _ => False
theorem m_gr1 (l : Launch) : CMetC l 4 243 P_gr1 Q_gr1 := by
  refine CMetC.of KJx4a65c_grow_92f84 [(249, P_nl, Q_nl), (245, P_cp2, Q_cp2)] hJx4a65c_grow_92f84 (by decide) (by decide) okJx4a65c_grow_92f84 (cc1C (m_nl l) (by decide) (cc1C (m_cp2 l) (by decide) cc0C)) ?_ ?_
  · rintro As σ ⟨a, x, n, rfl, -⟩
    exact Nat.le_of_ble_eq_true rfl
  · rintro As σ0 ⟨a, x, n, rfl, ⟨ho, hd, h1, h2⟩, hx⟩ hgr G hB hW
    change G 0 [(0, .inr (.inr (some a))), (1, .inl x)] [] σ0
    rcases hd with ⟨hE, rfl⟩ | ⟨r, hR, hr, hn, hn1, hn2, he⟩
    · have g1 : gtC σ0 a 1 = .inr (.inr (some 1000000)) := congrArg (fun z : Option Nat => (Sum.inr (Sum.inr z) : AvC)) hE
      refine hB _ _ _ _ (kgoC (is := KJx4a65c_grow_92f84_0) rfl (k_aload_n rfl (k_getO (k := 1) ho g1 (k_alenK (n := 0) (by omega) (fun y hy => k_istore_n (ls' := [(2, .inl y), (0, .inr (.inr (some a))), (1, .inl x)]) rfl (k_iload_n rfl (k_if_gt (fun h => by exfalso; omega) (fun h => k_nil ?_))))))))
      refine hB _ _ _ _ (kgoC (is := KJx4a65c_grow_92f84_10) rfl (k_aload_n rfl (k_getO (k := 1) ho g1 (k_gets (k_acmpY ?_)))))
      refine hB _ _ _ _ (kgoC (is := KJx4a65c_grow_92f84_45) rfl (k_aload_n rfl (k_bipush (m := 10) rfl (fun t ht => k_iload_n rfl (k_mmax (Nat.le_of_ble_eq_true rfl) (fun z hz => k_anew (n := 10) (by omega) (by decide) h1 (by omega) (k_dup_x1R (k_putRg (k := 1) ?_ (by decide) (k_areturn ⟨10, fun _ => none, rfl, ?_, Or.inl ⟨hE, rfl⟩⟩)))))))))
      · have hn : a ≠ cnC σ0 := by have := ho.1; omega
        have e : (nAC σ0 103 10 0).2.1 a = σ0.2.1 a := u1C_ne hn
        exact ⟨Nat.lt_succ_of_lt ho.1, by unfold tgC; rw [e]; exact ho.2.1, by unfold tgC; rw [e]; exact ho.2.2⟩
      · unfold grwC
        rw [qR_no]
    · have g1 : gtC σ0 a 1 = .inr (.inr (some r)) := congrArg (fun z : Option Nat => (Sum.inr (Sum.inr z) : AvC)) hR
      refine hB _ _ _ _ (kgoC (is := KJx4a65c_grow_92f84_0) rfl (k_aload_n rfl (k_getO (k := 1) ho g1 (k_alenR hr hn (by omega) (fun y hy => k_istore_n (ls' := [(2, .inl y), (0, .inr (.inr (some a))), (1, .inl x)]) rfl (k_iload_n rfl (k_if_gt (fun h => ?_) (fun h => by exfalso; omega))))))))
      refine hB _ _ _ _ (kgoC (is := KJx4a65c_grow_92f84_20) rfl (k_iload_n rfl (k_iload_n rfl (k_iload_n rfl (k_isub (by omega) (by omega) (fun u hu => k_iload_n rfl (k_iconst (m := 1) rfl (fun o ho1 => k_shr1 hy (by omega) ho1 (fun z hz => k_stat (P := P_nl) (Q := Q_nl) rfl rfl (Nat.le_of_ble_eq_true rfl) rfl rfl (Nat.le_of_ble_eq_true rfl) ⟨y, u, z, rfl, by omega, by omega, by omega, by omega, by omega, by omega⟩ (fun w σ1 hq => ?_))))))))))
      obtain ⟨v, rfl, rfl, hv⟩ := hq
      have hv2 : v.toInt = ((n + n / 2 : Nat) : Int) := by omega
      refine k_st (st' := [.inl v]) rfl (k_istore_n (ls' := [(3, .inl v), (2, .inl y), (0, .inr (.inr (some a))), (1, .inl x)]) rfl (k_aload_n rfl (k_aload_n rfl (k_getO (k := 1) ho g1 (k_iload_n rfl (k_stat (P := P_cp2) (Q := Q_cp2) rfl rfl (Nat.le_of_ble_eq_true rfl) rfl rfl (Nat.le_of_ble_eq_true rfl) ⟨r, v, n, n + n / 2, rfl, hr, hn, by omega, by omega, hv2, he, h1, by omega⟩ (fun w σ1 hq => ?_)))))))
      obtain ⟨rfl, rfl⟩ := hq
      have hc : v.toNatClampNeg = n + n / 2 := by show v.toInt.toNat = _; omega
      refine k_st (st' := [.inr (.inr (some (cnC σ0))), .inr (.inr (some a))]) rfl (k_dup_x1R (k_putRg (k := 1) ?_ (by decide) (k_areturn ⟨n + n / 2, va_cpy (eRC σ0 r) (fun _ => none) 0 0 n, rfl, ?_, Or.inr ⟨r, hR, hr, by rw [hn], by rw [hn]⟩⟩)))
      · have hn : a ≠ cnC σ0 := by have := ho.1; omega
        have e : (nAC σ0 103 v.toNatClampNeg 0).2.1 a = σ0.2.1 a := u1C_ne hn
        refine ⟨Nat.lt_succ_of_lt ho.1, ?_, ?_⟩
        · show tgC (nAC σ0 103 v.toNatClampNeg 0) a < 100
          unfold tgC; rw [e]; exact ho.2.1
        · show clsC (tgC (nAC σ0 103 v.toNatClampNeg 0) a) = _
          unfold tgC; rw [e]; exact ho.2.2
      · unfold grwC cpyC
        rw [hc, hn]
abbrev P_gr0 : CpC := fun As σ => ∃ (a n : Nat), As = [.inr (.inr (some a))] ∧ GfC σ a n ∧ (fIC σ a 2).toInt = (n : Int)
abbrev Q_gr0 : CqC := fun As σ w τ => match As with
  | [.inr (.inr (some a))] => ∃ m f, w = some (.inr (.inr (some (cnC σ)))) ∧ τ = grwC σ a m f ∧ GtC σ a m f
  | _ => False
theorem m_gr0 (l : Launch) : CMetC l 5 244 P_gr0 Q_gr0 := by
  refine CMetC.of KJx4a65c_grow_d5877 [(243, P_gr1, Q_gr1)] hJx4a65c_grow_d5877 (by decide) (by decide) okJx4a65c_grow_d5877 (cc1C (m_gr1 l) (by decide) cc0C) ?_ ?_
  · rintro As σ ⟨a, n, rfl, -⟩
    exact Nat.le_of_ble_eq_true rfl
  · rintro As σ0 ⟨a, n, rfl, hG, hs⟩ hgr G hB hW
    change G 0 [(0, .inr (.inr (some a)))] [] σ0
    have hn : n ≤ 4300 := by
      rcases hG.2.1 with ⟨-, q⟩ | ⟨r, -, -, -, -, q, -⟩ <;> omega
    refine hB _ _ _ _ (kgoC (is := KJx4a65c_grow_d5877_0) rfl (k_aload_n rfl (k_aload_n rfl (k_getO (k := 2) (v := .inl (fIC σ0 a 2)) hG.1 rfl (k_iconst (m := 1) rfl (fun o ho => k_iadd (by omega) (by omega) (fun x hx => k_inv (P := P_gr1) (Q := Q_gr1) rfl rfl rfl rfl (Nat.le_of_ble_eq_true rfl) (Or.inl ⟨hG.1, by decide⟩) ⟨a, x, n, rfl, hG, by omega⟩ (fun w σ1 hq => ?_))))))))
    obtain ⟨m, f, rfl, e1, e2⟩ := hq
    exact k_areturn ⟨m, f, rfl, e1, e2⟩
