theorem t_add1 {x : Int32} (h : x.toInt < 2147483647) : (x + 1).toInt = x.toInt + 1 := by
  rw [Int32.toInt_add]
  have h1 := Int32.le_toInt x
  show Int.bmod (x.toInt + 1) 4294967296 = _
  rw [Int.bmod_eq_of_le] <;> omega
theorem t_sub {x y : Int32} (hx : 0 ≤ x.toInt) (hy : 0 ≤ y.toInt) : (x - y).toInt = x.toInt - y.toInt := by
  rw [Int32.toInt_sub]
  have h1 := Int32.toInt_lt x
  have h2 := Int32.toInt_lt y
  show Int.bmod (x.toInt - y.toInt) 4294967296 = _
  rw [Int.bmod_eq_of_le] <;> omega
theorem t_sub1 {x : Int32} (hx : 0 ≤ x.toInt) : (x - 1).toInt = x.toInt - 1 := t_sub hx (by decide)
theorem t_le {x y : Int32} (h : x.toInt ≤ y.toInt) : x ≤ y := Int32.le_iff_toInt_le.mpr h
theorem t_lt {x y : Int32} (h : x.toInt < y.toInt) : x < y := Int32.lt_iff_toInt_lt.mpr h
theorem t_0 {x : Int32} (h : 0 ≤ x) : 0 ≤ x.toInt := Int32.le_iff_toInt_le.mp h
theorem t_nT {x : Int32} (h : 0 ≤ x) : x.toInt = (nT x : Int) := by
  obtain ⟨n, h1, h2, h3⟩ := nT_of h
  rw [h3, h2, nI_toInt h1]
def XI (σ0 σ : RS) (tp : List Nat) (k j : Int) : Prop := ∃ (L : List Nat) (d : Nat), Fx σ0 σ ∧ CI σ0 σ (tp ++ L) ∧ OI σ L d ∧ VI σ (wl (tp ++ L)) ∧
  (0 ≤ (gI σ0 14).toInt ∧ (gI σ0 14).toInt ≤ (gI σ 14).toInt ∧ (gI σ 14).toInt ≤ 500) ∧ ((gI σ 29).toInt + j ≤ (gI σ 14).toInt ∧ (gI σ 31).toInt + j ≤ (gI σ 14).toInt ∧ 0 ≤ j) ∧
  ((gI σ 18).toInt - (gI σ0 18).toInt + 2 * (gI σ 29).toInt + k ≤ 6 * ((gI σ 14).toInt - (gI σ0 14).toInt) ∧ (gI σ0 18).toInt ≤ 6 * (gI σ0 14).toInt + 30 ∧ 0 ≤ k) ∧
  (0 ≤ (gI σ0 17).toInt ∧ (gI σ 17).toInt = (gI σ0 17).toInt + d ∧ (gI σ 17).toInt ≤ 20) ∧ (0 ≤ (gI σ 32).toInt ∧ (gI σ 32).toInt ≤ 500) ∧ (tp = [0] → (gI σ0 18).toInt ≤ (gI σ 33).toInt ∧ (gI σ 33).toInt < (gI σ 18).toInt)
/-- what the other parts need of it -/
theorem XI.numz {σ0 σ : RS} {tp : List Nat} {k j : Int} (h : XI σ0 σ tp k j) : 0 ≤ (gI σ 14).toInt ∧ (gI σ 14).toInt ≤ 500 ∧ 0 ≤ (gI σ 18).toInt ∧ (gI σ 18).toInt ≤ 3100 ∧ 0 ≤ (gI σ 29).toInt ∧ (gI σ 29).toInt ≤ 500 ∧ 0 ≤ (gI σ 31).toInt ∧ (gI σ 31).toInt ≤ 500 ∧ 0 ≤ (gI σ 17).toInt ∧ (gI σ 17).toInt ≤ 20 ∧ 0 ≤ (gI σ 32).toInt ∧ (gI σ 32).toInt ≤ 500 := by
  obtain ⟨L, d, hF, hC, hO, hV, hp, hj, hk, hd, hl, hr⟩ := h
  have h2 := t_0 hC.1
  have h3 := Int32.le_iff_toInt_le.mp hC.2.1
  have h5 := t_0 hO.1
  have h6 := t_0 hV.1
  omega
theorem XI.nums {σ0 σ : RS} {tp : List Nat} {k j : Int} (h : XI σ0 σ tp k j) : 0 ≤ gI σ 14 ∧ gI σ 14 ≤ 500 ∧ 0 ≤ gI σ 18 ∧ gI σ 18 ≤ 3100 ∧ 0 ≤ gI σ 29 ∧ gI σ 29 ≤ 500 ∧ 0 ≤ gI σ 31 ∧ gI σ 31 ≤ 500 ∧ 0 ≤ gI σ 17 ∧ gI σ 17 ≤ 20 ∧ 0 ≤ gI σ 32 ∧ gI σ 32 ≤ 500 := by
  obtain ⟨a1, a2, a3, a4, a5, a6, a7, a8, a9, b1, b2, b3⟩ := h.numz
  exact ⟨t_le a1, t_le a2, t_le a3, t_le a4, t_le a5, t_le a6, t_le a7, t_le a8, t_le a9, t_le b1, t_le b2, t_le b3⟩
theorem XI.weak {σ0 σ : RS} {tp : List Nat} {k j : Int} (h : XI σ0 σ tp k j) (k' j' : Int) (hk' : 0 ≤ k' ∧ k' ≤ k) (hj' : 0 ≤ j' ∧ j' ≤ j) : XI σ0 σ tp k' j' := by
  obtain ⟨L, d, hF, hC, hO, hV, hp, hj, hk, hd, hl, hr⟩ := h
  exact ⟨L, d, hF, hC, hO, hV, hp, by omega, by omega, hd, hl, hr⟩
theorem XI.take {σ0 σ σ' : RS} {tp : List Nat} {k j : Int} (h : XI σ0 σ tp k j) (hp5 : gI σ 14 < 500) (hs : σ' = sI σ 14 (gI σ 14 + 1)) : XI σ0 σ' tp (k + 6) (j + 1) := by
  subst hs
  have hn := h.numz
  obtain ⟨L, d, hF, hC, hO, hV, hp, hj, hk, hd, hl, hr⟩ := h
  have hp6 : (gI σ 14).toInt < 500 := Int32.lt_iff_toInt_lt.mp hp5
  have e14 : (gI (sI σ 14 (gI σ 14 + 1)) 14).toInt = (gI σ 14).toInt + 1 := t_add1 (by omega)
  have e29 : gI (sI σ 14 (gI σ 14 + 1)) 29 = gI σ 29 := rfl
  have e31 : gI (sI σ 14 (gI σ 14 + 1)) 31 = gI σ 31 := rfl
  have e18 : gI (sI σ 14 (gI σ 14 + 1)) 18 = gI σ 18 := rfl
  refine ⟨L, d, hF.i rfl, hC.same rfl rfl rfl rfl rfl rfl rfl, hO.same rfl rfl rfl rfl rfl, hV.same rfl rfl, ?_, ?_, ?_, hd, hl, hr⟩
  · rw [e14]; omega
  · rw [e14, e29, e31]; omega
  · rw [e14, e29, e18]; omega
theorem XI.leaf {σ0 σ σ' : RS} {k j : Int} (h : XI σ0 σ [] (k + 1) (j + 1)) (o a b t f l : Int32) (ho : o = 1 ∨ o = 2 ∨ o = 3 ∨ o = 4) (hx : cx o t f l) (hkj : 0 ≤ k ∧ 0 ≤ j) (hF : Fx σ σ' := by repeat (first | exact Fx.rf | refine Fx.a ?_ rfl | refine Fx.i ?_ rfl)) (e18 : gI σ' 18 = gI σ 18 + 1 := by rfl) (e19 : aI σ' 19 = upd (aI σ 19) (nT (gI σ 18)) o := by first | rfl | exact upd_upd) (e20 : aI σ' 20 = upd (aI σ 20) (nT (gI σ 18)) a := by first | rfl | exact upd_upd) (e21 : aI σ' 21 = upd (aI σ 21) (nT (gI σ 18)) b := by first | rfl | exact upd_upd) (e22 : aI σ' 22 = upd (aI σ 22) (nT (gI σ 18)) t := by first | rfl | exact upd_upd) (e23 : aI σ' 23 = upd (aI σ 23) (nT (gI σ 18)) f := by first | rfl | exact upd_upd) (e24 : aI σ' 24 = upd (aI σ 24) (nT (gI σ 18)) l := by first | rfl | exact upd_upd) (e29 : gI σ' 29 = gI σ 29 := by rfl) (e25 : aI σ' 25 = aI σ 25 := by rfl) (e26 : aI σ' 26 = aI σ 26 := by rfl) (e27 : aI σ' 27 = aI σ 27 := by rfl) (e28 : aI σ' 28 = aI σ 28 := by rfl) (e31 : gI σ' 31 = gI σ 31 + 1 := by rfl) (e30 : aI σ' 30 = upd (aI σ 30) (nT (gI σ 31)) f := by rfl) (e14 : gI σ' 14 = gI σ 14 := by rfl) (e17 : gI σ' 17 = gI σ 17 := by rfl) (e32 : gI σ' 32 = l := by rfl) (e33 : gI σ' 33 = gI σ 18 := by rfl) : XI σ0 σ' [0] k j := by
  have hn := h.nums
  have hz := h.numz
  obtain ⟨L, d, hF0, hC, hO, hV, hp, hj, hk, hd, hl, hr⟩ := h
  have hc1 := t_0 hC.1
  have hc2 := Int32.le_iff_toInt_le.mp hC.2.1
  have he : eSt (nT o) a b ([] ++ L) = some ([0] ++ L) := by
    rcases ho with rfl | rfl | rfl | rfl <;> rfl
  refine ⟨L, d, hF0.tr hF, hC.app o a b t f l e18 e19 e20 e21 e22 e23 e24 (by lia) hx he, hO.same e29 e25 e26 e27 e28, ?_, ?_, ?_, ?_, ?_, ?_, fun _ => ?_⟩
  · have h9 := hV.push f e31 e30 (by lia) ⟨hx.2.2.2.2.1, hx.2.2.2.2.2.1⟩
    have e9 : wl ([] ++ L) + 1 = wl ([0] ++ L) := by simp [wl, wk, Nat.add_comm]
    rw [← e9]
    exact h9
  · rw [e14]; exact hp
  · rw [e14, e29, e31]; have u31 : (gI σ 31 + 1).toInt = _ := t_add1 (by omega); omega
  · rw [e14, e29, e18]; have u18 : (gI σ 18 + 1).toInt = _ := t_add1 (by omega); omega
  · rw [e17]; exact hd
  · rw [e32]; obtain ⟨x1, x2, x3, x4, x5, x6, x7, x8⟩ := hx; have y1 := t_0 x7; have y2 := Int32.le_iff_toInt_le.mp x8; exact ⟨y1, y2⟩
  · rw [e33, e18]; have u18 : (gI σ 18 + 1).toInt = _ := t_add1 (by omega); omega
theorem XI.un {σ0 σ σ' : RS} {k j : Int} (h : XI σ0 σ [0] k j) (o a b t l : Int32) (ho : o = 5 ∨ o = 6) (hp0 : 0 < gI σ 29) (hs : aI σ 25 (nT (gI σ 29 - 1)) = 0 ∨ aI σ 25 (nT (gI σ 29 - 1)) = 1) (hx : cx o t t l) (hkj : 0 ≤ k ∧ 0 ≤ j) (hF : Fx σ σ' := by repeat (first | exact Fx.rf | refine Fx.a ?_ rfl | refine Fx.i ?_ rfl)) (e18 : gI σ' 18 = gI σ 18 + 1 := by rfl) (e19 : aI σ' 19 = upd (aI σ 19) (nT (gI σ 18)) o := by first | rfl | exact upd_upd) (e20 : aI σ' 20 = upd (aI σ 20) (nT (gI σ 18)) a := by first | rfl | exact upd_upd) (e21 : aI σ' 21 = upd (aI σ 21) (nT (gI σ 18)) b := by first | rfl | exact upd_upd) (e22 : aI σ' 22 = upd (aI σ 22) (nT (gI σ 18)) t := by first | rfl | exact upd_upd) (e23 : aI σ' 23 = upd (aI σ 23) (nT (gI σ 18)) t := by first | rfl | exact upd_upd) (e24 : aI σ' 24 = upd (aI σ 24) (nT (gI σ 18)) l := by first | rfl | exact upd_upd) (e29 : gI σ' 29 = gI σ 29 - 1 := by rfl) (e25 : aI σ' 25 = aI σ 25 := by rfl) (e26 : aI σ' 26 = aI σ 26 := by rfl) (e27 : aI σ' 27 = aI σ 27 := by rfl) (e28 : aI σ' 28 = aI σ 28 := by rfl) (e31 : gI σ' 31 = gI σ 31 := by rfl) (e30 : aI σ' 30 = upd (aI σ 30) (nT (gI σ 31 - 1)) t := by rfl) (e14 : gI σ' 14 = gI σ 14 := by rfl) (e17 : gI σ' 17 = gI σ 17 - 1 := by rfl) (e32 : gI σ' 32 = gI σ 32 := by rfl) (e33 : gI σ' 33 = gI σ 18 := by rfl) : XI σ0 σ' [0] k j := by
  have hn := h.nums
  have hz := h.numz
  obtain ⟨L, d, hF0, hC, hO, hV, hp, hj, hk, hd, hl, hr⟩ := h
  have hc1 := t_0 hC.1
  have hc2 := Int32.le_iff_toInt_le.mp hC.2.1
  obtain ⟨L', d', hL, hd', hO', hox⟩ := hO.pop hp0 e29 e25 e26 e27 e28
  have hL0 : L = L' := by
    rw [hL]
    rcases hs with q | q <;> rw [q] <;> rfl
  have hd0 : d = d' + 1 := by
    rw [hd']
    rcases hs with q | q <;> rw [q] <;> exact Nat.add_comm 1 d'
  subst hL0
  have he : eSt (nT o) a b ([0] ++ L) = some ([0] ++ L) := by
    rcases ho with rfl | rfl <;> rfl
  have hp1 := Int32.lt_iff_toInt_lt.mp hp0
  have hp2 : 0 < (gI σ 29).toInt := hp1
  refine ⟨L, d', hF0.tr hF, hC.app o a b t t l e18 e19 e20 e21 e22 e23 e24 (by lia) hx he, hO', hV.set t _ e31 e30 ⟨hx.2.2.1, hx.2.2.2.1⟩, ?_, ?_, ?_, ?_, ?_, fun _ => ?_⟩
  · rw [e14]; exact hp
  · rw [e14, e29, e31]; have u29 : (gI σ 29 - 1).toInt = _ := t_sub1 (by omega); omega
  · rw [e14, e29, e18]; have u29 : (gI σ 29 - 1).toInt = _ := t_sub1 (by omega); have u18 : (gI σ 18 + 1).toInt = _ := t_add1 (by omega); omega
  · rw [e17]; have u17 : (gI σ 17 - 1).toInt = _ := t_sub1 (by omega); omega
  · rw [e32]; exact hl
  · rw [e33, e18]; have u18 : (gI σ 18 + 1).toInt = _ := t_add1 (by omega); omega
