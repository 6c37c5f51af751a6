theorem t_add1 {x : Int32} (h : x.toInt < 2147483647) : (x + 1).toInt = x.toInt + 1 := by
  rw [Int32.toInt_add]
  have h1 := Int32.le_toInt x
  show Int.bmod (x.toInt + 1) 4294967296 = _
  rw [Int.bmod_eq_of_le] <;> omega
theorem t_sub {x y : Int32} (hx : 0 ≤ x.toInt) (hy : 0 ≤ y.toInt) : (x - y).toInt = x.toInt - y.toInt := by
  rw [Int32.toInt_sub]
  have h1 := Int32.toInt_lt x
  have h2 := Int32.toInt_lt y
  show Int.bmod (x.toInt - y.toInt) 4294967296 = _
  rw [Int.bmod_eq_of_le] <;> omega
theorem t_sub1 {x : Int32} (hx : 0 ≤ x.toInt) : (x - 1).toInt = x.toInt - 1 := t_sub hx (by decide)
theorem t_le {x y : Int32} (h : x.toInt ≤ y.toInt) : x ≤ y := Int32.le_iff_toInt_le.mpr h
theorem t_lt {x y : Int32} (h : x.toInt < y.toInt) : x < y := Int32.lt_iff_toInt_lt.mpr h
theorem t_0 {x : Int32} (h : 0 ≤ x) : 0 ≤ x.toInt := Int32.le_iff_toInt_le.mp h
theorem t_nT {x : Int32} (h : 0 ≤ x) : x.toInt = (nT x : Int) := by
  obtain ⟨n, h1, h2, h3⟩ := nT_of h
  rw [h3, h2, nI_toInt h1]
def XI (σ0 σ : RS) (tp : List Nat) (k j : Int) : Prop := ∃ (L : List Nat) (d : Nat), Fx σ0 σ ∧ CI σ0 σ (tp ++ L) ∧ OI (aI σ0 6) σ L d ∧ VI σ (wl (tp ++ L)) ∧
  (0 ≤ (gI σ0 14).toInt ∧ (gI σ0 14).toInt ≤ (gI σ 14).toInt ∧ (gI σ 14).toInt ≤ 500) ∧ ((gI σ 29).toInt + j ≤ (gI σ 14).toInt ∧ (gI σ 31).toInt + j ≤ (gI σ 14).toInt ∧ -1 ≤ j ∧ 2 * (L.length : Int) + (tp.length : Int) + j ≤ (gI σ 14).toInt - (gI σ0 14).toInt) ∧
  ((gI σ 18).toInt - (gI σ0 18).toInt + 2 * (gI σ 29).toInt + k ≤ 4 * ((gI σ 14).toInt - (gI σ0 14).toInt) ∧ (gI σ0 18).toInt ≤ 6 * (gI σ0 14).toInt + 30 ∧ 0 ≤ k) ∧
  (0 ≤ (gI σ0 17).toInt ∧ (gI σ 17).toInt = (gI σ0 17).toInt + d ∧ (gI σ 17).toInt ≤ 20) ∧ AA σ0 σ ∧ (tp = [0] → (gI σ0 18).toInt ≤ (gI σ 33).toInt ∧ (gI σ 33).toInt < (gI σ 18).toInt)
/-- what the other parts need of it -/
theorem XI.numz {σ0 σ : RS} {tp : List Nat} {k j : Int} (h : XI σ0 σ tp k j) : 0 ≤ (gI σ 14).toInt ∧ (gI σ 14).toInt ≤ 500 ∧ 0 ≤ (gI σ 18).toInt ∧ (gI σ 18).toInt ≤ 3100 ∧ 0 ≤ (gI σ 29).toInt ∧ (gI σ 29).toInt ≤ 501 ∧ 0 ≤ (gI σ 31).toInt ∧ (gI σ 31).toInt ≤ 501 ∧ 0 ≤ (gI σ 17).toInt ∧ (gI σ 17).toInt ≤ 20 := by
  obtain ⟨L, d, hF, hC, hO, hV, hp, hj, hk, hd, hl, hr⟩ := h
  have h2 := t_0 hC.1
  have h3 := Int32.le_iff_toInt_le.mp hC.2.1
  have h5 := t_0 hO.1
  have h6 := t_0 hV.1
  omega
theorem XI.nums {σ0 σ : RS} {tp : List Nat} {k j : Int} (h : XI σ0 σ tp k j) : 0 ≤ gI σ 14 ∧ gI σ 14 ≤ 500 ∧ 0 ≤ gI σ 18 ∧ gI σ 18 ≤ 3100 ∧ 0 ≤ gI σ 29 ∧ gI σ 29 ≤ 501 ∧ 0 ≤ gI σ 31 ∧ gI σ 31 ≤ 501 ∧ 0 ≤ gI σ 17 ∧ gI σ 17 ≤ 20 := by
  obtain ⟨a1, a2, a3, a4, a5, a6, a7, a8, a9, b1⟩ := h.numz
  exact ⟨t_le a1, t_le a2, t_le a3, t_le a4, t_le a5, t_le a6, t_le a7, t_le a8, t_le a9, t_le b1⟩
theorem XI.weak {σ0 σ : RS} {tp : List Nat} {k j : Int} (h : XI σ0 σ tp k j) (k' j' : Int) (hk' : 0 ≤ k' ∧ k' ≤ k) (hj' : -1 ≤ j' ∧ j' ≤ j) : XI σ0 σ tp k' j' := by
  obtain ⟨L, d, hF, hC, hO, hV, hp, hj, hk, hd, hl, hr⟩ := h
  exact ⟨L, d, hF, hC, hO, hV, hp, by omega, by omega, hd, hl, hr⟩
theorem XI.take {σ0 σ σ' : RS} {tp : List Nat} {k j : Int} (h : XI σ0 σ tp k j) (hp5 : gI σ 14 < 500) (hs : σ' = sI σ 14 (gI σ 14 + 1)) : XI σ0 σ' tp (k + 4) (j + 1) := by
  subst hs
  have hn := h.numz
  obtain ⟨L, d, hF, hC, hO, hV, hp, hj, hk, hd, hl, hr⟩ := h
  have hp6 : (gI σ 14).toInt < 500 := Int32.lt_iff_toInt_lt.mp hp5
  have e14 : (gI (sI σ 14 (gI σ 14 + 1)) 14).toInt = (gI σ 14).toInt + 1 := t_add1 (by omega)
  have e29 : gI (sI σ 14 (gI σ 14 + 1)) 29 = gI σ 29 := rfl
  have e31 : gI (sI σ 14 (gI σ 14 + 1)) 31 = gI σ 31 := rfl
  have e18 : gI (sI σ 14 (gI σ 14 + 1)) 18 = gI σ 18 := rfl
  refine ⟨L, d, hF.i rfl, hC.same rfl rfl rfl rfl rfl rfl rfl, hO.same rfl rfl rfl rfl rfl, hV.same rfl rfl, ?_, ?_, ?_, hd, hl, hr⟩
  · rw [e14]; omega
  · rw [e14, e29, e31]; omega
  · rw [e14, e29, e18]; omega
theorem XI.leaf {σ0 σ σ' : RS} {k j : Int} (h : XI σ0 σ [] (k + 1) (j + 1)) (o a b t f l : Int32) (ho : o = 1 ∨ o = 2 ∨ o = 3 ∨ o = 4) (hx : cx o t f l) (hlit : o = 1 → 0 ≤ a ∧ a ≤ 4) (hkj : 0 ≤ k ∧ 0 ≤ j)  (hF : Fx σ σ' := by repeat (first | exact Fx.rf | refine Fx.a ?_ rfl | refine Fx.i ?_ rfl)) (e18 : gI σ' 18 = gI σ 18 + 1 := by rfl) (e19 : aI σ' 19 = upd (aI σ 19) (nT (gI σ 18)) o := by first | rfl | exact upd_upd) (e20 : aI σ' 20 = upd (aI σ 20) (nT (gI σ 18)) a := by first | rfl | exact upd_upd) (e21 : aI σ' 21 = upd (aI σ 21) (nT (gI σ 18)) b := by first | rfl | exact upd_upd) (e22 : aI σ' 22 = upd (aI σ 22) (nT (gI σ 18)) t := by first | rfl | exact upd_upd) (e23 : aI σ' 23 = upd (aI σ 23) (nT (gI σ 18)) f := by first | rfl | exact upd_upd) (e24 : aI σ' 24 = upd (aI σ 24) (nT (gI σ 18)) l := by first | rfl | exact upd_upd) (e29 : gI σ' 29 = gI σ 29 := by rfl) (e25 : aI σ' 25 = aI σ 25 := by rfl) (e26 : aI σ' 26 = aI σ 26 := by rfl) (e27 : aI σ' 27 = aI σ 27 := by rfl) (e28 : aI σ' 28 = aI σ 28 := by rfl) (e31 : gI σ' 31 = gI σ 31 + 1 := by rfl) (e30 : aI σ' 30 = upd (aI σ 30) (nT (gI σ 31)) f := by rfl) (e14 : gI σ' 14 = gI σ 14 := by rfl) (e17 : gI σ' 17 = gI σ 17 := by rfl) (e32 : gI σ' 32 = l := by rfl) (e33 : gI σ' 33 = gI σ 18 := by rfl) : XI σ0 σ' [0] k j := by
  have hn := h.nums
  have hz := h.numz
  obtain ⟨L, d, hF0, hC, hO, hV, hp, hj, hk, hd, hl, hr⟩ := h
  have hc1 := t_0 hC.1
  have hc2 := Int32.le_iff_toInt_le.mp hC.2.1
  have l0 : ([0] : List Nat).length = 1 := rfl
  have l1 : ([] : List Nat).length = 0 := rfl
  have e6 : aI σ 6 = aI σ0 6 := hF0.2.2.1 6 rfl
  have he : eSt (nT o) a b ([] ++ L) = some ([0] ++ L) := by
    rcases ho with rfl | rfl | rfl | rfl <;> rfl
  refine ⟨L, d, hF0.tr hF, hC.app o a b t f l e18 e19 e20 e21 e22 e23 e24 (by lia) hx ⟨fun q => by lia, fun q => by lia, fun q => hlit (by lia)⟩ (by simp; omega) he, hO.same e29 e25 e26 e27 e28, ?_, ?_, ?_, ?_, ?_, ?_, fun _ => ?_⟩
  · have h9 := hV.push f e31 e30 (by lia) ⟨hx.2.2.2.2.1, hx.2.2.2.2.2.1⟩
    have e9 : wl ([] ++ L) + 1 = wl ([0] ++ L) := by simp [wl, wk, Nat.add_comm]
    rw [← e9]
    exact h9
  · rw [e14]; exact hp
  · rw [e14, e29, e31]; have u31 : (gI σ 31 + 1).toInt = _ := t_add1 (by omega); omega
  · rw [e14, e29, e18]; have u18 : (gI σ 18 + 1).toInt = _ := t_add1 (by omega); omega
  · rw [e17]; exact hd
  · unfold AA at hl ⊢; refine ⟨?_, hl.2⟩; replace hl := hl.1; rw [e18, e19, e22, e29, e25, e27, nT_add (x := gI σ 18) (by lia) (by lia)]; exact hl.app _ _ (by lia)
  · rw [e33, e18]; have u18 : (gI σ 18 + 1).toInt = _ := t_add1 (by omega); omega
theorem XI.un {σ0 σ σ' : RS} {k j : Int} (h : XI σ0 σ [0] k j) (o a b t l : Int32) (ho : o = 5 ∨ o = 6) (hp0 : 0 < gI σ 29) (hs : aI σ 25 (nT (gI σ 29 - 1)) = 0 ∨ aI σ 25 (nT (gI σ 29 - 1)) = 1) (hx : cx o t t l) (hos : o = 6 → aI σ 25 (nT (gI σ 29 - 1)) = 1) (hag : a = aI σ 26 (nT (gI σ 29 - 1))) (hkj : 0 ≤ k ∧ 0 ≤ j)  (hF : Fx σ σ' := by repeat (first | exact Fx.rf | refine Fx.a ?_ rfl | refine Fx.i ?_ rfl)) (e18 : gI σ' 18 = gI σ 18 + 1 := by rfl) (e19 : aI σ' 19 = upd (aI σ 19) (nT (gI σ 18)) o := by first | rfl | exact upd_upd) (e20 : aI σ' 20 = upd (aI σ 20) (nT (gI σ 18)) a := by first | rfl | exact upd_upd) (e21 : aI σ' 21 = upd (aI σ 21) (nT (gI σ 18)) b := by first | rfl | exact upd_upd) (e22 : aI σ' 22 = upd (aI σ 22) (nT (gI σ 18)) t := by first | rfl | exact upd_upd) (e23 : aI σ' 23 = upd (aI σ 23) (nT (gI σ 18)) t := by first | rfl | exact upd_upd) (e24 : aI σ' 24 = upd (aI σ 24) (nT (gI σ 18)) l := by first | rfl | exact upd_upd) (e29 : gI σ' 29 = gI σ 29 - 1 := by rfl) (e25 : aI σ' 25 = aI σ 25 := by rfl) (e26 : aI σ' 26 = aI σ 26 := by rfl) (e27 : aI σ' 27 = aI σ 27 := by rfl) (e28 : aI σ' 28 = aI σ 28 := by rfl) (e31 : gI σ' 31 = gI σ 31 := by rfl) (e30 : aI σ' 30 = upd (aI σ 30) (nT (gI σ 31 - 1)) t := by rfl) (e14 : gI σ' 14 = gI σ 14 := by rfl) (e17 : gI σ' 17 = gI σ 17 - 1 := by rfl) (e32 : gI σ' 32 = gI σ 32 := by rfl) (e33 : gI σ' 33 = gI σ 18 := by rfl) : XI σ0 σ' [0] k j := by
  have hn := h.nums
  have hz := h.numz
  obtain ⟨L, d, hF0, hC, hO, hV, hp, hj, hk, hd, hl, hr⟩ := h
  have hc1 := t_0 hC.1
  have hc2 := Int32.le_iff_toInt_le.mp hC.2.1
  have l0 : ([0] : List Nat).length = 1 := rfl
  have l1 : ([] : List Nat).length = 0 := rfl
  have e6 : aI σ 6 = aI σ0 6 := hF0.2.2.1 6 rfl
  obtain ⟨L', d', hL, hd', hO', hox⟩ := hO.pop hp0 e29 e25 e26 e27 e28
  have hL0 : L = L' := by
    rw [hL]
    rcases hs with q | q <;> rw [q] <;> rfl
  have hd0 : d = d' + 1 := by
    rw [hd']
    rcases hs with q | q <;> rw [q] <;> exact Nat.add_comm 1 d'
  subst hL0
  have he : eSt (nT o) a b ([0] ++ L) = some ([0] ++ L) := by
    rcases ho with rfl | rfl <;> rfl
  have hp1 := Int32.lt_iff_toInt_lt.mp hp0
  have hp2 : 0 < (gI σ 29).toInt := hp1
  refine ⟨L, d', hF0.tr hF, hC.app o a b t t l e18 e19 e20 e21 e22 e23 e24 (by lia) hx ⟨fun q => by lia, fun q => by lia, fun q => by rw [hag]; exact hox.2.2.2 (hos (by lia))⟩ (by simp; omega) he, hO', hV.set t _ e31 e30 ⟨hx.2.2.1, hx.2.2.2.1⟩, ?_, ?_, ?_, ?_, ?_, fun _ => ?_⟩
  · rw [e14]; exact hp
  · rw [e14, e29, e31]; have u29 : (gI σ 29 - 1).toInt = _ := t_sub1 (by omega); omega
  · rw [e14, e29, e18]; have u29 : (gI σ 29 - 1).toInt = _ := t_sub1 (by omega); have u18 : (gI σ 18 + 1).toInt = _ := t_add1 (by omega); omega
  · rw [e17]; have u17 : (gI σ 17 - 1).toInt = _ := t_sub1 (by omega); omega
  · unfold AA at hl ⊢; refine ⟨?_, hl.2⟩; replace hl := hl.1; rw [e18, e19, e22, e29, e25, e27, nT_add (x := gI σ 18) (by lia) (by lia)]; rw [nT_sub hp0] at hl; exact (hl.pop (by rcases hs with q | q <;> rw [q] <;> decide)).app _ _ (by lia)
  · rw [e33, e18]; have u18 : (gI σ 18 + 1).toInt = _ := t_add1 (by omega); omega
theorem XI.bin {σ0 σ σ' : RS} {k j : Int} (h : XI σ0 σ [0] k j) (o a b t f l : Int32) (hp0 : 0 < gI σ 29) (hs : aI σ 25 (nT (gI σ 29 - 1)) = 2) (ho : (aI σ 26 (nT (gI σ 29 - 1)) = 307 ∧ o = 9) ∨ (aI σ 26 (nT (gI σ 29 - 1)) = 308 ∧ o = 11) ∨ (¬ aI σ 26 (nT (gI σ 29 - 1)) = 307 ∧ ¬ aI σ 26 (nT (gI σ 29 - 1)) = 308 ∧ o = 7)) (hx : cx o t f l) (hkj : 0 ≤ k ∧ 0 ≤ j)  (hF : Fx σ σ' := by repeat (first | exact Fx.rf | refine Fx.a ?_ rfl | refine Fx.i ?_ rfl)) (e18 : gI σ' 18 = gI σ 18 + 1 := by rfl) (e19 : aI σ' 19 = upd (aI σ 19) (nT (gI σ 18)) o := by first | rfl | exact upd_upd) (e20 : aI σ' 20 = upd (aI σ 20) (nT (gI σ 18)) a := by first | rfl | exact upd_upd) (e21 : aI σ' 21 = upd (aI σ 21) (nT (gI σ 18)) b := by first | rfl | exact upd_upd) (e22 : aI σ' 22 = upd (aI σ 22) (nT (gI σ 18)) t := by first | rfl | exact upd_upd) (e23 : aI σ' 23 = upd (aI σ 23) (nT (gI σ 18)) f := by first | rfl | exact upd_upd) (e24 : aI σ' 24 = upd (aI σ 24) (nT (gI σ 18)) l := by first | rfl | exact upd_upd) (e29 : gI σ' 29 = gI σ 29 - 1 := by rfl) (e25 : aI σ' 25 = aI σ 25 := by rfl) (e26 : aI σ' 26 = aI σ 26 := by rfl) (e27 : aI σ' 27 = aI σ 27 := by rfl) (e28 : aI σ' 28 = aI σ 28 := by rfl) (e31 : gI σ' 31 = gI σ 31 - 1 := by rfl) (e30 : aI σ' 30 = aI σ 30 := by rfl) (e14 : gI σ' 14 = gI σ 14 := by rfl) (e17 : gI σ' 17 = gI σ 17 := by rfl) (e32 : gI σ' 32 = gI σ 32 := by rfl) (e33 : gI σ' 33 = gI σ 18 := by rfl) : XI σ0 σ' [0] k j := by
  have hn := h.nums
  have hz := h.numz
  obtain ⟨L, d, hF0, hC, hO, hV, hp, hj, hk, hd, hl, hr⟩ := h
  have hc1 := t_0 hC.1
  have hc2 := Int32.le_iff_toInt_le.mp hC.2.1
  have l0 : ([0] : List Nat).length = 1 := rfl
  have l1 : ([] : List Nat).length = 0 := rfl
  have e6 : aI σ 6 = aI σ0 6 := hF0.2.2.1 6 rfl
  obtain ⟨L', d', hL, hd', hO', hox⟩ := hO.pop hp0 e29 e25 e26 e27 e28
  have hp2 : 0 < (gI σ 29).toInt := Int32.lt_iff_toInt_lt.mp hp0
  rw [hs] at hL hd'
  have hd0 : d = d' := by rw [hd']; exact Nat.zero_add d'
  have he : eSt (nT o) a b ([0] ++ L) = some ([0] ++ L') ∧ wl ([0] ++ L) = wl ([0] ++ L') + 1 ∧ L.length = L'.length + 1 := by
    rcases ho with ⟨q, rfl⟩ | ⟨q, rfl⟩ | ⟨q1, q2, rfl⟩
    · have e : L = 1 :: L' := by rw [hL, q]; rfl
      rw [e]
      exact ⟨rfl, by simp [wl, wk]; omega, by simp⟩
    · have e : L = 1 :: L' := by rw [hL, q]; rfl
      rw [e]
      exact ⟨rfl, by simp [wl, wk]; omega, by simp⟩
    · have e : L = 0 :: L' := by
        rw [hL]
        show (if _ ∨ _ then [1] else [0]) ++ L' = _
        rw [if_neg (fun q => q.elim q1 q2)]
        rfl
      rw [e]
      exact ⟨rfl, by simp [wl, wk]; omega, by simp⟩
  have hw1 := t_nT hV.1
  have hll := he.2.2
  rw [hV.2.1, he.2.1] at hw1
  refine ⟨L', d', hF0.tr hF, hC.app o a b t f l e18 e19 e20 e21 e22 e23 e24 (by lia) hx (cy_no (by lia)) (by simp; omega) he.1, hO', ?_, ?_, ?_, ?_, ?_, ?_, fun _ => ?_⟩
  · have h9 := hV.pop 1 (by decide) (t_le (by show 1 ≤ _; omega)) e31 e30
    rw [he.2.1] at h9
    exact h9
  · rw [e14]; exact hp
  · rw [e14, e29, e31]; have u29 : (gI σ 29 - 1).toInt = _ := t_sub1 (by omega); have u31 : (gI σ 31 - 1).toInt = _ := t_sub1 (by omega); omega
  · rw [e14, e29, e18]; have u29 : (gI σ 29 - 1).toInt = _ := t_sub1 (by omega); have u18 : (gI σ 18 + 1).toInt = _ := t_add1 (by omega); omega
  · rw [e17]; omega
  · unfold AA at hl ⊢; refine ⟨?_, hl.2⟩; replace hl := hl.1; rw [e18, e19, e22, e29, e25, e27, nT_add (x := gI σ 18) (by lia) (by lia)]; rw [nT_sub hp0] at hl; exact (hl.pop (by rw [hs]; decide)).app _ _ (by lia)
  · rw [e33, e18]; have u18 : (gI σ 18 + 1).toInt = _ := t_add1 (by omega); omega
theorem XI.pushb {σ0 σ σ' : RS} {k j : Int} (h : XI σ0 σ [0] (k + 2) (j + 1)) (s g t : Int32) (hs : s = 2) (hg : ¬ g = 307 ∧ ¬ g = 308) (ht : 0 ≤ t ∧ t ≤ 500) (hkj : 0 ≤ k ∧ 0 ≤ j)  (hF : Fx σ σ' := by repeat (first | exact Fx.rf | refine Fx.a ?_ rfl | refine Fx.i ?_ rfl)) (e18 : gI σ' 18 = gI σ 18 := by rfl) (e19 : aI σ' 19 = aI σ 19 := by rfl) (e20 : aI σ' 20 = aI σ 20 := by rfl) (e21 : aI σ' 21 = aI σ 21 := by rfl) (e22 : aI σ' 22 = aI σ 22 := by rfl) (e23 : aI σ' 23 = aI σ 23 := by rfl) (e24 : aI σ' 24 = aI σ 24 := by rfl) (e29 : gI σ' 29 = gI σ 29 + 1 := by rfl) (e25 : aI σ' 25 = upd (aI σ 25) (nT (gI σ 29)) s := by rfl) (e26 : aI σ' 26 = upd (aI σ 26) (nT (gI σ 29)) g := by rfl) (e27 : aI σ' 27 = upd (aI σ 27) (nT (gI σ 29)) t := by rfl) (e28 : aI σ' 28 = upd (aI σ 28) (nT (gI σ 29)) 0 := by rfl) (e31 : gI σ' 31 = gI σ 31 := by rfl) (e30 : aI σ' 30 = aI σ 30 := by rfl) (e14 : gI σ' 14 = gI σ 14 := by rfl) (e17 : gI σ' 17 = gI σ 17 := by rfl) (e32 : gI σ' 32 = gI σ 32 := by rfl)  : XI σ0 σ' [] k j := by
  have hn := h.nums
  have hz := h.numz
  obtain ⟨L, d, hF0, hC, hO, hV, hp, hj, hk, hd, hl, hr⟩ := h
  have hc1 := t_0 hC.1
  have hc2 := Int32.le_iff_toInt_le.mp hC.2.1
  have l0 : ([0] : List Nat).length = 1 := rfl
  have l1 : ([] : List Nat).length = 0 := rfl
  have e6 : aI σ 6 = aI σ0 6 := hF0.2.2.1 6 rfl
  subst hs
  have hO2 := hO.push 2 g t e29 e25 e26 e27 e28 (by lia) ⟨by decide, by decide, ht.1, ht.2, by decide, by decide⟩ (oy_no (by decide) (by decide) (by decide))
  have ll : ([0] ++ L).length = L.length + 1 := by simp
  have e1 : oks 2 g 0 ++ L = [0] ++ L := by
    show (if _ ∨ _ then [1] else [0]) ++ L = _
    rw [if_neg (fun q => q.elim hg.1 hg.2)]
  rw [e1, if_pos rfl] at hO2
  refine ⟨[0] ++ L, 0 + d, hF0.tr hF, hC.same e18 e19 e20 e21 e22 e23 e24, hO2, hV.same e31 e30, ?_, ?_, ?_, ?_, ?_, fun q => by cases q⟩
  · rw [e14]; exact hp
  · rw [e14, e29, e31]; have u29 : (gI σ 29 + 1).toInt = _ := t_add1 (by omega); omega
  · rw [e14, e29, e18]; have u29 : (gI σ 29 + 1).toInt = _ := t_add1 (by omega); omega
  · rw [e17]; omega
  · unfold AA at hl ⊢; refine ⟨?_, hl.2⟩; replace hl := hl.1; rw [e18, e19, e22, e29, e25, e27, nT_add (x := gI σ 29) (by lia) (by lia)]; exact hl.push _ _
theorem XI.pushf {σ0 σ σ' : RS} {k j : Int} (h : XI σ0 σ [0] (k + 3) (j + 1)) (o a t s g : Int32) (ho : o = 8 ∨ o = 10) (hs : s = 2) (hg : g = 307 ∨ g = 308) (hx : cx o t t t) (hkj : 0 ≤ k ∧ 0 ≤ j)  (hF : Fx σ σ' := by repeat (first | exact Fx.rf | refine Fx.a ?_ rfl | refine Fx.i ?_ rfl)) (e18 : gI σ' 18 = gI σ 18 + 1 := by rfl) (e19 : aI σ' 19 = upd (aI σ 19) (nT (gI σ 18)) o := by first | rfl | exact upd_upd) (e20 : aI σ' 20 = upd (aI σ 20) (nT (gI σ 18)) a := by first | rfl | exact upd_upd) (e21 : aI σ' 21 = upd (aI σ 21) (nT (gI σ 18)) 0 := by first | rfl | exact upd_upd) (e22 : aI σ' 22 = upd (aI σ 22) (nT (gI σ 18)) t := by first | rfl | exact upd_upd) (e23 : aI σ' 23 = upd (aI σ 23) (nT (gI σ 18)) t := by first | rfl | exact upd_upd) (e24 : aI σ' 24 = upd (aI σ 24) (nT (gI σ 18)) t := by first | rfl | exact upd_upd) (e29 : gI σ' 29 = gI σ 29 + 1 := by rfl) (e25 : aI σ' 25 = upd (aI σ 25) (nT (gI σ 29)) s := by rfl) (e26 : aI σ' 26 = upd (aI σ 26) (nT (gI σ 29)) g := by rfl) (e27 : aI σ' 27 = upd (aI σ 27) (nT (gI σ 29)) t := by rfl) (e28 : aI σ' 28 = upd (aI σ 28) (nT (gI σ 29)) 0 := by rfl) (e31 : gI σ' 31 = gI σ 31 := by rfl) (e30 : aI σ' 30 = aI σ 30 := by rfl) (e14 : gI σ' 14 = gI σ 14 := by rfl) (e17 : gI σ' 17 = gI σ 17 := by rfl) (e32 : gI σ' 32 = gI σ 32 := by rfl)  : XI σ0 σ' [] k j := by
  have hn := h.nums
  have hz := h.numz
  obtain ⟨L, d, hF0, hC, hO, hV, hp, hj, hk, hd, hl, hr⟩ := h
  have hc1 := t_0 hC.1
  have hc2 := Int32.le_iff_toInt_le.mp hC.2.1
  have l0 : ([0] : List Nat).length = 1 := rfl
  have l1 : ([] : List Nat).length = 0 := rfl
  have e6 : aI σ 6 = aI σ0 6 := hF0.2.2.1 6 rfl
  subst hs
  have hO2 := hO.push 2 g t e29 e25 e26 e27 e28 (by lia) ⟨by decide, by decide, hx.2.2.1, hx.2.2.2.1, by decide, by decide⟩ (oy_no (by decide) (by decide) (by decide))
  have ll : ([1] ++ L).length = L.length + 1 := by simp
  have e1 : oks 2 g 0 ++ L = [1] ++ L := by
    show (if _ ∨ _ then [1] else [0]) ++ L = _
    rw [if_pos hg]
  rw [e1, if_pos rfl] at hO2
  have he : eSt (nT o) a 0 ([0] ++ L) = some ([] ++ ([1] ++ L)) := by rcases ho with rfl | rfl <;> rfl
  refine ⟨[1] ++ L, 0 + d, hF0.tr hF, hC.app o a 0 t t t e18 e19 e20 e21 e22 e23 e24 (by lia) hx (cy_no (by lia)) (by simp; omega) he, hO2, hV.same e31 e30, ?_, ?_, ?_, ?_, ?_, fun q => by cases q⟩
  · rw [e14]; exact hp
  · rw [e14, e29, e31]; have u29 : (gI σ 29 + 1).toInt = _ := t_add1 (by omega); omega
  · rw [e14, e29, e18]; have u29 : (gI σ 29 + 1).toInt = _ := t_add1 (by omega); have u18 : (gI σ 18 + 1).toInt = _ := t_add1 (by omega); omega
  · rw [e17]; omega
  · unfold AA at hl ⊢; refine ⟨?_, hl.2⟩; replace hl := hl.1; rw [e18, e19, e22, e29, e25, e27, nT_add (x := gI σ 18) (by lia) (by lia), nT_add (x := gI σ 29) (by lia) (by lia)]; exact (hl.app _ _ (by lia)).push _ _
theorem XI.quest {σ0 σ σ' : RS} {k j : Int} (h : XI σ0 σ [0] (k + 3) (j + 1)) (a t s g : Int32) (hs : s = 6) (hdp : gI σ 17 < 20) (hx : cx 12 t t t) (hkj : 0 ≤ k ∧ 0 ≤ j)  (hF : Fx σ σ' := by repeat (first | exact Fx.rf | refine Fx.a ?_ rfl | refine Fx.i ?_ rfl)) (e18 : gI σ' 18 = gI σ 18 + 1 := by rfl) (e19 : aI σ' 19 = upd (aI σ 19) (nT (gI σ 18)) 12 := by first | rfl | exact upd_upd) (e20 : aI σ' 20 = upd (aI σ 20) (nT (gI σ 18)) a := by first | rfl | exact upd_upd) (e21 : aI σ' 21 = upd (aI σ 21) (nT (gI σ 18)) 0 := by first | rfl | exact upd_upd) (e22 : aI σ' 22 = upd (aI σ 22) (nT (gI σ 18)) t := by first | rfl | exact upd_upd) (e23 : aI σ' 23 = upd (aI σ 23) (nT (gI σ 18)) t := by first | rfl | exact upd_upd) (e24 : aI σ' 24 = upd (aI σ 24) (nT (gI σ 18)) t := by first | rfl | exact upd_upd) (e29 : gI σ' 29 = gI σ 29 + 1 := by rfl) (e25 : aI σ' 25 = upd (aI σ 25) (nT (gI σ 29)) s := by rfl) (e26 : aI σ' 26 = upd (aI σ 26) (nT (gI σ 29)) g := by rfl) (e27 : aI σ' 27 = upd (aI σ 27) (nT (gI σ 29)) t := by rfl) (e28 : aI σ' 28 = upd (aI σ 28) (nT (gI σ 29)) 0 := by rfl) (e31 : gI σ' 31 = gI σ 31 := by rfl) (e30 : aI σ' 30 = aI σ 30 := by rfl) (e14 : gI σ' 14 = gI σ 14 := by rfl) (e17 : gI σ' 17 = gI σ 17 + 1 := by rfl) (e32 : gI σ' 32 = gI σ 32 := by rfl)  : XI σ0 σ' [] k j := by
  have hn := h.nums
  have hz := h.numz
  obtain ⟨L, d, hF0, hC, hO, hV, hp, hj, hk, hd, hl, hr⟩ := h
  have hc1 := t_0 hC.1
  have hc2 := Int32.le_iff_toInt_le.mp hC.2.1
  have l0 : ([0] : List Nat).length = 1 := rfl
  have l1 : ([] : List Nat).length = 0 := rfl
  have e6 : aI σ 6 = aI σ0 6 := hF0.2.2.1 6 rfl
  subst hs
  have hdq := Int32.lt_iff_toInt_lt.mp hdp
  have hdr : (gI σ 17).toInt < 20 := hdq
  have hO2 := hO.push 6 g t e29 e25 e26 e27 e28 (by lia) ⟨by decide, by decide, hx.2.2.1, hx.2.2.2.1, by decide, by decide⟩ (oy_no (by decide) (by decide) (by decide))
  rw [if_neg (by decide)] at hO2
  have ll : ([2] ++ L).length = L.length + 1 := by simp
  have he : eSt (nT 12) a 0 ([0] ++ L) = some ([] ++ ([2] ++ L)) := rfl
  refine ⟨[2] ++ L, 1 + d, hF0.tr hF, hC.app 12 a 0 t t t e18 e19 e20 e21 e22 e23 e24 (by lia) hx (cy_no (by decide)) (by simp; omega) he, hO2, hV.same e31 e30, ?_, ?_, ?_, ?_, ?_, fun q => by cases q⟩
  · rw [e14]; exact hp
  · rw [e14, e29, e31]; have u29 : (gI σ 29 + 1).toInt = _ := t_add1 (by omega); omega
  · rw [e14, e29, e18]; have u29 : (gI σ 29 + 1).toInt = _ := t_add1 (by omega); have u18 : (gI σ 18 + 1).toInt = _ := t_add1 (by omega); omega
  · rw [e17]; have u17 : (gI σ 17 + 1).toInt = _ := t_add1 (by omega); omega
  · unfold AA at hl ⊢; refine ⟨?_, hl.2⟩; replace hl := hl.1; rw [e18, e19, e22, e29, e25, e27, nT_add (x := gI σ 18) (by lia) (by lia), nT_add (x := gI σ 29) (by lia) (by lia)]; exact (hl.app _ _ (by decide)).push _ _
theorem XI.push0 {σ0 σ σ' : RS} {k j : Int} (h : XI σ0 σ [] (k + 2) (j + 1)) (s g t : Int32) (hs : s = 0 ∨ s = 1 ∨ s = 3 ∨ s = 4 ∨ (s = 5 ∧ g = 61)) (hdp : gI σ 17 < 20) (ht : 0 ≤ t ∧ t ≤ 500) (hw : oy (aI σ 6) s g t) (hkj : 0 ≤ k ∧ 0 ≤ j)  (hF : Fx σ σ' := by repeat (first | exact Fx.rf | refine Fx.a ?_ rfl | refine Fx.i ?_ rfl)) (e18 : gI σ' 18 = gI σ 18 := by rfl) (e19 : aI σ' 19 = aI σ 19 := by rfl) (e20 : aI σ' 20 = aI σ 20 := by rfl) (e21 : aI σ' 21 = aI σ 21 := by rfl) (e22 : aI σ' 22 = aI σ 22 := by rfl) (e23 : aI σ' 23 = aI σ 23 := by rfl) (e24 : aI σ' 24 = aI σ 24 := by rfl) (e29 : gI σ' 29 = gI σ 29 + 1 := by rfl) (e25 : aI σ' 25 = upd (aI σ 25) (nT (gI σ 29)) s := by rfl) (e26 : aI σ' 26 = upd (aI σ 26) (nT (gI σ 29)) g := by rfl) (e27 : aI σ' 27 = upd (aI σ 27) (nT (gI σ 29)) t := by rfl) (e28 : aI σ' 28 = upd (aI σ 28) (nT (gI σ 29)) 0 := by rfl) (e31 : gI σ' 31 = gI σ 31 := by rfl) (e30 : aI σ' 30 = aI σ 30 := by rfl) (e14 : gI σ' 14 = gI σ 14 := by rfl) (e17 : gI σ' 17 = gI σ 17 + 1 := by rfl) (e32 : gI σ' 32 = gI σ 32 := by rfl)  : XI σ0 σ' [] k j := by
  have hn := h.nums
  have hz := h.numz
  obtain ⟨L, d, hF0, hC, hO, hV, hp, hj, hk, hd, hl, hr⟩ := h
  have hc1 := t_0 hC.1
  have hc2 := Int32.le_iff_toInt_le.mp hC.2.1
  have l0 : ([0] : List Nat).length = 1 := rfl
  have l1 : ([] : List Nat).length = 0 := rfl
  have e6 : aI σ 6 = aI σ0 6 := hF0.2.2.1 6 rfl
  have hdr : (gI σ 17).toInt < 20 := Int32.lt_iff_toInt_lt.mp hdp
  have hsx : ox s t 0 := by
    rcases hs with rfl | rfl | rfl | rfl | ⟨rfl, -⟩ <;> exact ⟨by decide, by decide, ht.1, ht.2, by decide, by decide⟩
  rw [e6] at hw
  have hO2 := hO.push s g t e29 e25 e26 e27 e28 (by lia) hsx hw
  have e1 : oks s g 0 = [] := by
    rcases hs with rfl | rfl | rfl | rfl | ⟨rfl, rfl⟩ <;> rfl
  have e2 : ¬ s = 2 := by
    rcases hs with rfl | rfl | rfl | rfl | ⟨rfl, -⟩ <;> decide
  rw [e1, if_neg e2, List.nil_append] at hO2
  refine ⟨L, 1 + d, hF0.tr hF, hC.same e18 e19 e20 e21 e22 e23 e24, hO2, hV.same e31 e30, ?_, ?_, ?_, ?_, ?_, fun q => by cases q⟩
  · rw [e14]; exact hp
  · rw [e14, e29, e31]; have u29 : (gI σ 29 + 1).toInt = _ := t_add1 (by omega); omega
  · rw [e14, e29, e18]; have u29 : (gI σ 29 + 1).toInt = _ := t_add1 (by omega); omega
  · rw [e17]; have u17 : (gI σ 17 + 1).toInt = _ := t_add1 (by omega); omega
  · unfold AA at hl ⊢; refine ⟨?_, hl.2⟩; replace hl := hl.1; rw [e18, e19, e22, e29, e25, e27, nT_add (x := gI σ 29) (by lia) (by lia)]; exact hl.push _ _
theorem XI.pusha {σ0 σ σ' : RS} {k j : Int} (h : XI σ0 σ [] (k + 3) (j + 2)) (a t s g : Int32) (hs : s = 5) (hg : ¬ g = 61) (hdp : gI σ 17 < 20) (hx : cx 16 t t t) (hw : aI σ 6 (nT t + 1) = 61 ∨ 400 < aI σ 6 (nT t + 1)) (hkj : 0 ≤ k ∧ 0 ≤ j)  (hF : Fx σ σ' := by repeat (first | exact Fx.rf | refine Fx.a ?_ rfl | refine Fx.i ?_ rfl)) (e18 : gI σ' 18 = gI σ 18 + 1 := by rfl) (e19 : aI σ' 19 = upd (aI σ 19) (nT (gI σ 18)) 16 := by first | rfl | exact upd_upd) (e20 : aI σ' 20 = upd (aI σ 20) (nT (gI σ 18)) a := by first | rfl | exact upd_upd) (e21 : aI σ' 21 = upd (aI σ 21) (nT (gI σ 18)) 0 := by first | rfl | exact upd_upd) (e22 : aI σ' 22 = upd (aI σ 22) (nT (gI σ 18)) t := by first | rfl | exact upd_upd) (e23 : aI σ' 23 = upd (aI σ 23) (nT (gI σ 18)) t := by first | rfl | exact upd_upd) (e24 : aI σ' 24 = upd (aI σ 24) (nT (gI σ 18)) t := by first | rfl | exact upd_upd) (e29 : gI σ' 29 = gI σ 29 + 1 := by rfl) (e25 : aI σ' 25 = upd (aI σ 25) (nT (gI σ 29)) s := by rfl) (e26 : aI σ' 26 = upd (aI σ 26) (nT (gI σ 29)) g := by rfl) (e27 : aI σ' 27 = upd (aI σ 27) (nT (gI σ 29)) t := by rfl) (e28 : aI σ' 28 = upd (aI σ 28) (nT (gI σ 29)) 0 := by rfl) (e31 : gI σ' 31 = gI σ 31 := by rfl) (e30 : aI σ' 30 = aI σ 30 := by rfl) (e14 : gI σ' 14 = gI σ 14 := by rfl) (e17 : gI σ' 17 = gI σ 17 + 1 := by rfl) (e32 : gI σ' 32 = gI σ 32 := by rfl)  : XI σ0 σ' [] k j := by
  have hn := h.nums
  have hz := h.numz
  obtain ⟨L, d, hF0, hC, hO, hV, hp, hj, hk, hd, hl, hr⟩ := h
  have hc1 := t_0 hC.1
  have hc2 := Int32.le_iff_toInt_le.mp hC.2.1
  have l0 : ([0] : List Nat).length = 1 := rfl
  have l1 : ([] : List Nat).length = 0 := rfl
  have e6 : aI σ 6 = aI σ0 6 := hF0.2.2.1 6 rfl
  subst hs
  have hdr : (gI σ 17).toInt < 20 := Int32.lt_iff_toInt_lt.mp hdp
  rw [e6] at hw
  have ll : ([4] ++ L).length = L.length + 1 := by simp
  have hO2 := hO.push 5 g t e29 e25 e26 e27 e28 (by lia) ⟨by decide, by decide, hx.2.2.1, hx.2.2.2.1, by decide, by decide⟩ ⟨fun q => absurd q (by decide), fun _ => hw, fun q => absurd q (by decide)⟩
  have e1 : oks 5 g 0 ++ L = [4] ++ L := by
    show (if _ then [] else [4]) ++ L = _
    rw [if_neg hg]
  rw [e1, if_neg (by decide)] at hO2
  have he : eSt (nT 16) a 0 ([] ++ L) = some ([] ++ ([4] ++ L)) := rfl
  refine ⟨[4] ++ L, 1 + d, hF0.tr hF, hC.app 16 a 0 t t t e18 e19 e20 e21 e22 e23 e24 (by lia) hx ⟨fun _ => hw, fun q => absurd q (by decide), fun q => absurd q (by decide)⟩ (by simp; omega) he, hO2, ?_, ?_, ?_, ?_, ?_, ?_, fun q => by cases q⟩
  · have h9 := hV.same e31 e30
    have e9 : wl ([] ++ L) = wl ([] ++ ([4] ++ L)) := by simp [wl, wk]
    rw [← e9]
    exact h9
  · rw [e14]; exact hp
  · rw [e14, e29, e31]; have u29 : (gI σ 29 + 1).toInt = _ := t_add1 (by omega); omega
  · rw [e14, e29, e18]; have u29 : (gI σ 29 + 1).toInt = _ := t_add1 (by omega); have u18 : (gI σ 18 + 1).toInt = _ := t_add1 (by omega); omega
  · rw [e17]; have u17 : (gI σ 17 + 1).toInt = _ := t_add1 (by omega); omega
  · unfold AA at hl ⊢; refine ⟨?_, hl.2⟩; replace hl := hl.1; rw [e18, e19, e22, e29, e25, e27, nT_add (x := gI σ 18) (by lia) (by lia), nT_add (x := gI σ 29) (by lia) (by lia)]; exact hl.a16 _
theorem XI.qx {σ0 σ σ' : RS} {k j : Int} (h : XI σ0 σ [0] k j) (a b t f l : Int32) (hp0 : 0 < gI σ 29) (hs : aI σ 25 (nT (gI σ 29 - 1)) = 7) (hx : cx 14 t f l) (hkj : 0 ≤ k ∧ 0 ≤ j)  (hF : Fx σ σ' := by repeat (first | exact Fx.rf | refine Fx.a ?_ rfl | refine Fx.i ?_ rfl)) (e18 : gI σ' 18 = gI σ 18 + 1 := by rfl) (e19 : aI σ' 19 = upd (aI σ 19) (nT (gI σ 18)) 14 := by first | rfl | exact upd_upd) (e20 : aI σ' 20 = upd (aI σ 20) (nT (gI σ 18)) a := by first | rfl | exact upd_upd) (e21 : aI σ' 21 = upd (aI σ 21) (nT (gI σ 18)) b := by first | rfl | exact upd_upd) (e22 : aI σ' 22 = upd (aI σ 22) (nT (gI σ 18)) t := by first | rfl | exact upd_upd) (e23 : aI σ' 23 = upd (aI σ 23) (nT (gI σ 18)) f := by first | rfl | exact upd_upd) (e24 : aI σ' 24 = upd (aI σ 24) (nT (gI σ 18)) l := by first | rfl | exact upd_upd) (e29 : gI σ' 29 = gI σ 29 - 1 := by rfl) (e25 : aI σ' 25 = aI σ 25 := by rfl) (e26 : aI σ' 26 = aI σ 26 := by rfl) (e27 : aI σ' 27 = aI σ 27 := by rfl) (e28 : aI σ' 28 = aI σ 28 := by rfl) (e31 : gI σ' 31 = gI σ 31 - 2 := by rfl) (e30 : aI σ' 30 = aI σ 30 := by rfl) (e14 : gI σ' 14 = gI σ 14 := by rfl) (e17 : gI σ' 17 = gI σ 17 - 1 := by rfl) (e32 : gI σ' 32 = gI σ 32 := by rfl) (e33 : gI σ' 33 = gI σ 18 := by rfl) : XI σ0 σ' [0] k j := by
  have hn := h.nums
  have hz := h.numz
  obtain ⟨L, d, hF0, hC, hO, hV, hp, hj, hk, hd, hl, hr⟩ := h
  have hc1 := t_0 hC.1
  have hc2 := Int32.le_iff_toInt_le.mp hC.2.1
  have l0 : ([0] : List Nat).length = 1 := rfl
  have l1 : ([] : List Nat).length = 0 := rfl
  have e6 : aI σ 6 = aI σ0 6 := hF0.2.2.1 6 rfl
  obtain ⟨L', d', hL, hd', hO', hox⟩ := hO.pop hp0 e29 e25 e26 e27 e28
  have hp2 : 0 < (gI σ 29).toInt := Int32.lt_iff_toInt_lt.mp hp0
  rw [hs] at hL hd'
  have hd0 : d = 1 + d' := hd'
  have e : L = 3 :: L' := hL
  have he : eSt (nT 14) a b ([0] ++ L) = some ([0] ++ L') := by rw [e]; rfl
  have hw : wl ([0] ++ L) = wl ([0] ++ L') + 2 := by rw [e]; simp [wl, wk]; omega
  have ll : L.length = L'.length + 1 := by rw [e]; simp
  have hw1 := t_nT hV.1
  rw [hV.2.1, hw] at hw1
  have u31 : (gI σ 31 - 2).toInt = (gI σ 31).toInt - 2 := t_sub (by omega) (by decide)
  refine ⟨L', d', hF0.tr hF, hC.app 14 a b t f l e18 e19 e20 e21 e22 e23 e24 (by lia) hx (cy_no (by decide)) (by simp; omega) he, hO', ?_, ?_, ?_, ?_, ?_, ?_, fun _ => ?_⟩
  · have h9 := hV.pop 2 (by decide) (t_le (by show 2 ≤ _; omega)) e31 e30
    rw [hw] at h9
    exact h9
  · rw [e14]; exact hp
  · rw [e14, e29, e31]; have u29 : (gI σ 29 - 1).toInt = _ := t_sub1 (by omega); omega
  · rw [e14, e29, e18]; have u29 : (gI σ 29 - 1).toInt = _ := t_sub1 (by omega); have u18 : (gI σ 18 + 1).toInt = _ := t_add1 (by omega); omega
  · rw [e17]; have u17 : (gI σ 17 - 1).toInt = _ := t_sub1 (by omega); omega
  · unfold AA at hl ⊢; refine ⟨?_, hl.2⟩; replace hl := hl.1; rw [e18, e19, e22, e29, e25, e27, nT_add (x := gI σ 18) (by lia) (by lia)]; rw [nT_sub hp0] at hl; exact (hl.pop (by rw [hs]; decide)).app _ _ (by decide)
  · rw [e33, e18]; have u18 : (gI σ 18 + 1).toInt = _ := t_add1 (by omega); omega
theorem XI.asg {σ0 σ σ' : RS} {k j : Int} (h : XI σ0 σ [0] k j) (a b t l : Int32) (hp0 : 0 < gI σ 29) (hs : aI σ 25 (nT (gI σ 29 - 1)) = 5) (ha : a = aI σ 26 (nT (gI σ 29 - 1))) (hx : cx 17 t t l) (hkj : 0 ≤ k ∧ 0 ≤ j) (htt : t = aI σ 27 (nT (gI σ 29 - 1)) := by rfl) (hF : Fx σ σ' := by repeat (first | exact Fx.rf | refine Fx.a ?_ rfl | refine Fx.i ?_ rfl)) (e18 : gI σ' 18 = gI σ 18 + 1 := by rfl) (e19 : aI σ' 19 = upd (aI σ 19) (nT (gI σ 18)) 17 := by first | rfl | exact upd_upd) (e20 : aI σ' 20 = upd (aI σ 20) (nT (gI σ 18)) a := by first | rfl | exact upd_upd) (e21 : aI σ' 21 = upd (aI σ 21) (nT (gI σ 18)) b := by first | rfl | exact upd_upd) (e22 : aI σ' 22 = upd (aI σ 22) (nT (gI σ 18)) t := by first | rfl | exact upd_upd) (e23 : aI σ' 23 = upd (aI σ 23) (nT (gI σ 18)) t := by first | rfl | exact upd_upd) (e24 : aI σ' 24 = upd (aI σ 24) (nT (gI σ 18)) l := by first | rfl | exact upd_upd) (e29 : gI σ' 29 = gI σ 29 - 1 := by rfl) (e25 : aI σ' 25 = aI σ 25 := by rfl) (e26 : aI σ' 26 = aI σ 26 := by rfl) (e27 : aI σ' 27 = aI σ 27 := by rfl) (e28 : aI σ' 28 = aI σ 28 := by rfl) (e31 : gI σ' 31 = gI σ 31 := by rfl) (e30 : aI σ' 30 = upd (aI σ 30) (nT (gI σ 31 - 1)) t := by rfl) (e14 : gI σ' 14 = gI σ 14 := by rfl) (e17 : gI σ' 17 = gI σ 17 - 1 := by rfl) (e32 : gI σ' 32 = gI σ 32 := by rfl) (e33 : gI σ' 33 = gI σ 18 := by rfl) : XI σ0 σ' [0] k j := by
  have hn := h.nums
  have hz := h.numz
  obtain ⟨L, d, hF0, hC, hO, hV, hp, hj, hk, hd, hl, hr⟩ := h
  have hc1 := t_0 hC.1
  have hc2 := Int32.le_iff_toInt_le.mp hC.2.1
  have l0 : ([0] : List Nat).length = 1 := rfl
  have l1 : ([] : List Nat).length = 0 := rfl
  have e6 : aI σ 6 = aI σ0 6 := hF0.2.2.1 6 rfl
  obtain ⟨L', d', hL, hd', hO', hox⟩ := hO.pop hp0 e29 e25 e26 e27 e28
  have hp2 : 0 < (gI σ 29).toInt := Int32.lt_iff_toInt_lt.mp hp0
  rw [hs] at hL hd'
  have hd0 : d = 1 + d' := hd'
  have hw := hox.2.2.1 hs
  rw [← htt] at hw
  have he : eSt (nT 17) a b ([0] ++ L) = some ([0] ++ L') ∧ wl ([0] ++ L) = wl ([0] ++ L') ∧ L'.length ≤ L.length := by
    by_cases q : a = 61
    · have e : L = L' := by
        rw [hL]
        show (if _ then [] else [4]) ++ L' = _
        rw [if_pos (ha ▸ q)]
        rfl
      rw [e]
      refine ⟨?_, rfl, Nat.le_refl _⟩
      show (if a = 61 then _ else _) = _
      rw [if_pos q]
      rfl
    · have e : L = 4 :: L' := by
        rw [hL]
        show (if _ then [] else [4]) ++ L' = _
        rw [if_neg (fun z => q (ha.trans z))]
        rfl
      rw [e]
      refine ⟨?_, by simp [wl, wk], by simp⟩
      show (if a = 61 then _ else _) = _
      rw [if_neg q]
      rfl
  have hll := he.2.2
  refine ⟨L', d', hF0.tr hF, hC.app 17 a b t t l e18 e19 e20 e21 e22 e23 e24 (by lia) hx ⟨fun _ => hw, fun q => absurd q (by decide), fun q => absurd q (by decide)⟩ (by simp; omega) he.1, hO', ?_, ?_, ?_, ?_, ?_, ?_, fun _ => ?_⟩
  · have h9 := hV.set t _ e31 e30 ⟨hx.2.2.1, hx.2.2.2.1⟩
    rw [he.2.1] at h9
    exact h9
  · rw [e14]; exact hp
  · rw [e14, e29, e31]; have u29 : (gI σ 29 - 1).toInt = _ := t_sub1 (by omega); omega
  · rw [e14, e29, e18]; have u29 : (gI σ 29 - 1).toInt = _ := t_sub1 (by omega); have u18 : (gI σ 18 + 1).toInt = _ := t_add1 (by omega); omega
  · rw [e17]; have u17 : (gI σ 17 - 1).toInt = _ := t_sub1 (by omega); omega
  · unfold AA at hl ⊢; refine ⟨?_, hl.2⟩; replace hl := hl.1; rw [e18, e19, e22, e29, e25, e27, nT_add (x := gI σ 18) (by lia) (by lia)]; rw [nT_sub hp0] at hl; exact hl.asg _ htt
  · rw [e33, e18]; have u18 : (gI σ 18 + 1).toInt = _ := t_add1 (by omega); omega
theorem XI.group {σ0 σ σ' : RS} {k j : Int} (h : XI σ0 σ [0] k j) (t l : Int32) (hp0 : 0 < gI σ 29) (hp5 : gI σ 14 < 500) (hs : aI σ 25 (nT (gI σ 29 - 1)) = 3) (hx : cx 15 t t l) (hkj : 0 ≤ k ∧ 0 ≤ j)  (hF : Fx σ σ' := by repeat (first | exact Fx.rf | refine Fx.a ?_ rfl | refine Fx.i ?_ rfl)) (e18 : gI σ' 18 = gI σ 18 + 1 := by rfl) (e19 : aI σ' 19 = upd (aI σ 19) (nT (gI σ 18)) 15 := by first | rfl | exact upd_upd) (e20 : aI σ' 20 = upd (aI σ 20) (nT (gI σ 18)) 0 := by first | rfl | exact upd_upd) (e21 : aI σ' 21 = upd (aI σ 21) (nT (gI σ 18)) 0 := by first | rfl | exact upd_upd) (e22 : aI σ' 22 = upd (aI σ 22) (nT (gI σ 18)) t := by first | rfl | exact upd_upd) (e23 : aI σ' 23 = upd (aI σ 23) (nT (gI σ 18)) t := by first | rfl | exact upd_upd) (e24 : aI σ' 24 = upd (aI σ 24) (nT (gI σ 18)) l := by first | rfl | exact upd_upd) (e29 : gI σ' 29 = gI σ 29 - 1 := by rfl) (e25 : aI σ' 25 = aI σ 25 := by rfl) (e26 : aI σ' 26 = aI σ 26 := by rfl) (e27 : aI σ' 27 = aI σ 27 := by rfl) (e28 : aI σ' 28 = aI σ 28 := by rfl) (e31 : gI σ' 31 = gI σ 31 := by rfl) (e30 : aI σ' 30 = upd (aI σ 30) (nT (gI σ 31 - 1)) t := by rfl) (e14 : gI σ' 14 = gI σ 14 + 1 := by rfl) (e17 : gI σ' 17 = gI σ 17 - 1 := by rfl) (e32 : gI σ' 32 = l := by rfl) (e33 : gI σ' 33 = gI σ 18 := by rfl) : XI σ0 σ' [0] k j := by
  have hn := h.nums
  have hz := h.numz
  obtain ⟨L, d, hF0, hC, hO, hV, hp, hj, hk, hd, hl, hr⟩ := h
  have hc1 := t_0 hC.1
  have hc2 := Int32.le_iff_toInt_le.mp hC.2.1
  have l0 : ([0] : List Nat).length = 1 := rfl
  have l1 : ([] : List Nat).length = 0 := rfl
  have e6 : aI σ 6 = aI σ0 6 := hF0.2.2.1 6 rfl
  obtain ⟨L', d', hL, hd', hO', hox⟩ := hO.pop hp0 e29 e25 e26 e27 e28
  have hp2 : 0 < (gI σ 29).toInt := Int32.lt_iff_toInt_lt.mp hp0
  have hp6 : (gI σ 14).toInt < 500 := Int32.lt_iff_toInt_lt.mp hp5
  rw [hs] at hL hd'
  have hd0 : d = 1 + d' := hd'
  have e : L = L' := hL
  subst e
  have he : eSt (nT 15) 0 0 ([0] ++ L) = some ([0] ++ L) := rfl
  refine ⟨L, d', hF0.tr hF, hC.app 15 0 0 t t l e18 e19 e20 e21 e22 e23 e24 (by lia) hx (cy_no (by decide)) (by simp; omega) he, hO', hV.set t _ e31 e30 ⟨hx.2.2.1, hx.2.2.2.1⟩, ?_, ?_, ?_, ?_, ?_, fun _ => ?_⟩
  · rw [e14]; have u14 : (gI σ 14 + 1).toInt = _ := t_add1 (by omega); omega
  · rw [e14, e29, e31]; have u14 : (gI σ 14 + 1).toInt = _ := t_add1 (by omega); have u29 : (gI σ 29 - 1).toInt = _ := t_sub1 (by omega); omega
  · rw [e14, e29, e18]; have u14 : (gI σ 14 + 1).toInt = _ := t_add1 (by omega); have u29 : (gI σ 29 - 1).toInt = _ := t_sub1 (by omega); have u18 : (gI σ 18 + 1).toInt = _ := t_add1 (by omega); omega
  · rw [e17]; have u17 : (gI σ 17 - 1).toInt = _ := t_sub1 (by omega); omega
  · unfold AA at hl ⊢; refine ⟨?_, hl.2⟩; replace hl := hl.1; rw [e18, e19, e22, e29, e25, e27, nT_add (x := gI σ 18) (by lia) (by lia)]; rw [nT_sub hp0] at hl; exact (hl.pop (by rw [hs]; decide)).app _ _ (by decide)
  · rw [e33, e18]; have u18 : (gI σ 18 + 1).toInt = _ := t_add1 (by omega); omega
theorem XI.arg {σ0 σ σ' : RS} {k j : Int} (h : XI σ0 σ [0] k j) (hp0 : 0 < gI σ 29) (hs : aI σ 25 (nT (gI σ 29 - 1)) = 4) (hkj : 0 ≤ k ∧ 0 ≤ j)  (hF : Fx σ σ' := by repeat (first | exact Fx.rf | refine Fx.a ?_ rfl | refine Fx.i ?_ rfl)) (e18 : gI σ' 18 = gI σ 18 := by rfl) (e19 : aI σ' 19 = aI σ 19 := by rfl) (e20 : aI σ' 20 = aI σ 20 := by rfl) (e21 : aI σ' 21 = aI σ 21 := by rfl) (e22 : aI σ' 22 = aI σ 22 := by rfl) (e23 : aI σ' 23 = aI σ 23 := by rfl) (e24 : aI σ' 24 = aI σ 24 := by rfl) (e29 : gI σ' 29 = gI σ 29 := by rfl) (e25 : aI σ' 25 = aI σ 25 := by rfl) (e26 : aI σ' 26 = aI σ 26 := by rfl) (e27 : aI σ' 27 = aI σ 27 := by rfl) (e28 : aI σ' 28 = upd (aI σ 28) (nT (gI σ 29 - 1)) (aI σ 28 (nT (gI σ 29 - 1)) + 1) := by rfl) (e31 : gI σ' 31 = gI σ 31 := by rfl) (e30 : aI σ' 30 = aI σ 30 := by rfl) (e14 : gI σ' 14 = gI σ 14 := by rfl) (e17 : gI σ' 17 = gI σ 17 := by rfl) (e32 : gI σ' 32 = gI σ 32 := by rfl)  : XI σ0 σ' [] k (j - 1) := by
  have hn := h.nums
  have hz := h.numz
  obtain ⟨L, d, hF0, hC, hO, hV, hp, hj, hk, hd, hl, hr⟩ := h
  have hc1 := t_0 hC.1
  have hc2 := Int32.le_iff_toInt_le.mp hC.2.1
  have l0 : ([0] : List Nat).length = 1 := rfl
  have l1 : ([] : List Nat).length = 0 := rfl
  have e6 : aI σ 6 = aI σ0 6 := hF0.2.2.1 6 rfl
  have hb : aI σ 28 (nT (gI σ 29 - 1)) < 500 := by
    obtain ⟨L', d', hL, hd', hO', hox⟩ := hO.pop (σ' := sI σ 29 (gI σ 29 - 1)) hp0 rfl rfl rfl rfl rfl
    rw [hs] at hL
    have hL2 : L = List.replicate (nT (aI σ 28 (nT (gI σ 29 - 1)))) 0 ++ L' := hL
    have hw1 := t_nT hV.1
    rw [hV.2.1, hL2, wl_app, wl_app, wl_rep] at hw1
    have hw2 : wl [0] = 1 := rfl
    have h8 := t_nT hox.1.2.2.2.2.1
    apply t_lt
    show _ < (500 : Int)
    omega
  have hO2 := OI.arg hp0 hO hs hb e29 e25 e26 e27 e28
  have ll : (0 :: L).length = L.length + 1 := rfl
  refine ⟨0 :: L, d, hF0.tr hF, hC.same e18 e19 e20 e21 e22 e23 e24, hO2, hV.same e31 e30, ?_, ?_, ?_, ?_, ?_, fun q => by cases q⟩
  · rw [e14]; exact hp
  · rw [e14, e29, e31]; omega
  · rw [e14, e29, e18]; omega
  · rw [e17]; exact hd
  · unfold AA at hl ⊢; refine ⟨?_, hl.2⟩; replace hl := hl.1; rw [e18, e19, e22, e29, e25, e27]; exact hl
theorem XI.call {σ0 σ σ' : RS} {k j : Int} (h : XI σ0 σ [] k j) (n t l : Int32) (hp0 : 0 < gI σ 29) (hp5 : gI σ 14 < 500) (hs : aI σ 25 (nT (gI σ 29 - 1)) = 4) (ha : n = aI σ 28 (nT (gI σ 29 - 1))) (hx : cx 18 t t l) (hjn : j = 0 ∨ (j = -1 ∧ 1 ≤ n)) (hkj : 0 ≤ k) (htt : t = aI σ 27 (nT (gI σ 29 - 1)) := by rfl) (hF : Fx σ σ' := by repeat (first | exact Fx.rf | refine Fx.a ?_ rfl | refine Fx.i ?_ rfl)) (e18 : gI σ' 18 = gI σ 18 + 1 := by rfl) (e19 : aI σ' 19 = upd (aI σ 19) (nT (gI σ 18)) 18 := by first | rfl | exact upd_upd) (e20 : aI σ' 20 = upd (aI σ 20) (nT (gI σ 18)) n := by first | rfl | exact upd_upd) (e21 : aI σ' 21 = upd (aI σ 21) (nT (gI σ 18)) 0 := by first | rfl | exact upd_upd) (e22 : aI σ' 22 = upd (aI σ 22) (nT (gI σ 18)) t := by first | rfl | exact upd_upd) (e23 : aI σ' 23 = upd (aI σ 23) (nT (gI σ 18)) t := by first | rfl | exact upd_upd) (e24 : aI σ' 24 = upd (aI σ 24) (nT (gI σ 18)) l := by first | rfl | exact upd_upd) (e29 : gI σ' 29 = gI σ 29 - 1 := by rfl) (e25 : aI σ' 25 = aI σ 25 := by rfl) (e26 : aI σ' 26 = aI σ 26 := by rfl) (e27 : aI σ' 27 = aI σ 27 := by rfl) (e28 : aI σ' 28 = aI σ 28 := by rfl) (e31 : gI σ' 31 = gI σ 31 - n + 1 := by rfl) (e30 : aI σ' 30 = upd (aI σ 30) (nT (gI σ 31 - n)) t := by rfl) (e14 : gI σ' 14 = gI σ 14 + 1 := by rfl) (e17 : gI σ' 17 = gI σ 17 - 1 := by rfl) (e32 : gI σ' 32 = l := by rfl) (e33 : gI σ' 33 = gI σ 18 := by rfl) : XI σ0 σ' [0] k 0 := by
  have hn := h.nums
  have hz := h.numz
  obtain ⟨L, d, hF0, hC, hO, hV, hp, hj, hk, hd, hl, hr⟩ := h
  have hc1 := t_0 hC.1
  have hc2 := Int32.le_iff_toInt_le.mp hC.2.1
  have l0 : ([0] : List Nat).length = 1 := rfl
  have l1 : ([] : List Nat).length = 0 := rfl
  have e6 : aI σ 6 = aI σ0 6 := hF0.2.2.1 6 rfl
  obtain ⟨L', d', hL, hd', hO', hox⟩ := hO.pop hp0 e29 e25 e26 e27 e28
  have hp2 : 0 < (gI σ 29).toInt := Int32.lt_iff_toInt_lt.mp hp0
  have hp6 : (gI σ 14).toInt < 500 := Int32.lt_iff_toInt_lt.mp hp5
  rw [hs] at hL hd'
  have hd0 : d = 1 + d' := hd'
  have hw0 := hox.2.1 hs
  rw [← htt] at hw0
  rw [← ha] at hL hox
  have e : L = List.replicate (nT n) 0 ++ L' := hL
  have he : eSt (nT 18) n 0 ([] ++ L) = some ([0] ++ L') := by
    rw [e]
    show (if _ then _ else none) = _
    rw [List.nil_append, if_pos (by rw [List.take_left' (by simp)]), List.drop_left' (by simp)]
    rfl
  have hw : wl ([] ++ L) = nT n + wl L' := by rw [e, List.nil_append, wl_app, wl_rep]
  have hw1 := t_nT hV.1
  rw [hV.2.1, hw] at hw1
  have h0n := hox.1.2.2.2.2.1
  have h5n := hox.1.2.2.2.2.2
  have hnz := t_nT h0n
  have ll : L.length = nT n + L'.length := by rw [e]; simp
  have hjm : j = 0 ∨ (j = -1 ∧ 1 ≤ nT n) := by
    rcases hjn with q | ⟨q1, q2⟩
    · exact Or.inl q
    · refine Or.inr ⟨q1, ?_⟩
      have q3 := Int32.le_iff_toInt_le.mp q2
      have q4 : (1 : Int32).toInt = 1 := rfl
      omega
  have hnl : n ≤ gI σ 31 := t_le (by omega)
  have u31 : (gI σ 31 - n).toInt = (gI σ 31).toInt - n.toInt := t_sub (by omega) (by omega)
  have u32 : (gI σ 31 - n + 1).toInt = (gI σ 31 - n).toInt + 1 := t_add1 (by omega)
  refine ⟨L', d', hF0.tr hF, hC.app 18 n 0 t t l e18 e19 e20 e21 e22 e23 e24 (by lia) hx ⟨fun q => absurd q (by decide), fun _ => ⟨hw0, h0n, h5n⟩, fun q => absurd q (by decide)⟩ (by simp; omega) he, hO', ?_, ?_, ?_, ?_, ?_, ?_, fun _ => ?_⟩
  · have h9 := hV.pop (σ' := sI σ 31 (gI σ 31 - n)) n h0n hnl rfl rfl
    have h10 := h9.push (σ' := σ') t e31 e30 (t_lt (by show (gI σ 31 - n).toInt < 5000; omega)) ⟨hx.2.2.1, hx.2.2.2.1⟩
    have e9 : wl ([] ++ L) - nT n + 1 = wl ([0] ++ L') := by rw [hw]; simp [wl, wk]; omega
    rw [e9] at h10
    exact h10
  · rw [e14]; have u14 : (gI σ 14 + 1).toInt = _ := t_add1 (by omega); omega
  · rw [e14, e29, e31]; have u14 : (gI σ 14 + 1).toInt = _ := t_add1 (by omega); have u29 : (gI σ 29 - 1).toInt = _ := t_sub1 (by omega); omega
  · rw [e14, e29, e18]; have u14 : (gI σ 14 + 1).toInt = _ := t_add1 (by omega); have u29 : (gI σ 29 - 1).toInt = _ := t_sub1 (by omega); have u18 : (gI σ 18 + 1).toInt = _ := t_add1 (by omega); omega
  · rw [e17]; have u17 : (gI σ 17 - 1).toInt = _ := t_sub1 (by omega); omega
  · unfold AA at hl ⊢; refine ⟨?_, hl.2⟩; replace hl := hl.1; rw [e18, e19, e22, e29, e25, e27, nT_add (x := gI σ 18) (by lia) (by lia)]; rw [nT_sub hp0] at hl; exact (hl.pop (by rw [hs]; decide)).app _ _ (by decide)
  · rw [e33, e18]; have u18 : (gI σ 18 + 1).toInt = _ := t_add1 (by omega); omega
theorem XI.colon {σ0 σ σ' : RS} {k j : Int} (h : XI σ0 σ [0] k j) (t : Int32) (hp0 : 0 < gI σ 29) (hp5 : gI σ 14 < 500) (hs : aI σ 25 (nT (gI σ 29 - 1)) = 6) (hx : cx 13 t t t) (hkj : 0 ≤ k ∧ 0 ≤ j)  (hF : Fx σ σ' := by repeat (first | exact Fx.rf | refine Fx.a ?_ rfl | refine Fx.i ?_ rfl)) (e18 : gI σ' 18 = gI σ 18 + 1 := by rfl) (e19 : aI σ' 19 = upd (aI σ 19) (nT (gI σ 18)) 13 := by first | rfl | exact upd_upd) (e20 : aI σ' 20 = upd (aI σ 20) (nT (gI σ 18)) 0 := by first | rfl | exact upd_upd) (e21 : aI σ' 21 = upd (aI σ 21) (nT (gI σ 18)) 0 := by first | rfl | exact upd_upd) (e22 : aI σ' 22 = upd (aI σ 22) (nT (gI σ 18)) t := by first | rfl | exact upd_upd) (e23 : aI σ' 23 = upd (aI σ 23) (nT (gI σ 18)) t := by first | rfl | exact upd_upd) (e24 : aI σ' 24 = upd (aI σ 24) (nT (gI σ 18)) t := by first | rfl | exact upd_upd) (e29 : gI σ' 29 = gI σ 29 - 1 + 1 := by rfl) (e25 : aI σ' 25 = upd (aI σ 25) (nT (gI σ 29 - 1)) 7 := by rfl) (e26 : aI σ' 26 = upd (aI σ 26) (nT (gI σ 29 - 1)) 0 := by rfl) (e27 : aI σ' 27 = upd (aI σ 27) (nT (gI σ 29 - 1)) t := by rfl) (e28 : aI σ' 28 = upd (aI σ 28) (nT (gI σ 29 - 1)) 0 := by rfl) (e31 : gI σ' 31 = gI σ 31 := by rfl) (e30 : aI σ' 30 = aI σ 30 := by rfl) (e14 : gI σ' 14 = gI σ 14 + 1 := by rfl) (e17 : gI σ' 17 = gI σ 17 - 1 + 1 := by rfl) (e32 : gI σ' 32 = gI σ 32 := by rfl)  : XI σ0 σ' [] k j := by
  have hn := h.nums
  have hz := h.numz
  obtain ⟨L, d, hF0, hC, hO, hV, hp, hj, hk, hd, hl, hr⟩ := h
  have hc1 := t_0 hC.1
  have hc2 := Int32.le_iff_toInt_le.mp hC.2.1
  have l0 : ([0] : List Nat).length = 1 := rfl
  have l1 : ([] : List Nat).length = 0 := rfl
  have e6 : aI σ 6 = aI σ0 6 := hF0.2.2.1 6 rfl
  obtain ⟨L', d', hL, hd', hO', hox⟩ := hO.pop (σ' := sI σ 29 (gI σ 29 - 1)) hp0 rfl rfl rfl rfl rfl
  have hp2 : 0 < (gI σ 29).toInt := Int32.lt_iff_toInt_lt.mp hp0
  have hp6 : (gI σ 14).toInt < 500 := Int32.lt_iff_toInt_lt.mp hp5
  rw [hs] at hL hd'
  have hd0 : d = 1 + d' := hd'
  have e : L = 2 :: L' := hL
  have hO2 := hO'.push (σ' := σ') 7 0 t e29 e25 e26 e27 e28 (by show gI σ 29 - 1 < 599; lia) ⟨by decide, by decide, hx.2.2.1, hx.2.2.2.1, by decide, by decide⟩ (oy_no (by decide) (by decide) (by decide))
  have ll : L.length = ([3] ++ L').length := by rw [e]; simp
  rw [if_neg (by decide)] at hO2
  have he : eSt (nT 13) 0 0 ([0] ++ L) = some ([] ++ ([3] ++ L')) := by rw [e]; rfl
  have hw : wl ([0] ++ L) = wl ([] ++ ([3] ++ L')) := by rw [e]; simp [wl, wk]; omega
  have u29 : (gI σ 29 - 1).toInt = _ := t_sub1 (by omega)
  have u30 : (gI σ 29 - 1 + 1).toInt = (gI σ 29 - 1).toInt + 1 := t_add1 (by omega)
  have u14 : (gI σ 14 + 1).toInt = _ := t_add1 (by omega)
  have u18 : (gI σ 18 + 1).toInt = _ := t_add1 (by omega)
  have u17 : (gI σ 17 - 1).toInt = _ := t_sub1 (by omega)
  have u19 : (gI σ 17 - 1 + 1).toInt = (gI σ 17 - 1).toInt + 1 := t_add1 (by omega)
  refine ⟨[3] ++ L', 1 + d', hF0.tr hF, hC.app 13 0 0 t t t e18 e19 e20 e21 e22 e23 e24 (by lia) hx (cy_no (by decide)) (by rw [List.nil_append, ← ll]; omega) he, hO2, ?_, ?_, ?_, ?_, ?_, ?_, fun q => by cases q⟩
  · have h9 := hV.same e31 e30
    rw [hw] at h9
    exact h9
  · rw [e14]; omega
  · rw [e14, e29, e31]; omega
  · rw [e14, e29, e18]; omega
  · rw [e17]; omega
  · unfold AA at hl ⊢; refine ⟨?_, hl.2⟩; replace hl := hl.1; rw [e18, e19, e22, e29, e25, e27, nT_add (x := gI σ 18) (by lia) (by lia), nT_add (x := gI σ 29 - 1) (by lia) (by lia)]; rw [nT_sub hp0] at hl; exact ((hl.pop (by rw [hs]; decide)).app _ _ (by decide)).push _ _
