theorem aI_ne {σ : RS} {k r : Nat} {f : Nat → Int32} (h : r ≠ k) : aI (sA σ k f) r = aI σ r := by
  rw [aI_sA, nb_ne h]
theorem aI_eq {σ : RS} {k : Nat} {f : Nat → Int32} : aI (sA σ k f) k = f := by
  rw [aI_sA, nb_eq]
/-- a code of a statement more; w: the place of the thing's number that it stands in from now on -/
theorem PI.app {σ σ' : RS} {E E' : List Nat} {s s' : SS} {k j : Int} (h : PI σ E s k j) (o a b t f l : Int32) (ho : 1 ≤ o ∧ o ≤ 54) (ht : 0 ≤ t ∧ t ≤ 500) (hf : 0 ≤ f ∧ f ≤ 500) (hl : 0 ≤ l ∧ l ≤ 500)
    (hka : kop (nT o) = true → 0 ≤ a ∧ a < gI σ 49) (h22 : o = 22 → 0 ≤ a ∧ a < 60) (h54 : o = 54 → 0 ≤ a ∧ a ≤ 9) (h46 : (o = 46 ∨ o = 47) → a = -2 ∨ (0 ≤ a ∧ a < gI σ 49))
    (hup : kpu (nT o) = true → ∀ c, c < nT (gI σ 18) → kpu (nT (aI σ 19 c)) = true → aI σ 20 c ≠ a) (he : eSt (nT o) a b E = some E') (hs : sSt (nT o) a (nT (gI σ 18)) s = some s') (hk20 : k + 1 ≤ 20)
    (hks : ∀ r, 50 ≤ r → r ≤ 61 → (aI σ' r = aI σ r ∧ ksl (nT o) ≠ r) ∨ (r = ksl (nT o) ∧ r ≠ 57 ∧ kop (nT o) = true ∧ aI σ' r = upd (aI σ r) (nT a) (gI σ 18))) (f14 : gI σ' 14 = gI σ 14 := by rfl) (f17 : gI σ' 17 = gI σ 17 := by rfl) (f32 : gI σ' 32 = gI σ 32 := by rfl) (f49 : gI σ' 49 = gI σ 49 := by rfl) (f62 : gI σ' 62 = gI σ 62 := by rfl) (f42 : gI σ' 42 = gI σ 42 := by rfl) (f36 : gI σ' 36 = gI σ 36 := by rfl) (f63 : aI σ' 63 = aI σ 63 := by rfl) (f64 : aI σ' 64 = aI σ 64 := by rfl) (f65 : aI σ' 65 = aI σ 65 := by rfl) (f43 : aI σ' 43 = aI σ 43 := by rfl) (f37 : aI σ' 37 = aI σ 37 := by rfl) (f39 : aI σ' 39 = aI σ 39 := by rfl) (f40 : aI σ' 40 = aI σ 40 := by rfl) (f41 : aI σ' 41 = aI σ 41 := by rfl) (e18 : gI σ' 18 = gI σ 18 + 1 := by rfl) (e19 : aI σ' 19 = upd (aI σ 19) (nT (gI σ 18)) o := by first | rfl | exact upd_upd) (e20 : aI σ' 20 = upd (aI σ 20) (nT (gI σ 18)) a := by first | rfl | exact upd_upd) (e21 : aI σ' 21 = upd (aI σ 21) (nT (gI σ 18)) b := by first | rfl | exact upd_upd) (e22 : aI σ' 22 = upd (aI σ 22) (nT (gI σ 18)) t := by first | rfl | exact upd_upd) (e23 : aI σ' 23 = upd (aI σ 23) (nT (gI σ 18)) f := by first | rfl | exact upd_upd) (e24 : aI σ' 24 = upd (aI σ 24) (nT (gI σ 18)) l := by first | rfl | exact upd_upd) : PI σ' E' s' (k + 1) j := by
  have hz := h.numz
  have hn := h.nums
  obtain ⟨⟨h1, h2, h3, h4, h5⟩, hE, hS, hC, hT, hU, hF, hV, hM⟩ := h
  have hN : nT (gI σ 18 + 1) = nT (gI σ 18) + 1 := nT_add hn.2.1.1 (by lia)
  have u18 : (gI σ 18 + 1).toInt = (gI σ 18).toInt + 1 := t_add1 (by omega)
  have hksl : ∀ n, ksl n = 0 ∨ (52 ≤ ksl n ∧ ksl n ≤ 58) := by
    intro n
    unfold ksl
    split <;> simp
  have hmono : ∀ r, 50 ≤ r → r ≤ 61 → ∀ q, 0 ≤ aI σ r q → 0 ≤ aI σ' r q := by
    intro r z1 z2 q hq
    rcases hks r z1 z2 with ⟨e, -⟩ | ⟨-, -, -, e⟩
    · rw [e]; exact hq
    · rw [e]
      by_cases z : q = nT a
      · subst z; rw [upd_eq]; exact hn.2.1.1
      · rw [upd_ne z]; exact hq
  refine ⟨⟨by rw [f14]; exact h1, by rw [e18, f62, f14]; omega, by rw [f17, f62]; exact h3, by rw [f32]; exact h4, by rw [f49, f14]; exact h5⟩, ?_, ?_, ?_, ?_, ?_, ?_, ?_, ?_⟩
  · rw [e18, e19, e20, e21, hN]; exact Es_emit hE he
  · rw [e18, e19, e20, hN]; exact Ss_emit hS hs
  · intro c hc
    rw [e18, hN] at hc
    rw [e19, e20, e22, e23, e24, f49]
    by_cases hq : c = nT (gI σ 18)
    · subst hq
      rw [upd_eq, upd_eq, upd_eq, upd_eq, upd_eq]
      refine ⟨ho, ht, hf, hl, hka, h22, h54, h46, fun hk => ?_⟩
      rcases hksl (nT o) with z | z
      · exact absurd z hk
      · rcases hks (ksl (nT o)) (by omega) (by omega) with ⟨-, e⟩ | ⟨-, -, -, e⟩
        · exact absurd rfl e
        · rw [e, upd_eq]; exact hn.2.1.1
    · rw [upd_ne hq, upd_ne hq, upd_ne hq, upd_ne hq, upd_ne hq]
      obtain ⟨z1, z2, z3, z4, z5, z6, z7, z8, z9⟩ := hC c (by omega)
      refine ⟨z1, z2, z3, z4, z5, z6, z7, z8, fun hk => ?_⟩
      rcases hksl (nT (aI σ 19 c)) with z | z
      · exact absurd z hk
      · exact hmono _ (by omega) (by omega) _ (z9 hk)
  · refine ⟨fun r z1 z2 q hq => ?_, fun q hq => ?_⟩
    · rw [f49] at hq
      have old : aI σ r q = -2 ∨ (0 ≤ aI σ r q ∧ aI σ r q < gI σ' 18 ∧ ksl (nT (aI σ' 19 (nT (aI σ r q)))) = r ∧ nT (aI σ' 20 (nT (aI σ r q))) = q) := by
        rcases hT.1 r z1 z2 q hq with z | ⟨y1, y2, y3, y4⟩
        · exact Or.inl z
        · have hlt := nT_lt y1 y2
          rw [e18, e19, e20, upd_ne (by omega), upd_ne (by omega)]
          exact Or.inr ⟨y1, by lia, y3, y4⟩
      rcases hks r (by omega) (by omega) with ⟨e, -⟩ | ⟨er, -, ek, e⟩
      · rw [e]; exact old
      · by_cases z : q = nT a
        · subst z
          rw [e, upd_eq, e18, e19, e20, upd_eq, upd_eq]
          exact Or.inr ⟨hn.2.1.1, by lia, er.symm, rfl⟩
        · rw [e, upd_ne z]; exact old
    · rw [f49] at hq
      obtain ⟨y1, y2, y3, y4, y5⟩ := hT.2 q hq
      have k51 : aI σ' 51 = aI σ 51 := by
        rcases hks 51 (by omega) (by omega) with ⟨e, -⟩ | ⟨er, -⟩
        · exact e
        · rcases hksl (nT o) with z | z <;> omega
      have k60 : aI σ' 60 = aI σ 60 := by
        rcases hks 60 (by omega) (by omega) with ⟨e, -⟩ | ⟨er, -⟩
        · exact e
        · rcases hksl (nT o) with z | z <;> omega
      have k61 : aI σ' 61 = aI σ 61 := by
        rcases hks 61 (by omega) (by omega) with ⟨e, -⟩ | ⟨er, -⟩
        · exact e
        · rcases hksl (nT o) with z | z <;> omega
      have k50 : aI σ' 50 = aI σ 50 := by
        rcases hks 50 (by omega) (by omega) with ⟨e, -⟩ | ⟨er, -⟩
        · exact e
        · rcases hksl (nT o) with z | z <;> omega
      have k57 : aI σ' 57 = aI σ 57 := by
        rcases hks 57 (by omega) (by omega) with ⟨e, -⟩ | ⟨-, er, -⟩
        · exact e
        · exact absurd rfl er
      rw [k51, k60, k61, k50, k57, e18]
      exact ⟨⟨y1.1, by lia⟩, y2, y3, y4, y5⟩
  · intro c d hcd hd k1 k2
    rw [e18, hN] at hd
    rw [e19, upd_ne (by omega)] at k1
    rw [e20, upd_ne (by omega)]
    by_cases hq : d = nT (gI σ 18)
    · subst hq
      rw [e19, upd_eq] at k2
      rw [upd_eq]
      exact hup k2 c hcd k1
    · rw [e19, upd_ne hq] at k2
      rw [upd_ne hq]
      exact hU c d hcd (by omega) k1 k2
  · refine ⟨by rw [f62]; exact hF.1, fun i hi => ?_⟩
    rw [f62] at hi
    obtain ⟨z1, z2, z3⟩ := hF.2 i hi
    rw [f63, f64, f65, f49, e18]
    exact ⟨z1, z2, fun q => ⟨(z3 q).1, by have := (z3 q).2; lia⟩⟩
  · refine ⟨by rw [f42]; exact hV.1, fun v hv => ?_⟩
    rw [f42] at hv
    rw [f43]
    exact hV.2 v hv
  · refine ⟨by rw [f36]; exact hM.1, fun m hm => ?_⟩
    rw [f36] at hm
    obtain ⟨z1, z2, z3, z4, z5, z6⟩ := hM.2 m hm
    have hm4 := nT_le z4.1 z4.2
    rw [f37, f39, f40, f41, f42, e18, e19, e20, e21, Es_congr (fun i hi => ⟨upd_ne (by omega), upd_ne (by omega), upd_ne (by omega)⟩), Ss_congr (fun i hi => ⟨upd_ne (by omega), upd_ne (by omega)⟩)]
    exact ⟨z1, z2, z3, ⟨z4.1, by lia⟩, z5, z6⟩
/-- other numbers: pos may grow (and with it the room), what is not looked at may change -/
theorem PI.mv {σ σ' : RS} {E : List Nat} {s : SS} {k j : Int} (h : PI σ E s k j) (k' j' : Int) (hp : (gI σ 14).toInt ≤ (gI σ' 14).toInt ∧ (gI σ' 14).toInt ≤ 500) (hk : k' ≤ 20 ∧ k ≤ k' + 6 * ((gI σ' 14).toInt - (gI σ 14).toInt)) (hj : 0 ≤ j' ∧ j' ≤ j + ((gI σ' 14).toInt - (gI σ 14).toInt)) (hl : 0 ≤ (gI σ' 32).toInt ∧ (gI σ' 32).toInt ≤ 500) (f17 : gI σ' 17 = gI σ 17 := by rfl) (f49 : gI σ' 49 = gI σ 49 := by rfl) (f62 : gI σ' 62 = gI σ 62 := by rfl) (f42 : gI σ' 42 = gI σ 42 := by rfl) (f36 : gI σ' 36 = gI σ 36 := by rfl) (f63 : aI σ' 63 = aI σ 63 := by rfl) (f64 : aI σ' 64 = aI σ 64 := by rfl) (f65 : aI σ' 65 = aI σ 65 := by rfl) (f43 : aI σ' 43 = aI σ 43 := by rfl) (f37 : aI σ' 37 = aI σ 37 := by rfl) (f39 : aI σ' 39 = aI σ 39 := by rfl) (f40 : aI σ' 40 = aI σ 40 := by rfl) (f41 : aI σ' 41 = aI σ 41 := by rfl) (e18 : gI σ' 18 = gI σ 18 := by rfl) (e19 : aI σ' 19 = aI σ 19 := by rfl) (e20 : aI σ' 20 = aI σ 20 := by rfl) (e21 : aI σ' 21 = aI σ 21 := by rfl) (e22 : aI σ' 22 = aI σ 22 := by rfl) (e23 : aI σ' 23 = aI σ 23 := by rfl) (e24 : aI σ' 24 = aI σ 24 := by rfl) (f50 : aI σ' 50 = aI σ 50 := by rfl) (f51 : aI σ' 51 = aI σ 51 := by rfl) (f52 : aI σ' 52 = aI σ 52 := by rfl) (f53 : aI σ' 53 = aI σ 53 := by rfl) (f54 : aI σ' 54 = aI σ 54 := by rfl) (f55 : aI σ' 55 = aI σ 55 := by rfl) (f56 : aI σ' 56 = aI σ 56 := by rfl) (f57 : aI σ' 57 = aI σ 57 := by rfl) (f58 : aI σ' 58 = aI σ 58 := by rfl) (f59 : aI σ' 59 = aI σ 59 := by rfl) (f60 : aI σ' 60 = aI σ 60 := by rfl) (f61 : aI σ' 61 = aI σ 61 := by rfl) : PI σ' E s k' j' := by
  obtain ⟨⟨h1, h2, h3, h4, h5⟩, hE, hS, hC, hT, hU, hF, hV, hM⟩ := h
  have hks : ∀ r, 50 ≤ r → r ≤ 61 → aI σ' r = aI σ r := by
    intro r a b
    have h9 : r = 50 ∨ r = 51 ∨ r = 52 ∨ r = 53 ∨ r = 54 ∨ r = 55 ∨ r = 56 ∨ r = 57 ∨ r = 58 ∨ r = 59 ∨ r = 60 ∨ r = 61 := by omega
    rcases h9 with rfl | rfl | rfl | rfl | rfl | rfl | rfl | rfl | rfl | rfl | rfl | rfl <;> assumption
  have hksl : ∀ n, ksl n = 0 ∨ (52 ≤ ksl n ∧ ksl n ≤ 58) := by
    intro n
    unfold ksl
    split <;> simp
  refine ⟨⟨⟨by omega, hp.2⟩, by rw [e18, f62]; omega, by rw [f17, f62]; exact h3, hl, by rw [f49]; omega⟩, by rw [e18, e19, e20, e21]; exact hE, by rw [e18, e19, e20]; exact hS, ?_, ?_, ?_, ?_, ?_, ?_⟩
  · intro c hc
    rw [e18] at hc
    rw [e19, e20, e22, e23, e24, f49]
    obtain ⟨z1, z2, z3, z4, z5, z6, z7, z8, z9⟩ := hC c hc
    refine ⟨z1, z2, z3, z4, z5, z6, z7, z8, fun hk => ?_⟩
    rcases hksl (nT (aI σ 19 c)) with z | z
    · exact absurd z hk
    · rw [hks _ (by omega) (by omega)]; exact z9 hk
  · unfold TI
    rw [f49, e18, e19, e20, hks 51 (by omega) (by omega), hks 60 (by omega) (by omega), hks 61 (by omega) (by omega), hks 57 (by omega) (by omega), hks 50 (by omega) (by omega)]
    exact ⟨fun r a b => by rw [hks r (by omega) (by omega)]; exact hT.1 r a b, hT.2⟩
  · unfold UP; rw [e18, e19, e20]; exact hU
  · unfold FI; rw [f62, f63, f64, f65, f49, e18]; exact hF
  · unfold VT; rw [f42, f43]; exact hV
  · unfold MT; rw [f36, f37, f39, f40, f41, f42, e18, e19, e20, e21]; exact hM
theorem PI.take {σ σ' : RS} {E : List Nat} {s : SS} {k j : Int} (h : PI σ E s k j) (hp5 : gI σ 14 < 500) (hs : σ' = sI σ 14 (gI σ 14 + 1)) (k' j' : Int) (hk : k' ≤ 20 ∧ k ≤ k' + 6) (hj : 0 ≤ j' ∧ j' ≤ j + 1) : PI σ' E s k' j' := by
  subst hs
  have hz := h.numz
  have hp6 : (gI σ 14).toInt < 500 := Int32.lt_iff_toInt_lt.mp hp5
  have u14 : (gI (sI σ 14 (gI σ 14 + 1)) 14).toInt = (gI σ 14).toInt + 1 := t_add1 (by omega)
  exact h.mv k' j' ⟨by omega, by omega⟩ ⟨hk.1, by omega⟩ ⟨hj.1, by omega⟩ hz.2.2.2.1
