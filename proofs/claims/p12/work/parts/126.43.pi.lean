def th (σ : RS) (s t : Int32) : RS := sA (sA (sA (sA (sA (sA (sA (sA (sA (sA (sA (sA (sI σ 49 (gI σ 49 + 1)) 50 (upd (aI σ 50) (gI σ 49).toNatClampNeg s)) 51 (upd (aI σ 51) (gI σ 49).toNatClampNeg (gI σ 18))) 52 (upd (aI σ 52) (gI σ 49).toNatClampNeg (-2))) 53 (upd (aI σ 53) (gI σ 49).toNatClampNeg (-2))) 54 (upd (aI σ 54) (gI σ 49).toNatClampNeg (-2))) 55 (upd (aI σ 55) (gI σ 49).toNatClampNeg (-2))) 56 (upd (aI σ 56) (gI σ 49).toNatClampNeg (-2))) 57 (upd (aI σ 57) (gI σ 49).toNatClampNeg (-2))) 58 (upd (aI σ 58) (gI σ 49).toNatClampNeg (-2))) 59 (upd (aI σ 59) (gI σ 49).toNatClampNeg (-2))) 60 (upd (aI σ 60) (gI σ 49).toNatClampNeg t)) 61 (upd (aI σ 61) (gI σ 49).toNatClampNeg (-2))
theorem gI_th {σ : RS} {s t : Int32} {k : Nat} : gI (th σ s t) k = match Nat.beq k 49 with
  | true => gI σ 49 + 1
  | false => gI σ k := rfl
theorem kslk {n : Nat} (h : ksl n ≠ 0) : kop n = true := by
  unfold ksl at h
  split at h <;> first | rfl | exact absurd rfl h
/-- a thing more -/
theorem PI.thing {σ σ' : RS} {s : SS} {k j : Int} (h : PI σ [] s k j) (sort t : Int32) (hj : 1 ≤ j) (hs : 0 ≤ sort ∧ sort ≤ 11) (ht : 0 ≤ t ∧ t ≤ 500) (f14 : gI σ' 14 = gI σ 14 := by rfl) (f17 : gI σ' 17 = gI σ 17 := by rfl) (f32 : gI σ' 32 = gI σ 32 := by rfl) (f62 : gI σ' 62 = gI σ 62 := by rfl) (f42 : gI σ' 42 = gI σ 42 := by rfl) (f36 : gI σ' 36 = gI σ 36 := by rfl) (e49 : gI σ' 49 = gI σ 49 + 1 := by rfl) (f63 : aI σ' 63 = aI σ 63 := by rfl) (f64 : aI σ' 64 = aI σ 64 := by rfl) (f65 : aI σ' 65 = aI σ 65 := by rfl) (f43 : aI σ' 43 = aI σ 43 := by rfl) (f37 : aI σ' 37 = aI σ 37 := by rfl) (f39 : aI σ' 39 = aI σ 39 := by rfl) (f40 : aI σ' 40 = aI σ 40 := by rfl) (f41 : aI σ' 41 = aI σ 41 := by rfl) (e18 : gI σ' 18 = gI σ 18 := by rfl) (e19 : aI σ' 19 = aI σ 19 := by rfl) (e20 : aI σ' 20 = aI σ 20 := by rfl) (e21 : aI σ' 21 = aI σ 21 := by rfl) (e22 : aI σ' 22 = aI σ 22 := by rfl) (e23 : aI σ' 23 = aI σ 23 := by rfl) (e24 : aI σ' 24 = aI σ 24 := by rfl) (g50 : aI σ' 50 = upd (aI σ 50) (nT (gI σ 49)) sort := by rfl) (g51 : aI σ' 51 = upd (aI σ 51) (nT (gI σ 49)) (gI σ 18) := by rfl) (g52 : aI σ' 52 = upd (aI σ 52) (nT (gI σ 49)) (-2) := by rfl) (g53 : aI σ' 53 = upd (aI σ 53) (nT (gI σ 49)) (-2) := by rfl) (g54 : aI σ' 54 = upd (aI σ 54) (nT (gI σ 49)) (-2) := by rfl) (g55 : aI σ' 55 = upd (aI σ 55) (nT (gI σ 49)) (-2) := by rfl) (g56 : aI σ' 56 = upd (aI σ 56) (nT (gI σ 49)) (-2) := by rfl) (g57 : aI σ' 57 = upd (aI σ 57) (nT (gI σ 49)) (-2) := by rfl) (g58 : aI σ' 58 = upd (aI σ 58) (nT (gI σ 49)) (-2) := by rfl) (g59 : aI σ' 59 = upd (aI σ 59) (nT (gI σ 49)) (-2) := by rfl) (g60 : aI σ' 60 = upd (aI σ 60) (nT (gI σ 49)) t := by rfl) (g61 : aI σ' 61 = upd (aI σ 61) (nT (gI σ 49)) (-2) := by rfl) (f3 : aI σ' 3 = aI σ 3 := by rfl) (f6 : aI σ' 6 = aI σ 6 := by rfl) (hgz : GZ σ → GZ σ' := by exact fun h => h) : PI σ' [] s k (j - 1) ∧ ∀ c, c < nT (gI σ' 18) → kop (nT (aI σ' 19 c)) = true → aI σ' 20 c ≠ gI σ 49 := by
  have hz := h.numz
  have hn := h.nums
  obtain ⟨⟨h1, h2, h3, h4, h5⟩, hE, hS, hC, hT, hU, hF, hV, hM, hZ, hJ⟩ := h
  have hN : nT (gI σ 49 + 1) = nT (gI σ 49) + 1 := nT_add hn.2.2.2.2.1.1 (by lia)
  have u49 : (gI σ 49 + 1).toInt = (gI σ 49).toInt + 1 := t_add1 (by omega)
  have hup : ∀ r, 50 ≤ r → r ≤ 61 → ∃ v, aI σ' r = upd (aI σ r) (nT (gI σ 49)) v ∧ (52 ≤ r → r ≤ 58 → v = -2) := by
    intro r a b
    have h9 : r = 50 ∨ r = 51 ∨ r = 52 ∨ r = 53 ∨ r = 54 ∨ r = 55 ∨ r = 56 ∨ r = 57 ∨ r = 58 ∨ r = 59 ∨ r = 60 ∨ r = 61 := by omega
    rcases h9 with rfl | rfl | rfl | rfl | rfl | rfl | rfl | rfl | rfl | rfl | rfl | rfl <;> exact ⟨_, by assumption, fun q1 q2 => by first | rfl | omega⟩
  have hksl : ∀ n, ksl n = 0 ∨ (52 ≤ ksl n ∧ ksl n ≤ 58) := by
    intro n
    unfold ksl
    split <;> simp
  refine ⟨⟨⟨by rw [f14]; exact h1, by rw [e18, f62, f14]; exact h2, by rw [f17, f62]; exact h3, ⟨by unfold AG; rw [e18, e19, e22]; exact h4.1, hgz h4.2⟩, by rw [e49, f14, e18, e19]; omega⟩, by rw [e18, e19, e20, e21]; exact hE, by rw [e18, e19, e20]; exact hS, ?_, ?_, ?_, ?_, ?_, ?_, ?_⟩, ?_⟩
  · intro c hc
    rw [e18] at hc
    rw [e19, e20, e22, e23, e24, e49]
    obtain ⟨z1, z2, z3, z4, z5, z6, z7, z8, z9, za, zb, zc⟩ := hC c hc
    refine ⟨z1, z2, z3, z4, fun q => ⟨(z5 q).1, by have := (z5 q).2; lia⟩, z6, z7, fun q => (z8 q).imp id (fun z => ⟨z.1, by lia⟩), fun hk => ?_, by rw [f6]; exact za, by rw [f6, f3]; exact zb, ?_⟩
    · rcases hksl (nT (aI σ 19 c)) with z | z
      · exact absurd z hk
      · obtain ⟨v, e, -⟩ := hup _ (by omega) (by omega : ksl (nT (aI σ 19 c)) ≤ 61)
        have hlt := nT_lt (z5 (kslk hk)).1 (z5 (kslk hk)).2
        rw [e, upd_ne (by omega)]
        exact z9 hk
    · have zk : (aI σ 19 c = 26 ∨ aI σ 19 c = 29 ∨ aI σ 19 c = 50 ∨ aI σ 19 c = 32) → nT (aI σ 20 c) ≠ nT (gI σ 49) := by
        intro q
        have hko : kop (nT (aI σ 19 c)) = true := by rcases q with q | q | q | q <;> rw [q] <;> rfl
        have hlt := nT_lt (z5 hko).1 (z5 hko).2
        omega
      unfold tz
      rw [g51, g50]
      refine ⟨fun q => ?_, fun q => ?_, fun q => ?_, fun q => ?_⟩
      · rw [upd_ne (zk (by rcases q with q | q | q <;> simp [q]))]; exact zc.1 q
      · rw [upd_ne (zk (Or.inl q))]; exact zc.2.1 q
      · rw [upd_ne (zk (Or.inr (Or.inl q)))]; exact zc.2.2.1 q
      · rw [upd_ne (zk (Or.inr (Or.inr (Or.inr q))))]; exact zc.2.2.2 q
  · refine ⟨fun r a b q hq => ?_, fun q hq => ?_⟩
    · rw [e49, hN] at hq
      obtain ⟨v, e, ev⟩ := hup r (by omega) (by omega)
      rw [e, e18, e19, e20]
      by_cases z : q = nT (gI σ 49)
      · subst z
        rw [upd_eq]
        exact Or.inl (ev a b)
      · rw [upd_ne z]
        exact hT.1 r a b q (by omega)
    · rw [e49, hN] at hq
      rw [g51, g60, g61, g57, g50, g59, e18, e19, e20, e21]
      by_cases z : q = nT (gI σ 49)
      · subst z
        rw [upd_eq, upd_eq, upd_eq, upd_eq, upd_eq, upd_eq]
        exact ⟨⟨hn.2.1.1, Int32.le_refl _⟩, ht, Or.inl rfl, fun q => absurd q (by decide), ⟨hs, rfl⟩, hE⟩
      · rw [upd_ne z, upd_ne z, upd_ne z, upd_ne z, upd_ne z, upd_ne z]
        exact hT.2 q (by omega)
  · unfold UP; rw [e18, e19, e20]; exact hU
  · refine ⟨by rw [f62]; exact hF.1, fun i hi => ?_⟩
    rw [f62] at hi
    obtain ⟨z1, z2, z3⟩ := hF.2 i hi
    rw [f63, f64, f65, e49, e18]
    exact ⟨z1, ⟨z2.1, by lia⟩, z3⟩
  · unfold VT; rw [f42, f43]; exact hV
  · unfold MT; rw [f36, f37, f39, f40, f41, f42, e18, e19, e20, e21]; exact hM
  · unfold ZB; rw [e18, e19, e20, e21, f14]; exact ⟨hZ, hJ⟩
  · intro c hc hk
    rw [e18] at hc
    rw [e19] at hk
    rw [e20]
    have := ((hC c hc).2.2.2.2.1 hk).2
    intro q
    rw [q] at this
    exact Int32.lt_irrefl this
/-- a frame more -/
theorem PI.opn {σ σ' : RS} {E : List Nat} {s : SS} {k j : Int} (h : PI σ E s k j) (sort t p : Int32) (hk : k + 2 ≤ 20) (hd : gI σ 17 < 20) (hs : 0 ≤ sort ∧ sort ≤ 11) (ht : 0 ≤ t ∧ t < gI σ 49) (hp : ¬ sort = 0 → 0 ≤ p ∧ p < gI σ 18) (f14 : gI σ' 14 = gI σ 14 := by rfl) (f32 : gI σ' 32 = gI σ 32 := by rfl) (f49 : gI σ' 49 = gI σ 49 := by rfl) (f42 : gI σ' 42 = gI σ 42 := by rfl) (f36 : gI σ' 36 = gI σ 36 := by rfl) (e17 : gI σ' 17 = gI σ 17 + 1 := by rfl) (e62 : gI σ' 62 = gI σ 62 + 1 := by rfl) (e63 : aI σ' 63 = upd (aI σ 63) (nT (gI σ 62)) sort := by rfl) (e64 : aI σ' 64 = upd (aI σ 64) (nT (gI σ 62)) t := by rfl) (e65 : aI σ' 65 = upd (aI σ 65) (nT (gI σ 62)) p := by rfl) (f43 : aI σ' 43 = aI σ 43 := by rfl) (f37 : aI σ' 37 = aI σ 37 := by rfl) (f39 : aI σ' 39 = aI σ 39 := by rfl) (f40 : aI σ' 40 = aI σ 40 := by rfl) (f41 : aI σ' 41 = aI σ 41 := by rfl) (e18 : gI σ' 18 = gI σ 18 := by rfl) (e19 : aI σ' 19 = aI σ 19 := by rfl) (e20 : aI σ' 20 = aI σ 20 := by rfl) (e21 : aI σ' 21 = aI σ 21 := by rfl) (e22 : aI σ' 22 = aI σ 22 := by rfl) (e23 : aI σ' 23 = aI σ 23 := by rfl) (e24 : aI σ' 24 = aI σ 24 := by rfl) (f50 : aI σ' 50 = aI σ 50 := by rfl) (f51 : aI σ' 51 = aI σ 51 := by rfl) (f52 : aI σ' 52 = aI σ 52 := by rfl) (f53 : aI σ' 53 = aI σ 53 := by rfl) (f54 : aI σ' 54 = aI σ 54 := by rfl) (f55 : aI σ' 55 = aI σ 55 := by rfl) (f56 : aI σ' 56 = aI σ 56 := by rfl) (f57 : aI σ' 57 = aI σ 57 := by rfl) (f58 : aI σ' 58 = aI σ 58 := by rfl) (f59 : aI σ' 59 = aI σ 59 := by rfl) (f60 : aI σ' 60 = aI σ 60 := by rfl) (f61 : aI σ' 61 = aI σ 61 := by rfl) (f3 : aI σ' 3 = aI σ 3 := by rfl) (f6 : aI σ' 6 = aI σ 6 := by rfl) (hgz : GZ σ → GZ σ' := by exact fun h => h) : PI σ' E s (k + 2) j := by
  have hz := h.numz
  have hn := h.nums
  obtain ⟨⟨h1, h2, h3, h4, h5⟩, hE, hS, hC, hT, hU, hF, hV, hM, hZ, hJ⟩ := h
  have hks : ∀ r, 50 ≤ r → r ≤ 61 → aI σ' r = aI σ r := by
    intro r a b
    have h9 : r = 50 ∨ r = 51 ∨ r = 52 ∨ r = 53 ∨ r = 54 ∨ r = 55 ∨ r = 56 ∨ r = 57 ∨ r = 58 ∨ r = 59 ∨ r = 60 ∨ r = 61 := by omega
    rcases h9 with rfl | rfl | rfl | rfl | rfl | rfl | rfl | rfl | rfl | rfl | rfl | rfl <;> assumption
  have hksl : ∀ n, ksl n = 0 ∨ (52 ≤ ksl n ∧ ksl n ≤ 58) := by
    intro n
    unfold ksl
    split <;> simp
  have hd2 : (gI σ 17).toInt < 20 := Int32.lt_iff_toInt_lt.mp hd
  have hN : nT (gI σ 62 + 1) = nT (gI σ 62) + 1 := nT_add hn.2.2.2.2.2.1.1 (by lia)
  have u62 : (gI σ 62 + 1).toInt = (gI σ 62).toInt + 1 := t_add1 (by omega)
  have u17 : (gI σ 17 + 1).toInt = (gI σ 17).toInt + 1 := t_add1 (by omega)
  refine ⟨⟨by rw [f14]; exact h1, by rw [e18, e62, f14]; omega, by rw [e17, e62]; omega, ⟨by unfold AG; rw [e18, e19, e22]; exact h4.1, hgz h4.2⟩, by rw [f49, f14, e18, e19]; exact h5⟩, by rw [e18, e19, e20, e21]; exact hE, by rw [e18, e19, e20]; exact hS, ?_, ?_, ?_, ?_, ?_, ?_, ?_⟩
  · intro c hc
    rw [e18] at hc
    rw [e19, e20, e22, e23, e24, f49]
    obtain ⟨z1, z2, z3, z4, z5, z6, z7, z8, z9, za, zb, zc⟩ := hC c hc
    refine ⟨z1, z2, z3, z4, z5, z6, z7, z8, fun hk => ?_, by rw [f6]; exact za, by rw [f6, f3]; exact zb, by unfold tz; rw [hks 51 (by omega) (by omega), hks 50 (by omega) (by omega)]; exact zc⟩
    rcases hksl (nT (aI σ 19 c)) with z | z
    · exact absurd z hk
    · rw [hks _ (by omega) (by omega)]; exact z9 hk
  · unfold TI
    rw [f49, e18, e19, e20, e21, hks 51 (by omega) (by omega), hks 60 (by omega) (by omega), hks 61 (by omega) (by omega), hks 57 (by omega) (by omega), hks 50 (by omega) (by omega), hks 59 (by omega) (by omega)]
    exact ⟨fun r a b => by rw [hks r (by omega) (by omega)]; exact hT.1 r a b, hT.2⟩
  · unfold UP; rw [e18, e19, e20]; exact hU
  · refine ⟨by rw [e62]; exact ⟨by lia, t_le (by show (gI σ 62 + 1).toInt ≤ 40; omega)⟩, fun i hi => ?_⟩
    rw [e62, hN] at hi
    rw [e63, e64, e65, f49, e18]
    by_cases z : i = nT (gI σ 62)
    · subst z
      rw [upd_eq, upd_eq, upd_eq]
      exact ⟨hs, ht, hp⟩
    · rw [upd_ne z, upd_ne z, upd_ne z]
      exact hF.2 i (by omega)
  · unfold VT; rw [f42, f43]; exact hV
  · unfold MT; rw [f36, f37, f39, f40, f41, f42, e18, e19, e20, e21]; exact hM
  · unfold ZB; rw [e18, e19, e20, e21, f14]; exact ⟨hZ, hJ⟩
/-- a frame less -/
theorem PI.popf {σ σ' : RS} {E : List Nat} {s : SS} {k j : Int} (h : PI σ E s k j) (hp : 0 < gI σ 62) (f14 : gI σ' 14 = gI σ 14 := by rfl) (f32 : gI σ' 32 = gI σ 32 := by rfl) (f49 : gI σ' 49 = gI σ 49 := by rfl) (f42 : gI σ' 42 = gI σ 42 := by rfl) (f36 : gI σ' 36 = gI σ 36 := by rfl) (e17 : gI σ' 17 = gI σ 17 - 1 := by rfl) (e62 : gI σ' 62 = gI σ 62 - 1 := by rfl) (f63 : aI σ' 63 = aI σ 63 := by rfl) (f64 : aI σ' 64 = aI σ 64 := by rfl) (f65 : aI σ' 65 = aI σ 65 := by rfl) (f43 : aI σ' 43 = aI σ 43 := by rfl) (f37 : aI σ' 37 = aI σ 37 := by rfl) (f39 : aI σ' 39 = aI σ 39 := by rfl) (f40 : aI σ' 40 = aI σ 40 := by rfl) (f41 : aI σ' 41 = aI σ 41 := by rfl) (e18 : gI σ' 18 = gI σ 18 := by rfl) (e19 : aI σ' 19 = aI σ 19 := by rfl) (e20 : aI σ' 20 = aI σ 20 := by rfl) (e21 : aI σ' 21 = aI σ 21 := by rfl) (e22 : aI σ' 22 = aI σ 22 := by rfl) (e23 : aI σ' 23 = aI σ 23 := by rfl) (e24 : aI σ' 24 = aI σ 24 := by rfl) (f50 : aI σ' 50 = aI σ 50 := by rfl) (f51 : aI σ' 51 = aI σ 51 := by rfl) (f52 : aI σ' 52 = aI σ 52 := by rfl) (f53 : aI σ' 53 = aI σ 53 := by rfl) (f54 : aI σ' 54 = aI σ 54 := by rfl) (f55 : aI σ' 55 = aI σ 55 := by rfl) (f56 : aI σ' 56 = aI σ 56 := by rfl) (f57 : aI σ' 57 = aI σ 57 := by rfl) (f58 : aI σ' 58 = aI σ 58 := by rfl) (f59 : aI σ' 59 = aI σ 59 := by rfl) (f60 : aI σ' 60 = aI σ 60 := by rfl) (f61 : aI σ' 61 = aI σ 61 := by rfl) (f3 : aI σ' 3 = aI σ 3 := by rfl) (f6 : aI σ' 6 = aI σ 6 := by rfl) (hgz : GZ σ → GZ σ' := by exact fun h => h) : PI σ' E s k j := by
  have hz := h.numz
  have hn := h.nums
  obtain ⟨⟨h1, h2, h3, h4, h5⟩, hE, hS, hC, hT, hU, hF, hV, hM, hZ, hJ⟩ := h
  have hks : ∀ r, 50 ≤ r → r ≤ 61 → aI σ' r = aI σ r := by
    intro r a b
    have h9 : r = 50 ∨ r = 51 ∨ r = 52 ∨ r = 53 ∨ r = 54 ∨ r = 55 ∨ r = 56 ∨ r = 57 ∨ r = 58 ∨ r = 59 ∨ r = 60 ∨ r = 61 := by omega
    rcases h9 with rfl | rfl | rfl | rfl | rfl | rfl | rfl | rfl | rfl | rfl | rfl | rfl <;> assumption
  have hksl : ∀ n, ksl n = 0 ∨ (52 ≤ ksl n ∧ ksl n ≤ 58) := by
    intro n
    unfold ksl
    split <;> simp
  have hp2 : 0 < (gI σ 62).toInt := Int32.lt_iff_toInt_lt.mp hp
  have hN := nT_sub hp
  have u62 : (gI σ 62 - 1).toInt = (gI σ 62).toInt - 1 := t_sub1 (by omega)
  have u17 : (gI σ 17 - 1).toInt = (gI σ 17).toInt - 1 := t_sub1 (by omega)
  refine ⟨⟨by rw [f14]; exact h1, by rw [e18, e62, f14]; omega, by rw [e17, e62]; omega, ⟨by unfold AG; rw [e18, e19, e22]; exact h4.1, hgz h4.2⟩, by rw [f49, f14, e18, e19]; exact h5⟩, by rw [e18, e19, e20, e21]; exact hE, by rw [e18, e19, e20]; exact hS, ?_, ?_, ?_, ?_, ?_, ?_, ?_⟩
  · intro c hc
    rw [e18] at hc
    rw [e19, e20, e22, e23, e24, f49]
    obtain ⟨z1, z2, z3, z4, z5, z6, z7, z8, z9, za, zb, zc⟩ := hC c hc
    refine ⟨z1, z2, z3, z4, z5, z6, z7, z8, fun hk => ?_, by rw [f6]; exact za, by rw [f6, f3]; exact zb, by unfold tz; rw [hks 51 (by omega) (by omega), hks 50 (by omega) (by omega)]; exact zc⟩
    rcases hksl (nT (aI σ 19 c)) with z | z
    · exact absurd z hk
    · rw [hks _ (by omega) (by omega)]; exact z9 hk
  · unfold TI
    rw [f49, e18, e19, e20, e21, hks 51 (by omega) (by omega), hks 60 (by omega) (by omega), hks 61 (by omega) (by omega), hks 57 (by omega) (by omega), hks 50 (by omega) (by omega), hks 59 (by omega) (by omega)]
    exact ⟨fun r a b => by rw [hks r (by omega) (by omega)]; exact hT.1 r a b, hT.2⟩
  · unfold UP; rw [e18, e19, e20]; exact hU
  · refine ⟨by rw [e62]; exact ⟨by lia, by lia⟩, fun i hi => ?_⟩
    rw [e62] at hi
    rw [f63, f64, f65, f49, e18]
    exact hF.2 i (by omega)
  · unfold VT; rw [f42, f43]; exact hV
  · unfold MT; rw [f36, f37, f39, f40, f41, f42, e18, e19, e20, e21]; exact hM
  · unfold ZB; rw [e18, e19, e20, e21, f14]; exact ⟨hZ, hJ⟩
/-- a variable more -/
theorem PI.var {σ σ' : RS} {E : List Nat} {s : SS} {k j : Int} (h : PI σ E s k j) (t : Int32) (hv : gI σ 42 < 60) (ht : 0 ≤ t ∧ t ≤ 500) (f14 : gI σ' 14 = gI σ 14 := by rfl) (f17 : gI σ' 17 = gI σ 17 := by rfl) (f32 : gI σ' 32 = gI σ 32 := by rfl) (f49 : gI σ' 49 = gI σ 49 := by rfl) (f62 : gI σ' 62 = gI σ 62 := by rfl) (f36 : gI σ' 36 = gI σ 36 := by rfl) (e42 : gI σ' 42 = gI σ 42 + 1 := by rfl) (e43 : aI σ' 43 = upd (aI σ 43) (nT (gI σ 42)) t := by rfl) (f63 : aI σ' 63 = aI σ 63 := by rfl) (f64 : aI σ' 64 = aI σ 64 := by rfl) (f65 : aI σ' 65 = aI σ 65 := by rfl) (f37 : aI σ' 37 = aI σ 37 := by rfl) (f39 : aI σ' 39 = aI σ 39 := by rfl) (f40 : aI σ' 40 = aI σ 40 := by rfl) (f41 : aI σ' 41 = aI σ 41 := by rfl) (e18 : gI σ' 18 = gI σ 18 := by rfl) (e19 : aI σ' 19 = aI σ 19 := by rfl) (e20 : aI σ' 20 = aI σ 20 := by rfl) (e21 : aI σ' 21 = aI σ 21 := by rfl) (e22 : aI σ' 22 = aI σ 22 := by rfl) (e23 : aI σ' 23 = aI σ 23 := by rfl) (e24 : aI σ' 24 = aI σ 24 := by rfl) (f50 : aI σ' 50 = aI σ 50 := by rfl) (f51 : aI σ' 51 = aI σ 51 := by rfl) (f52 : aI σ' 52 = aI σ 52 := by rfl) (f53 : aI σ' 53 = aI σ 53 := by rfl) (f54 : aI σ' 54 = aI σ 54 := by rfl) (f55 : aI σ' 55 = aI σ 55 := by rfl) (f56 : aI σ' 56 = aI σ 56 := by rfl) (f57 : aI σ' 57 = aI σ 57 := by rfl) (f58 : aI σ' 58 = aI σ 58 := by rfl) (f59 : aI σ' 59 = aI σ 59 := by rfl) (f60 : aI σ' 60 = aI σ 60 := by rfl) (f61 : aI σ' 61 = aI σ 61 := by rfl) (f3 : aI σ' 3 = aI σ 3 := by rfl) (f6 : aI σ' 6 = aI σ 6 := by rfl) (hgz : GZ σ → GZ σ') : PI σ' E s k j := by
  have hz := h.numz
  have hn := h.nums
  obtain ⟨⟨h1, h2, h3, h4, h5⟩, hE, hS, hC, hT, hU, hF, hV, hM, hZ, hJ⟩ := h
  have hks : ∀ r, 50 ≤ r → r ≤ 61 → aI σ' r = aI σ r := by
    intro r a b
    have h9 : r = 50 ∨ r = 51 ∨ r = 52 ∨ r = 53 ∨ r = 54 ∨ r = 55 ∨ r = 56 ∨ r = 57 ∨ r = 58 ∨ r = 59 ∨ r = 60 ∨ r = 61 := by omega
    rcases h9 with rfl | rfl | rfl | rfl | rfl | rfl | rfl | rfl | rfl | rfl | rfl | rfl <;> assumption
  have hksl : ∀ n, ksl n = 0 ∨ (52 ≤ ksl n ∧ ksl n ≤ 58) := by
    intro n
    unfold ksl
    split <;> simp
  have hN : nT (gI σ 42 + 1) = nT (gI σ 42) + 1 := nT_add hn.2.2.2.2.2.2.1.1 (by lia)
  refine ⟨⟨by rw [f14]; exact h1, by rw [e18, f62, f14]; exact h2, by rw [f17, f62]; exact h3, ⟨by unfold AG; rw [e18, e19, e22]; exact h4.1, hgz h4.2⟩, by rw [f49, f14, e18, e19]; exact h5⟩, by rw [e18, e19, e20, e21]; exact hE, by rw [e18, e19, e20]; exact hS, ?_, ?_, ?_, ?_, ?_, ?_, ?_⟩
  · intro c hc
    rw [e18] at hc
    rw [e19, e20, e22, e23, e24, f49]
    obtain ⟨z1, z2, z3, z4, z5, z6, z7, z8, z9, za, zb, zc⟩ := hC c hc
    refine ⟨z1, z2, z3, z4, z5, z6, z7, z8, fun hk => ?_, by rw [f6]; exact za, by rw [f6, f3]; exact zb, by unfold tz; rw [hks 51 (by omega) (by omega), hks 50 (by omega) (by omega)]; exact zc⟩
    rcases hksl (nT (aI σ 19 c)) with z | z
    · exact absurd z hk
    · rw [hks _ (by omega) (by omega)]; exact z9 hk
  · unfold TI
    rw [f49, e18, e19, e20, e21, hks 51 (by omega) (by omega), hks 60 (by omega) (by omega), hks 61 (by omega) (by omega), hks 57 (by omega) (by omega), hks 50 (by omega) (by omega), hks 59 (by omega) (by omega)]
    exact ⟨fun r a b => by rw [hks r (by omega) (by omega)]; exact hT.1 r a b, hT.2⟩
  · unfold UP; rw [e18, e19, e20]; exact hU
  · unfold FI; rw [f62, f63, f64, f65, f49, e18]; exact hF
  · refine ⟨by rw [e42]; exact ⟨by lia, by lia⟩, fun v hv => ?_⟩
    rw [e42, hN] at hv
    rw [e43]
    by_cases z : v = nT (gI σ 42)
    · subst z; rw [upd_eq]; exact ht
    · rw [upd_ne z]; exact hV.2 v (by omega)
  · refine ⟨by rw [f36]; exact hM.1, fun m hm => ?_⟩
    rw [f36] at hm
    obtain ⟨z1, z2, z3, z4, z5, z6⟩ := hM.2 m hm
    rw [f37, f39, f40, f41, e42, e18, e19, e20, e21]
    exact ⟨z1, z2, ⟨z3.1, by have := z3.2; lia, by have := z3.2; lia⟩, z4, z5, z6⟩
  · unfold ZB; rw [e18, e19, e20, e21, f14]; exact ⟨hZ, hJ⟩
