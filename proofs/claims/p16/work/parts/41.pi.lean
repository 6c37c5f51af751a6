/-! what holds of the codes, the things, the frames, the variables, the methods, between two pieces of the reading -/
def ce (o a t f l th : Int32) (ks : Nat → Nat → Int32) : Prop := (1 ≤ o ∧ o ≤ 54) ∧ (0 ≤ t ∧ t ≤ 500) ∧ (0 ≤ f ∧ f ≤ 500) ∧ (0 ≤ l ∧ l ≤ 500) ∧ (kop (nT o) = true → 0 ≤ a ∧ a < th) ∧ (o = 22 → 0 ≤ a ∧ a < 60) ∧ (o = 54 → 0 ≤ a ∧ a ≤ 9) ∧ ((o = 46 ∨ o = 47) → a = -2 ∨ (0 ≤ a ∧ a < th)) ∧ (ksl (nT o) ≠ 0 → 0 ≤ ks (ksl (nT o)) (nT a))
def CE (σ : RS) : Prop := ∀ c, c < nT (gI σ 18) → ce (aI σ 19 c) (aI σ 20 c) (aI σ 22 c) (aI σ 23 c) (aI σ 24 c) (gI σ 49) (aI σ)
def TI (σ : RS) : Prop := (∀ r, 52 ≤ r → r ≤ 58 → ∀ k, k < nT (gI σ 49) → aI σ r k = -2 ∨ (0 ≤ aI σ r k ∧ aI σ r k < gI σ 18 ∧ ksl (nT (aI σ 19 (nT (aI σ r k)))) = r ∧ nT (aI σ 20 (nT (aI σ r k))) = k)) ∧
  ∀ k, k < nT (gI σ 49) → (0 ≤ aI σ 51 k ∧ aI σ 51 k ≤ gI σ 18) ∧ (0 ≤ aI σ 60 k ∧ aI σ 60 k ≤ 500) ∧ (aI σ 61 k = -2 ∨ (0 ≤ aI σ 61 k ∧ aI σ 61 k < 60)) ∧ (0 ≤ aI σ 57 k → 0 ≤ aI σ 61 k) ∧ (0 ≤ aI σ 50 k ∧ aI σ 50 k ≤ 11)
def UP (σ : RS) : Prop := ∀ c d, c < d → d < nT (gI σ 18) → kpu (nT (aI σ 19 c)) = true → kpu (nT (aI σ 19 d)) = true → aI σ 20 c ≠ aI σ 20 d
def FI (σ : RS) : Prop := (0 ≤ gI σ 62 ∧ gI σ 62 ≤ 40) ∧ ∀ i, i < nT (gI σ 62) → (0 ≤ aI σ 63 i ∧ aI σ 63 i ≤ 11) ∧ (0 ≤ aI σ 64 i ∧ aI σ 64 i < gI σ 49) ∧ (¬ aI σ 63 i = 0 → 0 ≤ aI σ 65 i ∧ aI σ 65 i < gI σ 18)
def VT (σ : RS) : Prop := (0 ≤ gI σ 42 ∧ gI σ 42 ≤ 60) ∧ ∀ v, v < nT (gI σ 42) → 0 ≤ aI σ 43 v ∧ aI σ 43 v ≤ 500
def MT (σ : RS) : Prop := (0 ≤ gI σ 36 ∧ gI σ 36 ≤ 10) ∧ ∀ m, m < nT (gI σ 36) → (0 ≤ aI σ 37 m ∧ aI σ 37 m ≤ 500) ∧ (0 ≤ aI σ 39 m ∧ aI σ 39 m ≤ 6) ∧ (0 ≤ aI σ 40 m ∧ aI σ 40 m + aI σ 39 m ≤ gI σ 42) ∧ (0 ≤ aI σ 41 m ∧ aI σ 41 m ≤ gI σ 18) ∧ Es (aI σ 19) (aI σ 20) (aI σ 21) (nT (aI σ 41 m)) = some [] ∧ ∃ q, Ss (aI σ 19) (aI σ 20) (nT (aI σ 41 m)) = some ([], q)
/-- E: the pile ahead of the next code; s: what is begun there -/
def PI (σ : RS) (E : List Nat) (s : SS) (k j : Int) : Prop :=
  ((0 ≤ (gI σ 14).toInt ∧ (gI σ 14).toInt ≤ 500) ∧ (0 ≤ (gI σ 18).toInt ∧ (gI σ 18).toInt + 2 * (gI σ 62).toInt ≤ 6 * (gI σ 14).toInt + k ∧ k ≤ 20) ∧ ((gI σ 62).toInt = (gI σ 17).toInt ∧ (gI σ 17).toInt ≤ 20) ∧ (0 ≤ (gI σ 32).toInt ∧ (gI σ 32).toInt ≤ 500) ∧ (0 ≤ (gI σ 49).toInt ∧ (gI σ 49).toInt + j ≤ (gI σ 14).toInt + 1 ∧ 0 ≤ j)) ∧
  Es (aI σ 19) (aI σ 20) (aI σ 21) (nT (gI σ 18)) = some E ∧ Ss (aI σ 19) (aI σ 20) (nT (gI σ 18)) = some s ∧ CE σ ∧ TI σ ∧ UP σ ∧ FI σ ∧ VT σ ∧ MT σ
theorem PI.numz {σ : RS} {E : List Nat} {s : SS} {k j : Int} (h : PI σ E s k j) : (0 ≤ (gI σ 14).toInt ∧ (gI σ 14).toInt ≤ 500) ∧ (0 ≤ (gI σ 18).toInt ∧ (gI σ 18).toInt ≤ 3020) ∧ (0 ≤ (gI σ 17).toInt ∧ (gI σ 17).toInt ≤ 20) ∧ (0 ≤ (gI σ 32).toInt ∧ (gI σ 32).toInt ≤ 500) ∧ (0 ≤ (gI σ 49).toInt ∧ (gI σ 49).toInt ≤ 501) ∧ (0 ≤ (gI σ 62).toInt ∧ (gI σ 62).toInt ≤ 40) ∧ (0 ≤ (gI σ 42).toInt ∧ (gI σ 42).toInt ≤ 60) ∧ (0 ≤ (gI σ 36).toInt ∧ (gI σ 36).toInt ≤ 10) := by
  obtain ⟨⟨h1, h2, h3, h4, h5⟩, -, -, -, -, -, h6, h7, h8⟩ := h
  have f1 := t_0 h6.1.1
  have f2 : (gI σ 62).toInt ≤ 40 := Int32.le_iff_toInt_le.mp h6.1.2
  have v1 := t_0 h7.1.1
  have v2 : (gI σ 42).toInt ≤ 60 := Int32.le_iff_toInt_le.mp h7.1.2
  have m1 := t_0 h8.1.1
  have m2 : (gI σ 36).toInt ≤ 10 := Int32.le_iff_toInt_le.mp h8.1.2
  omega
theorem PI.nums {σ : RS} {E : List Nat} {s : SS} {k j : Int} (h : PI σ E s k j) : (0 ≤ gI σ 14 ∧ gI σ 14 ≤ 500) ∧ (0 ≤ gI σ 18 ∧ gI σ 18 ≤ 3020) ∧ (0 ≤ gI σ 17 ∧ gI σ 17 ≤ 20) ∧ (0 ≤ gI σ 32 ∧ gI σ 32 ≤ 500) ∧ (0 ≤ gI σ 49 ∧ gI σ 49 ≤ 501) ∧ (0 ≤ gI σ 62 ∧ gI σ 62 ≤ 40) ∧ (0 ≤ gI σ 42 ∧ gI σ 42 ≤ 60) ∧ (0 ≤ gI σ 36 ∧ gI σ 36 ≤ 10) := by
  obtain ⟨⟨a1, a2⟩, ⟨b1, b2⟩, ⟨c1, c2⟩, ⟨d1, d2⟩, ⟨e1, e2⟩, ⟨f1, f2⟩, ⟨g1, g2⟩, ⟨h1, h2⟩⟩ := h.numz
  exact ⟨⟨t_le a1, t_le a2⟩, ⟨t_le b1, t_le b2⟩, ⟨t_le c1, t_le c2⟩, ⟨t_le d1, t_le d2⟩, ⟨t_le e1, t_le e2⟩, ⟨t_le f1, t_le f2⟩, ⟨t_le g1, t_le g2⟩, ⟨t_le h1, t_le h2⟩⟩
/-- an exp can be read there -/
theorem PI.xp {σ : RS} {s : SS} {k j : Int} (h : PI σ [] s k j) : XP σ := by
  have hz := h.numz
  obtain ⟨⟨h1, h2, h3, h4, h5⟩, hE, -⟩ := h
  exact ⟨h1, ⟨h2.1, by omega⟩, ⟨by omega, h3.2⟩, h4, hE⟩
theorem nT_eq {x y : Int32} (hx : 0 ≤ x) (hy : 0 ≤ y) (h : nT x = nT y) : x = y := by
  obtain ⟨n, h2, h3, h4⟩ := nT_of hx
  obtain ⟨m, k2, k3, k4⟩ := nT_of hy
  rw [h3, k3]
  rw [h4, k4] at h
  rw [h]
theorem nT18 {o : Int32} (h1 : 1 ≤ o) (h2 : o ≤ 18) : nT o ≤ 18 := nT_le (y := 18) (by lia) h2
theorem kop18 {n : Nat} (h : n ≤ 18) : kop n = false ∧ kpu n = false ∧ ksl n = 0 := by
  have h9 : ∀ m, m ≤ 18 → kop m = false ∧ kpu m = false ∧ ksl m = 0 := by decide
  exact h9 n h
/-- behind an exp -/
theorem PI.exp {σ τ : RS} {s : SS} {k j : Int} (h : PI σ [] s k j) (hx : XE σ τ) (k' : Int) (hk : k' ≤ 20 ∧ k ≤ k' + 2) : PI τ [0] s k' j := by
  have hz := h.numz
  have hn := h.nums
  obtain ⟨⟨h1, h2, h3, h4, h5⟩, hE, hS, hC, hT, hU, hF, hV, hM⟩ := h
  obtain ⟨xF, xC, ⟨xp1, xp2⟩, xk, xd, xl, xr⟩ := hx
  obtain ⟨c1, c2, c3, c4, c5, c6⟩ := xC
  have e49 : gI τ 49 = gI σ 49 := xF.1 49 rfl
  have e62 : gI τ 62 = gI σ 62 := xF.1 62 rfl
  have e42 : gI τ 42 = gI σ 42 := xF.1 42 rfl
  have e36 : gI τ 36 = gI σ 36 := xF.1 36 rfl
  have ea : ∀ r, xA r = false → aI τ r = aI σ r := xF.2.2.1
  have hle := nT_le c1 c2
  have hc2z := Int32.le_iff_toInt_le.mp c2
  have hold : ∀ i, i < nT (gI σ 18) → aI τ 19 i = aI σ 19 i ∧ aI τ 20 i = aI σ 20 i ∧ aI τ 21 i = aI σ 21 i ∧ aI τ 22 i = aI σ 22 i ∧ aI τ 23 i = aI σ 23 i ∧ aI τ 24 i = aI σ 24 i := c4
  have e52 : ∀ r, 50 ≤ r → r ≤ 61 → aI τ r = aI σ r := by
    intro r a b
    apply ea
    have h9 : ∀ r, r < 62 → 50 ≤ r → xA r = false := by decide
    exact h9 r (by omega) a
  have hksl : ∀ n, ksl n = 0 ∨ (50 ≤ ksl n ∧ ksl n ≤ 61) := by
    intro n
    unfold ksl
    split <;> simp
  refine ⟨⟨⟨by omega, xp2⟩, ⟨by omega, by rw [e62]; omega, hk.1⟩, by rw [xd, e62]; exact h3, xl, by rw [e49]; omega⟩, c6, ?_, ?_, ?_, ?_, ?_, ?_, ?_⟩
  · refine Ss_exps (n := nT (gI σ 18)) ?_ _ hle (fun i a b => nT18 (c5 i a b).1 (c5 i a b).2.1)
    rw [Ss_congr (fun i hi => ⟨(hold i hi).1, (hold i hi).2.1⟩)]
    exact hS
  · intro c hc
    by_cases hq : c < nT (gI σ 18)
    · have h9 := hC c hq
      obtain ⟨q1, q2, q3, q4, q5, q6⟩ := hold c hq
      rw [q1, q2, q4, q5, q6, e49]
      obtain ⟨z1, z2, z3, z4, z5, z6, z7, z8, z9⟩ := h9
      refine ⟨z1, z2, z3, z4, z5, z6, z7, z8, fun hk => ?_⟩
      rcases hksl (nT (aI σ 19 c)) with z | z
      · exact absurd z hk
      · rw [e52 _ z.1 z.2]
        exact z9 hk
    · obtain ⟨y1, y2, y3, y4, y5, y6, y7, y8⟩ := c5 c (by omega) hc
      obtain ⟨k1, k2, k3⟩ := kop18 (nT18 y1 y2)
      refine ⟨⟨y1, by lia⟩, ⟨y3, y4⟩, ⟨y5, y6⟩, ⟨y7, y8⟩, fun q => absurd q (by rw [k1]; decide), fun q => absurd (q ▸ y2) (by decide), fun q => absurd (q ▸ y2) (by decide), fun q => q.elim (fun q => absurd (q ▸ y2) (by decide)) (fun q => absurd (q ▸ y2) (by decide)), fun q => absurd k3 q⟩
  · refine ⟨fun r a b kk hk => ?_, fun kk hk => ?_⟩
    · rw [e52 r (by omega) (by omega)]
      rw [e49] at hk
      rcases hT.1 r a b kk hk with z | ⟨z1, z2, z3, z4⟩
      · exact Or.inl z
      · obtain ⟨q1, q2, -⟩ := hold _ (nT_lt z1 z2)
        exact Or.inr ⟨z1, by lia, by rw [q1]; exact z3, by rw [q2]; exact z4⟩
    · rw [e49] at hk
      obtain ⟨z1, z2, z3, z4, z5⟩ := hT.2 kk hk
      rw [e52 51 (by omega) (by omega), e52 60 (by omega) (by omega), e52 61 (by omega) (by omega), e52 57 (by omega) (by omega), e52 50 (by omega) (by omega)]
      exact ⟨⟨z1.1, by lia⟩, z2, z3, z4, z5⟩
  · intro c d hcd hd k1 k2
    by_cases hq : d < nT (gI σ 18)
    · rw [(hold c (by omega)).1] at k1
      rw [(hold d hq).1] at k2
      rw [(hold c (by omega)).2.1, (hold d hq).2.1]
      exact hU c d hcd hq k1 k2
    · obtain ⟨y1, y2, -⟩ := c5 d (by omega) hd
      rw [(kop18 (nT18 y1 y2)).2.1] at k2
      cases k2
  · refine ⟨by rw [e62]; exact hF.1, fun i hi => ?_⟩
    rw [e62] at hi
    obtain ⟨z1, z2, z3⟩ := hF.2 i hi
    rw [ea 63 rfl, ea 64 rfl, ea 65 rfl, e49]
    exact ⟨z1, z2, fun q => ⟨(z3 q).1, by have := (z3 q).2; lia⟩⟩
  · refine ⟨by rw [e42]; exact hV.1, fun v hv => ?_⟩
    rw [e42] at hv
    rw [ea 43 rfl]
    exact hV.2 v hv
  · refine ⟨by rw [e36]; exact hM.1, fun m hm => ?_⟩
    rw [e36] at hm
    obtain ⟨z1, z2, z3, z4, z5, z6⟩ := hM.2 m hm
    have hm4 := nT_le z4.1 z4.2
    rw [ea 37 rfl, ea 39 rfl, ea 40 rfl, ea 41 rfl, e42, Es_congr (fun i hi => ⟨(hold i (by omega)).1, (hold i (by omega)).2.1, (hold i (by omega)).2.2.1⟩), Ss_congr (fun i hi => ⟨(hold i (by omega)).1, (hold i (by omega)).2.1⟩)]
    exact ⟨z1, z2, z3, ⟨z4.1, by lia⟩, z5, z6⟩
