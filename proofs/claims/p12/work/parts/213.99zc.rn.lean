/-! an exp's code -/
theorem WQ.up {σ τ : RS} {c : Nat} {p : Int32} (h : WQ (sI σ 141 p) c τ) : WQ σ c τ := by
  have hX : Ry σ (sI σ 141 p) := Ry.rf.i rfl
  have hs := hX.z.se
  obtain ⟨h1, h2, h3⟩ := h
  refine ⟨hX.z.tr h1, h2, ?_⟩
  rcases h3 with q | ⟨q1, q2, q3, q4⟩
  · exact Or.inl q
  · refine Or.inr ⟨q1, hs.sy.ra q2, q3, ?_⟩
    rw [hs.evp, hs.evp] at q4
    exact q4
/-- with pc set behind the code -/
theorem RA.ws {σ : RS} (hG : RG σ) (h : RA σ σ) : (0 ≤ gI σ 141 ∧ nT (gI σ 141) < nT (gI σ 18)) ∧ RG (sI σ 141 (gI σ 141 + 1)) ∧ WS (sI σ 141 (gI σ 141 + 1)) (nT (gI σ 141)) := by
  obtain ⟨i, h, t0, m, l, z, a1, hB, ⟨⟨w1, w2⟩, w3, w4⟩, c1, d1, d2⟩ := h
  have hm := (hB.le hG).2.2.1
  have hc := hG.in_ w2 w3 hm
  have hX : Ry σ (sI σ 141 (gI σ 141 + 1)) := Ry.rf.i rfl
  have hs := hX.z.se
  have hz := hG.k.sz.2
  have hk3 : gI σ 141 < 3020 := (nlt w1 (by decide)).mpr (by show _ < 3020; omega)
  refine ⟨⟨w1, hc⟩, hG.fz hX.z, ⟨hc, by show 0 ≤ gI σ 141 + 1; lia, nT_add w1 (by lia)⟩, i, h, t0, m, l, z, a1, hs.bl (hB.eq (fun _ _ => ⟨rfl, rfl⟩) (fun _ _ _ _ _ => rfl)), ⟨by rw [hs.est]; exact w3, by rw [hs.ezt]; exact w4⟩, c1, d1, hs.tt (d2.eq (fun _ _ _ _ _ => rfl))⟩
theorem CN.pc {σ : RS} {p : Int32} (h : CN σ) : CN (sI σ 141 p) := h.ry (Ry.rf.i rfl)
/-- on within an exp -/
theorem step_e {σ τ : RS} {c p : Nat} {z z' : List Nat} (hG : RG σ) (hC : CN σ) (hS : WS σ c) (ho : nT (aI σ 19 c) ≤ 18) (s2 : zt σ c = some z) (hcp : c < p) (hp : p ≤ nT (gI σ 18)) (hst : st σ p = st σ c) (g3 : zt σ p = some z') (hf : Ry σ τ) (h142 : gI τ 142 = 0) (h129 : gI τ 129 = gI σ 129) (h133 : gI τ 133 = gI σ 133) (hy : ∀ k, 134 ≤ k → k ≤ 139 → aI τ k = aI σ k) (h141 : 0 ≤ gI τ 141 ∧ nT (gI τ 141) = p) (h128 : 0 ≤ gI τ 128 ∧ nT (gI τ 128) + wz z = nT (gI σ 128) + wz z') : WQ σ c τ := by
  obtain ⟨l, m, z0, l', z1, ⟨s1, s3⟩, -⟩ := hS.cd hG
  exact step_to hC hS s1 s2 hf h142 h129 h133 hy h141 hp (by rw [hst, s1]) rfl g3 h128 (vp_exp hG.k hcp hp (by omega) hst)
/-- what stands on the pile at an exp's code -/
theorem WS.ex {σ : RS} {c : Nat} (hG : RG σ) (hS : WS σ c) (ho : nT (aI σ 19 c) ≤ 18) : ∃ z z', (zt σ c = some z ∧ zt σ (c + 1) = some z' ∧ gd z ∧ gd z') ∧ eT (nT (aI σ 19 c)) (aI σ 20 c) (aI σ 21 c) (aI σ 81 c) z = some z' ∧ st σ (c + 1) = st σ c ∧ (0 ≤ gI σ 128 ∧ wz z ≤ nT (gI σ 128) ∧ nT (gI σ 128) ≤ 7530 + 251) := by
  have hb := hS
  obtain ⟨⟨w1, w2, w3⟩, i, h, t0, m, l, z, a1, hB, ⟨q1, q2⟩, ⟨c1, c2⟩, d1, d2⟩ := hS
  obtain ⟨z0, z', ⟨g1, g2⟩, ⟨g3, g4⟩, g5⟩ := hG.cd w1
  obtain rfl : z0 = z := Option.some.inj (g1.symm.trans q2)
  have hl := hG.wz (Nat.le_of_lt w1) q2
  have hl2 := wz_le z0
  have hh := (hB.le hG).1
  exact ⟨z0, z', ⟨g1, g3, g2, g4⟩, g5, by rw [WS.st1 hG w1 ho q1, q1], c1, by omega, by omega⟩
/-- behind a link -/
theorem RG.lnk {σ : RS} (hG : RG σ) {c : Nat} (hc : c < nT (gI σ 18)) (ho : nT (aI σ 19 c) = 8 ∨ nT (aI σ 19 c) = 10 ∨ nT (aI σ 19 c) = 12 ∨ nT (aI σ 19 c) = 13) {z : List Nat} (hz : zt σ c = some z) : (0 ≤ aI σ 125 c ∧ c < nT (aI σ 125 c) ∧ nT (aI σ 125 c) < nT (gI σ 18)) ∧ st σ (nT (aI σ 125 c) + 1) = st σ c ∧ ∃ r, (((nT (aI σ 19 c) = 8 ∨ nT (aI σ 19 c) = 10) ∧ z = 0 :: r ∧ zt σ (c + 1) = some (1 :: r) ∧ zt σ (nT (aI σ 125 c) + 1) = some (0 :: r)) ∨ (nT (aI σ 19 c) = 12 ∧ z = 0 :: r ∧ zt σ (c + 1) = some (2 :: r) ∧ zt σ (nT (aI σ 125 c) + 1) = some (3 :: r)) ∨ (nT (aI σ 19 c) = 13 ∧ z = 0 :: 2 :: r ∧ zt σ (nT (aI σ 125 c) + 1) = some (0 :: r))) := by
  have hld := hG.2.2 c hc (by unfold isl; omega)
  obtain ⟨h1, h2, h3, h4, r0, h5⟩ := hld
  obtain ⟨z0, z', ⟨g1, g2⟩, ⟨g3, g4⟩, g5⟩ := hG.cd hc
  obtain rfl : z0 = z := Option.some.inj (g1.symm.trans hz)
  obtain ⟨w, w', ⟨k1, k2⟩, ⟨k3, k4⟩, k5⟩ := hG.cd h3
  have hE1 := Et_Es _ _ g3
  have hE2 := Et_Es _ _ k3
  -- what stands open is the same all along
  have hst : ∀ d i, c + d = i → i ≤ nT (aI σ 125 c) + 1 → st σ i = st σ c := by
    intro d
    induction d with
    | zero => intro i e _; rw [← e]; rfl
    | succ d ih =>
      intro i e hi
      have q := ih (c + d) rfl (by omega)
      have hlt : c + d < nT (gI σ 18) := by omega
      obtain ⟨_, _, s0, s', P⟩ := hG.k.j.pc hlt
      have q2 := WS.st1 hG hlt (h4 (c + d) (by omega) (by omega)) (l := s0.1) (m := s0.2) P.hs
      rw [← e, show c + (d + 1) = c + d + 1 from rfl, q2, ← q]
      exact P.hs.symm
  refine ⟨⟨h1, h2, h3⟩, hst (nT (aI σ 125 c) + 1 - c) _ (by omega) (Nat.le_refl _), ?_⟩
  -- a void value never stands under or in an operator
  have tl : ∀ {x : Nat} {t : List Nat}, gd (x :: t) → er t = t := fun q => er_id q.2
  rcases h5 with ⟨a1, a2, a3, a4⟩ | ⟨a1, a2, a3, a4⟩ | ⟨a1, a2, a3, a4⟩
  · have e1 := Option.some.inj (hE1.symm.trans a2)
    have hz2 : ∃ r, z0 = 0 :: r ∧ z' = 1 :: r := by
      rcases a1 with q | q <;> rw [q] at g5 <;> simp only [eT] at g5 <;> (split at g5) <;> first
        | (cases g5; done)
        | (split at g5
           · rename_i x r hx
             obtain rfl := Option.some.inj g5
             have q3 := g4.1
             have : x = 0 := by omega
             subst this
             exact ⟨r, rfl, rfl⟩
           · cases g5)
    obtain ⟨r, b1, b2⟩ := hz2
    subst b1
    subst b2
    have e2 := Option.some.inj (hE2.symm.trans a3)
    have e3 : er r = r0 := (List.cons.inj e1).2
    have hw : ∃ r2, w' = 0 :: r2 := by
      rcases a4 with q | q | q <;> rw [q] at k5 <;> simp only [eT] at k5 <;> (split at k5) <;> first
        | (cases k5; done)
        | exact ⟨_, (Option.some.inj k5).symm⟩
    obtain ⟨r2, b3⟩ := hw
    subst b3
    have e4 : er r2 = r0 := (List.cons.inj e2).2
    have e5 : r2 = r := by rw [← tl k4, e4, ← e3, tl g4]
    subst e5
    exact ⟨r2, Or.inl ⟨a1, rfl, g3, k3⟩⟩
  · have e1 := Option.some.inj (hE1.symm.trans a2)
    have hz2 : ∃ r, z0 = 0 :: r ∧ z' = 2 :: r := by
      rw [a1] at g5
      simp only [eT] at g5
      split at g5
      · split at g5
        · rename_i x r hx
          obtain rfl := Option.some.inj g5
          have q3 := g4.1
          have : x = 0 := by omega
          subst this
          exact ⟨r, rfl, rfl⟩
        · cases g5
      · cases g5
    obtain ⟨r, b1, b2⟩ := hz2
    subst b1
    subst b2
    have e2 := Option.some.inj (hE2.symm.trans a4)
    have e3 : er r = r0 := (List.cons.inj e1).2
    cases w' with
    | nil => cases e2
    | cons y r2 =>
      have e6 : y % 10 = 3 := (List.cons.inj e2).1
      have e4 : er r2 = r0 := (List.cons.inj e2).2
      have q3 := k4.1
      have : y = 3 := by omega
      subst this
      have e5 : r2 = r := by rw [← tl k4, e4, ← e3, tl g4]
      subst e5
      exact ⟨r2, Or.inr (Or.inl ⟨a1, rfl, g3, k3⟩)⟩
  · have e1 := Option.some.inj (hE1.symm.trans a2)
    have hz2 : ∃ r, z0 = 0 :: 2 :: r ∧ z' = 3 :: r := by
      rw [a1] at g5
      simp only [eT] at g5
      split at g5
      · split at g5
        · rename_i x y r hx
          obtain rfl := Option.some.inj g5
          have q3 := g4.1
          by_cases u : x < 10 ∧ y < 10
          · have hx0 : x = 0 := by omega
            have hy0 : y = 2 := by omega
            subst hx0
            subst hy0
            exact ⟨r, rfl, rfl⟩
          · rw [if_neg u] at q3
            exact absurd (q3 (by decide)) (by decide)
        · cases g5
      · cases g5
    obtain ⟨r, b1, b2⟩ := hz2
    subst b1
    subst b2
    have e2 := Option.some.inj (hE2.symm.trans a3)
    have e3 : er r = r0 := (List.cons.inj e1).2
    have hw : ∃ r2, w' = 0 :: r2 := by
      rcases a4 with q | q | q <;> rw [q] at k5 <;> simp only [eT] at k5 <;> (split at k5) <;> first
        | (cases k5; done)
        | exact ⟨_, (Option.some.inj k5).symm⟩
    obtain ⟨r2, b3⟩ := hw
    subst b3
    have e4 : er r2 = r0 := (List.cons.inj e2).2
    have e5 : r2 = r := by rw [← tl k4, e4, ← e3, tl g4]
    subst e5
    exact ⟨r2, Or.inr (Or.inr ⟨a1, rfl, k3⟩)⟩
