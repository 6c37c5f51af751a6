/-! a statement's code: what it takes from the pile, and where it leads -/
theorem WS.nop {σ : RS} {c : Nat} (hG : RG σ) (hS : WS σ c) (ho : 19 ≤ nT (aI σ 19 c)) (hp : ¬ pop1 (nT (aI σ 19 c)) (aI σ 20 c) (aI σ 21 c)) : zt σ c = some [] := hG.ahd hS.1.1 ho hp
theorem WS.pop {σ : RS} {c : Nat} (hG : RG σ) (hS : WS σ c) (ho : 19 ≤ nT (aI σ 19 c)) (h21 : nT (aI σ 19 c) ≠ 21) (hp : pop1 (nT (aI σ 19 c)) (aI σ 20 c) (aI σ 21 c)) : zt σ c = some [0] ∧ (0 < gI σ 128 ∧ gI σ 128 ≤ 7800) := by
  obtain ⟨z, z', ⟨g1, g2⟩, -, g5⟩ := hG.cd hS.1.1
  rcases (eT_s ho g5).2 with ⟨x, q1, q2, q3, q4⟩ | ⟨-, q⟩
  · have e := q3 h21
    subst e
    subst q1
    refine ⟨g1, ?_⟩
    obtain ⟨⟨w1, w2, w3⟩, i, h, t0, m, l, z, a1, hB, ⟨q1, q2⟩, ⟨c1, c2⟩, d1, d2⟩ := hS
    obtain rfl : z = [0] := Option.some.inj (q2.symm.trans g1)
    have hb := (hB.le hG).1
    have c2 : nT (gI σ 128) = h + 1 := c2
    exact ⟨(nlt (by decide) c1).mpr (by rw [c2]; show 0 < h + 1; omega), (nle c1 (by decide)).mpr (by rw [c2]; show h + 1 ≤ 7800; omega)⟩
  · exact absurd hp q
theorem step_g {σ τ : RS} {c p : Nat} {l : List (Nat × Nat)} {m : Nat} {z : List Nat} (hC : CN σ) (hS : WS σ c) (s1 : st σ c = some (l, m)) (s2 : zt σ c = some z) (ht : Tg σ c l m p) (hf : Ry σ τ) (h142 : gI τ 142 = 0) (h129 : gI τ 129 = gI σ 129) (h133 : gI τ 133 = gI σ 133) (hy : ∀ k, 134 ≤ k → k ≤ 139 → aI τ k = aI σ k) (h141 : 0 ≤ gI τ 141 ∧ nT (gI τ 141) = p) (h128 : 0 ≤ gI τ 128 ∧ nT (gI τ 128) + wz z = nT (gI σ 128)) : WQ σ c τ := by
  obtain ⟨t1, ⟨l', t2, t3⟩, t4, t5⟩ := ht
  exact step_to hC hS s1 s2 hf h142 h129 h133 hy h141 t1 t2 t3 t4 ⟨h128.1, by have := h128.2; show _ = _ + 0; omega⟩ t5
/-- codes of exps that the run passes over -/
theorem step_x {σ τ : RS} {c : Nat} (hG : RG σ) (hC : CN σ) (h0 : gI σ 142 = 0) (hS : WS σ c) (ho : nT (aI σ 19 c) = 9 ∨ nT (aI σ 19 c) = 11 ∨ nT (aI σ 19 c) = 14 ∨ nT (aI σ 19 c) = 15) (e : τ = σ) : WQ σ c τ := by
  obtain ⟨l, m, z, l', z', ⟨s1, s2⟩, s3, s4, s5, s6⟩ := hS.cd hG
  have hw := hS.1
  have hst := WS.st1 hG hw.1 (by omega) s1
  have hwz : wz z = wz z' := by
    rcases ho with w | w | w | w <;> rw [w] at s4 <;> simp only [eT] at s4 <;> (split at s4) <;> first
      | (cases s4; done)
      | (obtain rfl := Option.some.inj s4; simp [wz]; done)
      | (split at s4
         · obtain rfl := Option.some.inj s4; rfl
         · cases s4)
      | (obtain rfl := Option.some.inj s4; rfl)
  subst e
  have hh : 0 ≤ gI τ 128 := by
    obtain ⟨-, i, h, t0, m, l, z, a1, hB, -, ⟨c1, c2⟩, -⟩ := hS
    exact c1
  exact step_to hC hS s1 s2 Ry.rf h0 rfl rfl (fun _ _ _ => rfl) ⟨hw.2.1, hw.2.2⟩ hw.1 hst rfl s3 ⟨hh, by omega⟩ (vp_exp hG.k (Nat.lt_succ_self c) hw.1 (by omega) (by rw [hst, s1]))
