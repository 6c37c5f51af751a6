/-! a code that leads on -/
theorem vp_exp {σ : RS} (h : PK σ) {c p : Nat} (hcp : c < p) (hp : p ≤ nT (gI σ 18)) (ho : ¬ (nT (aI σ 19 c) = 26 ∨ nT (aI σ 19 c) = 32)) (hs : st σ p = st σ c) : vp σ c < vp σ p := by
  have hz := h.sz.2
  have hle := vp_le h (show c ≤ nT (gI σ 18) by omega)
  have key : vp σ c < 25000000 := by
    unfold vp
    rw [if_neg ho]
    split
    · rename_i k r m' e
      have hs : st σ c = some ([] ++ (30, k) :: r, m') := e
      have := (h.tb (by omega) hs (Or.inr (Or.inl rfl)) (by decide)).1.2
      omega
    · rename_i k r m' e
      have hs : st σ c = some ([] ++ (34, k) :: r, m') := e
      have := (h.end (by omega) hs (by decide)).1
      omega
    · omega
  by_cases w : nT (aI σ 19 p) = 26 ∨ nT (aI σ 19 p) = 32
  · have e : vp σ p = 25000000 := by unfold vp; rw [if_pos w]
    rw [e]; exact key
  · unfold vp
    rw [if_neg w, if_neg ho, hs]
    split <;> omega
/-- to another place: the tries are the same -/
theorem step_to {σ τ : RS} {c p : Nat} {l l' : List (Nat × Nat)} {m : Nat} {z z' : List Nat} (hC : CN σ) (hS : WS σ c) (s1 : st σ c = some (l, m)) (s2 : zt σ c = some z) (hf : Ry σ τ) (h142 : gI τ 142 = 0) (h129 : gI τ 129 = gI σ 129) (h133 : gI τ 133 = gI σ 133) (hy : ∀ k, 134 ≤ k → k ≤ 139 → aI τ k = aI σ k) (h141 : 0 ≤ gI τ 141 ∧ nT (gI τ 141) = p) (hp : p ≤ nT (gI σ 18)) (g1 : st σ p = some (l', m)) (g2 : trs l' = trs l) (g3 : zt σ p = some z') (h128 : 0 ≤ gI τ 128 ∧ nT (gI τ 128) + wz z = nT (gI σ 128) + wz z') (hv : vp σ c < vp σ p) : WQ σ c τ := by
  obtain ⟨⟨w1, w2, w3⟩, i, h, t0, m0, l0, z0, a1, hB, ⟨q1, q2⟩, ⟨c1, c2⟩, d1, d2⟩ := hS
  have e1 := Option.some.inj (q1.symm.trans s1)
  obtain rfl : l0 = l := congrArg Prod.fst e1
  obtain rfl : m0 = m := congrArg Prod.snd e1
  obtain rfl : z0 = z := Option.some.inj (q2.symm.trans s2)
  have hY : ∀ t, Yq σ τ t := fun t s _ k k1 k2 => by rw [hy k k1 k2]
  refine ⟨hf.z, hC.ry hf, Or.inr ⟨h142, ⟨i, h, t0, m0, l', z', by rw [h129]; exact a1, hB.eq (fun s _ => ⟨by rw [hf.2.2.1 131 rfl], by rw [hf.2.2.1 132 rfl]⟩) (hY _), ⟨⟨h141.1, by rw [h141.2]; exact hp⟩, by rw [h141.2]; exact g1, by rw [h141.2]; exact g3⟩, ⟨h128.1, by have := h128.2; omega⟩, by rw [h133]; exact d1, ?_⟩, hf.1 145 rfl, Or.inr ⟨hf.1 144 rfl, Or.inr ⟨by rw [h129], by rw [h141.2]; exact hv⟩⟩⟩⟩
  rw [h133, g2]
  exact d2.eq (hY _)
/-- a code that counts -/
theorem step_cnt {σ τ : RS} {c : Nat} {l l' : List (Nat × Nat)} {m : Nat} {z : List Nat} (hC : CN σ) (hS : WS σ c) (s1 : st σ c = some (l, m)) (s2 : zt σ c = some z) (hf : Fz σ τ) (hCt : CN τ) (hn : ¬ gI σ 144 = gI σ 145) (h144 : gI τ 144 = gI σ 144 + 1) (h145 : gI τ 145 = gI σ 145) (h142 : gI τ 142 = 0) (h129 : gI τ 129 = gI σ 129) (h133 : gI τ 133 = gI σ 133) (hy : ∀ k, 131 ≤ k → k ≤ 139 → aI τ k = aI σ k) (h141 : gI τ 141 = gI σ 141) (h128 : gI τ 128 = gI σ 128) (g1 : st σ (c + 1) = some (l', m)) (g2 : trs l' = trs l) (g3 : zt σ (c + 1) = some z) : WQ σ c τ := by
  obtain ⟨⟨w1, w2, w3⟩, i, h, t0, m0, l0, z0, a1, hB, ⟨q1, q2⟩, ⟨c1, c2⟩, d1, d2⟩ := hS
  have e1 := Option.some.inj (q1.symm.trans s1)
  obtain rfl : l0 = l := congrArg Prod.fst e1
  obtain rfl : m0 = m := congrArg Prod.snd e1
  obtain rfl : z0 = z := Option.some.inj (q2.symm.trans s2)
  have hY : ∀ t, Yq σ τ t := fun t s _ k k1 k2 => by rw [hy k (by omega) k2]
  refine ⟨hf, hCt, Or.inr ⟨h142, ⟨i, h, t0, m0, l', z0, by rw [h129]; exact a1, hB.eq (fun s _ => ⟨by rw [hy 131 (by decide) (by decide)], by rw [hy 132 (by decide) (by decide)]⟩) (hY _), ⟨⟨by rw [h141]; exact w2, by rw [h141, w3]; exact w1⟩, by rw [h141, w3]; exact g1, by rw [h141, w3]; exact g3⟩, by rw [h128]; exact ⟨c1, c2⟩, by rw [h133]; exact d1, ?_⟩, MS.cnt hC hn h144 h145⟩⟩
  rw [h133, g2]
  exact d2.eq (hY _)
/-- what a statement's code does to the tries: nothing, but for 50 .. 53 -/
theorem sSt_trs {n : Nat} {a : Int32} {c : Nat} {s s' : SS} (h : sSt n a c s = some s') (hn : ¬ (50 ≤ n ∧ n ≤ 53)) : trs s'.1 = trs s.1 := by
  rcases sSt_cls h with ⟨e, -⟩ | ⟨hn2, e⟩ | ⟨hk, e⟩ | ⟨-, r, e1, e2⟩ | ⟨x, r, ht, e1, e2⟩ | ⟨x, r, ht, e1, e2⟩
  · rw [e]
  · rw [e, trs_out (by omega)]
  · rw [e, trs_out (by unfold kpu at hk; simp only [Bool.or_eq_true, beq_iff_eq] at hk; omega)]
  · rw [e2, e1, trs_out (by omega)]
  · rw [e2, e1]
    unfold tfr at ht
    simp only [Bool.or_eq_true, Bool.and_eq_true, beq_iff_eq] at ht
    rw [trs_out (by omega), trs_out (by omega)]
  · rw [e2, e1]
    unfold tcl at ht
    simp only [Bool.or_eq_true, Bool.and_eq_true, beq_iff_eq] at ht
    rw [trs_out (by omega)]
/-- the code itself, ahead and behind -/
theorem WS.cd {σ : RS} {c : Nat} (hG : RG σ) (hS : WS σ c) : ∃ l m z l' z', (st σ c = some (l, m) ∧ zt σ c = some z) ∧ (zt σ (c + 1) = some z') ∧ eT (nT (aI σ 19 c)) (aI σ 20 c) (aI σ 21 c) (aI σ 81 c) z = some z' ∧ (nT (aI σ 19 c) ≠ 54 → st σ (c + 1) = some (l', m) ∧ sSt (nT (aI σ 19 c)) (aI σ 20 c) c (l, m) = some (l', m)) ∧ (gd z ∧ z.length ≤ 251) := by
  obtain ⟨⟨w1, w2, w3⟩, i, h, t0, m, l, z, a1, hB, ⟨q1, q2⟩, ⟨c1, c2⟩, d1, d2⟩ := hS
  obtain ⟨z0, z', ⟨g1, g2⟩, ⟨g3, g4⟩, g5⟩ := hG.cd w1
  obtain rfl : z0 = z := Option.some.inj (g1.symm.trans q2)
  obtain ⟨_, _, s0, s', P⟩ := hG.k.j.pc w1
  have e0 := Option.some.inj (P.hs.symm.trans q1)
  refine ⟨l, m, z0, s'.1, z', ⟨q1, q2⟩, g3, g5, fun hn => ?_, g2, hG.wz (Nat.le_of_lt w1) q2⟩
  have em : s'.2 = m := by
    rw [(sSt_nl P.ss).2.2.1 hn, e0]
  have es : s' = (s'.1, m) := Prod.ext rfl em
  rw [← es, ← e0]
  exact ⟨P.hs', P.ss⟩
