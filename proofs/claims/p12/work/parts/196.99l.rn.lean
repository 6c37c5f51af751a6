/-! breaks, continues, catches, finallys -/
theorem PK.nzh {σ : RS} (h : PK σ) {c : Nat} (hc : c ≤ nT (gI σ 18)) {l : List (Nat × Nat)} {x k : Nat} {r : List (Nat × Nat)} {m : Nat} (hs : st σ c = some (l ++ (x, k) :: r, m)) (h20 : x ≠ 20) : ¬ zh r := by
  obtain ⟨b, b1, b2, b3, b4⟩ := h.beg hc hs h20
  intro hz
  have q := h.zp (show b < nT (gI σ 18) by omega) b4 hz
  have k1 := b2.1
  have w : ∀ {n : Int32} {v : Nat}, aI σ 19 b = n → nT n = v → kpu v = false → False := by
    intro n v e1 e2 e3
    rw [e1, e2, e3] at k1
    cases k1
  rcases q with q | q | q | q
  · unfold kpu at k1
    simp only [Bool.or_eq_true, beq_iff_eq] at k1
    omega
  · exact w q (v := 21) (by decide) (by decide)
  · exact w q (v := 31) (by decide) (by decide)
  · exact w q (v := 35) (by decide) (by decide)
theorem nz30 {l : List (Nat × Nat)} (h : ¬ zh l) : ∀ k r, l ≠ (30, k) :: r := by
  intro k r e
  subst e
  exact h (Or.inl rfl)
theorem vp_st {σ : RS} (h : PK σ) {c : Nat} (hc : c < nT (gI σ 18)) (ho : ¬ nT (aI σ 19 c) ≤ 18 ∧ ¬ aI σ 19 c = 21 ∧ ¬ aI σ 19 c = 31 ∧ ¬ aI σ 19 c = 35 ∧ ¬ aI σ 19 c = 26 ∧ ¬ aI σ 19 c = 32) : vp σ c = 5000 * c := by
  obtain ⟨_, _, s0, s1, P⟩ := h.j.pc hc
  have h1 := P.hce.1.1
  have h0 : 0 ≤ aI σ 19 c := by lia
  have hz : ¬ zh s0.1 := by
    intro q
    rcases h.zp hc P.hs q with q | q | q | q
    · exact ho.1 q
    · exact ho.2.1 q
    · exact ho.2.2.1 q
    · exact ho.2.2.2.1 q
  unfold vp
  rw [if_neg (fun q => ?_), show st σ c = some s0 from P.hs]
  · split
    · rename_i k r m' e
      rw [Option.some.inj e] at hz
      exact absurd (Or.inl rfl) hz
    · rename_i k r m' e
      rw [Option.some.inj e] at hz
      exact absurd (Or.inr rfl) hz
    · rfl
  · rcases q with q | q
    · exact ho.2.2.2.2.1 (nTi q 26 (by decide) (by decide) h0)
    · exact ho.2.2.2.2.2 (nTi q 32 (by decide) (by decide) h0)
/-- a finally ahead -/
theorem RG.fin {σ : RS} (h : RG σ) {c : Nat} (hc : c ≤ nT (gI σ 18)) {l : List (Nat × Nat)} {x k : Nat} {r : List (Nat × Nat)} {m : Nat} (hs : st σ c = some (l ++ (x, k) :: r, m)) (hx : 50 ≤ x ∧ x < 52) (hf : 0 ≤ aI σ 58 k) : (c ≤ nT (aI σ 58 k) ∧ nT (aI σ 58 k) < nT (gI σ 18)) ∧ st σ (nT (aI σ 58 k) + 1) = some ((52, k) :: r, m) ∧ zt σ (nT (aI σ 58 k) + 1) = some [] ∧ nT (aI σ 19 (nT (aI σ 58 k))) = 52 ∧ (¬ (nT (aI σ 19 c) = 26 ∨ nT (aI σ 19 c) = 32) → vp σ c < vp σ (nT (aI σ 58 k) + 1)) := by
  have hx0 := bs_t (x := x) (by omega)
  have hk := h.k.thg hc hs hx0.2
  rcases h.k.num hk (r := 58) (by omega) with q | ⟨q1, q2, q3, q4⟩
  · rw [q] at hf; exact absurd hf (by decide)
  · have ho : nT (aI σ 19 (nT (aI σ 58 k))) = 52 := by
      rcases ksl_inv q3 (by omega) with z | z | z | z | z <;> first | exact absurd z.1 (by decide) | exact z.2
    have ht : ∃ y, tfr (nT (aI σ 19 (nT (aI σ 58 k)))) y = true := ⟨50, by rw [ho]; rfl⟩
    obtain ⟨g1, ⟨y, g2, g3⟩, g4, -⟩ := h.k.code hc q2 hs hx0.2 q4 (Or.inl ht)
    have g1 := g1 (by omega)
    have g4 := g4 ht
    rw [ho] at g4
    refine ⟨⟨g1, q2⟩, g4, h.beh q2 (by omega), ho, fun w => ?_⟩
    have a1 := vp_try h.k g1 q2 w hs (by omega) g3 g2.1
    have a2 := vp_ge h.k (show nT (aI σ 58 k) + 1 ≤ _ from q2) g4 (fun k' r' e => by
      have := congrArg Prod.fst (List.cons.inj e).1
      exact absurd this (by show ¬ 52 = 30; decide))
    omega
/-- a catch ahead -/
theorem RG.cat {σ : RS} (h : RG σ) {c : Nat} (hc : c ≤ nT (gI σ 18)) {l : List (Nat × Nat)} {k : Nat} {r : List (Nat × Nat)} {m : Nat} (hs : st σ c = some (l ++ (50, k) :: r, m)) (hf : 0 ≤ aI σ 57 k) : (c ≤ nT (aI σ 57 k) ∧ nT (aI σ 57 k) < nT (gI σ 18)) ∧ st σ (nT (aI σ 57 k) + 1) = some ((51, k) :: r, m) ∧ zt σ (nT (aI σ 57 k) + 1) = some [] ∧ nT (aI σ 19 (nT (aI σ 57 k))) = 51 ∧ (¬ (nT (aI σ 19 c) = 26 ∨ nT (aI σ 19 c) = 32) → vp σ c < vp σ (nT (aI σ 57 k) + 1)) ∧ (0 ≤ aI σ 61 k ∧ aI σ 61 k < 60) := by
  have hk := h.k.thg hc hs (by decide)
  rcases h.k.num hk (r := 57) (by omega) with q | ⟨q1, q2, q3, q4⟩
  · rw [q] at hf; exact absurd hf (by decide)
  · have ho : nT (aI σ 19 (nT (aI σ 57 k))) = 51 := by
      rcases ksl_inv q3 (by omega) with z | z | z | z | z <;> first | exact absurd z.1 (by decide) | exact z.2
    have ht : ∃ y, tfr (nT (aI σ 19 (nT (aI σ 57 k)))) y = true := ⟨50, by rw [ho]; rfl⟩
    obtain ⟨g1, ⟨y, g2, g3⟩, g4, -⟩ := h.k.code hc q2 hs (by decide) q4 (Or.inl ht)
    have g1 := g1 (by omega)
    have g4 := g4 ht
    rw [ho] at g4
    refine ⟨⟨g1, q2⟩, g4, h.beh q2 (by omega), ho, fun w => ?_, ?_⟩
    · have a1 := vp_try h.k g1 q2 w hs (by omega) g3 g2.1
      have a2 := vp_ge h.k (show nT (aI σ 57 k) + 1 ≤ _ from q2) g4 (fun k' r' e => by
        have := congrArg Prod.fst (List.cons.inj e).1
        exact absurd this (by show ¬ 51 = 30; decide))
      omega
    · obtain ⟨f, kk, j, hp⟩ := h.k
      have hT := hp.2.2.2.2.1.2 k hk
      have t1 : aI σ 61 k = -2 ∨ (0 ≤ aI σ 61 k ∧ aI σ 61 k < 60) := hT.2.2.1
      have t2 : 0 ≤ aI σ 57 k → 0 ≤ aI σ 61 k := hT.2.2.2.1
      have t3 := t2 hf
      rcases t1 with e | e
      · rw [e] at t3; exact absurd t3 (by decide)
      · exact e
/-- the thing of a jump -/
theorem RG.jmp {σ : RS} (h : RG σ) {c : Nat} (hc : c < nT (gI σ 18)) (ho : aI σ 19 c = 46 ∨ aI σ 19 c = 47) {l : List (Nat × Nat)} {m : Nat} (hs : st σ c = some (l, m)) : (0 ≤ aI σ 20 c ∧ nT (aI σ 20 c) < nT (gI σ 49)) ∧ ∃ l1 x r, l = l1 ++ (x, nT (aI σ 20 c)) :: r ∧ jo (nT (aI σ 19 c)) x := by
  have h0 := (h.ec hc).2.2.2.1 ho
  obtain ⟨f, kk, j, hp⟩ := h.k
  have hJ : ∀ c, c < nT (gI σ 18) → (aI σ 19 c = 46 ∨ aI σ 19 c = 47) → aI σ 20 c = -2 ∨ ∃ s, Ss (aI σ 19) (aI σ 20) c = some s ∧ ∃ q ∈ s.1, q.2 = nT (aI σ 20 c) ∧ jo (nT (aI σ 19 c)) q.1 := hp.2.2.2.2.2.2.2.2.2.2.1
  rcases hJ c hc ho with e | ⟨s, e1, ⟨x, k⟩, e2, e3, e4⟩
  · rw [e] at h0; exact absurd h0 (by decide)
  · have e5 := Option.some.inj (hs.symm.trans e1)
    rw [← e5] at e2
    obtain ⟨l1, r, e6⟩ := List.append_of_mem e2
    have e3 : k = nT (aI σ 20 c) := e3
    subst e3
    refine ⟨⟨h0, ?_⟩, l1, x, r, e6, e4⟩
    have e6 : l = l1 ++ (x, nT (aI σ 20 c)) :: r := e6
    rw [e6] at hs
    exact h.k.thg (Nat.le_of_lt hc) hs (fun z => by
      have e4 : jo (nT (aI σ 19 c)) x := e4
      unfold jo at e4
      omega)
theorem RG.brk {σ : RS} (h : RG σ) {c : Nat} (hc : c < nT (gI σ 18)) (ho : aI σ 19 c = 46) {l : List (Nat × Nat)} {m : Nat} (hs : st σ c = some (l, m)) : GT σ m (aI σ 55 (nT (aI σ 20 c)) + 1) (trs l) ∧ vp σ c < vp σ (nT (aI σ 55 (nT (aI σ 20 c)) + 1)) := by
  obtain ⟨-, l1, x, r, e, hj⟩ := h.jmp hc (Or.inl ho) hs
  subst e
  have hz := h.k.sz
  have hx : x ≠ 20 ∧ ¬ (50 ≤ x ∧ x ≤ 52) := by unfold jo at hj; omega
  have hcl := Nat.le_of_lt hc
  obtain ⟨⟨g1, g2, g3⟩, g4, g5⟩ := h.k.end hcl hs hx.1
  have hv : vp σ c = 5000 * c := vp_st h.k hc (by rw [ho]; decide)
  have hk3 : aI σ 55 (nT (aI σ 20 c)) < 3020 := (nlt g1 (by decide)).mpr (by show _ < 3020; omega)
  have e1 : nT (aI σ 55 (nT (aI σ 20 c)) + 1) = nT (aI σ 55 (nT (aI σ 20 c))) + 1 := nT_add g1 (by lia)
  have a2 := vp_ge h.k (show nT (aI σ 55 (nT (aI σ 20 c))) + 1 ≤ _ from g3) g4 (nz30 (h.k.nzh hcl hs hx.1))
  obtain ⟨y, hy, hyst⟩ : ∃ y, y ≠ 20 ∧ ∃ r' m', st σ (nT (aI σ 55 (nT (aI σ 20 c)))) = some ((y, nT (aI σ 20 c)) :: r', m') := by
    obtain ⟨b, e, ⟨q1, q2, q3⟩, q4, ⟨q5, q6, q7, q8, q9⟩, q10⟩ := h.k.life hcl hs hx.1
    obtain ⟨-, ⟨y, w1, w2⟩, -⟩ := h.k.code hcl q3 hs hx.1 q6 (Or.inr q5)
    rw [q9]
    exact ⟨y, w1.1, _, _, w2⟩
  obtain ⟨r', m', hyst⟩ := hyst
  refine ⟨GT.of h.k hcl hs hx.2 (by lia) ⟨by rw [e1]; exact g3, by rw [e1]; exact h.beh g3 g5, by rw [e1]; exact g4⟩ rfl (fun l1' xq q l2 e hxq => ?_), by rw [e1]; omega⟩
  subst e
  rw [List.append_assoc] at hs
  have hs : st σ c = some (l1' ++ (xq, q) :: (l2 ++ (x, nT (aI σ 20 c)) :: r), m) := hs
  have a3 := h.k.ord g2 (Nat.le_of_lt g3) hs (bs_t hxq).2 hx.1 hyst hy
  rw [e1]
  exact ⟨Or.inr (by omega), by omega⟩
