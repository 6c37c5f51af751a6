/-! where ifs, loops and switches lead -/
theorem RG.tif {σ : RS} (hG : RG σ) {c : Nat} (hc : c < nT (gI σ 18)) {l : List (Nat × Nat)} {m : Nat} (hs : st σ c = some (l, m)) (ho : nT (aI σ 19 c) = 23) : (0 ≤ aI σ 56 (nT (aI σ 20 c)) → aI σ 56 (nT (aI σ 20 c)) < 3020 ∧ Tg σ c l m (nT (aI σ 56 (nT (aI σ 20 c))) + 1)) ∧ (0 ≤ aI σ 55 (nT (aI σ 20 c)) ∧ aI σ 55 (nT (aI σ 20 c)) < 3020) ∧ Tg σ c l m (nT (aI σ 55 (nT (aI σ 20 c))) + 1) := by
  have hz := hG.k.sz.2
  obtain ⟨_, _, s0, s', P⟩ := hG.k.j.pc hc
  have e0 := Option.some.inj (P.hs.symm.trans hs)
  have h1 := P.hce.1.1
  have h0 : 0 ≤ aI σ 19 c := by lia
  have e23 : aI σ 19 c = 23 := nTi ho 23 (by decide) (by decide) h0
  have hv : vp σ c = 5000 * c := vp_st hG.k hc (by rw [e23]; decide)
  have em : s'.2 = m := by rw [(sSt_nl P.ss).2.2.1 (by omega), e0]
  have ep := sSt_pu P.ss (by rw [ho]; rfl)
  rw [ho, e0] at ep
  have es : st σ (c + 1) = some ([] ++ (23, nT (aI σ 20 c)) :: l, m) := by
    rw [show st σ (c + 1) = some s' from P.hs']
    exact congrArg some (Prod.ext ep em)
  have hk := hG.k.thg (show c + 1 ≤ _ from hc) es (by decide)
  refine ⟨fun hf => ?_, ?_⟩
  · rcases hG.k.num hk (r := 56) (by omega) with q | ⟨q1, q2, q3, q4⟩
    · rw [q] at hf; exact absurd hf (by decide)
    · have hp : nT (aI σ 19 (nT (aI σ 56 (nT (aI σ 20 c))))) = 24 ∨ nT (aI σ 19 (nT (aI σ 56 (nT (aI σ 20 c))))) = 32 := by
        revert q3
        generalize nT (aI σ 19 (nT (aI σ 56 (nT (aI σ 20 c))))) = n
        intro p3
        unfold ksl at p3
        split at p3 <;> first | omega | (exact absurd p3 (by decide))
      rcases hp with w | w
      · have ht : ∃ y, tfr (nT (aI σ 19 (nT (aI σ 56 (nT (aI σ 20 c)))))) y = true := ⟨23, by rw [w]; rfl⟩
        obtain ⟨g1, -, g3, -⟩ := hG.k.code (show c + 1 ≤ _ from hc) q2 es (by decide) q4 (Or.inl ht)
        have g1 := g1 (by omega)
        have g3 := g3 ht
        rw [w] at g3
        have a2 := vp_ge hG.k (show nT (aI σ 56 (nT (aI σ 20 c))) + 1 ≤ _ from q2) g3 (fun k' r' e => by
          have := congrArg Prod.fst (List.cons.inj e).1
          exact absurd this (by show ¬ 24 = 30; decide))
        exact ⟨(nlt q1 (by decide)).mpr (by show _ < 3020; omega), q2, ⟨_, g3, trs_out (by decide)⟩, hG.beh q2 (by omega), by omega⟩
      · exfalso
        obtain ⟨_, _, s2, s3, P2⟩ := hG.k.j.pc q2
        have e2 := sSt_pu P2.ss (by rw [w]; rfl)
        rw [w, q4] at e2
        have e3 : st σ (nT (aI σ 56 (nT (aI σ 20 c))) + 1) = some ([] ++ (32, nT (aI σ 20 c)) :: s2.1, s3.2) := by
          rw [show st σ (nT (aI σ 56 (nT (aI σ 20 c))) + 1) = some s3 from P2.hs']
          exact congrArg some (Prod.ext e2 rfl)
        have := (hG.k.rest (show c + 1 ≤ _ from hc) (show nT (aI σ 56 (nT (aI σ 20 c))) + 1 ≤ _ from q2) es (by decide) e3 (by decide)).2.2
        exact absurd this (by decide)
  · obtain ⟨⟨g1, g2, g3⟩, g4, g5⟩ := hG.k.end (show c + 1 ≤ _ from hc) es (by decide)
    have a2 := vp_ge hG.k (show nT (aI σ 55 (nT (aI σ 20 c))) + 1 ≤ _ from g3) g4 (nz30 (hG.k.nzh (show c + 1 ≤ _ from hc) es (by decide)))
    exact ⟨⟨g1, (nlt g1 (by decide)).mpr (by show _ < 3020; omega)⟩, g3, ⟨l, g4, rfl⟩, hG.beh g3 g5, by omega⟩
theorem vp26 {σ : RS} {p : Nat} (h : nT (aI σ 19 p) = 26 ∨ nT (aI σ 19 p) = 32) : vp σ p = 25000000 := by
  unfold vp
  rw [if_pos h]
/-- back to a while's cond -/
theorem RG.twh {σ : RS} (hG : RG σ) {c k : Nat} (hc : c < nT (gI σ 18)) {r : List (Nat × Nat)} {m : Nat} (hs : st σ c = some ((27, k) :: r, m)) (hv : vp σ c = 5000 * c) : (0 ≤ aI σ 51 k) ∧ Tg σ c ((27, k) :: r) m (nT (aI σ 51 k)) := by
  have hz := hG.k.sz.2
  obtain ⟨⟨g1, g2⟩, g3, g4, g5⟩ := hG.k.tb (l := []) (Nat.le_of_lt hc) hs (Or.inl rfl) (by decide)
  have g3 : nT (aI σ 19 (nT (aI σ 51 k))) = 26 := g3
  refine ⟨g1, by omega, ⟨r, g5, (trs_out (by decide)).symm⟩, hG.ahd (by omega) (by omega) (by rw [g3]; unfold pop1; omega), ?_⟩
  rw [vp26 (Or.inl g3)]
  omega
/-- back into a do -/
theorem RG.tdo {σ : RS} (hG : RG σ) {c k : Nat} (hc : c < nT (gI σ 18)) {r : List (Nat × Nat)} {m : Nat} (hs : st σ c = some ((30, k) :: r, m)) (ho : nT (aI σ 19 c) = 31) : (0 ≤ aI σ 51 k ∧ aI σ 51 k < 3020) ∧ Tg σ c ((30, k) :: r) m (nT (aI σ 51 k) + 1) := by
  have hz := hG.k.sz.2
  obtain ⟨⟨g1, g2⟩, g3, g4, g5⟩ := hG.k.tb (l := []) (Nat.le_of_lt hc) hs (Or.inr (Or.inl rfl)) (by decide)
  have g3 : nT (aI σ 19 (nT (aI σ 51 k))) = 29 := g3
  have hp : nT (aI σ 51 k) < nT (gI σ 18) := by omega
  obtain ⟨_, _, s0, s', P⟩ := hG.k.j.pc hp
  have e0 := Option.some.inj (P.hs.symm.trans g5)
  have em : s'.2 = m := by rw [(sSt_nl P.ss).2.2.1 (by omega), e0]
  have ep := sSt_pu P.ss (by rw [g3]; rfl)
  rw [g3, e0, g4] at ep
  have es : st σ (nT (aI σ 51 k) + 1) = some ((29, k) :: r, m) := by
    rw [show st σ (nT (aI σ 51 k) + 1) = some s' from P.hs']
    exact congrArg some (Prod.ext ep em)
  have a2 := vp_ge hG.k (show nT (aI σ 51 k) + 1 ≤ _ from hp) es (fun k' r' e => by
    have := congrArg Prod.fst (List.cons.inj e).1
    exact absurd this (by show ¬ 29 = 30; decide))
  refine ⟨⟨g1, (nlt g1 (by decide)).mpr (by show _ < 3020; omega)⟩, hp, ⟨_, es, by rw [trs_out (by decide), trs_out (by decide)]⟩, hG.beh hp (by omega), ?_⟩
  have hv : vp σ c = 5000 * nT (aI σ 51 k) + c := by
    unfold vp
    rw [if_neg (by omega), hs]
    rfl
  omega
/-- a for: its body, its end -/
theorem RG.tfo {σ : RS} (hG : RG σ) {c : Nat} (hc : c < nT (gI σ 18)) {r : List (Nat × Nat)} {m : Nat} (hs : st σ c = some ((32, nT (aI σ 20 c)) :: r, m)) (ho : nT (aI σ 19 c) = 33) (hv : vp σ c = 5000 * c) : (0 ≤ aI σ 54 (nT (aI σ 20 c)) ∧ aI σ 54 (nT (aI σ 20 c)) < 3020) ∧ Tg σ c ((32, nT (aI σ 20 c)) :: r) m (nT (aI σ 54 (nT (aI σ 20 c))) + 1) := by
  have hz := hG.k.sz.2
  obtain ⟨_, _, s0, s', P⟩ := hG.k.j.pc hc
  obtain ⟨r2, g1, b, g2, g3, g4, g5, g6, g7, g8⟩ := hG.k.f33 hc P ho
  have ht : ∃ y, tfr (nT (aI σ 19 b)) y = true := ⟨34, by rw [g4]; rfl⟩
  obtain ⟨-, -, q, -⟩ := hG.k.code (l := []) (Nat.le_of_lt hc) g3 hs (by decide) g5 (Or.inl ht)
  have q := q ht
  rw [g4] at q
  have a2 := vp_ge hG.k (show b + 1 ≤ _ from g3) q (fun k' r' e => by
    have := congrArg Prod.fst (List.cons.inj e).1
    exact absurd this (by show ¬ 35 = 30; decide))
  rw [g8]
  refine ⟨⟨g7, (nlt g7 (by decide)).mpr (by rw [g8]; show _ < 3020; omega)⟩, g3, ⟨_, q, by rw [trs_out (by decide), trs_out (by decide)]⟩, hG.beh g3 (by omega), by omega⟩
/-- a for: its update -/
theorem RG.tfx {σ : RS} (hG : RG σ) {c k : Nat} (hc : c < nT (gI σ 18)) {r : List (Nat × Nat)} {m : Nat} (hs : st σ c = some ((35, k) :: r, m)) (he : nT (aI σ 55 k) = c) (hv : vp σ c = 5000 * c) : (0 ≤ aI σ 53 k ∧ aI σ 53 k < 3020) ∧ Tg σ c ((35, k) :: r) m (nT (aI σ 53 k) + 1) := by
  have hz := hG.k.sz.2
  obtain ⟨⟨g1, g2⟩, g3, g4, g5⟩ := hG.k.fu (l := []) (Nat.le_of_lt hc) hs
  have a2 := vp34 hG.k (show 1 ≤ nT (aI σ 53 k) + 1 by omega) (show nT (aI σ 53 k) + 1 ≤ _ from g2) g4
  exact ⟨⟨g1, (nlt g1 (by decide)).mpr (by show _ < 3020; omega)⟩, g2, ⟨_, g4, by rw [trs_out (by decide), trs_out (by decide)]⟩, hG.beh g2 (by omega), by omega⟩
/-- a for: back to its cond -/
theorem RG.tfb {σ : RS} (hG : RG σ) {c k : Nat} (hc : c < nT (gI σ 18)) {r : List (Nat × Nat)} {m : Nat} (hs : st σ c = some ((34, k) :: r, m)) (ho : nT (aI σ 19 c) = 35) : (0 ≤ aI σ 56 k) ∧ Tg σ c ((34, k) :: r) m (nT (aI σ 56 k)) := by
  have hz := hG.k.sz.2
  have hcl := Nat.le_of_lt hc
  obtain ⟨b, b1, b2, b3, b4⟩ := hG.k.beg (l := []) hcl hs (by decide)
  have b2b : nT (aI σ 19 b) = 32 := b2.2
  have hb : b < nT (gI σ 18) := by omega
  obtain ⟨p1, p2, p3, p4⟩ := hG.k.row hb ⟨b3, Or.inl b2.1⟩ (r := 56) (by rw [b2b]; rfl) (by decide) (by rw [b2b]; rfl)
  have hp : nT (aI σ 19 (nT (aI σ 56 k))) = 24 ∨ nT (aI σ 19 (nT (aI σ 56 k))) = 32 := by
    revert p3
    generalize nT (aI σ 19 (nT (aI σ 56 k))) = n
    intro p3
    unfold ksl at p3
    split at p3 <;> first | omega | (exact absurd p3 (by decide))
  have e : nT (aI σ 56 k) = b := by
    rcases hp with w | w
    · exfalso
      obtain ⟨_, _, s0, s1, P⟩ := hG.k.j.pc p2
      obtain ⟨-, ⟨y', g2, g3⟩, -, -⟩ := hG.k.code (l := []) hcl p2 hs (by decide) p4 (Or.inl ⟨23, by rw [w]; rfl⟩)
      rcases sSt_act P.ss (Or.inl ⟨23, by rw [w]; rfl⟩) with ⟨y2, r2, w1, w2, w3⟩ | ⟨y2, r2, w1, w2, w3⟩
      · have e1 := Option.some.inj (g3.symm.trans P.hs)
        rw [← e1] at w2
        have w4 : y' = y2 := congrArg Prod.fst (List.cons.inj w2).1
        rw [w] at w1
        unfold tfr at w1
        simp only [Bool.or_eq_true, Bool.and_eq_true, beq_iff_eq] at w1
        have w5 : y' = 23 := by omega
        rw [w5] at g2
        exact absurd g2.2 (by decide)
      · rw [w] at w1
        unfold tcl at w1
        simp only [Bool.or_eq_true, Bool.and_eq_true, beq_iff_eq] at w1
        omega
    · rcases Nat.lt_trichotomy (nT (aI σ 56 k)) b with q | q | q
      · exact absurd (p4.trans b3.symm) (hG.k.up _ _ q hb (by rw [w]; rfl) b2.1)
      · exact q
      · exact absurd (b3.trans p4.symm) (hG.k.up _ _ q p2 b2.1 (by rw [w]; rfl))
  rw [e]
  refine ⟨p1, by omega, ⟨r, b4, (trs_out (by decide)).symm⟩, hG.ahd hb (by omega) (by rw [b2b]; unfold pop1; omega), ?_⟩
  rw [vp26 (Or.inr b2b)]
  have he := (hG.k.end (l := []) hcl hs (by decide)).1.2.2
  have : vp σ c = 5000 * nT (aI σ 55 k) + c := by
    unfold vp
    rw [if_neg (by omega), hs]
    rfl
  omega
/-- a switch: a case, its default -/
theorem RG.tsw {σ : RS} (hG : RG σ) {c p : Nat} (hc : c < nT (gI σ 18)) {l : List (Nat × Nat)} {m : Nat} (hs : st σ c = some (l, m)) (ho : nT (aI σ 19 c) = 37) (hp : p < nT (gI σ 18)) (hop : nT (aI σ 19 p) = 38 ∨ nT (aI σ 19 p) = 39) (ha : nT (aI σ 20 p) = nT (aI σ 20 c)) : Tg σ c l m (p + 1) := by
  have hz := hG.k.sz.2
  obtain ⟨_, _, s0, s', P⟩ := hG.k.j.pc hc
  have e0 := Option.some.inj (P.hs.symm.trans hs)
  have h1 := P.hce.1.1
  have h0 : 0 ≤ aI σ 19 c := by lia
  have e37 : aI σ 19 c = 37 := nTi ho 37 (by decide) (by decide) h0
  have hv : vp σ c = 5000 * c := vp_st hG.k hc (by rw [e37]; decide)
  have em : s'.2 = m := by rw [(sSt_nl P.ss).2.2.1 (by omega), e0]
  have ep := sSt_pu P.ss (by rw [ho]; rfl)
  rw [ho, e0] at ep
  have es : st σ (c + 1) = some ([] ++ (37, nT (aI σ 20 c)) :: l, m) := by
    rw [show st σ (c + 1) = some s' from P.hs']
    exact congrArg some (Prod.ext ep em)
  obtain ⟨_, _, t0, t1, T⟩ := hG.k.j.pc hp
  have ht : (∃ r, t0.1 = (37, nT (aI σ 20 c)) :: r) ∧ t1 = t0 := by
    have q := T.ss
    rw [← ha]
    obtain ⟨l0, m0⟩ := t0
    rcases hop with w | w <;> rw [w] at q <;> simp only [sSt] at q <;> (split at q) <;> first
      | (cases q; done)
      | (split at q
         · rename_i y r hy
           subst hy
           exact ⟨⟨_, rfl⟩, (Option.some.inj q).symm⟩
         · cases q)
  obtain ⟨⟨r, hr⟩, e1⟩ := ht
  have hst : st σ p = some ([] ++ (37, nT (aI σ 20 c)) :: r, t0.2) := by
    rw [show st σ p = some t0 from T.hs]
    exact congrArg some (Prod.ext hr rfl)
  obtain ⟨g1, g2, -⟩ := hG.k.rest (show c + 1 ≤ _ from hc) (Nat.le_of_lt hp) es (by decide) hst (by decide)
  subst g1
  subst g2
  have hst2 : st σ (p + 1) = some ((37, nT (aI σ 20 c)) :: r, t0.2) := by
    rw [show st σ (p + 1) = some t1 from T.hs', e1]
    exact congrArg some (Prod.ext hr rfl)
  have hlt : c < p := by
    obtain ⟨b, b1, b2, b3, b4⟩ := hG.k.beg (Nat.le_of_lt hp) hst (by decide)
    have e : b = c := by
      rcases Nat.lt_trichotomy b c with q | q | q
      · exact absurd b3 (hG.k.up _ _ q hc b2.1 (by rw [ho]; rfl))
      · exact q
      · exact absurd b3.symm (hG.k.up _ _ q (by omega) (by rw [ho]; rfl) b2.1)
    omega
  have a2 := vp_ge hG.k (show p + 1 ≤ _ from hp) hst2 (fun k' r' e => by
    have := congrArg Prod.fst (List.cons.inj e).1
    exact absurd this (by show ¬ 37 = 30; decide))
  exact ⟨hp, ⟨_, hst2, trs_out (by decide)⟩, hG.beh hp (by omega), by omega⟩
/-- a switch: behind it -/
theorem RG.tse {σ : RS} (hG : RG σ) {c : Nat} (hc : c < nT (gI σ 18)) {l : List (Nat × Nat)} {m : Nat} (hs : st σ c = some (l, m)) (ho : nT (aI σ 19 c) = 37) : (0 ≤ aI σ 55 (nT (aI σ 20 c)) ∧ aI σ 55 (nT (aI σ 20 c)) < 3020) ∧ Tg σ c l m (nT (aI σ 55 (nT (aI σ 20 c))) + 1) := by
  have hz := hG.k.sz.2
  obtain ⟨_, _, s0, s', P⟩ := hG.k.j.pc hc
  have e0 := Option.some.inj (P.hs.symm.trans hs)
  have h1 := P.hce.1.1
  have h0 : 0 ≤ aI σ 19 c := by lia
  have e37 : aI σ 19 c = 37 := nTi ho 37 (by decide) (by decide) h0
  have hv : vp σ c = 5000 * c := vp_st hG.k hc (by rw [e37]; decide)
  have em : s'.2 = m := by rw [(sSt_nl P.ss).2.2.1 (by omega), e0]
  have ep := sSt_pu P.ss (by rw [ho]; rfl)
  rw [ho, e0] at ep
  have es : st σ (c + 1) = some ([] ++ (37, nT (aI σ 20 c)) :: l, m) := by
    rw [show st σ (c + 1) = some s' from P.hs']
    exact congrArg some (Prod.ext ep em)
  obtain ⟨⟨g1, g2, g3⟩, g4, g5⟩ := hG.k.end (show c + 1 ≤ _ from hc) es (by decide)
  have a2 := vp_ge hG.k (show nT (aI σ 55 (nT (aI σ 20 c))) + 1 ≤ _ from g3) g4 (nz30 (hG.k.nzh (show c + 1 ≤ _ from hc) es (by decide)))
  exact ⟨⟨g1, (nlt g1 (by decide)).mpr (by show _ < 3020; omega)⟩, g3, ⟨l, g4, rfl⟩, hG.beh g3 g5, by omega⟩
