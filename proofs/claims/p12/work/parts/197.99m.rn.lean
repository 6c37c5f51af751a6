/-! continues -/
theorem PK.kz {σ : RS} (h : PK σ) {c : Nat} (hc : c ≤ nT (gI σ 18)) {l : List (Nat × Nat)} {x k : Nat} {r : List (Nat × Nat)} {m : Nat} (hs : st σ c = some (l ++ (x, k) :: r, m)) (h20 : x ≠ 20) : (bs x = 26 → aI σ 50 k = 4) ∧ (bs x = 29 → aI σ 50 k = 5) ∧ (bs x = 32 → aI σ 50 k = 6) := by
  obtain ⟨b, b1, b2, b3, b4⟩ := h.beg hc hs h20
  obtain ⟨_, _, s0, s1, P⟩ := h.j.pc (show b < nT (gI σ 18) by omega)
  have h1 := P.hce.1.1
  have h0 : 0 ≤ aI σ 19 b := by lia
  have z := P.hce.2.2.2.2.2.2.2.2.2.2.2.2
  have q := b2.2
  rw [b3] at z
  refine ⟨fun w => ?_, fun w => ?_, fun w => ?_⟩ <;> rw [w] at q
  · exact z.1 (nTi q 26 (by decide) (by decide) h0)
  · exact z.2.1 (nTi q 29 (by decide) (by decide) h0)
  · exact z.2.2 (nTi q 32 (by decide) (by decide) h0)
/-- the cond of a do -/
theorem PK.dc {σ : RS} (h : PK σ) {c : Nat} (hc : c ≤ nT (gI σ 18)) {l : List (Nat × Nat)} {k : Nat} {r : List (Nat × Nat)} {m : Nat} (hs : st σ c = some (l ++ (29, k) :: r, m)) : (0 ≤ aI σ 52 k ∧ c ≤ nT (aI σ 52 k) ∧ nT (aI σ 52 k) < nT (gI σ 18)) ∧ nT (aI σ 19 (nT (aI σ 52 k))) = 30 ∧ st σ (nT (aI σ 52 k)) = some ((29, k) :: r, m) := by
  obtain ⟨d, d1, d2, ⟨m1, d3⟩, d4, d5, d6⟩ := Ss_next h.fin (show (29 : Nat) ≠ 20 by decide) _ c hc rfl l m hs
  have ho : nT (aI σ 19 d) = 30 := by
    rcases d5 with ⟨g1, -⟩ | ⟨g1, -⟩
    · exact (tfr_to g1).2.2.1 rfl
    · exact absurd rfl (tcl_to g1).2.1.2.2.2.2.1
  have ha : acts (aI σ 19) (aI σ 20) k d := ⟨d4, Or.inr (Or.inl ⟨29, by rw [ho]; rfl⟩)⟩
  obtain ⟨p1, p2, p3, p4⟩ := h.row d2 ha (r := 52) (by rw [ho]; rfl) (by decide) (by rw [ho]; rfl)
  have hm : m1 = m := (h.rest (l' := []) hc (Nat.le_of_lt d2) hs (by decide) d3 (by decide)).2.1
  have e : nT (aI σ 52 k) = d := by
    have hp : nT (aI σ 19 (nT (aI σ 52 k))) = 27 ∨ nT (aI σ 19 (nT (aI σ 52 k))) = 30 ∨ nT (aI σ 19 (nT (aI σ 52 k))) = 33 ∨ nT (aI σ 19 (nT (aI σ 52 k))) = 37 := by
      revert p3
      generalize nT (aI σ 19 (nT (aI σ 52 k))) = n
      intro p3
      unfold ksl at p3
      split at p3 <;> first | omega | (exact absurd p3 (by decide))
    obtain ⟨_, _, s0, s1, P⟩ := h.j.pc p2
    have bad : ∀ {y : Nat}, tfr (nT (aI σ 19 (nT (aI σ 52 k)))) y = true → bs y ≠ 29 → (∀ y', tfr (nT (aI σ 19 (nT (aI σ 52 k)))) y' = true → y' = y) → False := by
      intro y t1 t2 t3
      obtain ⟨-, ⟨y', g2, g3⟩, g4, -⟩ := h.code hc p2 hs (by decide) p4 (Or.inl ⟨y, t1⟩)
      rcases sSt_act P.ss (Or.inl ⟨y, t1⟩) with ⟨y2, r2, w1, w2, w3⟩ | ⟨y2, r2, w1, w2, w3⟩
      · have e1 := Option.some.inj (g3.symm.trans P.hs)
        rw [← e1] at w2
        have w4 := congrArg Prod.fst (List.cons.inj w2).1
        have w4 : y' = y2 := w4
        have w5 := t3 y2 w1
        subst w4
        rw [w5] at g2
        exact t2 g2.2
      · unfold tfr at t1
        unfold tcl at w1
        simp only [Bool.or_eq_true, Bool.and_eq_true, beq_iff_eq] at t1 w1
        omega
    rcases hp with q | q | q | q
    · exfalso
      refine bad (y := 26) (by rw [q]; rfl) (by decide) (fun y' w => ?_)
      rw [q] at w
      unfold tfr at w
      simp only [Bool.or_eq_true, Bool.and_eq_true, beq_iff_eq] at w
      omega
    · have hb : acts (aI σ 19) (aI σ 20) k (nT (aI σ 52 k)) := ⟨p4, Or.inr (Or.inl ⟨29, by rw [q]; rfl⟩)⟩
      rcases Nat.lt_trichotomy (nT (aI σ 52 k)) d with w | w | w
      · have := (acts_lt h w d2 hb ha).1
        omega
      · exact w
      · have := (acts_lt h w p2 ha hb).1
        omega
    · exfalso
      refine bad (y := 32) (by rw [q]; rfl) (by decide) (fun y' w => ?_)
      rw [q] at w
      unfold tfr at w
      simp only [Bool.or_eq_true, Bool.and_eq_true, beq_iff_eq] at w
      omega
    · exfalso
      have w := sSt_pu P.ss (by rw [q]; rfl)
      rw [p4, q] at w
      have e1 : st σ (nT (aI σ 52 k) + 1) = some ([] ++ (37, k) :: s0.1, s1.2) := by
        rw [show st σ (nT (aI σ 52 k) + 1) = some s1 from P.hs']
        exact congrArg some (Prod.ext w rfl)
      have := (h.rest hc (show nT (aI σ 52 k) + 1 ≤ _ from p2) hs (by decide) e1 (by decide)).2.2
      exact absurd this (by decide)
  rw [e]
  refine ⟨⟨p1, d1, d2⟩, ho, ?_⟩
  rw [← hm]
  exact d3
theorem vp34 {σ : RS} (h : PK σ) {p : Nat} (h1 : 1 ≤ p) (hp : p ≤ nT (gI σ 18)) {k : Nat} {r : List (Nat × Nat)} {m : Nat} (hs : st σ p = some ((34, k) :: r, m)) : 5000 * nT (aI σ 55 k) < vp σ p := by
  have hz := h.sz.2
  have he := (h.end (l := []) hp hs (by decide)).1.2.2
  unfold vp
  split
  · omega
  · rw [hs]
    show _ < 5000 * nT (aI σ 55 k) + p
    omega
/-- the update of a for -/
theorem PK.fu {σ : RS} (h : PK σ) {c : Nat} (hc : c ≤ nT (gI σ 18)) {l : List (Nat × Nat)} {k : Nat} {r : List (Nat × Nat)} {m : Nat} (hs : st σ c = some (l ++ (35, k) :: r, m)) : (0 ≤ aI σ 53 k ∧ nT (aI σ 53 k) < nT (gI σ 18)) ∧ nT (aI σ 19 (nT (aI σ 53 k))) = 34 ∧ st σ (nT (aI σ 53 k) + 1) = some ((34, k) :: r, m) ∧ nT (aI σ 53 k) + 1 < c := by
  obtain ⟨e, e1, e2, e3, e4, -⟩ := h.f35 hc hs
  obtain ⟨_, _, s0, s1, P⟩ := h.j.pc e2
  obtain ⟨r2, g1, g2, g3, u, b, g4, g5, g6, g7, g8, g9, g10, g11⟩ := h.f36 e2 P e3
  rw [e4] at g7 g9 g10
  have hu : u < nT (gI σ 18) := by omega
  obtain ⟨-, -, q, -⟩ := h.code hc hu hs (by decide) g7 (Or.inl ⟨33, by rw [g6]; rfl⟩)
  have q := q ⟨33, by rw [g6]; rfl⟩
  rw [g6] at q
  obtain ⟨d, d1, d2, d3, d4, d5⟩ := Ss_born c _ hs l 35 k r rfl (by decide)
  have w := (h.code (l := []) (show u + 1 ≤ _ from hu) (show d < nT (gI σ 18) by omega) q (by decide) d3 (Or.inl ⟨34, by rw [d2]; rfl⟩)).1 (by omega)
  rw [g10]
  exact ⟨⟨g9, hu⟩, g6, q, by omega⟩
/-- above -/
theorem PK.abv {σ : RS} (h : PK σ) {c : Nat} (hc : c ≤ nT (gI σ 18)) {l1 l2 : List (Nat × Nat)} {xq q x k : Nat} {r : List (Nat × Nat)} {m : Nat} (hs : st σ c = some ((l1 ++ (xq, q) :: l2) ++ (x, k) :: r, m)) (hx : 50 ≤ xq ∧ xq ≤ 52) : (nT (aI σ 51 q) < c ∧ st σ (nT (aI σ 51 q)) = some (l2 ++ (x, k) :: r, m)) ∧ nT (aI σ 55 q) < nT (gI σ 18) ∧ st σ c = some (l1 ++ (xq, q) :: (l2 ++ (x, k) :: r), m) := by
  rw [List.append_assoc] at hs
  have hs : st σ c = some (l1 ++ (xq, q) :: (l2 ++ (x, k) :: r), m) := hs
  have hx0 := bs_t hx
  have g1 := h.tb hc hs (Or.inr (Or.inr hx0.1)) hx0.2
  have g2 := h.end hc hs hx0.2
  exact ⟨⟨g1.1.2, g1.2.2.2⟩, g2.1.2.2, hs⟩
theorem RG.cnt {σ : RS} (h : RG σ) {c : Nat} (hc : c < nT (gI σ 18)) (ho : aI σ 19 c = 47) {l : List (Nat × Nat)} {m : Nat} (hs : st σ c = some (l, m)) :
    (aI σ 50 (nT (aI σ 20 c)) = 4 → GT σ m (aI σ 51 (nT (aI σ 20 c))) (trs l) ∧ vp σ c < vp σ (nT (aI σ 51 (nT (aI σ 20 c))))) ∧
    (aI σ 50 (nT (aI σ 20 c)) = 5 → GT σ m (aI σ 52 (nT (aI σ 20 c))) (trs l) ∧ vp σ c < vp σ (nT (aI σ 52 (nT (aI σ 20 c))))) ∧
    (¬ aI σ 50 (nT (aI σ 20 c)) = 4 → ¬ aI σ 50 (nT (aI σ 20 c)) = 5 → GT σ m (aI σ 53 (nT (aI σ 20 c)) + 1) (trs l) ∧ vp σ c < vp σ (nT (aI σ 53 (nT (aI σ 20 c)) + 1))) := by
  obtain ⟨-, l1, x, r, e, hj⟩ := h.jmp hc (Or.inr ho) hs
  subst e
  have hz := h.k.sz
  have hj : x = 27 ∨ x = 29 ∨ x = 35 := by
    unfold jo at hj
    rw [ho] at hj
    rcases hj with q | q | q | q
    · exact Or.inl q
    · exact Or.inr (Or.inl q)
    · exact Or.inr (Or.inr q)
    · exact absurd q.1 (by decide)
  have hcl := Nat.le_of_lt hc
  have hv : vp σ c = 5000 * c := vp_st h.k hc (by rw [ho]; decide)
  have hkz := h.k.kz hcl hs (by omega)
  rcases hj with rfl | rfl | rfl
  · have e4 := hkz.1 rfl
    refine ⟨fun _ => ?_, fun w => ?_, fun w => absurd e4 w⟩
    · obtain ⟨⟨g1, g2⟩, g3, g4, g5⟩ := h.k.tb hcl hs (Or.inl rfl) (by decide)
      have g3 : nT (aI σ 19 (nT (aI σ 51 (nT (aI σ 20 c))))) = 26 := g3
      have hvt : vp σ (nT (aI σ 51 (nT (aI σ 20 c)))) = 25000000 := by
        unfold vp
        rw [if_pos (Or.inl g3)]
      rw [hvt]
      refine ⟨GT.of h.k hcl hs (by decide) g1 ⟨by omega, h.ahd (by omega) (by omega) (by rw [g3]; unfold pop1; omega), g5⟩ rfl (fun l1' xq q l2 e hxq => ?_), by omega⟩
      subst e
      obtain ⟨⟨a1, a2⟩, a3, -⟩ := h.k.abv hcl hs hxq
      have := (h.k.tb (show nT (aI σ 51 q) ≤ _ by omega) a2 (Or.inl rfl) (by decide)).1.2
      rw [hvt]
      exact ⟨Or.inl this, by omega⟩
    · rw [e4] at w; exact absurd w (by decide)
  · have e5 := hkz.2.1 rfl
    refine ⟨fun w => ?_, fun _ => ?_, fun _ w => absurd e5 w⟩
    · rw [e5] at w; exact absurd w (by decide)
    · obtain ⟨⟨g1, g2, g3⟩, g4, g5⟩ := h.k.dc hcl hs
      have a2 := vp_ge h.k (Nat.le_of_lt g3) g5 (fun k' r' e => by
        have := congrArg Prod.fst (List.cons.inj e).1
        exact absurd this (by show ¬ 29 = 30; decide))
      have hne : c ≠ nT (aI σ 52 (nT (aI σ 20 c))) := by
        intro e
        rw [← e, ho] at g4
        exact absurd g4 (by decide)
      refine ⟨GT.of h.k hcl hs (by decide) g1 ⟨by omega, h.ahd g3 (by omega) (by rw [g4]; unfold pop1; omega), g5⟩ (trs_out (by decide)) (fun l1' xq q l2 e hxq => ?_), by omega⟩
      subst e
      obtain ⟨-, -, a3⟩ := h.k.abv hcl hs hxq
      have := h.k.ord g2 (Nat.le_of_lt g3) a3 (bs_t hxq).2 (by decide) g5 (by decide)
      exact ⟨Or.inr this, by omega⟩
  · have e6 := hkz.2.2 rfl
    refine ⟨fun w => ?_, fun w => ?_, fun _ _ => ?_⟩
    · rw [e6] at w; exact absurd w (by decide)
    · rw [e6] at w; exact absurd w (by decide)
    · obtain ⟨⟨g1, g2⟩, g3, g4, g5⟩ := h.k.fu hcl hs
      have hk3 : aI σ 53 (nT (aI σ 20 c)) < 3020 := (nlt g1 (by decide)).mpr (by show _ < 3020; omega)
      have e1 : nT (aI σ 53 (nT (aI σ 20 c)) + 1) = nT (aI σ 53 (nT (aI σ 20 c))) + 1 := nT_add g1 (by lia)
      have a2 := vp34 h.k (show 1 ≤ nT (aI σ 53 (nT (aI σ 20 c))) + 1 by omega) (show nT (aI σ 53 (nT (aI σ 20 c))) + 1 ≤ _ from g2) g4
      have he := h.k.end hcl hs (by decide)
      obtain ⟨eE, f1, f2, f3, f4, ⟨mE, f5⟩, f6, f7, f8⟩ := h.k.f35 hcl hs
      refine ⟨GT.of h.k hcl hs (by decide) (by lia) ⟨by rw [e1]; exact g2, by rw [e1]; exact h.beh g2 (by omega), by rw [e1]; exact g4⟩ (trs_out (by decide)) (fun l1' xq q l2 e hxq => ?_), by rw [e1]; omega⟩
      subst e
      obtain ⟨⟨a3, a4⟩, a5, a6⟩ := h.k.abv hcl hs hxq
      have b1 := (h.k.fu (show nT (aI σ 51 q) ≤ _ by omega) a4).2.2.2
      have b2 := h.k.ord f1 (Nat.le_of_lt f2) a6 (bs_t hxq).2 (by decide) f5 (by decide)
      rw [e1]
      exact ⟨Or.inl b1, by omega⟩
