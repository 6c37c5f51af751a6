/-! where jumps lead -/
theorem nle {x y : Int32} (hx : 0 ≤ x) (hy : 0 ≤ y) : x ≤ y ↔ nT x ≤ nT y := by
  constructor
  · exact fun h => nT_le hx h
  · intro h
    apply t_le
    rw [t_nT hx, t_nT hy]
    omega
theorem nlt {x y : Int32} (hx : 0 ≤ x) (hy : 0 ≤ y) : x < y ↔ nT x < nT y := by
  constructor
  · exact fun h => nT_lt hx h
  · intro h
    apply t_lt
    rw [t_nT hx, t_nT hy]
    omega
theorem PK.sz {σ : RS} (h : PK σ) : (0 ≤ gI σ 18 ∧ gI σ 18 ≤ 3020) ∧ nT (gI σ 18) ≤ 3020 := by
  obtain ⟨f, kk, j, hp⟩ := h
  have q : 0 ≤ gI σ 18 ∧ gI σ 18 ≤ 3020 := hp.nums.2.1
  exact ⟨q, nT_le (y := 3020) q.1 q.2⟩
/-- what stands above another ends before the other's later codes -/
theorem PK.ord {σ : RS} (h : PK σ) {c p : Nat} (hcp : c ≤ p) (hp : p ≤ nT (gI σ 18)) {l l3 r r' : List (Nat × Nat)} {x1 k1 x2 k2 y m m' : Nat} (hs : st σ c = some (l ++ (x1, k1) :: (l3 ++ (x2, k2) :: r), m)) (h1 : x1 ≠ 20) (h2 : x2 ≠ 20) (hq : st σ p = some ((y, k2) :: r', m')) (hy : y ≠ 20) : nT (aI σ 55 k1) < p := by
  obtain ⟨b, e, ⟨g1, g2, g3⟩, g4, ⟨g5, g6, g7, g8, g9⟩, g10⟩ := h.life (show c ≤ nT (gI σ 18) by omega) hs h1
  rw [g9]
  refine Nat.lt_of_not_le (fun hle => ?_)
  obtain ⟨l', y1, m1, ⟨q1, _⟩, q2⟩ := g10 p (by omega) hle
  have nd := Ss_nd h.up p hp _ hq
  have e2 := congrArg Prod.fst (Option.some.inj (hq.symm.trans q2))
  have e2 : (y, k2) :: r' = l' ++ (y1, k1) :: (l3 ++ (x2, k2) :: r) := e2
  have hm : (x2, k2) ∈ r' := by
    cases l' with
    | nil =>
      obtain ⟨-, e3⟩ := List.cons.inj e2
      rw [e3]
      simp
    | cons a l' =>
      obtain ⟨-, e3⟩ := List.cons.inj e2
      have e3 : r' = l' ++ (y1, k1) :: (l3 ++ (x2, k2) :: r) := e3
      rw [e3]
      simp
  exact (List.pairwise_cons.mp nd).1 (x2, k2) hm hy h2 rfl
/-- where a try begins -/
theorem PK.tb {σ : RS} (h : PK σ) {c : Nat} (hc : c ≤ nT (gI σ 18)) {l : List (Nat × Nat)} {x k : Nat} {r : List (Nat × Nat)} {m : Nat} (hs : st σ c = some (l ++ (x, k) :: r, m)) (hx : bs x = 26 ∨ bs x = 29 ∨ bs x = 50) (h20 : x ≠ 20) : (0 ≤ aI σ 51 k ∧ nT (aI σ 51 k) < c) ∧ nT (aI σ 19 (nT (aI σ 51 k))) = bs x ∧ nT (aI σ 20 (nT (aI σ 51 k))) = k ∧ st σ (nT (aI σ 51 k)) = some (r, m) := by
  obtain ⟨b, b1, b2, b3, b4⟩ := h.beg hc hs h20
  have hk := h.thg hc hs h20
  obtain ⟨_, _, s0, s1, P⟩ := h.j.pc (show b < nT (gI σ 18) by omega)
  have ho := P.hce.1
  have z := P.hce.2.2.2.2.2.2.2.2.2.2.2.1
  have e : nT (aI σ 51 (nT (aI σ 20 b))) = b := by
    refine z ?_
    have h0 : 0 ≤ aI σ 19 b := by have := ho.1; lia
    have q := b2.2
    rcases hx with w | w | w <;> rw [w] at q
    · exact Or.inl (nTi q 26 (by decide) (by decide) h0)
    · exact Or.inr (Or.inl (nTi q 29 (by decide) (by decide) h0))
    · exact Or.inr (Or.inr (nTi q 50 (by decide) (by decide) h0))
  rw [b3] at e
  exact ⟨⟨((h.j.th).2 k hk).1, by omega⟩, by rw [e]; exact b2.2, by rw [e]; exact b3, by rw [e]; exact b4⟩
theorem bs_t {x : Nat} (h : 50 ≤ x ∧ x ≤ 52) : bs x = 50 ∧ x ≠ 20 := by
  have : x = 50 ∨ x = 51 ∨ x = 52 := by omega
  rcases this with rfl | rfl | rfl <;> exact ⟨rfl, by decide⟩
theorem vp_ge {σ : RS} (h : PK σ) {c : Nat} (hc : c ≤ nT (gI σ 18)) {l : List (Nat × Nat)} {m : Nat} (hs : st σ c = some (l, m)) (hl : ∀ k r, l ≠ (30, k) :: r) : 5000 * c ≤ vp σ c := by
  have hz := h.sz.2
  unfold vp
  split
  · omega
  · rw [hs]
    split
    · rename_i k r m' e
      exact absurd (congrArg Prod.fst (Option.some.inj e)) (hl k r)
    · rename_i k r m' e
      have e := congrArg Prod.fst (Option.some.inj e)
      have e : l = [] ++ (34, k) :: r := e
      rw [e] at hs
      have := (h.end hc hs (by decide)).1.2.1
      omega
    · exact Nat.le_refl _
theorem vp_le {σ : RS} (h : PK σ) {c : Nat} (hc : c ≤ nT (gI σ 18)) : vp σ c ≤ 25000000 := by
  have hz := h.sz.2
  unfold vp
  split
  · omega
  · split
    · rename_i k r m' e
      have hs : st σ c = some ([] ++ (30, k) :: r, m') := e
      have := (h.tb hc hs (Or.inr (Or.inl rfl)) (by decide)).1.2
      omega
    · rename_i k r m' e
      have hs : st σ c = some ([] ++ (34, k) :: r, m') := e
      have := (h.end hc hs (by decide)).1
      omega
    · omega
/-- a place whose code doesn't count: below each later code of a try around it -/
theorem vp_try {σ : RS} (h : PK σ) {c p : Nat} (hcp : c ≤ p) (hp : p < nT (gI σ 18)) (ho : ¬ (nT (aI σ 19 c) = 26 ∨ nT (aI σ 19 c) = 32)) {l : List (Nat × Nat)} {x k : Nat} {r r' : List (Nat × Nat)} {y m m' : Nat} (hs : st σ c = some (l ++ (x, k) :: r, m)) (hx : 50 ≤ x ∧ x ≤ 52) (hq : st σ p = some ((y, k) :: r', m')) (hy : y ≠ 20) : vp σ c < 5000 * (p + 1) := by
  have hz := h.sz.2
  have hx0 := bs_t hx
  unfold vp
  rw [if_neg ho]
  split
  · rename_i k' r2 m2 e
    have hs' : st σ c = some ([] ++ (30, k') :: r2, m2) := e
    have := (h.tb (by omega) hs' (Or.inr (Or.inl rfl)) (by decide)).1.2
    omega
  · rename_i k' r2 m2 e
    have e0 := congrArg Prod.fst (Option.some.inj (hs.symm.trans e))
    have e0 : l ++ (x, k) :: r = (34, k') :: r2 := e0
    cases l with
    | nil =>
      have := congrArg Prod.fst (List.cons.inj e0).1
      have : x = 34 := this
      omega
    | cons a l =>
      obtain ⟨e1, -⟩ := List.cons.inj e0
      subst e1
      have := h.ord (l := []) (l3 := l) hcp (by omega) hs (by decide) hx0.2 hq hy
      omega
  · omega
theorem PK.tps {σ : RS} (h : PK σ) {c : Nat} (hc : c ≤ nT (gI σ 18)) {l : List (Nat × Nat)} {m : Nat} (hs : st σ c = some (l, m)) : ∀ q v, trs l = q :: v → 0 ≤ aI σ 51 q.2 ∧ nT (aI σ 51 q.2) < c ∧ 0 ≤ aI σ 55 q.2 ∧ c ≤ nT (aI σ 55 q.2) := by
  intro ⟨x, k⟩ v e
  obtain ⟨hx, l1, l2, e1, e2, e3⟩ := trs_split (w := []) e
  rw [e1] at hs
  have hx0 := bs_t hx
  have g1 := h.tb hc hs (Or.inr (Or.inr hx0.1)) hx0.2
  have g2 := h.end hc hs hx0.2
  exact ⟨g1.1.1, g1.1.2, g2.1.1, g2.1.2.1⟩
theorem trs_app (l r : List (Nat × Nat)) : trs (l ++ r) = trs l ++ trs r := by
  unfold trs
  rw [List.filter_append]
/-- a jump out of what stands above k -/
theorem GT.of {σ : RS} (h : PK σ) {c : Nat} (hc : c ≤ nT (gI σ 18)) {to : Int32} {l r l' : List (Nat × Nat)} {x k m : Nat} (hs : st σ c = some (l ++ (x, k) :: r, m)) (hx : ¬ (50 ≤ x ∧ x ≤ 52)) (h0 : 0 ≤ to) (h1 : nT to ≤ nT (gI σ 18) ∧ zt σ (nT to) = some [] ∧ st σ (nT to) = some (l', m)) (h2 : trs l' = trs r)
    (h3 : ∀ l1 xq q l2, l = l1 ++ (xq, q) :: l2 → 50 ≤ xq ∧ xq ≤ 52 → (nT to < nT (aI σ 51 q) ∨ nT (aI σ 55 q) < nT to) ∧ 5000 * nT (aI σ 55 q) < vp σ (nT to)) : GT σ m to (trs (l ++ (x, k) :: r)) := by
  refine ⟨h0, l', trs l, h1, by rw [trs_app, trs_out hx, h2], fun ⟨xq, q⟩ hq => ?_, fun q v e => ?_⟩
  · obtain ⟨w, v, e⟩ := List.append_of_mem hq
    obtain ⟨hxq, l1, l2, e1, e2, e3⟩ := trs_split e
    have hs' := hs
    rw [e1, List.append_assoc] at hs'
    have hs' : st σ c = some (l1 ++ (xq, q) :: (l2 ++ (x, k) :: r), m) := hs'
    have hx0 := bs_t hxq
    have g1 := h.tb hc hs' (Or.inr (Or.inr hx0.1)) hx0.2
    have g2 := h.end hc hs' hx0.2
    obtain ⟨k1, k2⟩ := h3 l1 xq q l2 e1 hxq
    refine ⟨fun ⟨n1, n2⟩ => ?_, k2⟩
    have n1 := (nle g1.1.1 h0).mp n1
    have n2 := (nle h0 g2.1.1).mp n2
    omega
  · obtain ⟨g1, g2, g3, g4⟩ := h.tps h1.1 h1.2.2 q v e
    exact ⟨(nle g1 h0).mpr (by omega), (nle h0 g3).mpr g4⟩
