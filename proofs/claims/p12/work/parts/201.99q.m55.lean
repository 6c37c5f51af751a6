theorem slt {c v : Int32} (h1 : 1 ≤ c) (h2 : c ≤ 30) (h3 : 0 ≤ v) (h4 : v < 60) : 0 ≤ 60 * (c - 1) + v ∧ 60 * (c - 1) + v < 1860 := by
  have a1 : (1 : Int) ≤ c.toInt := Int32.le_iff_toInt_le.mp h1
  have a2 : c.toInt ≤ (30 : Int) := Int32.le_iff_toInt_le.mp h2
  have a3 : (0 : Int) ≤ v.toInt := Int32.le_iff_toInt_le.mp h3
  have a4 : v.toInt < (60 : Int) := Int32.lt_iff_toInt_lt.mp h4
  have e1 : (c - 1).toInt = c.toInt - 1 := t_sub1 (by omega)
  have e2 : (60 * (c - 1)).toInt = 60 * (c.toInt - 1) := by
    rw [Int32.toInt_mul, e1]
    show Int.bmod (60 * (c.toInt - 1)) 4294967296 = _
    exact Int.bmod_eq_of_le (by omega) (by omega)
  have e3 : (60 * (c - 1) + v).toInt = 60 * (c.toInt - 1) + v.toInt := by
    rw [Int32.toInt_add, e2]
    show Int.bmod (60 * (c.toInt - 1) + v.toInt) 4294967296 = _
    exact Int.bmod_eq_of_le (by omega) (by omega)
  exact ⟨t_le (by rw [e3]; show (0 : Int) ≤ _; omega), t_lt (by rw [e3]; show _ < (1860 : Int); omega)⟩
/-- while a throw looks for its catch -/
def Hw (σ X : RS) : Prop := Ry σ X ∧ (gI X 142 = gI σ 142 ∧ 1 ≤ gI σ 141 ∧ ¬ (nT (aI σ 19 (nT (gI σ 141) - 1)) = 51 ∨ nT (aI σ 19 (nT (gI σ 141) - 1)) = 52)) ∧ ∃ i0 i h t0 m l c w u, (nT (gI σ 129) = i0 + 1 ∧ i0 < 30 ∧ i ≤ i0) ∧ BL σ X i h t0 m ∧ (c ≤ nT (gI σ 18) ∧ st σ c = some (l, m)) ∧ trs l = w ++ u ∧ (0 ≤ gI X 133 ∧ TT σ X (i + 1) h m u t0 (nT (gI X 133))) ∧ (i = i0 → c = nT (gI σ 141) - 1 ∧ ¬ (nT (aI σ 19 c) = 26 ∨ nT (aI σ 19 c) = 32))
def Ht (σ X : RS) (k : Nat) : Prop := Ry σ X ∧ (gI X 142 = gI σ 142 ∧ 1 ≤ gI σ 141 ∧ ¬ (nT (aI σ 19 (nT (gI σ 141) - 1)) = 51 ∨ nT (aI σ 19 (nT (gI σ 141) - 1)) = 52)) ∧ ∃ i0 i h t0 m l1 x r c t', (nT (gI σ 129) = i0 + 1 ∧ i0 < 30 ∧ i ≤ i0) ∧ BL σ X i h t0 m ∧ (c ≤ nT (gI σ 18) ∧ st σ c = some (l1 ++ (x, k) :: r, m)) ∧ (50 ≤ x ∧ x ≤ 52) ∧ (0 ≤ gI X 133 ∧ nT (gI X 133) = t' + 1) ∧ (TT σ X (i + 1) h m (trs r) t0 t' ∧ YE σ X (i + 1) h m (x, k) (trs r) t') ∧ (i = i0 → c = nT (gI σ 141) - 1 ∧ ¬ (nT (aI σ 19 c) = 26 ∨ nT (aI σ 19 c) = 32))
theorem TT.bd {σ X : RS} (hG : RG σ) {i h t0 m t c : Nat} {l w u : List (Nat × Nat)} (hi : i < 30) (hB : BL σ X i h t0 m) (hs : c ≤ nT (gI σ 18) ∧ st σ c = some (l, m)) (e : trs l = w ++ u) (hT : TT σ X (i + 1) h m u t0 t) : t ≤ 1200 := by
  have b1 := (hB.le hG).2.1
  have b2 := hT.le
  have b3 := trs_nl l
  have b5 : nl l ≤ 40 := by
    obtain ⟨f, kk, j, hp⟩ := hG.k
    exact ((hp.2.2.2.2.2.2.2.2.2.1.2 _ hs.1).2 _ hs.2).1
  rw [e, List.length_append] at b3
  omega
theorem Hw.bd {σ X : RS} (hG : RG σ) (h : Hw σ X) : 0 ≤ gI X 133 ∧ gI X 133 ≤ 1200 := by
  obtain ⟨-, -, i0, i, b, t0, m, l, c, w, u, ⟨a1, a2, a3⟩, hB, hs, e, ⟨d1, d2⟩, -⟩ := h
  exact ⟨d1, (nle d1 (by decide)).mpr (TT.bd hG (by omega) hB hs e d2)⟩
theorem Hw.top {σ X : RS} (h : Hw σ X) (h0 : 0 < gI X 133) : Ht σ X (nT (aI X 134 (nT (gI X 133 - 1)))) := by
  obtain ⟨f1, f2, i0, i, b, t0, m, l, c, w, u, ⟨a1, a2, a3⟩, hB, ⟨s1, s2⟩, e, ⟨d1, d2⟩, j1⟩ := h
  have e1 : nT (gI X 133) = nT (gI X 133 - 1) + 1 := nT_sub h0
  cases u with
  | nil =>
    have d2 : nT (gI X 133) = t0 := d2
    obtain ⟨i', h', t', m', l', c', ⟨x, k⟩, u, g1, g2, g3, g4, t2, g5, g6, g7⟩ := hB.down (by omega)
    obtain ⟨hx, l1, r, k1, k2, k3⟩ := trs_split (w := []) g4
    subst k1
    subst k3
    have e2 : t2 = nT (gI X 133 - 1) := by omega
    have e3 : nT (aI X 134 (nT (gI X 133 - 1))) = k := by rw [← e2]; exact g7.1.2
    rw [e3]
    exact ⟨f1, f2, i0, i', h', t', m', l1, x, r, c', t2, ⟨a1, a2, by omega⟩, g2, g3, hx, ⟨d1, by omega⟩, ⟨g6, g7⟩, fun q => by omega⟩
  | cons q u =>
    obtain ⟨x, k⟩ := q
    obtain ⟨hx, l1, r, g1, g2, g3⟩ := trs_split e
    subst g1
    subst g3
    obtain ⟨t', g5, g6, g7⟩ := d2
    have e2 : t' = nT (gI X 133 - 1) := by omega
    have e3 : nT (aI X 134 (nT (gI X 133 - 1))) = k := by rw [← e2]; exact g7.1.2
    rw [e3]
    exact ⟨f1, f2, i0, i, b, t0, m, l1, x, r, c, t', ⟨a1, a2, a3⟩, hB, ⟨s1, s2⟩, hx, ⟨d1, g5⟩, ⟨g6, g7⟩, j1⟩
theorem Ht.bd {σ X : RS} {k : Nat} (hG : RG σ) (h : Ht σ X k) : k < 501 ∧ (0 ≤ aI X 134 (nT (gI X 133 - 1)) ∧ nT (aI X 134 (nT (gI X 133 - 1))) = k) ∧ (1 ≤ aI X 135 (nT (gI X 133 - 1)) ∧ aI X 135 (nT (gI X 133 - 1)) ≤ 30) := by
  obtain ⟨f1, f2, i0, i, b, t0, m, l1, x, r, c, t', ⟨a1, a2, a3⟩, hB, ⟨s1, s2⟩, hx, ⟨d1, d2⟩, ⟨g1, g2⟩, j1⟩ := h
  have h0 : 0 < gI X 133 := (nlt (by decide) d1).mpr (by rw [d2]; show 0 < t' + 1; omega)
  have ey : nT (gI X 133 - 1) = t' := by have := nT_sub h0; omega
  have hk := hG.k.thg s1 s2 (bs_t hx).2
  have ht := (hG.k.j.th).1
  have ht : nT (gI σ 49) ≤ 501 := nT_le (y := 501) ht.1 ht.2
  rw [ey]
  refine ⟨by omega, ⟨g2.1.1, g2.1.2⟩, (nle (by decide) g2.2.1.1).mpr ?_, (nle g2.2.1.1 (by decide)).mpr ?_⟩
  · rw [g2.2.1.2]; show 1 ≤ i + 1; omega
  · rw [g2.2.1.2]; show i + 1 ≤ 30; omega
/-- its catch, its finally: y is its new state, kd its new kind -/
theorem Ht.go {σ X Y : RS} {k : Nat} (hG : RG σ) (h : Ht σ X k) (x' p : Nat) (hx' : x' = 51 ∨ x' = 52)
    (hp : ∀ (c : Nat) (l : List (Nat × Nat)) (x : Nat) (r : List (Nat × Nat)) (m : Nat), c ≤ nT (gI σ 18) → st σ c = some (l ++ (x, k) :: r, m) → nT (aI X 137 (nT (gI X 133 - 1))) + 50 = x → (c ≤ p ∧ p < nT (gI σ 18)) ∧ st σ (p + 1) = some ((x', k) :: r, m) ∧ zt σ (p + 1) = some [] ∧ nT (aI σ 19 p) = x' ∧ (¬ (nT (aI σ 19 c) = 26 ∨ nT (aI σ 19 c) = 32) → vp σ c < vp σ (p + 1)))
    (y128 : gI Y 128 = aI X 136 (nT (gI X 133 - 1))) (y129 : gI Y 129 = aI X 135 (nT (gI X 133 - 1))) (y133 : gI Y 133 = gI X 133) (y141 : 0 ≤ gI Y 141 ∧ nT (gI Y 141) = p + 1) (y131 : aI Y 131 = aI X 131) (y132 : aI Y 132 = aI X 132) (y134 : aI Y 134 = aI X 134) (y135 : aI Y 135 = aI X 135) (y136 : aI Y 136 = aI X 136) (y137 : ∃ s : Int32, (0 ≤ s ∧ nT s + 50 = x') ∧ aI Y 137 = upd (aI X 137) (nT (gI X 133 - 1)) s) (y138 : aI Y 138 = aI X 138 ∨ aI Y 138 = upd (aI X 138) (nT (gI X 133 - 1)) 3) (y138b : x' = 52 → aI Y 138 = upd (aI X 138) (nT (gI X 133 - 1)) 3) (y139 : aI Y 139 = aI X 139) : RA σ Y ∧ PG σ σ Y ∧ ¬ gI Y 141 = gI σ 141 := by
  obtain ⟨f1, ⟨f2, f3, f4⟩, i0, i, b, t0, m, l1, x, r, c, t', ⟨a1, a2, a3⟩, hB, ⟨s1, s2⟩, hx, ⟨d1, d2⟩, ⟨g1, g2⟩, j1⟩ := h
  have h0 : 0 < gI X 133 := (nlt (by decide) d1).mpr (by rw [d2]; show 0 < t' + 1; omega)
  have ey : nT (gI X 133 - 1) = t' := by have := nT_sub h0; omega
  rw [ey] at hp y128 y129 y137 y138 y138b
  obtain ⟨s, ⟨y71, y72⟩, y137⟩ := y137
  obtain ⟨⟨p1, p2⟩, p3, p4, p5, p6⟩ := hp c l1 x r m s1 s2 g2.2.2.2.1.2
  have hb := hB.le hG
  have hY : Yq X Y t' := by
    intro s hst q q1 q2
    have hq : q = 134 ∨ q = 135 ∨ q = 136 ∨ q = 137 ∨ q = 138 ∨ q = 139 := by omega
    rcases hq with rfl | rfl | rfl | rfl | rfl | rfl
    · rw [y134]
    · rw [y135]
    · rw [y136]
    · rw [y137, upd_ne (by omega)]
    · rcases y138 with w | w
      · rw [w]
      · rw [w, upd_ne (by omega)]
    · rw [y139]
  have hle := g1.le
  refine ⟨⟨i, b, t0, m, (x', k) :: r, [], ⟨by rw [y129]; exact g2.2.1.1, by rw [y129]; exact g2.2.1.2, by omega⟩, hB.eq (fun s _ => ⟨by rw [y131], by rw [y132]⟩) (fun s hst => hY s (by omega)), ⟨⟨y141.1, by rw [y141.2]; exact p2⟩, by rw [y141.2]; exact p3, by rw [y141.2]; exact p4⟩, ⟨by rw [y128]; exact g2.2.2.1.1, by rw [y128]; exact g2.2.2.1.2⟩, by rw [y133]; exact d1, ?_⟩, ?_, fun q => ?_⟩
  · rw [trs_in (by omega), y133]
    refine ⟨t', d2, g1.eq hY, ?_⟩
    unfold YE
    rw [y134, y135, y136, y137, y139, upd_eq]
    refine ⟨g2.1, g2.2.1, g2.2.2.1, ⟨y71, y72⟩, fun q => ?_⟩
    have q : x' = 52 := q
    rw [y138b q, upd_eq]
    exact ⟨Or.inr (Or.inr (Or.inr rfl)), fun z => absurd z (by decide)⟩
  · unfold PG
    rw [y129, g2.2.1.2, a1]
    by_cases w : i = i0
    · obtain ⟨j2, j3⟩ := j1 w
      refine Or.inr ⟨by omega, ?_⟩
      rw [← j2, y141.2]
      exact p6 j3
    · exact Or.inl (by omega)
  · have e9 : nT (gI σ 141) - 1 = p := by rw [← q, y141.2]; rfl
    rw [e9, p5] at f4
    omega
theorem Ht.nx {σ X Y : RS} {k : Nat} (h : Ht σ X k) (hf : Ry σ Y) (h142 : gI Y 142 = gI X 142) (e33 : gI Y 133 = gI X 133 - 1) (e131 : aI Y 131 = aI X 131) (e132 : aI Y 132 = aI X 132) (ey : ∀ q, 134 ≤ q → q ≤ 139 → aI Y q = aI X q) : Hw σ Y ∧ nT (gI Y 133) < nT (gI X 133) := by
  obtain ⟨f1, ⟨f2, f3, f4⟩, i0, i, b, t0, m, l1, x, r, c, t', ⟨a1, a2, a3⟩, hB, ⟨s1, s2⟩, hx, ⟨d1, d2⟩, ⟨g1, g2⟩, j1⟩ := h
  have h0 : 0 < gI X 133 := (nlt (by decide) d1).mpr (by rw [d2]; show 0 < t' + 1; omega)
  have et : nT (gI X 133 - 1) = t' := by have := nT_sub h0; omega
  have hY : ∀ t, Yq X Y t := fun t s _ q q1 q2 => by rw [ey q q1 q2]
  refine ⟨⟨hf, ⟨h142.trans f2, f3, f4⟩, i0, i, b, t0, m, l1 ++ (x, k) :: r, c, trs l1 ++ [(x, k)], trs r, ⟨a1, a2, a3⟩, hB.eq (fun s _ => ⟨by rw [e131], by rw [e132]⟩) (hY _), ⟨s1, s2⟩, by rw [trs_app, trs_in hx, List.append_assoc]; rfl, ⟨by rw [e33]; lia, by rw [e33, et]; exact g1.eq (hY _)⟩, j1⟩, by rw [e33, et]; omega⟩
/-- as raise needs it -/
def RY2 (σ τ : RS) : Prop := RY σ τ ∧ (gI τ 142 = 0 → ¬ gI τ 141 = gI σ 141)
theorem Ht.cat {σ X Y : RS} {k : Nat} (hG : RG σ) (h : Ht σ X k) (hs : aI X 137 (nT (gI X 133 - 1)) = 0) (hf : 0 ≤ aI σ 57 k) (hR : Ry σ Y) (y142 : gI Y 142 = gI X 142)
    (y128 : gI Y 128 = aI X 136 (nT (gI X 133 - 1))) (y129 : gI Y 129 = aI X 135 (nT (gI X 133 - 1))) (y133 : gI Y 133 = gI X 133) (y141 : gI Y 141 = aI σ 57 k + 1) (y131 : aI Y 131 = aI X 131) (y132 : aI Y 132 = aI X 132) (y134 : aI Y 134 = aI X 134) (y135 : aI Y 135 = aI X 135) (y136 : aI Y 136 = aI X 136) (y137 : aI Y 137 = upd (aI X 137) (nT (gI X 133 - 1)) 1) (y138 : aI Y 138 = aI X 138) (y139 : aI Y 139 = aI X 139) : RY2 σ Y := by
  have hz := hG.k.sz.2
  have h2 := h
  obtain ⟨-, ⟨f2, -⟩, i0, i, b, t0, m, l1, x, r, c, t', -, -, ⟨s1, s2⟩, hx, ⟨d1, d2⟩, ⟨-, g2⟩, -⟩ := h2
  have h0 : 0 < gI X 133 := (nlt (by decide) d1).mpr (by rw [d2]; show 0 < t' + 1; omega)
  have ey : nT (gI X 133 - 1) = t' := by have := nT_sub h0; omega
  have hx0 : x = 50 := by
    have z : nT (aI X 137 t') + 50 = x := g2.2.2.2.1.2
    rw [← ey, hs] at z
    exact z.symm
  rw [hx0] at s2
  have hlt := (hG.cat s1 s2 hf).1.2
  have hk3 : aI σ 57 k < 3020 := (nlt hf (by decide)).mpr (by show _ < 3020; omega)
  have en : nT (aI σ 57 k + 1) = nT (aI σ 57 k) + 1 := nT_add hf (by lia)
  have z := h.go hG 51 (nT (aI σ 57 k)) (Or.inl rfl) (fun c l x r m q1 q2 q3 => by
    have q3 : x = 50 := by rw [hs] at q3; exact q3.symm
    subst q3
    have w := hG.cat q1 q2 hf
    exact ⟨w.1, w.2.1, w.2.2.1, w.2.2.2.1, w.2.2.2.2.1⟩) y128 y129 y133 ⟨by rw [y141]; lia, by rw [y141]; exact en⟩ y131 y132 y134 y135 y136 ⟨1, ⟨by decide, rfl⟩, y137⟩ (Or.inl y138) (fun q => absurd q (by decide)) y139
  exact ⟨⟨hR, Or.inr ⟨y142.trans f2, z.1, z.2.1⟩⟩, fun _ => z.2.2⟩
theorem Ht.fin {σ X Y : RS} {k : Nat} (hG : RG σ) (h : Ht σ X k) (hs : aI X 137 (nT (gI X 133 - 1)) < 2) (hf : 0 ≤ aI σ 58 k) (hR : Ry σ Y) (y142 : gI Y 142 = gI X 142)
    (y128 : gI Y 128 = aI X 136 (nT (gI X 133 - 1))) (y129 : gI Y 129 = aI X 135 (nT (gI X 133 - 1))) (y133 : gI Y 133 = gI X 133) (y141 : gI Y 141 = aI σ 58 k + 1) (y131 : aI Y 131 = aI X 131) (y132 : aI Y 132 = aI X 132) (y134 : aI Y 134 = aI X 134) (y135 : aI Y 135 = aI X 135) (y136 : aI Y 136 = aI X 136) (y137 : aI Y 137 = upd (aI X 137) (nT (gI X 133 - 1)) 2) (y138 : aI Y 138 = upd (aI X 138) (nT (gI X 133 - 1)) 3) (y139 : aI Y 139 = aI X 139) : RY2 σ Y := by
  have hz := hG.k.sz.2
  have h2 := h
  obtain ⟨-, ⟨f2, -⟩, i0, i, b, t0, m, l1, x, r, c, t', -, -, ⟨s1, s2⟩, hx, ⟨d1, d2⟩, ⟨-, g2⟩, -⟩ := h2
  have h0 : 0 < gI X 133 := (nlt (by decide) d1).mpr (by rw [d2]; show 0 < t' + 1; omega)
  have ey : nT (gI X 133 - 1) = t' := by have := nT_sub h0; omega
  have hs0 : 0 ≤ aI X 137 (nT (gI X 133 - 1)) := by rw [ey]; exact g2.2.2.2.1.1
  have hs2 : nT (aI X 137 (nT (gI X 133 - 1))) < 2 := nT_lt (y := 2) hs0 hs
  have hx2 : 50 ≤ x ∧ x < 52 := by
    have z : nT (aI X 137 t') + 50 = x := g2.2.2.2.1.2
    rw [← ey] at z
    omega
  have hlt := (hG.fin s1 s2 hx2 hf).1.2
  have hk3 : aI σ 58 k < 3020 := (nlt hf (by decide)).mpr (by show _ < 3020; omega)
  have en : nT (aI σ 58 k + 1) = nT (aI σ 58 k) + 1 := nT_add hf (by lia)
  have z := h.go hG 52 (nT (aI σ 58 k)) (Or.inr rfl) (fun c l x r m q1 q2 q3 => hG.fin q1 q2 (by omega) hf) y128 y129 y133 ⟨by rw [y141]; lia, by rw [y141]; exact en⟩ y131 y132 y134 y135 y136 ⟨2, ⟨by decide, rfl⟩, y137⟩ (Or.inr y138) (fun _ => y138) y139
  exact ⟨⟨hR, Or.inr ⟨y142.trans f2, z.1, z.2.1⟩⟩, fun _ => z.2.2⟩
theorem Ht.var {σ X : RS} {k : Nat} (hG : RG σ) (h : Ht σ X k) (hs : aI X 137 (nT (gI X 133 - 1)) = 0) (hf : 0 ≤ aI σ 57 k) : 0 ≤ aI σ 61 k ∧ aI σ 61 k < 60 := by
  obtain ⟨-, -, i0, i, b, t0, m, l1, x, r, c, t', -, -, ⟨s1, s2⟩, hx, ⟨d1, d2⟩, ⟨-, g2⟩, -⟩ := h
  have h0 : 0 < gI X 133 := (nlt (by decide) d1).mpr (by rw [d2]; show 0 < t' + 1; omega)
  have ey : nT (gI X 133 - 1) = t' := by have := nT_sub h0; omega
  have hx0 : x = 50 := by
    have z : nT (aI X 137 t') + 50 = x := g2.2.2.2.1.2
    rw [← ey, hs] at z
    exact z.symm
  rw [hx0] at s2
  exact (hG.cat s1 s2 hf).2.2.2.2.2
def P_raise : RP := fun As σ => match As with
  | [.long v] => RG σ ∧ Hw σ σ
  | _ => False
def Q_raise : RQ := fun As σ w τ => match As with
  | [.long v] => w = none ∧ RY2 σ τ
  | _ => False
set_option maxRecDepth 100000 in
set_option maxHeartbeats 4000000 in
theorem m_raise (l : Launch) : RMet l 2 149 P_raise Q_raise := by
  refine RMet.by Braise [(146, P_slot, Q_slot)] roraise okBraise (ctc (m_slot l) (by decide) ct0) ?_ ?_
  · intro As σ hP
    unfold P_raise at hP
    split at hP
    next => exact Nat.le_of_ble_eq_true rfl
    next => exact hP.elim
  · intro As σ hP G hB hW
    unfold P_raise at hP
    split at hP
    next v => 
      unfold Q_raise at hB
      dsimp only at hB
      obtain ⟨hG, hL⟩ := hP
      have loop : ∀ n : Nat, ∀ X : RS, nT (gI X 133) = n → Hw σ X → G 0 [(0, .ref 1000), (1, .long v)] [] X := by
        intro n
        induction n using Nat.strongRecOn with
        | ind n loop =>
          intro X hk hX
          have hbd0 := hX.bd hG
          apply hB
          dsimp only [rgo, rfd, Braise, Nat.beq, rwp, rst, lv_args, rlk, rs1, rs2, rdl, rky, rct, rcs, rcd, rno, rsw, Value.category, List.filter, List.take, List.drop, List.reverse, List.reverseAux, List.cons_append, List.nil_append, Option.toList, Int.toNat, Int.reduceToNat, if_pos, if_neg, reduceIte, ↓reduceIte, Nat.reduceAdd, Nat.reduceEqDiff, Nat.reduceBEq, beq_self_eq_true, Bool.not_true, Bool.not_false, Bool.and_true, Bool.and_false, Bool.true_and, Bool.false_and, gI_sI, gI_sL, gI_sA, gI_sM, gL_sI, gL_sL, gL_sA, gL_sM, aI_sI, aI_sL, aI_sA, aI_sM, aL_sI, aL_sL, aL_sA, aL_sM, Braise_0, Braise_7, Braise_51, Braise_61, Braise_99, Braise_109, Braise_119, Braise_154, Braise_167, oi_1, oi_2, oi_3, P_slot]; try dsimp only
          refine ⟨rfl, fun h1 => ?_, fun h1 => ?_⟩
          · apply hB
            dsimp only [rgo, rfd, Braise, Nat.beq, rwp, rst, lv_args, rlk, rs1, rs2, rdl, rky, rct, rcs, rcd, rno, rsw, Value.category, List.filter, List.take, List.drop, List.reverse, List.reverseAux, List.cons_append, List.nil_append, Option.toList, Int.toNat, Int.reduceToNat, if_pos, if_neg, reduceIte, ↓reduceIte, Nat.reduceAdd, Nat.reduceEqDiff, Nat.reduceBEq, beq_self_eq_true, Bool.not_true, Bool.not_false, Bool.and_true, Bool.and_false, Bool.true_and, Bool.false_and, gI_sI, gI_sL, gI_sA, gI_sM, gL_sI, gL_sL, gL_sA, gL_sM, aI_sI, aI_sL, aI_sA, aI_sM, aL_sI, aL_sL, aL_sA, aL_sM, Braise_0, Braise_7, Braise_51, Braise_61, Braise_99, Braise_109, Braise_119, Braise_154, Braise_167, oi_1, oi_2, oi_3, P_slot]; try dsimp only
            refine ⟨rfl, rfl, ?_⟩
            exact ⟨rfl, ⟨by (repeat (first | exact hX.1 | refine Ry.a ?_ rfl | refine Ry.i ?_ rfl | refine Ry.g ?_ rfl | refine Ry.m ?_ rfl)), Or.inl (show ¬ (2 : Int32) = 0 by decide)⟩, fun q => absurd (show (2 : Int32) = 0 from q) (by decide)⟩
          · have hT := hX.top (by lia)
            have hbd := hT.bd hG
            have hk0 : 0 ≤ aI X 134 (gI X 133 - 1).toNatClampNeg := hbd.2.1.1
            have hk5 : aI X 134 (gI X 133 - 1).toNatClampNeg < 501 := (nlt hk0 (by decide)).mpr hbd.1
            have hc1 : 1 ≤ aI X 135 (gI X 133 - 1).toNatClampNeg := hbd.2.2.1
            have hc3 : aI X 135 (gI X 133 - 1).toNatClampNeg ≤ 30 := hbd.2.2.2
            have r57 : aI X 57 = aI σ 57 := hX.1.2.2.1 57 rfl
            have r58 : aI X 58 = aI σ 58 := hX.1.2.2.1 58 rfl
            have r61 : aI X 61 = aI σ 61 := hX.1.2.2.1 61 rfl
            apply hB
            dsimp only [rgo, rfd, Braise, Nat.beq, rwp, rst, lv_args, rlk, rs1, rs2, rdl, rky, rct, rcs, rcd, rno, rsw, Value.category, List.filter, List.take, List.drop, List.reverse, List.reverseAux, List.cons_append, List.nil_append, Option.toList, Int.toNat, Int.reduceToNat, if_pos, if_neg, reduceIte, ↓reduceIte, Nat.reduceAdd, Nat.reduceEqDiff, Nat.reduceBEq, beq_self_eq_true, Bool.not_true, Bool.not_false, Bool.and_true, Bool.and_false, Bool.true_and, Bool.false_and, gI_sI, gI_sL, gI_sA, gI_sM, gL_sI, gL_sL, gL_sA, gL_sM, aI_sI, aI_sL, aI_sA, aI_sM, aL_sI, aL_sL, aL_sA, aL_sM, Braise_0, Braise_7, Braise_51, Braise_61, Braise_99, Braise_109, Braise_119, Braise_154, Braise_167, oi_1, oi_2, oi_3, P_slot]; try dsimp only
            refine ⟨rfl, rfl, rfl, (in_134 (by lia) (by lia)), rfl, rfl, (in_135 (by lia) (by lia)), rfl, rfl, rfl, (in_136 (by lia) (by lia)), rfl, rfl, rfl, (in_137 (by lia) (by lia)), fun h2 => ?_, fun h2 => ?_⟩
            · apply hB
              dsimp only [rgo, rfd, Braise, Nat.beq, rwp, rst, lv_args, rlk, rs1, rs2, rdl, rky, rct, rcs, rcd, rno, rsw, Value.category, List.filter, List.take, List.drop, List.reverse, List.reverseAux, List.cons_append, List.nil_append, Option.toList, Int.toNat, Int.reduceToNat, if_pos, if_neg, reduceIte, ↓reduceIte, Nat.reduceAdd, Nat.reduceEqDiff, Nat.reduceBEq, beq_self_eq_true, Bool.not_true, Bool.not_false, Bool.and_true, Bool.and_false, Bool.true_and, Bool.false_and, gI_sI, gI_sL, gI_sA, gI_sM, gL_sI, gL_sL, gL_sA, gL_sM, aI_sI, aI_sL, aI_sA, aI_sM, aL_sI, aL_sL, aL_sA, aL_sM, Braise_0, Braise_7, Braise_51, Braise_61, Braise_99, Braise_109, Braise_119, Braise_154, Braise_167, oi_1, oi_2, oi_3, P_slot]; try dsimp only
              refine ⟨rfl, rfl, (in_137 (by lia) (by lia)), fun h3 => ?_, fun h3 => ?_⟩
              · apply hB
                dsimp only [rgo, rfd, Braise, Nat.beq, rwp, rst, lv_args, rlk, rs1, rs2, rdl, rky, rct, rcs, rcd, rno, rsw, Value.category, List.filter, List.take, List.drop, List.reverse, List.reverseAux, List.cons_append, List.nil_append, Option.toList, Int.toNat, Int.reduceToNat, if_pos, if_neg, reduceIte, ↓reduceIte, Nat.reduceAdd, Nat.reduceEqDiff, Nat.reduceBEq, beq_self_eq_true, Bool.not_true, Bool.not_false, Bool.and_true, Bool.and_false, Bool.true_and, Bool.false_and, gI_sI, gI_sL, gI_sA, gI_sM, gL_sI, gL_sL, gL_sA, gL_sM, aI_sI, aI_sL, aI_sA, aI_sM, aL_sI, aL_sL, aL_sA, aL_sM, Braise_0, Braise_7, Braise_51, Braise_61, Braise_99, Braise_109, Braise_119, Braise_154, Braise_167, oi_1, oi_2, oi_3, P_slot]; try dsimp only
                refine ⟨rfl, rfl, ?_⟩
                have hN := hT.nx (Y := sI (sI (sI X 129 (aI X 135 (gI X 133 - 1).toNatClampNeg)) 128 (aI X 136 (gI X 133 - 1).toNatClampNeg)) 133 (gI X 133 - 1)) (by (repeat (first | exact hX.1 | refine Ry.a ?_ rfl | refine Ry.i ?_ rfl | refine Ry.g ?_ rfl | refine Ry.m ?_ rfl))) rfl rfl rfl rfl (fun q q1 q2 => rfl)
                exact hW 0 [(0, .ref 1000), (1, .long v)] _ _ _ (by simp [rdl, rky]) (loop _ (by rw [← hk]; exact hN.2) _ rfl hN.1)
              · apply hB
                dsimp only [rgo, rfd, Braise, Nat.beq, rwp, rst, lv_args, rlk, rs1, rs2, rdl, rky, rct, rcs, rcd, rno, rsw, Value.category, List.filter, List.take, List.drop, List.reverse, List.reverseAux, List.cons_append, List.nil_append, Option.toList, Int.toNat, Int.reduceToNat, if_pos, if_neg, reduceIte, ↓reduceIte, Nat.reduceAdd, Nat.reduceEqDiff, Nat.reduceBEq, beq_self_eq_true, Bool.not_true, Bool.not_false, Bool.and_true, Bool.and_false, Bool.true_and, Bool.false_and, gI_sI, gI_sL, gI_sA, gI_sM, gL_sI, gL_sL, gL_sA, gL_sM, aI_sI, aI_sL, aI_sA, aI_sM, aL_sI, aL_sL, aL_sA, aL_sM, Braise_0, Braise_7, Braise_51, Braise_61, Braise_99, Braise_109, Braise_119, Braise_154, Braise_167, oi_1, oi_2, oi_3, P_slot]; try dsimp only
                refine ⟨rfl, rfl, (in_58 (by lia) (by lia)), fun h4 => ?_, fun h4 => ?_⟩
                · apply hB
                  dsimp only [rgo, rfd, Braise, Nat.beq, rwp, rst, lv_args, rlk, rs1, rs2, rdl, rky, rct, rcs, rcd, rno, rsw, Value.category, List.filter, List.take, List.drop, List.reverse, List.reverseAux, List.cons_append, List.nil_append, Option.toList, Int.toNat, Int.reduceToNat, if_pos, if_neg, reduceIte, ↓reduceIte, Nat.reduceAdd, Nat.reduceEqDiff, Nat.reduceBEq, beq_self_eq_true, Bool.not_true, Bool.not_false, Bool.and_true, Bool.and_false, Bool.true_and, Bool.false_and, gI_sI, gI_sL, gI_sA, gI_sM, gL_sI, gL_sL, gL_sA, gL_sM, aI_sI, aI_sL, aI_sA, aI_sM, aL_sI, aL_sL, aL_sA, aL_sM, Braise_0, Braise_7, Braise_51, Braise_61, Braise_99, Braise_109, Braise_119, Braise_154, Braise_167, oi_1, oi_2, oi_3, P_slot]; try dsimp only
                  refine ⟨rfl, rfl, ?_⟩
                  have hN := hT.nx (Y := sI (sI (sI X 129 (aI X 135 (gI X 133 - 1).toNatClampNeg)) 128 (aI X 136 (gI X 133 - 1).toNatClampNeg)) 133 (gI X 133 - 1)) (by (repeat (first | exact hX.1 | refine Ry.a ?_ rfl | refine Ry.i ?_ rfl | refine Ry.g ?_ rfl | refine Ry.m ?_ rfl))) rfl rfl rfl rfl (fun q q1 q2 => rfl)
                  exact hW 0 [(0, .ref 1000), (1, .long v)] _ _ _ (by simp [rdl, rky]) (loop _ (by rw [← hk]; exact hN.2) _ rfl hN.1)
                · apply hB
                  dsimp only [rgo, rfd, Braise, Nat.beq, rwp, rst, lv_args, rlk, rs1, rs2, rdl, rky, rct, rcs, rcd, rno, rsw, Value.category, List.filter, List.take, List.drop, List.reverse, List.reverseAux, List.cons_append, List.nil_append, Option.toList, Int.toNat, Int.reduceToNat, if_pos, if_neg, reduceIte, ↓reduceIte, Nat.reduceAdd, Nat.reduceEqDiff, Nat.reduceBEq, beq_self_eq_true, Bool.not_true, Bool.not_false, Bool.and_true, Bool.and_false, Bool.true_and, Bool.false_and, gI_sI, gI_sL, gI_sA, gI_sM, gL_sI, gL_sL, gL_sA, gL_sM, aI_sI, aI_sL, aI_sA, aI_sM, aL_sI, aL_sL, aL_sA, aL_sM, Braise_0, Braise_7, Braise_51, Braise_61, Braise_99, Braise_109, Braise_119, Braise_154, Braise_167, oi_1, oi_2, oi_3, P_slot]; try dsimp only
                  refine ⟨rfl, rfl, (in_137 (by lia) (by lia)), rfl, rfl, (in_138 (by lia) (by lia)), rfl, rfl, (in_140 (by lia) (by lia)), rfl, rfl, (in_58 (by lia) (by lia)), rfl, ?_⟩
                  refine ⟨rfl, hT.fin hG (show aI X 137 (gI X 133 - 1).toNatClampNeg < 2 by lia) (by rw [← r58]; show 0 ≤ aI X 58 (aI X 134 (gI X 133 - 1).toNatClampNeg).toNatClampNeg; lia) (by (repeat (first | exact hX.1 | refine Ry.a ?_ rfl | refine Ry.i ?_ rfl | refine Ry.g ?_ rfl | refine Ry.m ?_ rfl))) rfl rfl rfl rfl ?_ rfl rfl rfl rfl rfl rfl rfl rfl⟩
                  rw [← r58]
                  rfl
            · apply hB
              dsimp only [rgo, rfd, Braise, Nat.beq, rwp, rst, lv_args, rlk, rs1, rs2, rdl, rky, rct, rcs, rcd, rno, rsw, Value.category, List.filter, List.take, List.drop, List.reverse, List.reverseAux, List.cons_append, List.nil_append, Option.toList, Int.toNat, Int.reduceToNat, if_pos, if_neg, reduceIte, ↓reduceIte, Nat.reduceAdd, Nat.reduceEqDiff, Nat.reduceBEq, beq_self_eq_true, Bool.not_true, Bool.not_false, Bool.and_true, Bool.and_false, Bool.true_and, Bool.false_and, gI_sI, gI_sL, gI_sA, gI_sM, gL_sI, gL_sL, gL_sA, gL_sM, aI_sI, aI_sL, aI_sA, aI_sM, aL_sI, aL_sL, aL_sA, aL_sM, Braise_0, Braise_7, Braise_51, Braise_61, Braise_99, Braise_109, Braise_119, Braise_154, Braise_167, oi_1, oi_2, oi_3, P_slot]; try dsimp only
              refine ⟨rfl, rfl, (in_57 (by lia) (by lia)), fun h5 => ?_, fun h5 => ?_⟩
              · apply hB
                dsimp only [rgo, rfd, Braise, Nat.beq, rwp, rst, lv_args, rlk, rs1, rs2, rdl, rky, rct, rcs, rcd, rno, rsw, Value.category, List.filter, List.take, List.drop, List.reverse, List.reverseAux, List.cons_append, List.nil_append, Option.toList, Int.toNat, Int.reduceToNat, if_pos, if_neg, reduceIte, ↓reduceIte, Nat.reduceAdd, Nat.reduceEqDiff, Nat.reduceBEq, beq_self_eq_true, Bool.not_true, Bool.not_false, Bool.and_true, Bool.and_false, Bool.true_and, Bool.false_and, gI_sI, gI_sL, gI_sA, gI_sM, gL_sI, gL_sL, gL_sA, gL_sM, aI_sI, aI_sL, aI_sA, aI_sM, aL_sI, aL_sL, aL_sA, aL_sM, Braise_0, Braise_7, Braise_51, Braise_61, Braise_99, Braise_109, Braise_119, Braise_154, Braise_167, oi_1, oi_2, oi_3, P_slot]; try dsimp only
                refine ⟨rfl, rfl, (in_137 (by lia) (by lia)), fun h6 => ?_, fun h6 => ?_⟩
                · apply hB
                  dsimp only [rgo, rfd, Braise, Nat.beq, rwp, rst, lv_args, rlk, rs1, rs2, rdl, rky, rct, rcs, rcd, rno, rsw, Value.category, List.filter, List.take, List.drop, List.reverse, List.reverseAux, List.cons_append, List.nil_append, Option.toList, Int.toNat, Int.reduceToNat, if_pos, if_neg, reduceIte, ↓reduceIte, Nat.reduceAdd, Nat.reduceEqDiff, Nat.reduceBEq, beq_self_eq_true, Bool.not_true, Bool.not_false, Bool.and_true, Bool.and_false, Bool.true_and, Bool.false_and, gI_sI, gI_sL, gI_sA, gI_sM, gL_sI, gL_sL, gL_sA, gL_sM, aI_sI, aI_sL, aI_sA, aI_sM, aL_sI, aL_sL, aL_sA, aL_sM, Braise_0, Braise_7, Braise_51, Braise_61, Braise_99, Braise_109, Braise_119, Braise_154, Braise_167, oi_1, oi_2, oi_3, P_slot]; try dsimp only
                  refine ⟨rfl, rfl, ?_⟩
                  have hN := hT.nx (Y := sI (sI (sI X 129 (aI X 135 (gI X 133 - 1).toNatClampNeg)) 128 (aI X 136 (gI X 133 - 1).toNatClampNeg)) 133 (gI X 133 - 1)) (by (repeat (first | exact hX.1 | refine Ry.a ?_ rfl | refine Ry.i ?_ rfl | refine Ry.g ?_ rfl | refine Ry.m ?_ rfl))) rfl rfl rfl rfl (fun q q1 q2 => rfl)
                  exact hW 0 [(0, .ref 1000), (1, .long v)] _ _ _ (by simp [rdl, rky]) (loop _ (by rw [← hk]; exact hN.2) _ rfl hN.1)
                · apply hB
                  dsimp only [rgo, rfd, Braise, Nat.beq, rwp, rst, lv_args, rlk, rs1, rs2, rdl, rky, rct, rcs, rcd, rno, rsw, Value.category, List.filter, List.take, List.drop, List.reverse, List.reverseAux, List.cons_append, List.nil_append, Option.toList, Int.toNat, Int.reduceToNat, if_pos, if_neg, reduceIte, ↓reduceIte, Nat.reduceAdd, Nat.reduceEqDiff, Nat.reduceBEq, beq_self_eq_true, Bool.not_true, Bool.not_false, Bool.and_true, Bool.and_false, Bool.true_and, Bool.false_and, gI_sI, gI_sL, gI_sA, gI_sM, gL_sI, gL_sL, gL_sA, gL_sM, aI_sI, aI_sL, aI_sA, aI_sM, aL_sI, aL_sL, aL_sA, aL_sM, Braise_0, Braise_7, Braise_51, Braise_61, Braise_99, Braise_109, Braise_119, Braise_154, Braise_167, oi_1, oi_2, oi_3, P_slot]; try dsimp only
                  refine ⟨rfl, rfl, (in_58 (by lia) (by lia)), fun h7 => ?_, fun h7 => ?_⟩
                  · apply hB
                    dsimp only [rgo, rfd, Braise, Nat.beq, rwp, rst, lv_args, rlk, rs1, rs2, rdl, rky, rct, rcs, rcd, rno, rsw, Value.category, List.filter, List.take, List.drop, List.reverse, List.reverseAux, List.cons_append, List.nil_append, Option.toList, Int.toNat, Int.reduceToNat, if_pos, if_neg, reduceIte, ↓reduceIte, Nat.reduceAdd, Nat.reduceEqDiff, Nat.reduceBEq, beq_self_eq_true, Bool.not_true, Bool.not_false, Bool.and_true, Bool.and_false, Bool.true_and, Bool.false_and, gI_sI, gI_sL, gI_sA, gI_sM, gL_sI, gL_sL, gL_sA, gL_sM, aI_sI, aI_sL, aI_sA, aI_sM, aL_sI, aL_sL, aL_sA, aL_sM, Braise_0, Braise_7, Braise_51, Braise_61, Braise_99, Braise_109, Braise_119, Braise_154, Braise_167, oi_1, oi_2, oi_3, P_slot]; try dsimp only
                    refine ⟨rfl, rfl, ?_⟩
                    have hN := hT.nx (Y := sI (sI (sI X 129 (aI X 135 (gI X 133 - 1).toNatClampNeg)) 128 (aI X 136 (gI X 133 - 1).toNatClampNeg)) 133 (gI X 133 - 1)) (by (repeat (first | exact hX.1 | refine Ry.a ?_ rfl | refine Ry.i ?_ rfl | refine Ry.g ?_ rfl | refine Ry.m ?_ rfl))) rfl rfl rfl rfl (fun q q1 q2 => rfl)
                    exact hW 0 [(0, .ref 1000), (1, .long v)] _ _ _ (by simp [rdl, rky]) (loop _ (by rw [← hk]; exact hN.2) _ rfl hN.1)
                  · apply hB
                    dsimp only [rgo, rfd, Braise, Nat.beq, rwp, rst, lv_args, rlk, rs1, rs2, rdl, rky, rct, rcs, rcd, rno, rsw, Value.category, List.filter, List.take, List.drop, List.reverse, List.reverseAux, List.cons_append, List.nil_append, Option.toList, Int.toNat, Int.reduceToNat, if_pos, if_neg, reduceIte, ↓reduceIte, Nat.reduceAdd, Nat.reduceEqDiff, Nat.reduceBEq, beq_self_eq_true, Bool.not_true, Bool.not_false, Bool.and_true, Bool.and_false, Bool.true_and, Bool.false_and, gI_sI, gI_sL, gI_sA, gI_sM, gL_sI, gL_sL, gL_sA, gL_sM, aI_sI, aI_sL, aI_sA, aI_sM, aL_sI, aL_sL, aL_sA, aL_sM, Braise_0, Braise_7, Braise_51, Braise_61, Braise_99, Braise_109, Braise_119, Braise_154, Braise_167, oi_1, oi_2, oi_3, P_slot]; try dsimp only
                    refine ⟨rfl, rfl, (in_137 (by lia) (by lia)), rfl, rfl, (in_138 (by lia) (by lia)), rfl, rfl, (in_140 (by lia) (by lia)), rfl, rfl, (in_58 (by lia) (by lia)), rfl, ?_⟩
                    refine ⟨rfl, hT.fin hG (show aI X 137 (gI X 133 - 1).toNatClampNeg < 2 by lia) (by rw [← r58]; show 0 ≤ aI X 58 (aI X 134 (gI X 133 - 1).toNatClampNeg).toNatClampNeg; lia) (by (repeat (first | exact hX.1 | refine Ry.a ?_ rfl | refine Ry.i ?_ rfl | refine Ry.g ?_ rfl | refine Ry.m ?_ rfl))) rfl rfl rfl rfl ?_ rfl rfl rfl rfl rfl rfl rfl rfl⟩
                    rw [← r58]
                    rfl
              · have hv := hT.var hG (show aI X 137 (gI X 133 - 1).toNatClampNeg = 0 by lia) (by rw [← r57]; show 0 ≤ aI X 57 (aI X 134 (gI X 133 - 1).toNatClampNeg).toNatClampNeg; lia)
                rw [← r61] at hv
                have hv1 : 0 ≤ aI X 61 (aI X 134 (gI X 133 - 1).toNatClampNeg).toNatClampNeg := hv.1
                have hv2 : aI X 61 (aI X 134 (gI X 133 - 1).toNatClampNeg).toNatClampNeg < 60 := hv.2
                have hsl := slt hc1 hc3 hv1 hv2
                apply hB
                dsimp only [rgo, rfd, Braise, Nat.beq, rwp, rst, lv_args, rlk, rs1, rs2, rdl, rky, rct, rcs, rcd, rno, rsw, Value.category, List.filter, List.take, List.drop, List.reverse, List.reverseAux, List.cons_append, List.nil_append, Option.toList, Int.toNat, Int.reduceToNat, if_pos, if_neg, reduceIte, ↓reduceIte, Nat.reduceAdd, Nat.reduceEqDiff, Nat.reduceBEq, beq_self_eq_true, Bool.not_true, Bool.not_false, Bool.and_true, Bool.and_false, Bool.true_and, Bool.false_and, gI_sI, gI_sL, gI_sA, gI_sM, gL_sI, gL_sL, gL_sA, gL_sM, aI_sI, aI_sL, aI_sA, aI_sM, aL_sI, aL_sL, aL_sA, aL_sM, Braise_0, Braise_7, Braise_51, Braise_61, Braise_99, Braise_109, Braise_119, Braise_154, Braise_167, oi_1, oi_2, oi_3, P_slot]; try dsimp only
                refine ⟨rfl, rfl, (in_137 (by lia) (by lia)), rfl, rfl, rfl, (in_61 (by lia) (by lia)), rfl, (by decide), (trivial), fun w8 τ8 hq8 => ?_⟩
                obtain ⟨rfl, e8⟩ := hq8
                obtain rfl := e8.symm
                dsimp only [Option.toList, List.cons_append, List.nil_append, Nat.beq, gI_sI, gI_sL, gI_sA, gI_sM, gL_sI, gL_sL, gL_sA, gL_sM, aI_sI, aI_sL, aI_sA, aI_sM, aL_sI, aL_sL, aL_sA, aL_sM]
                refine ⟨rfl, (in_130 hsl.1 hsl.2), rfl, rfl, (in_57 (by lia) (by lia)), rfl, ?_⟩
                refine ⟨rfl, hT.cat hG (show aI X 137 (gI X 133 - 1).toNatClampNeg = 0 by lia) (by rw [← r57]; show 0 ≤ aI X 57 (aI X 134 (gI X 133 - 1).toNatClampNeg).toNatClampNeg; lia) (by (repeat (first | exact hX.1 | refine Ry.a ?_ rfl | refine Ry.i ?_ rfl | refine Ry.g ?_ rfl | refine Ry.m ?_ rfl))) rfl rfl rfl rfl ?_ rfl rfl rfl rfl rfl rfl rfl rfl⟩
                rw [← r57]
                rfl
      exact hW 0 [(0, .ref 1000), (1, .long v)] _ _ _ (by simp [rdl, rky, lv_args, Value.category]) (loop _ σ rfl hL)
    next => exact hP.elim
