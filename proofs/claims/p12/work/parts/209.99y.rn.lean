/-! a try begun, its catch, its finally reached -/
theorem WS.beg {σ τ : RS} {c : Nat} (hG : RG σ) (hC : CN σ) (hS : WS σ c) (ho : aI σ 19 c = 50) (hf : Ry σ τ) (h142 : gI τ 142 = 0) (h129 : gI τ 129 = gI σ 129) (h141 : gI τ 141 = gI σ 141) (h128 : gI τ 128 = gI σ 128) (h133 : gI τ 133 = gI σ 133 + 1) (y134 : aI τ 134 = upd (aI σ 134) (nT (gI σ 133)) (aI σ 20 c)) (y135 : aI τ 135 = upd (aI σ 135) (nT (gI σ 133)) (gI σ 129)) (y136 : aI τ 136 = upd (aI σ 136) (nT (gI σ 133)) (gI σ 128)) (y137 : aI τ 137 = upd (aI σ 137) (nT (gI σ 133)) 0) (y138 : aI τ 138 = upd (aI σ 138) (nT (gI σ 133)) 0) (y139 : aI τ 139 = aI σ 139) : WQ σ c τ := by
  have ho2 : nT (aI σ 19 c) = 50 := by rw [ho]; rfl
  obtain ⟨l, m, z, l', z', ⟨s1, s2⟩, s3, s4, s5, s6⟩ := hS.cd hG
  obtain ⟨⟨w1, w2, w3⟩, i, h, t0, m0, l0, z0, a1, hB, ⟨q1, q2⟩, ⟨c1, c2⟩, d1, d2⟩ := hS
  have e1 := Option.some.inj (q1.symm.trans s1)
  obtain rfl : l0 = l := congrArg Prod.fst e1
  obtain rfl : m0 = m := congrArg Prod.snd e1
  obtain rfl : z0 = z := Option.some.inj (q2.symm.trans s2)
  have hz : z0 = [] := by
    have q := hG.ahd w1 (by omega) (by rw [ho2]; unfold pop1; omega)
    exact Option.some.inj (s2.symm.trans q)
  subst hz
  have hbd := TT.bd hG a1.2.2 hB ⟨Nat.le_of_lt w1, s1⟩ (w := []) rfl d2
  have hlt : gI σ 133 < 1300 := (nlt d1 (by decide)).mpr (by show _ < 1300; omega)
  obtain ⟨_, _, s0, s', P⟩ := hG.k.j.pc w1
  obtain ⟨g1, g2⟩ := s5 (by omega)
  have e3 := sSt_pu g2 (by rw [ho2]; rfl)
  rw [ho2] at e3
  have e3 : l' = (50, nT (aI σ 20 c)) :: l0 := e3
  subst e3
  have ha := (P.hce.2.2.2.2.1 (by rw [ho2]; rfl)).1
  have hv : vp σ c = 5000 * c := vp_st hG.k w1 (by rw [ho]; decide)
  have a2 := vp_ge hG.k (show c + 1 ≤ _ from w1) g1 (fun k' r' e => by
    have := congrArg Prod.fst (List.cons.inj e).1
    exact absurd this (by show ¬ 50 = 30; decide))
  have hY : Yq σ τ (nT (gI σ 133)) := by
    intro s hst q q1 q2
    have hq : q = 134 ∨ q = 135 ∨ q = 136 ∨ q = 137 ∨ q = 138 ∨ q = 139 := by omega
    rcases hq with rfl | rfl | rfl | rfl | rfl | rfl
    · rw [y134, upd_ne (by omega)]
    · rw [y135, upd_ne (by omega)]
    · rw [y136, upd_ne (by omega)]
    · rw [y137, upd_ne (by omega)]
    · rw [y138, upd_ne (by omega)]
    · rw [y139]
  have hle := d2.le
  refine ⟨hf.z, hC.ry hf, Or.inr ⟨h142, ⟨i, h, t0, m0, _, [], by rw [h129]; exact a1, hB.eq (fun s _ => ⟨by rw [hf.2.2.1 131 rfl], by rw [hf.2.2.1 132 rfl]⟩) (fun s hst => hY s (by omega)), ⟨⟨by rw [h141]; exact w2, by rw [h141, w3]; exact w1⟩, by rw [h141, w3]; exact g1, by rw [h141, w3]; exact hG.beh w1 (by omega)⟩, by rw [h128]; exact ⟨c1, c2⟩, by rw [h133]; lia, ?_⟩, hf.1 145 rfl, Or.inr ⟨hf.1 144 rfl, Or.inr ⟨by rw [h129], by rw [h141, w3]; omega⟩⟩⟩⟩
  rw [trs_in (by decide), h133, nT_add d1 (by lia)]
  refine ⟨_, rfl, d2.eq hY, ?_⟩
  unfold YE
  rw [y134, y135, y136, y137, upd_eq, upd_eq, upd_eq, upd_eq]
  exact ⟨⟨ha, rfl⟩, ⟨a1.1, a1.2.1⟩, ⟨c1, by rw [c2]; rfl⟩, ⟨by decide, rfl⟩, fun q => absurd q (by show ¬ 50 = 52; decide)⟩
/-- the try that stands on top -/
theorem WS.tp {σ : RS} {c : Nat} (hG : RG σ) (hS : WS σ c) {x k : Nat} {r : List (Nat × Nat)} {m : Nat} (hs : st σ c = some ((x, k) :: r, m)) (hx : 50 ≤ x ∧ x ≤ 52) (hz : zt σ c = some []) : ∃ i h t0 t', (0 ≤ gI σ 129 ∧ nT (gI σ 129) = i + 1 ∧ i < 30) ∧ BL σ σ i h t0 m ∧ (0 ≤ gI σ 128 ∧ nT (gI σ 128) = h) ∧ ((0 ≤ gI σ 133 ∧ 0 < gI σ 133 ∧ gI σ 133 ≤ 1200) ∧ nT (gI σ 133) = t' + 1 ∧ nT (gI σ 133 - 1) = t') ∧ (TT σ σ (i + 1) h m (trs r) t0 t' ∧ YE σ σ (i + 1) h m (x, k) (trs r) t') := by
  obtain ⟨⟨w1, w2, w3⟩, i, h, t0, m0, l0, z0, a1, hB, ⟨q1, q2⟩, ⟨c1, c2⟩, d1, d2⟩ := hS
  have e1 := Option.some.inj (q1.symm.trans hs)
  obtain rfl : l0 = (x, k) :: r := congrArg Prod.fst e1
  obtain rfl : m0 = m := congrArg Prod.snd e1
  obtain rfl : z0 = [] := Option.some.inj (q2.symm.trans hz)
  have hbd := TT.bd hG a1.2.2 hB ⟨Nat.le_of_lt w1, hs⟩ (w := []) rfl d2
  rw [trs_in hx] at d2
  obtain ⟨t', e2, e3, e4⟩ := d2
  have hp : 0 < gI σ 133 := (nlt (by decide) d1).mpr (by rw [e2]; show 0 < t' + 1; omega)
  exact ⟨i, h, t0, t', a1, hB, ⟨c1, c2⟩, ⟨⟨d1, hp, (nle d1 (by decide)).mpr (by show _ ≤ 1200; omega)⟩, e2, by have := nT_sub hp; omega⟩, e3, e4⟩
/-- its finally is reached: p is the place behind the FIN -/
theorem WS.fin {σ τ : RS} {c p : Nat} (hG : RG σ) (hC : CN σ) (hS : WS σ c) {x k : Nat} {r : List (Nat × Nat)} {m : Nat} (hs : st σ c = some ((x, k) :: r, m)) (hx : 50 ≤ x ∧ x ≤ 52) (hz : zt σ c = some []) (hf : Ry σ τ) (h142 : gI τ 142 = 0) (h129 : gI τ 129 = gI σ 129) (h141 : 0 ≤ gI τ 141 ∧ nT (gI τ 141) = p) (h128 : gI τ 128 = gI σ 128) (h133 : gI τ 133 = gI σ 133) (y134 : aI τ 134 = aI σ 134) (y135 : aI τ 135 = aI σ 135) (y136 : aI τ 136 = aI σ 136) (y137 : aI τ 137 = upd (aI σ 137) (nT (gI σ 133 - 1)) 2) (y138 : aI τ 138 = upd (aI σ 138) (nT (gI σ 133 - 1)) 0) (y139 : aI τ 139 = aI σ 139) (hp : p ≤ nT (gI σ 18)) (g1 : st σ p = some ((52, k) :: r, m)) (g2 : zt σ p = some []) (hv : vp σ c < vp σ p) : WQ σ c τ := by
  obtain ⟨i, h, t0, t', a1, hB, c1, ⟨d1, d2, d3⟩, ⟨e3, e4⟩⟩ := hS.tp hG hs hx hz
  rw [d3] at y137 y138
  have hY : Yq σ τ t' := by
    intro s hst q q1 q2
    have hq : q = 134 ∨ q = 135 ∨ q = 136 ∨ q = 137 ∨ q = 138 ∨ q = 139 := by omega
    rcases hq with rfl | rfl | rfl | rfl | rfl | rfl
    · rw [y134]
    · rw [y135]
    · rw [y136]
    · rw [y137, upd_ne (by omega)]
    · rw [y138, upd_ne (by omega)]
    · rw [y139]
  have hle := e3.le
  refine ⟨hf.z, hC.ry hf, Or.inr ⟨h142, ⟨i, h, t0, m, _, [], by rw [h129]; exact a1, hB.eq (fun s _ => ⟨by rw [hf.2.2.1 131 rfl], by rw [hf.2.2.1 132 rfl]⟩) (fun s hst => hY s (by omega)), ⟨⟨h141.1, by rw [h141.2]; exact hp⟩, by rw [h141.2]; exact g1, by rw [h141.2]; exact g2⟩, by rw [h128]; exact c1, by rw [h133]; exact d1.1, ?_⟩, hf.1 145 rfl, Or.inr ⟨hf.1 144 rfl, Or.inr ⟨by rw [h129], by rw [h141.2]; exact hv⟩⟩⟩⟩
  rw [trs_in (by decide), h133]
  refine ⟨t', d2, e3.eq hY, ?_⟩
  unfold YE
  rw [y134, y135, y136, y137, y138, upd_eq, upd_eq]
  exact ⟨e4.1, e4.2.1, e4.2.2.1, ⟨by decide, rfl⟩, fun _ => ⟨Or.inl rfl, fun q => absurd q (by decide)⟩⟩
/-- it is over -/
theorem WS.out {σ τ : RS} {c p : Nat} (hG : RG σ) (hC : CN σ) (hS : WS σ c) {x k : Nat} {r : List (Nat × Nat)} {m : Nat} (hs : st σ c = some ((x, k) :: r, m)) (hx : 50 ≤ x ∧ x ≤ 52) (hz : zt σ c = some []) (hf : Ry σ τ) (h142 : gI τ 142 = 0) (h129 : gI τ 129 = gI σ 129) (h141 : 0 ≤ gI τ 141 ∧ nT (gI τ 141) = p) (h128 : gI τ 128 = gI σ 128) (h133 : gI τ 133 = gI σ 133 - 1) (hy : ∀ q, 134 ≤ q → q ≤ 139 → aI τ q = aI σ q) (hp : p ≤ nT (gI σ 18)) (g1 : st σ p = some (r, m)) (g2 : zt σ p = some []) (hv : vp σ c < vp σ p) : WQ σ c τ := by
  obtain ⟨i, h, t0, t', a1, hB, c1, ⟨d1, d2, d3⟩, ⟨e3, e4⟩⟩ := hS.tp hG hs hx hz
  have hY : ∀ t, Yq σ τ t := fun t s _ k k1 k2 => by rw [hy k k1 k2]
  refine ⟨hf.z, hC.ry hf, Or.inr ⟨h142, ⟨i, h, t0, m, _, [], by rw [h129]; exact a1, hB.eq (fun s _ => ⟨by rw [hf.2.2.1 131 rfl], by rw [hf.2.2.1 132 rfl]⟩) (hY _), ⟨⟨h141.1, by rw [h141.2]; exact hp⟩, by rw [h141.2]; exact g1, by rw [h141.2]; exact g2⟩, by rw [h128]; exact c1, by rw [h133]; have := d1.2.1; lia, ?_⟩, hf.1 145 rfl, Or.inr ⟨hf.1 144 rfl, Or.inr ⟨by rw [h129], by rw [h141.2]; exact hv⟩⟩⟩⟩
  rw [h133, d3]
  exact e3.eq (hY _)
