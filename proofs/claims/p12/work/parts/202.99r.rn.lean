/-! one code of the run -/
def CN (σ : RS) : Prop := (0 ≤ gI σ 144 ∧ gI σ 144 ≤ gI σ 145 ∧ gI σ 145 ≤ 20000) ∧ (0 ≤ gI σ 148 ∧ gI σ 148 ≤ 200) ∧ (0 ≤ gI σ 146 ∧ gI σ 146 ≤ gI σ 144) ∧ (0 ≤ gI σ 123 ∧ gI σ 123 ≤ 40)
theorem CN.ry {σ τ : RS} (h : CN σ) (hf : Ry σ τ) : CN τ := by
  unfold CN
  rw [hf.1 144 rfl, hf.1 145 rfl, hf.1 146 rfl, hf.1 148 rfl, hf.1 123 rfl]
  exact h
/-- ahead of the code c, with pc behind it -/
def WS (σ : RS) (c : Nat) : Prop := (c < nT (gI σ 18) ∧ 0 ≤ gI σ 141 ∧ nT (gI σ 141) = c + 1) ∧ ∃ i h t0 m l z, (0 ≤ gI σ 129 ∧ nT (gI σ 129) = i + 1 ∧ i < 30) ∧ BL σ σ i h t0 m ∧ (st σ c = some (l, m) ∧ zt σ c = some z) ∧ (0 ≤ gI σ 128 ∧ nT (gI σ 128) = h + wz z) ∧ (0 ≤ gI σ 133 ∧ TT σ σ (i + 1) h m (trs l) t0 (nT (gI σ 133)))
def MS (σ : RS) (c : Nat) (τ : RS) : Prop := gI τ 145 = gI σ 145 ∧ (nT (gI σ 144) < nT (gI τ 144) ∨ (gI τ 144 = gI σ 144 ∧ (nT (gI τ 129) < nT (gI σ 129) ∨ (nT (gI τ 129) = nT (gI σ 129) ∧ vp σ c < vp σ (nT (gI τ 141))))))
def WQ (σ : RS) (c : Nat) (τ : RS) : Prop := Fz σ τ ∧ CN τ ∧ (¬ gI τ 142 = 0 ∨ (gI τ 142 = 0 ∧ RA σ τ ∧ MS σ c τ))
/-- out of what leave, raise tell of X, where X is σ but for the pile and the tries -/
theorem WQ.ry {σ X τ : RS} {c : Nat} (hC : CN σ) (h0 : gI σ 142 = 0) (hW : nT (gI σ 141) = c + 1) (hX : Ry σ X) (h142 : gI X 142 = gI σ 142) (h129 : gI X 129 = gI σ 129) (h141 : gI X 141 = gI σ 141) (hq : RY X τ) : WQ σ c τ := by
  have hf := hX.tr hq.1
  refine ⟨hf.z, hC.ry hf, ?_⟩
  rcases hq.2 with q | ⟨q1, q2, q3⟩
  · exact Or.inl q
  · refine Or.inr ⟨by rw [q1, h142, h0], hX.z.se.sy.ra q2, hf.1 145 rfl, Or.inr ⟨hf.1 144 rfl, ?_⟩⟩
    unfold PG at q3
    rw [h129, h141, hW, hX.z.se.evp, hX.z.se.evp] at q3
    exact q3
/-- the code that ends a try -/
theorem WS.try_ {σ : RS} {c : Nat} (hG : RG σ) (hW : WS σ c) (ho : nT (aI σ 19 c) = 53) : ∃ i h t0 m x k r t', (0 ≤ gI σ 129 ∧ nT (gI σ 129) = i + 1 ∧ i < 30) ∧ BL σ σ i h t0 m ∧ (c < nT (gI σ 18) ∧ st σ c = some ((x, k) :: r, m) ∧ st σ (c + 1) = some (r, m) ∧ zt σ (c + 1) = some []) ∧ (x = 51 ∨ x = 52) ∧ (0 ≤ gI σ 128 ∧ nT (gI σ 128) = h) ∧ (0 ≤ gI σ 133 ∧ nT (gI σ 133) = t' + 1 ∧ t' < 1200) ∧ (TT σ σ (i + 1) h m (trs r) t0 t' ∧ YE σ σ (i + 1) h m (x, k) (trs r) t') ∧ (vp σ c = 5000 * c ∧ nT (aI σ 55 k) = c) ∧ 5000 * (c + 1) ≤ vp σ (c + 1) := by
  obtain ⟨⟨w1, w2, w3⟩, i, h, t0, m, l, z, a1, hB, ⟨s1, s2⟩, ⟨c1, c2⟩, d1, d2⟩ := hW
  obtain ⟨_, _, s0, s', P⟩ := hG.k.j.pc w1
  have hcl : ∃ y, tcl (nT (aI σ 19 c)) y = true := ⟨51, by rw [ho]; rfl⟩
  have e0 := Option.some.inj (P.hs.symm.trans s1)
  have hbd := TT.bd hG a1.2.2 hB ⟨Nat.le_of_lt w1, s1⟩ (w := []) rfl d2
  rcases sSt_act P.ss (Or.inr hcl) with ⟨x, r, t1, -⟩ | ⟨x, r, t1, t2, t3⟩
  · exfalso
    rw [ho] at t1
    unfold tfr at t1
    simp only [Bool.or_eq_true, Bool.and_eq_true, beq_iff_eq] at t1
    omega
  · have hx : x = 51 ∨ x = 52 := by
      rw [ho] at t1
      unfold tcl at t1
      simp only [Bool.or_eq_true, Bool.and_eq_true, beq_iff_eq] at t1
      omega
    rw [e0] at t2
    have t2 : l = (x, nT (aI σ 20 c)) :: r := t2
    subst t2
    have g := hG.k.code (l := []) (Nat.le_of_lt w1) w1 s1 (by omega) rfl (Or.inr hcl)
    rw [trs_in (by omega)] at d2
    obtain ⟨t', e1, e2, e3⟩ := d2
    have hz : z = [] := by
      have q := hG.ahd w1 (by omega) (by rw [ho]; unfold pop1; omega)
      exact Option.some.inj (s2.symm.trans q)
    subst hz
    have hu := hG.k.uq w1 ⟨rfl, Or.inr (Or.inr hcl)⟩ (r := 55) (by rw [ho]; rfl) (by omega) (by rw [ho]; rfl)
    have h19 := P.hce.1.1
    have e53 : aI σ 19 c = 53 := nTi ho 53 (by decide) (by decide) (by lia)
    have hv : vp σ c = 5000 * c := vp_st hG.k w1 (by rw [e53]; decide)
    exact ⟨i, h, t0, m, x, _, r, t', a1, hB, ⟨w1, s1, g.2.2.2 hcl, hG.beh w1 (by omega)⟩, hx, ⟨c1, c2⟩, ⟨d1, e1, by omega⟩, ⟨e2, e3⟩, ⟨hv, hu.2⟩, vp_ge hG.k (show c + 1 ≤ _ from w1) (g.2.2.2 hcl) (nz30 (hG.k.nzh (l := []) (Nat.le_of_lt w1) s1 (by omega)))⟩
theorem over_a {σ Y : RS} {c : Nat} (hG : RG σ) (hC : CN σ) (h0 : gI σ 142 = 0) (hW : WS σ c) (ho : nT (aI σ 19 c) = 53) (e : Y = sI σ 133 (gI σ 133 - 1)) : WQ σ c Y := by
  obtain ⟨i, h, t0, m, x, k, r, t', a1, hB, ⟨w1, s1, s2, s3⟩, hx, c1, ⟨d1, d2, d3⟩, ⟨g1, g2⟩, ⟨v1, v2⟩, v3⟩ := hW.try_ hG ho
  have hp : 0 < gI σ 133 := (nlt (by decide) d1).mpr (by rw [d2]; show 0 < t' + 1; omega)
  have ey : nT (gI σ 133 - 1) = t' := by have := nT_sub hp; omega
  have hf : Ry σ Y := by rw [e]; exact Ry.rf.i rfl
  have e41 : gI Y 141 = gI σ 141 := by rw [e]; rfl
  have e29 : gI Y 129 = gI σ 129 := by rw [e]; rfl
  have hw := hW.1
  refine ⟨hf.z, hC.ry hf, Or.inr ⟨by rw [e]; exact h0, ⟨i, h, t0, m, r, [], by rw [e29]; exact a1, by rw [e]; exact hB.eq (fun _ _ => ⟨rfl, rfl⟩) (fun _ _ _ _ _ => rfl), ⟨⟨by rw [e41]; exact hw.2.1, by rw [e41, hw.2.2]; exact w1⟩, by rw [e41, hw.2.2]; exact s2, by rw [e41, hw.2.2]; exact s3⟩, by rw [e]; exact c1, ?_⟩, hf.1 145 rfl, Or.inr ⟨hf.1 144 rfl, Or.inr ⟨by rw [e29], by rw [e41, hw.2.2]; omega⟩⟩⟩⟩
  have e33 : gI Y 133 = gI σ 133 - 1 := by rw [e]; rfl
  rw [e33]
  refine ⟨by lia, ?_⟩
  rw [ey, e]
  exact g1.eq (fun _ _ _ _ _ => rfl)
theorem over_r {σ X : RS} {c : Nat} (hG : RG σ) (hW : WS σ c) (ho : nT (aI σ 19 c) = 53) (e : X = sI σ 133 (gI σ 133 - 1)) : RG X ∧ Hw X X := by
  obtain ⟨i, h, t0, m, x, k, r, t', a1, hB, ⟨w1, s1, s2, s3⟩, hx, c1, ⟨d1, d2, d3⟩, ⟨g1, g2⟩, ⟨v1, v2⟩, v3⟩ := hW.try_ hG ho
  have hp : 0 < gI σ 133 := (nlt (by decide) d1).mpr (by rw [d2]; show 0 < t' + 1; omega)
  have ey : nT (gI σ 133 - 1) = t' := by have := nT_sub hp; omega
  have hf : Ry σ X := by rw [e]; exact Ry.rf.i rfl
  have hs := hf.z.se
  have e41 : gI X 141 = gI σ 141 := by rw [e]; rfl
  have e29 : gI X 129 = gI σ 129 := by rw [e]; rfl
  have e33 : gI X 133 = gI σ 133 - 1 := by rw [e]; rfl
  have hw := hW.1
  have ec : nT (gI X 141) - 1 = c := by rw [e41, hw.2.2]; rfl
  have r19 : aI X 19 = aI σ 19 := hf.2.2.1 19 rfl
  have i18 : gI X 18 = gI σ 18 := hf.1 18 rfl
  refine ⟨hG.fz hf.z, Ry.rf, ⟨rfl, by rw [e41]; exact (nle (by decide) hw.2.1).mpr (by rw [hw.2.2]; show 1 ≤ c + 1; omega), by rw [ec, r19, ho]; omega⟩, i, i, h, t0, m, (x, k) :: r, c, [(x, k)], trs r, ⟨by rw [e29]; exact a1.2.1, a1.2.2, Nat.le_refl _⟩, hs.bl (by rw [e]; exact hB.eq (fun _ _ => ⟨rfl, rfl⟩) (fun _ _ _ _ _ => rfl)), ⟨by rw [i18]; omega, by rw [hs.est]; exact s1⟩, by rw [trs_in (by omega)]; rfl, ⟨by rw [e33]; lia, hs.tt (by rw [e33, ey, e]; exact g1.eq (fun _ _ _ _ _ => rfl))⟩, fun _ => ⟨ec.symm, by rw [r19, ho]; omega⟩⟩
theorem over_l {σ X : RS} {c : Nat} (hG : RG σ) (hW : WS σ c) (ho : nT (aI σ 19 c) = 53) (e : X = sI σ 133 (gI σ 133 - 1)) (hs2 : ¬ aI σ 137 (nT (gI σ 133 - 1)) < 2) (hk0 : ¬ aI σ 138 (nT (gI σ 133 - 1)) = 0) (hk3 : ¬ aI σ 138 (nT (gI σ 133 - 1)) = 3) : RG X ∧ LW X X (aI σ 138 (nT (gI σ 133 - 1))) (aI σ 139 (nT (gI σ 133 - 1))) := by
  obtain ⟨i, h, t0, m, x, k, r, t', a1, hB, ⟨w1, s1, s2, s3⟩, hx, c1, ⟨d1, d2, d3⟩, ⟨g1, g2⟩, ⟨v1, v2⟩, v3⟩ := hW.try_ hG ho
  have hp : 0 < gI σ 133 := (nlt (by decide) d1).mpr (by rw [d2]; show 0 < t' + 1; omega)
  have ey : nT (gI σ 133 - 1) = t' := by have := nT_sub hp; omega
  have hf : Ry σ X := by rw [e]; exact Ry.rf.i rfl
  have hs := hf.z.se
  have e41 : gI X 141 = gI σ 141 := by rw [e]; rfl
  have e29 : gI X 129 = gI σ 129 := by rw [e]; rfl
  have e33 : gI X 133 = gI σ 133 - 1 := by rw [e]; rfl
  have e28 : gI X 128 = gI σ 128 := by rw [e]; rfl
  have hw := hW.1
  have ec : nT (gI X 141) - 1 = c := by rw [e41, hw.2.2]; rfl
  have r19 : aI X 19 = aI σ 19 := hf.2.2.1 19 rfl
  have i18 : gI X 18 = gI σ 18 := hf.1 18 rfl
  rw [ey] at hs2 hk0 hk3 ⊢
  have hx2 : x = 52 := by
    have z := g2.2.2.2.1
    have z2 : nT (aI σ 137 t') + 50 = x := z.2
    rcases hx with q | q
    · exfalso
      refine hs2 ((nlt z.1 (by decide)).mpr ?_)
      show nT (aI σ 137 t') < 2
      omega
    · exact q
  have hz := g2.2.2.2.2 hx2
  refine ⟨hG.fz hf.z, Ry.rf, ⟨rfl, rfl, rfl, by rw [e41]; exact (nle (by decide) hw.2.1).mpr (by rw [hw.2.2]; show 1 ≤ c + 1; omega)⟩, i, h, t0, m, (x, k) :: r, [(x, k)], trs r, by rw [e29]; exact a1, hs.bl (by rw [e]; exact hB.eq (fun _ _ => ⟨rfl, rfl⟩) (fun _ _ _ _ _ => rfl)), ⟨by rw [ec, i18]; exact w1, by rw [ec, r19, ho]; omega, by rw [ec, hs.est]; exact s1⟩, by rw [trs_in (by omega)]; rfl, by rw [e28]; exact c1, ⟨by rw [e33]; lia, hs.tt (by rw [e33, ey, e]; exact g1.eq (fun _ _ _ _ _ => rfl))⟩, ?_⟩
  rcases hz.1 with q | q | q | q
  · exact absurd q hk0
  · refine Or.inl ⟨q, hs.gt (hz.2 q).1, ?_⟩
    have := (hz.2 q).2
    rw [ec, hs.evp, hs.evp, v1]
    have v2 : nT (aI σ 55 (x, k).2) = c := v2
    rw [v2] at this
    exact this
  · exact Or.inr q
  · exact absurd q hk3
theorem WS.yb {σ : RS} {c : Nat} (hG : RG σ) (hW : WS σ c) (ho : nT (aI σ 19 c) = 53) : 0 ≤ gI σ 133 - 1 ∧ gI σ 133 - 1 < 1200 := by
  obtain ⟨i, h, t0, m, x, k, r, t', a1, hB, -, hx, c1, ⟨d1, d2, d3⟩, -⟩ := hW.try_ hG ho
  have hp : 0 < gI σ 133 := (nlt (by decide) d1).mpr (by rw [d2]; show 0 < t' + 1; omega)
  have ey : nT (gI σ 133 - 1) = t' := by have := nT_sub hp; omega
  have e0 : 0 ≤ gI σ 133 - 1 := by lia
  exact ⟨e0, (nlt e0 (by decide)).mpr (by rw [ey]; exact d3)⟩
