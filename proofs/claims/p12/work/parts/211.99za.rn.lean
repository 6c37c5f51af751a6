/-! a statement's code, case by case -/
theorem WS.bd {σ : RS} {c : Nat} (hG : RG σ) (hS : WS σ c) : (1 ≤ gI σ 129 ∧ gI σ 129 ≤ 30) ∧ (0 ≤ gI σ 128 ∧ gI σ 128 ≤ 7800) ∧ (0 ≤ gI σ 133 ∧ gI σ 133 ≤ 1200) ∧ (0 ≤ aI σ 132 (nT (gI σ 129 - 1)) ∧ aI σ 132 (nT (gI σ 129 - 1)) < 10) := by
  obtain ⟨⟨w1, w2, w3⟩, i, h, t0, m, l, z, ⟨a1, a2, a3⟩, hB, ⟨q1, q2⟩, ⟨c1, c2⟩, d1, d2⟩ := hS
  have hbd := TT.bd hG a3 hB ⟨Nat.le_of_lt w1, q1⟩ (w := []) rfl d2
  obtain ⟨b1, b2, b3, b4⟩ := hB.le hG
  have hl := hG.wz (Nat.le_of_lt w1) q2
  have hl2 := wz_le z
  have m1 := hG.k.j.m
  have m2 : nT (gI σ 36) ≤ 10 := nT_le (y := 10) m1.1 m1.2
  have q1 : 1 ≤ gI σ 129 := (nle (by decide) a1).mpr (by rw [a2]; show 1 ≤ i + 1; omega)
  have e : nT (gI σ 129 - 1) = i := by
    have := nT_sub (x := gI σ 129) (by lia)
    omega
  refine ⟨⟨q1, (nle a1 (by decide)).mpr (by rw [a2]; show i + 1 ≤ 30; omega)⟩, ⟨c1, (nle c1 (by decide)).mpr (by rw [c2]; show _ ≤ 7800; omega)⟩, ⟨d1, (nle d1 (by decide)).mpr (by show _ ≤ 1200; omega)⟩, ?_⟩
  rw [e]
  exact ⟨b4.1, (nlt b4.1 (by decide)).mpr (by rw [b4.2]; show m < 10; omega)⟩
theorem WS.lw {σ X : RS} {c : Nat} {how to : Int32} {l : List (Nat × Nat)} {m : Nat} {z : List Nat} (hG : RG σ) (hS : WS σ c) (ho : ¬ (nT (aI σ 19 c) = 26 ∨ nT (aI σ 19 c) = 32)) (s1 : st σ c = some (l, m)) (s2 : zt σ c = some z) (hf : Ry σ X) (h129 : gI X 129 = gI σ 129) (h141 : gI X 141 = gI σ 141) (h133 : gI X 133 = gI σ 133) (hy : ∀ k, 134 ≤ k → k ≤ 139 → aI X k = aI σ k) (h128 : 0 ≤ gI X 128 ∧ nT (gI X 128) + wz z = nT (gI σ 128)) (hj : (how = 1 ∧ GT σ m to (trs l) ∧ vp σ c < vp σ (nT to)) ∨ how = 2) : RG X ∧ LW X X how to := by
  obtain ⟨⟨w1, w2, w3⟩, i, h, t0, m0, l0, z0, a1, hB, ⟨q1, q2⟩, ⟨c1, c2⟩, d1, d2⟩ := hS
  have e1 := Option.some.inj (q1.symm.trans s1)
  obtain rfl : l0 = l := congrArg Prod.fst e1
  obtain rfl : m0 = m := congrArg Prod.snd e1
  obtain rfl : z0 = z := Option.some.inj (q2.symm.trans s2)
  have hs := hf.z.se
  have hY : ∀ t, Yq σ X t := fun t s _ k k1 k2 => by rw [hy k k1 k2]
  have ec : nT (gI X 141) - 1 = c := by rw [h141, w3]; rfl
  have r19 : aI X 19 = aI σ 19 := hf.2.2.1 19 rfl
  have i18 : gI X 18 = gI σ 18 := hf.1 18 rfl
  refine ⟨hG.fz hf.z, Ry.rf, ⟨rfl, rfl, rfl, by rw [h141]; exact (nle (by decide) w2).mpr (by rw [w3]; show 1 ≤ c + 1; omega)⟩, i, h, t0, m0, l0, [], trs l0, by rw [h129]; exact a1, hs.bl (hB.eq (fun s _ => ⟨by rw [hf.2.2.1 131 rfl], by rw [hf.2.2.1 132 rfl]⟩) (hY _)), ⟨by rw [ec, i18]; exact w1, by rw [ec, r19]; exact ho, by rw [ec, hs.est]; exact s1⟩, rfl, ⟨h128.1, by have := h128.2; omega⟩, ⟨by rw [h133]; exact d1, by rw [h133]; exact hs.tt (d2.eq (hY _))⟩, ?_⟩
  rcases hj with ⟨j1, j2, j3⟩ | j
  · exact Or.inl ⟨j1, hs.gt j2, by rw [ec, hs.evp, hs.evp]; exact j3⟩
  · exact Or.inr j
theorem WS.hw {σ X : RS} {c : Nat} (hG : RG σ) (hS : WS σ c) (ho : ¬ (nT (aI σ 19 c) = 26 ∨ nT (aI σ 19 c) = 32) ∧ ¬ (nT (aI σ 19 c) = 51 ∨ nT (aI σ 19 c) = 52)) (hf : Ry σ X) (h129 : gI X 129 = gI σ 129) (h141 : gI X 141 = gI σ 141) (h133 : gI X 133 = gI σ 133) (hy : ∀ k, 134 ≤ k → k ≤ 139 → aI X k = aI σ k) : RG X ∧ Hw X X := by
  obtain ⟨⟨w1, w2, w3⟩, i, h, t0, m0, l0, z0, a1, hB, ⟨q1, q2⟩, ⟨c1, c2⟩, d1, d2⟩ := hS
  have hs := hf.z.se
  have hY : ∀ t, Yq σ X t := fun t s _ k k1 k2 => by rw [hy k k1 k2]
  have ec : nT (gI X 141) - 1 = c := by rw [h141, w3]; rfl
  have r19 : aI X 19 = aI σ 19 := hf.2.2.1 19 rfl
  have i18 : gI X 18 = gI σ 18 := hf.1 18 rfl
  exact ⟨hG.fz hf.z, Ry.rf, ⟨rfl, by rw [h141]; exact (nle (by decide) w2).mpr (by rw [w3]; show 1 ≤ c + 1; omega), by rw [ec, r19]; exact ho.2⟩, i, i, h, t0, m0, l0, c, [], trs l0, ⟨by rw [h129]; exact a1.2.1, a1.2.2, Nat.le_refl _⟩, hs.bl (hB.eq (fun s _ => ⟨by rw [hf.2.2.1 131 rfl], by rw [hf.2.2.1 132 rfl]⟩) (hY _)), ⟨by rw [i18]; omega, by rw [hs.est]; exact q1⟩, rfl, ⟨by rw [h133]; exact d1, by rw [h133]; exact hs.tt (d2.eq (hY _))⟩, fun _ => ⟨ec.symm, by rw [r19]; exact ho.1⟩⟩
/-- codes that count -/
theorem step_c {σ τ : RS} {c : Nat} (hG : RG σ) (hC : CN σ) (hS : WS σ c) (ho : nT (aI σ 19 c) = 20 ∨ nT (aI σ 19 c) = 26 ∨ nT (aI σ 19 c) = 30 ∨ nT (aI σ 19 c) = 32) (hf : Fz σ τ) (hCt : CN τ) (hn : ¬ gI σ 144 = gI σ 145) (h144 : gI τ 144 = gI σ 144 + 1) (h145 : gI τ 145 = gI σ 145) (h142 : gI τ 142 = 0) (h129 : gI τ 129 = gI σ 129) (h133 : gI τ 133 = gI σ 133) (hy : ∀ k, 131 ≤ k → k ≤ 139 → aI τ k = aI σ k) (h141 : gI τ 141 = gI σ 141) (h128 : gI τ 128 = gI σ 128) : WQ σ c τ := by
  obtain ⟨l, m, z, l', z', ⟨s1, s2⟩, s3, s4, s5, s6⟩ := hS.cd hG
  obtain ⟨g1, g2⟩ := s5 (by omega)
  have hz := hS.nop hG (by omega) (by unfold pop1; omega)
  exact step_cnt hC hS s1 hz hf hCt hn h144 h145 h142 h129 h133 hy h141 h128 g1 (sSt_trs g2 (by omega)) (hG.beh hS.1.1 (by omega))
/-- the next code, nothing taken from the pile -/
theorem step_n {σ τ : RS} {c : Nat} (hG : RG σ) (hC : CN σ) (h0 : gI σ 142 = 0) (hS : WS σ c) (ho : 19 ≤ nT (aI σ 19 c)) (hn : ¬ nT (aI σ 19 c) = 30 ∧ ¬ nT (aI σ 19 c) = 26 ∧ ¬ nT (aI σ 19 c) = 32 ∧ ¬ nT (aI σ 19 c) = 35 ∧ ¬ (50 ≤ nT (aI σ 19 c) ∧ nT (aI σ 19 c) ≤ 54)) (hp : ¬ pop1 (nT (aI σ 19 c)) (aI σ 20 c) (aI σ 21 c)) (e : τ = σ) : WQ σ c τ := by
  obtain ⟨l, m, z, l', z', ⟨s1, s2⟩, s3, s4, s5, s6⟩ := hS.cd hG
  have hw := hS.1
  have hb := (hS.bd hG).2.1
  subst e
  exact step_g hC hS s1 (hS.nop hG ho hp) (hG.tn hw.1 s1 ho hn) Ry.rf h0 rfl rfl (fun _ _ _ => rfl) ⟨hw.2.1, hw.2.2⟩ ⟨hb.1, rfl⟩
/-- a value is taken; then p -/
theorem step_p {σ τ : RS} {c p : Nat} {l : List (Nat × Nat)} {m : Nat} (hG : RG σ) (hC : CN σ) (hS : WS σ c) (s1 : st σ c = some (l, m)) (ho : 19 ≤ nT (aI σ 19 c)) (h21 : nT (aI σ 19 c) ≠ 21) (hp : pop1 (nT (aI σ 19 c)) (aI σ 20 c) (aI σ 21 c)) (ht : Tg σ c l m p) (hf : Ry σ τ) (h142 : gI τ 142 = 0) (h129 : gI τ 129 = gI σ 129) (h133 : gI τ 133 = gI σ 133) (hy : ∀ k, 134 ≤ k → k ≤ 139 → aI τ k = aI σ k) (h141 : 0 ≤ gI τ 141 ∧ nT (gI τ 141) = p) (h128 : gI τ 128 = gI σ 128 - 1) : WQ σ c τ := by
  obtain ⟨q1, q2⟩ := hS.pop hG ho h21 hp
  have e := nT_sub q2.1
  exact step_g hC hS s1 q1 ht hf h142 h129 h133 hy h141 ⟨by rw [h128]; lia, by rw [h128]; show _ + 1 = _; omega⟩
/-- POP -/
theorem step_pop {σ τ : RS} {c : Nat} (hG : RG σ) (hC : CN σ) (h0 : gI σ 142 = 0) (hS : WS σ c) (ho : aI σ 19 c = 21) (e : (aI σ 82 c = 5 ∧ τ = σ) ∨ (¬ aI σ 82 c = 5 ∧ τ = sI σ 128 (gI σ 128 - 1))) : WQ σ c τ := by
  have ho2 : nT (aI σ 19 c) = 21 := by rw [ho]; rfl
  obtain ⟨l, m, z, l', z', ⟨s1, s2⟩, s3, s4, s5, s6⟩ := hS.cd hG
  have hw := hS.1
  have hb := (hS.bd hG).2.1
  obtain ⟨x, hx, hx2⟩ := (hG.ec hw.1).2.2.2.2 ho z s2
  subst hx
  have ht := hG.tn hw.1 s1 (by omega) (by omega)
  have hm : x % 10 = 0 := by
    rcases (eT_s (by omega) s4).2 with ⟨y, q1, q2, -⟩ | ⟨q, -⟩
    · rw [(List.cons.inj q1).1]; exact q2
    · cases q
  rcases e with ⟨e1, e2⟩ | ⟨e1, e2⟩
  · subst e2
    have h10 := hx2.mp e1
    refine step_g hC hS s1 s2 ht Ry.rf h0 rfl rfl (fun _ _ _ => rfl) ⟨hw.2.1, hw.2.2⟩ ⟨hb.1, ?_⟩
    show _ + ((if x = 0 ∨ x = 4 then 1 else 0) + 0) = _
    rw [if_neg (by omega)]
    rfl
  · have h10 : ¬ 10 ≤ x := fun q => e1 (hx2.mpr q)
    have hx0 : x = 0 := by omega
    subst hx0
    have hp : 0 < gI σ 128 := by
      obtain ⟨-, i, h, t0, m, l, z, a1, hB, ⟨q1, q2⟩, ⟨c1, c2⟩, -⟩ := hS
      obtain rfl : z = [0] := Option.some.inj (q2.symm.trans s2)
      have c2 : nT (gI σ 128) = h + 1 := c2
      exact (nlt (by decide) c1).mpr (by rw [c2]; show 0 < h + 1; omega)
    have en := nT_sub hp
    have e28 : gI τ 128 = gI σ 128 - 1 := by rw [e2]; rfl
    exact step_g hC hS s1 s2 ht (by rw [e2]; exact Ry.rf.i rfl) (by rw [e2]; exact h0) (by rw [e2]; rfl) (by rw [e2]; rfl) (fun k _ _ => by rw [e2]; rfl) (by rw [e2]; exact ⟨hw.2.1, hw.2.2⟩) ⟨by rw [e28]; lia, by rw [e28]; show _ + 1 = _; omega⟩
/-- what stands on top at a code of a thing -/
theorem RG.hd {σ : RS} (hG : RG σ) {c : Nat} (hc : c < nT (gI σ 18)) {l : List (Nat × Nat)} {m : Nat} (hs : st σ c = some (l, m)) (x : Nat) (hx : ∀ y, (tfr (nT (aI σ 19 c)) y = true ∨ tcl (nT (aI σ 19 c)) y = true) → y = x) (ht : (∃ y, tfr (nT (aI σ 19 c)) y = true) ∨ ∃ y, tcl (nT (aI σ 19 c)) y = true) : ∃ r, l = (x, nT (aI σ 20 c)) :: r := by
  obtain ⟨_, _, s0, s', P⟩ := hG.k.j.pc hc
  have e0 := Option.some.inj (P.hs.symm.trans hs)
  rcases sSt_act P.ss ht with ⟨y, r, t1, t2, t3⟩ | ⟨y, r, t1, t2, t3⟩
  · rw [e0] at t2
    have := hx y (Or.inl t1)
    subst this
    exact ⟨r, t2⟩
  · rw [e0] at t2
    have := hx y (Or.inr t1)
    subst this
    exact ⟨r, t2⟩
