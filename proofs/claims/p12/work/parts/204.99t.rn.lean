/-! a call -/
theorem WS.st1 {σ : RS} {c : Nat} (hG : RG σ) (hc : c < nT (gI σ 18)) (ho : nT (aI σ 19 c) ≤ 18) {l : List (Nat × Nat)} {m : Nat} (hs : st σ c = some (l, m)) : st σ (c + 1) = some (l, m) := by
  obtain ⟨_, _, s0, s', P⟩ := hG.k.j.pc hc
  have e0 := Option.some.inj (P.hs.symm.trans hs)
  have q := P.ss
  have h1 : 1 ≤ nT (aI σ 19 c) := nT_le (x := 1) (by decide) P.hce.1.1
  have hh : nT (aI σ 19 c) = 1 ∨ nT (aI σ 19 c) = 2 ∨ nT (aI σ 19 c) = 3 ∨ nT (aI σ 19 c) = 4 ∨ nT (aI σ 19 c) = 5 ∨ nT (aI σ 19 c) = 6 ∨ nT (aI σ 19 c) = 7 ∨ nT (aI σ 19 c) = 8 ∨ nT (aI σ 19 c) = 9 ∨ nT (aI σ 19 c) = 10 ∨ nT (aI σ 19 c) = 11 ∨ nT (aI σ 19 c) = 12 ∨ nT (aI σ 19 c) = 13 ∨ nT (aI σ 19 c) = 14 ∨ nT (aI σ 19 c) = 15 ∨ nT (aI σ 19 c) = 16 ∨ nT (aI σ 19 c) = 17 ∨ nT (aI σ 19 c) = 18 := by omega
  have e1 : s' = s0 := by
    rcases hh with w | w | w | w | w | w | w | w | w | w | w | w | w | w | w | w | w | w <;> rw [w] at q <;> exact (Option.some.inj q).symm
  rw [← e0, ← e1]
  exact P.hs'
theorem WS.call {σ : RS} {c : Nat} (hG : RG σ) (hW : WS σ c) (ho : aI σ 19 c = 18) : ∃ i h t0 m l z r x, (0 ≤ gI σ 129 ∧ nT (gI σ 129) = i + 1 ∧ i < 30) ∧ BL σ σ i h t0 m ∧ (st σ (c + 1) = some (l, m) ∧ zt σ (c + 1) = some (x :: r) ∧ zt σ c = some z) ∧ ((aI σ 81 c = 5 ∧ x = 10) ∨ (¬ aI σ 81 c = 5 ∧ x = 0)) ∧ wz z = nT (aI σ 20 c) + wz r ∧ (0 ≤ gI σ 128 ∧ nT (gI σ 128) = h + wz z) ∧ (0 ≤ gI σ 133 ∧ TT σ σ (i + 1) h m (trs l) t0 (nT (gI σ 133))) ∧ (h + wz z ≤ 7781 ∧ nT (gI σ 133) ≤ 1200) := by
  obtain ⟨⟨w1, w2, w3⟩, i, h, t0, m, l, z, a1, hB, ⟨s1, s2⟩, ⟨c1, c2⟩, d1, d2⟩ := hW
  have ho2 : nT (aI σ 19 c) = 18 := by rw [ho]; rfl
  obtain ⟨z0, z', ⟨g1, g2⟩, ⟨g3, g4⟩, g5⟩ := hG.cd w1
  obtain rfl : z0 = z := Option.some.inj (g1.symm.trans s2)
  rw [ho2] at g5
  have g5 : (if z0.take (nT (aI σ 20 c)) = List.replicate (nT (aI σ 20 c)) 0 then some ((if aI σ 81 c = 5 then 10 else 0) :: z0.drop (nT (aI σ 20 c))) else none) = some z' := g5
  split at g5
  · rename_i ht
    obtain rfl := Option.some.inj g5
    have hl := hG.wz (Nat.le_of_lt w1) s2
    have hl2 := wz_le z0
    have hb := (hB.le hG).1
    refine ⟨i, h, t0, m, l, z0, z0.drop (nT (aI σ 20 c)), _, a1, hB, ⟨WS.st1 hG w1 (by omega) s1, g3, s2⟩, ?_, ?_, ⟨c1, c2⟩, ⟨d1, d2⟩, by omega, TT.bd hG a1.2.2 hB ⟨Nat.le_of_lt w1, s1⟩ (w := []) rfl d2⟩
    · by_cases w : aI σ 81 c = 5
      · exact Or.inl ⟨w, if_pos w⟩
      · exact Or.inr ⟨w, if_neg w⟩
    · have e : z0 = z0.take (nT (aI σ 20 c)) ++ z0.drop (nT (aI σ 20 c)) := (List.take_append_drop _ _).symm
      have e2 := congrArg wz e
      rw [wz_app, ht, wz_rep] at e2
      exact e2
  · cases g5
theorem MS.cnt {σ τ : RS} {c : Nat} (h : CN σ) (hn : ¬ gI σ 144 = gI σ 145) (h1 : gI τ 144 = gI σ 144 + 1) (h2 : gI τ 145 = gI σ 145) : MS σ c τ := by
  refine ⟨h2, Or.inl ?_⟩
  rw [h1, nT_add h.1.1 (by have := h.1.2; lia)]
  exact Nat.lt_succ_self _
/-- a call that ends at once: in() and out() -/
theorem call_b {σ τ : RS} {c : Nat} (hG : RG σ) (hC : CN σ) (hW : WS σ c) (ho : aI σ 19 c = 18) (hf : Fz σ τ) (hCt : CN τ) (hn : ¬ gI σ 144 = gI σ 145) (h144 : gI τ 144 = gI σ 144 + 1) (h145 : gI τ 145 = gI σ 145) (h142 : gI τ 142 = 0) (h129 : gI τ 129 = gI σ 129) (h133 : gI τ 133 = gI σ 133) (h141 : gI τ 141 = gI σ 141) (hy : ∀ k, 131 ≤ k → k ≤ 139 → aI τ k = aI σ k)
    (h128 : (aI σ 20 c = 0 ∧ aI σ 81 c = 3 ∧ gI τ 128 = gI σ 128 + 1) ∨ (aI σ 20 c = 1 ∧ aI σ 81 c = 5 ∧ gI τ 128 = gI σ 128 - 1)) : WQ σ c τ := by
  have hw := hW.1
  obtain ⟨i, h, t0, m, l, z, r, x, a1, hB, ⟨s1, s2, s3⟩, hx, hz, ⟨c1, c2⟩, ⟨d1, d2⟩, b1, b2⟩ := hW.call hG ho
  refine ⟨hf, hCt, Or.inr ⟨h142, ⟨i, h, t0, m, l, x :: r, by rw [h129]; exact a1, hB.eq (fun s _ => ⟨by rw [hy 131 (by decide) (by decide)], by rw [hy 132 (by decide) (by decide)]⟩) (fun s _ k k1 k2 => by rw [hy k (by omega) k2]), ⟨⟨by rw [h141]; exact hw.2.1, by rw [h141, hw.2.2]; exact hw.1⟩, by rw [h141, hw.2.2]; exact s1, by rw [h141, hw.2.2]; exact s2⟩, ?_, by rw [h133]; exact d1, by rw [h133]; exact d2.eq (fun s _ k k1 k2 => by rw [hy k (by omega) k2])⟩, MS.cnt hC hn h144 h145⟩⟩
  have hlt : gI σ 128 < 7800 := (nlt c1 (by decide)).mpr (by rw [c2]; show _ < 7800; omega)
  rcases h128 with ⟨q1, q2, q3⟩ | ⟨q1, q2, q3⟩
  · rw [q1] at hz
    have hz : wz z = 0 + wz r := hz
    rcases hx with ⟨p1, p2⟩ | ⟨p1, p2⟩
    · rw [q2] at p1; exact absurd p1 (by decide)
    · subst p2
      rw [q3]
      refine ⟨by lia, ?_⟩
      rw [nT_add c1 (by lia), c2]
      show _ = h + ((if (0 : Nat) = 0 ∨ (0 : Nat) = 4 then 1 else 0) + wz r)
      rw [if_pos (Or.inl rfl)]
      omega
  · rw [q1] at hz
    have hz : wz z = 1 + wz r := hz
    rcases hx with ⟨p1, p2⟩ | ⟨p1, p2⟩
    · subst p2
      rw [q3]
      have hp : 0 < gI σ 128 := (nlt (by decide) c1).mpr (by rw [c2]; show 0 < _; omega)
      have e9 := nT_sub hp
      refine ⟨by lia, ?_⟩
      show _ = h + ((if (10 : Nat) = 0 ∨ (10 : Nat) = 4 then 1 else 0) + wz r)
      rw [if_neg (by decide)]
      omega
    · exact absurd q2 p1
/-- a call of a method -/
theorem call_m {σ τ : RS} {c : Nat} {μ : Int32} (hG : RG σ) (hC : CN σ) (hW : WS σ c) (ho : aI σ 19 c = 18) (hf : Fz σ τ) (hCt : CN τ) (hn : ¬ gI σ 144 = gI σ 145) (h144 : gI τ 144 = gI σ 144 + 1) (h145 : gI τ 145 = gI σ 145) (h142 : gI τ 142 = 0) (hm : 0 ≤ μ ∧ μ < gI σ 36) (hr : aI σ 81 c = aI σ 38 (nT μ)) (h30 : gI σ 129 < 30) (h129 : gI τ 129 = gI σ 129 + 1) (h133 : gI τ 133 = gI σ 133) (h141 : gI τ 141 = aI σ 41 (nT μ)) (hy : ∀ k, 134 ≤ k → k ≤ 139 → aI τ k = aI σ k)
    (h132 : aI τ 132 = upd (aI σ 132) (nT (gI σ 129)) μ) (h131 : aI τ 131 = upd (aI σ 131) (nT (gI σ 129)) (gI σ 141)) (hn0 : 0 ≤ aI σ 20 c) (h128 : gI τ 128 = gI σ 128 - aI σ 20 c) : WQ σ c τ := by
  have hw := hW.1
  obtain ⟨i, h, t0, m, l, z, r, x, ⟨a1, a2, a3⟩, hB, ⟨s1, s2, s3⟩, hx, hz, ⟨c1, c2⟩, ⟨d1, d2⟩, b1, b2⟩ := hW.call hG ho
  have hlt := nT_lt a1 h30
  have hlt : nT (gI σ 129) < 30 := hlt
  have hmn : nT μ < nT (gI σ 36) := nT_lt hm.1 hm.2
  have hY : ∀ t, Yq σ τ t := fun t s _ k k1 k2 => by rw [hy k k1 k2]
  have hMT : (0 ≤ aI σ 41 (nT μ) ∧ aI σ 41 (nT μ) ≤ gI σ 18) ∧ Es (aI σ 19) (aI σ 20) (aI σ 21) (nT (aI σ 41 (nT μ))) = some [] ∧ Ss (aI σ 19) (aI σ 20) (nT (aI σ 41 (nT μ))) = some ([], nT μ) := by
    obtain ⟨f, kk, j, hp⟩ := hG.k
    have q := hp.2.2.2.2.2.2.2.2.1.2 (nT μ) hmn
    exact ⟨q.2.2.2.1, q.2.2.2.2.1, q.2.2.2.2.2⟩
  have hcl := nT_le hMT.1.1 hMT.1.2
  have hzt : zt σ (nT (aI σ 41 (nT μ))) = some [] := by
    obtain ⟨z2, q1, -⟩ := hG.zs hcl
    have q2 := Et_Es _ _ q1
    have q3 := Option.some.inj (q2.symm.trans hMT.2.1)
    have q4 : z2 = [] := by
      cases z2 with
      | nil => rfl
      | cons a b => cases q3
    rw [q1, q4]
  have hle : aI σ 20 c ≤ gI σ 128 := (nle hn0 c1).mpr (by rw [c2, hz]; omega)
  have e8 := (nT_subn hn0 hle).1
  refine ⟨hf, hCt, Or.inr ⟨h142, ⟨i + 1, h + wz r, nT (gI σ 133), nT μ, [], [], ⟨by rw [h129]; lia, by rw [h129, nT_add a1 (by lia), a2], by omega⟩, ?_, ⟨⟨by rw [h141]; exact hMT.1.1, by rw [h141]; exact hcl⟩, by rw [h141]; exact hMT.2.2, by rw [h141]; exact hzt⟩, ⟨by rw [h128]; lia, ?_⟩, by rw [h133]; exact d1, by rw [h133]; rfl⟩, MS.cnt hC hn h144 h145⟩⟩
  · refine ⟨⟨?_, hmn⟩, h, t0, m, l, x, r, hB.eq (fun s hs => ⟨by rw [h131, upd_ne (by omega)], by rw [h132, upd_ne (by omega)]⟩) (hY _), ?_, ?_, ?_, rfl, d2.eq (hY _)⟩
    · rw [h132, a2, upd_eq]; exact ⟨hm.1, rfl⟩
    · rw [h131, a2, upd_eq]; exact ⟨hw.2.1, by rw [hw.2.2]; exact hw.1⟩
    · rw [h131, a2, upd_eq, hw.2.2]; exact ⟨s1, s2⟩
    · rw [← hr]; exact hx
  · rw [h128, e8, c2, hz]
    show _ = h + wz r + 0
    omega
