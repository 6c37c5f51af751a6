/-! an exp's code, by its op -/
theorem eT_w {n : Nat} {a b t : Int32} {z z' : List Nat} (h : eT n a b t z = some z') : (((1 ≤ n ∧ n ≤ 4) ∨ n = 16) → wz z' = wz z + 1) ∧ ((n = 5 ∨ n = 6 ∨ (n = 17 ∧ a = 61)) → wz z' = wz z ∧ 1 ≤ wz z) ∧ ((n = 7 ∨ (n = 17 ∧ ¬ a = 61)) → wz z' + 1 = wz z ∧ 2 ≤ wz z) := by
  refine ⟨fun q => ?_, fun q => ?_, fun q => ?_⟩
  · have q : n = 1 ∨ n = 2 ∨ n = 3 ∨ n = 4 ∨ n = 16 := by omega
    rcases q with rfl | rfl | rfl | rfl | rfl <;> simp only [eT] at h <;> obtain rfl := Option.some.inj h <;> (simp only [wz]; simp; try omega)
  · rcases q with rfl | rfl | ⟨rfl, qa⟩ <;> simp only [eT] at h
    · split at h
      · obtain rfl := Option.some.inj h
        refine ⟨rfl, ?_⟩
        simp only [wz]; simp; try omega
      · cases h
    · split at h
      · obtain rfl := Option.some.inj h
        refine ⟨rfl, ?_⟩
        simp only [wz]; simp; try omega
      · cases h
    · rw [if_pos qa] at h
      split at h
      · obtain rfl := Option.some.inj h
        refine ⟨rfl, ?_⟩
        simp only [wz]; simp; try omega
      · cases h
  · rcases q with rfl | ⟨rfl, qa⟩ <;> simp only [eT] at h
    · split at h
      · obtain rfl := Option.some.inj h
        simp only [wz]; simp; try omega
      · cases h
    · rw [if_neg qa] at h
      split at h
      · obtain rfl := Option.some.inj h
        simp only [wz]; simp; try omega
      · cases h
/-- how many values an exp's code finds at least -/
theorem WS.ht {σ : RS} {c : Nat} (hG : RG σ) (hS : WS σ c) (ho : nT (aI σ 19 c) ≤ 18) : (0 ≤ gI σ 128 ∧ gI σ 128 ≤ 7790) ∧ ((nT (aI σ 19 c) = 5 ∨ nT (aI σ 19 c) = 6 ∨ nT (aI σ 19 c) = 17) → 1 ≤ gI σ 128) ∧ ((nT (aI σ 19 c) = 7 ∨ (nT (aI σ 19 c) = 17 ∧ ¬ aI σ 20 c = 61)) → 2 ≤ gI σ 128) ∧ ((nT (aI σ 19 c) = 8 ∨ nT (aI σ 19 c) = 10 ∨ nT (aI σ 19 c) = 12) → 1 ≤ gI σ 128) := by
  obtain ⟨z, z', ⟨g1, g2, g3, g4⟩, g5, g6, h1, h2, h3⟩ := hS.ex hG ho
  obtain ⟨w1, w2, w3⟩ := eT_w g5
  refine ⟨⟨h1, (nle h1 (by decide)).mpr (by show _ ≤ 7790; omega)⟩, fun q => ?_, fun q => ?_, fun q => ?_⟩
  · refine (nle (by decide) h1).mpr ?_
    show 1 ≤ _
    by_cases qa : aI σ 20 c = 61
    · have := (w2 (q.elim Or.inl (fun q => q.elim (fun q => Or.inr (Or.inl q)) (fun q => Or.inr (Or.inr ⟨q, qa⟩))))).2; omega
    · rcases q with q | q | q
      · have := (w2 (by omega)).2; omega
      · have := (w2 (by omega)).2; omega
      · have := (w3 (Or.inr ⟨q, qa⟩)).2; omega
  · refine (nle (by decide) h1).mpr ?_
    show 2 ≤ _
    have := (w3 q).2; omega
  · refine (nle (by decide) h1).mpr ?_
    show 1 ≤ _
    obtain ⟨-, -, r, k⟩ := hG.lnk hS.1.1 (by omega) g1
    rcases k with ⟨-, k, -⟩ | ⟨-, k, -⟩ | ⟨k, -⟩
    · rw [k] at h2; simp only [wz] at h2; simp at h2; omega
    · rw [k] at h2; simp only [wz] at h2; simp at h2; omega
    · omega
theorem ex_s {σ τ : RS} {c : Nat} {k : Nat} (hG : RG σ) (hC : CN σ) (h0 : gI σ 142 = 0) (hS : WS σ c) (ho : nT (aI σ 19 c) ≤ 18) (hf : Ry σ τ) (e142 : gI τ 142 = gI σ 142) (e129 : gI τ 129 = gI σ 129) (e133 : gI τ 133 = gI σ 133) (e141 : gI τ 141 = gI σ 141) (hy : ∀ k, 134 ≤ k → k ≤ 139 → aI τ k = aI σ k) (h128 : 0 ≤ gI τ 128) (hk : ∀ z z', eT (nT (aI σ 19 c)) (aI σ 20 c) (aI σ 21 c) (aI σ 81 c) z = some z' → nT (gI τ 128) + wz z = nT (gI σ 128) + wz z') : WQ σ c τ := by
  obtain ⟨z, z', ⟨g1, g2, g3, g4⟩, g5, g6, h1, h2, h3⟩ := hS.ex hG ho
  have hw := hS.1
  exact step_e hG hC hS ho g1 (p := c + 1) (Nat.lt_succ_self _) hw.1 g6 g2 hf (by rw [e142]; exact h0) e129 e133 hy (by rw [e141]; exact hw.2) ⟨h128, hk z z' g5⟩
theorem ex_up {σ τ : RS} {c : Nat} (hG : RG σ) (hC : CN σ) (h0 : gI σ 142 = 0) (hS : WS σ c) (ho : (1 ≤ nT (aI σ 19 c) ∧ nT (aI σ 19 c) ≤ 4) ∨ nT (aI σ 19 c) = 16) (hf : Ry σ τ) (e142 : gI τ 142 = gI σ 142) (e129 : gI τ 129 = gI σ 129) (e133 : gI τ 133 = gI σ 133) (e141 : gI τ 141 = gI σ 141) (hy : ∀ k, 134 ≤ k → k ≤ 139 → aI τ k = aI σ k) (h128 : gI τ 128 = gI σ 128 + 1) : WQ σ c τ := by
  have hh := hS.ht hG (by omega)
  have e := nT_add hh.1.1 (show gI σ 128 < 2147483647 by lia)
  refine ex_s (k := 0) hG hC h0 hS (by omega) hf e142 e129 e133 e141 hy (by rw [h128]; lia) (fun z z' q => ?_)
  have := (eT_w q).1 ho
  rw [h128, e]
  omega
theorem ex_eq {σ τ : RS} {c : Nat} (hG : RG σ) (hC : CN σ) (h0 : gI σ 142 = 0) (hS : WS σ c) (ho : nT (aI σ 19 c) = 5 ∨ nT (aI σ 19 c) = 6 ∨ (nT (aI σ 19 c) = 17 ∧ aI σ 20 c = 61)) (hf : Ry σ τ) (e142 : gI τ 142 = gI σ 142) (e129 : gI τ 129 = gI σ 129) (e133 : gI τ 133 = gI σ 133) (e141 : gI τ 141 = gI σ 141) (hy : ∀ k, 134 ≤ k → k ≤ 139 → aI τ k = aI σ k) (h128 : gI τ 128 = gI σ 128) : WQ σ c τ := by
  have hh := hS.ht hG (by omega)
  refine ex_s (k := 0) hG hC h0 hS (by omega) hf e142 e129 e133 e141 hy (by rw [h128]; lia) (fun z z' q => ?_)
  have := ((eT_w q).2.1 ho).1
  rw [h128, this]
theorem ex_dn {σ τ : RS} {c : Nat} (hG : RG σ) (hC : CN σ) (h0 : gI σ 142 = 0) (hS : WS σ c) (ho : nT (aI σ 19 c) = 7 ∨ (nT (aI σ 19 c) = 17 ∧ ¬ aI σ 20 c = 61)) (hf : Ry σ τ) (e142 : gI τ 142 = gI σ 142) (e129 : gI τ 129 = gI σ 129) (e133 : gI τ 133 = gI σ 133) (e141 : gI τ 141 = gI σ 141) (hy : ∀ k, 134 ≤ k → k ≤ 139 → aI τ k = aI σ k) (h128 : gI τ 128 = gI σ 128 - 1) : WQ σ c τ := by
  have hh := hS.ht hG (by omega)
  have h2 := hh.2.2.1 ho
  have e := nT_sub (x := gI σ 128) (by lia)
  refine ex_s (k := 0) hG hC h0 hS (by omega) hf e142 e129 e133 e141 hy (by rw [h128]; lia) (fun z z' q => ?_)
  have := ((eT_w q).2.2 ho).1
  rw [h128]
  omega
/-- on behind the link, or not -/
theorem ex_lk {σ τ : RS} {c : Nat} (hG : RG σ) (hC : CN σ) (h0 : gI σ 142 = 0) (hS : WS σ c) (ho : nT (aI σ 19 c) = 8 ∨ nT (aI σ 19 c) = 10 ∨ nT (aI σ 19 c) = 12 ∨ nT (aI σ 19 c) = 13) (hf : Ry σ τ) (e142 : gI τ 142 = gI σ 142) (e129 : gI τ 129 = gI σ 129) (e133 : gI τ 133 = gI σ 133) (hy : ∀ k, 134 ≤ k → k ≤ 139 → aI τ k = aI σ k) (h : (gI τ 141 = aI σ 125 c + 1 ∧ gI τ 128 = gI σ 128 ∧ ¬ nT (aI σ 19 c) = 12) ∨ (gI τ 141 = aI σ 125 c + 1 ∧ gI τ 128 = gI σ 128 - 1 ∧ nT (aI σ 19 c) = 12) ∨ (gI τ 141 = gI σ 141 ∧ gI τ 128 = gI σ 128 - 1 ∧ ¬ nT (aI σ 19 c) = 13)) : WQ σ c τ := by
  have hw := hS.1
  obtain ⟨z, z', ⟨g1, g2, g3, g4⟩, g5, g6, h1, h2, h3⟩ := hS.ex hG (by omega)
  obtain ⟨⟨l1, l2, l3⟩, l4, r, l5⟩ := hG.lnk hw.1 ho g1
  have hz3 := hG.k.sz.2
  have hp : aI σ 125 c < 3020 := (nlt l1 (by decide)).mpr (Nat.lt_of_lt_of_le l3 hz3)
  have ep : 0 ≤ aI σ 125 c + 1 ∧ nT (aI σ 125 c + 1) = nT (aI σ 125 c) + 1 := ⟨by lia, nT_add l1 (by lia)⟩
  have ed : 0 < gI σ 128 → 0 ≤ gI σ 128 - 1 ∧ nT (gI σ 128) = nT (gI σ 128 - 1) + 1 := fun q => ⟨by lia, nT_sub q⟩
  have hpos : ∀ {w : List Nat}, z = 0 :: w → 0 < gI σ 128 := fun e => by
    rw [e] at h2
    simp only [wz] at h2
    exact (nlt (by decide) h1).mpr (by show 0 < _; simp at h2; omega)
  rcases h with ⟨q1, q2, q3⟩ | ⟨q1, q2, q3⟩ | ⟨q1, q2, q3⟩
  · rcases l5 with ⟨k1, k2, k3, k4⟩ | ⟨k1, k2, k3, k4⟩ | ⟨k1, k2, k3⟩
    · exact step_e hG hC hS (by omega) g1 (p := nT (aI σ 125 c) + 1) (by omega) l3 l4 k4 hf (by rw [e142]; exact h0) e129 e133 hy (by rw [q1]; exact ep) ⟨by rw [q2]; exact h1, by rw [q2, k2]⟩
    · exact absurd k1 q3
    · refine step_e hG hC hS (by omega) g1 (p := nT (aI σ 125 c) + 1) (by omega) l3 l4 k3 hf (by rw [e142]; exact h0) e129 e133 hy (by rw [q1]; exact ep) ⟨by rw [q2]; exact h1, ?_⟩
      rw [q2, k2]
      simp only [wz]
      simp
  · rcases l5 with ⟨k1, k2, k3, k4⟩ | ⟨k1, k2, k3, k4⟩ | ⟨k1, k2, k3⟩
    · omega
    · have e := ed (hpos k2)
      refine step_e hG hC hS (by omega) g1 (p := nT (aI σ 125 c) + 1) (by omega) l3 l4 k4 hf (by rw [e142]; exact h0) e129 e133 hy (by rw [q1]; exact ep) ⟨by rw [q2]; exact e.1, ?_⟩
      rw [q2, k2, e.2]
      simp only [wz]
      simp
      omega
    · omega
  · rcases l5 with ⟨k1, k2, k3, k4⟩ | ⟨k1, k2, k3, k4⟩ | ⟨k1, k2, k3⟩
    · have e := ed (hpos k2)
      refine step_e hG hC hS (by omega) g1 (p := c + 1) (Nat.lt_succ_self _) hw.1 g6 k3 hf (by rw [e142]; exact h0) e129 e133 hy (by rw [q1]; exact hw.2) ⟨by rw [q2]; exact e.1, ?_⟩
      rw [q2, k2, e.2]
      simp only [wz]
      simp
      omega
    · have e := ed (hpos k2)
      refine step_e hG hC hS (by omega) g1 (p := c + 1) (Nat.lt_succ_self _) hw.1 g6 k3 hf (by rw [e142]; exact h0) e129 e133 hy (by rw [q1]; exact hw.2) ⟨by rw [q2]; exact e.1, ?_⟩
      rw [q2, k2, e.2]
      simp only [wz]
      simp
      omega
    · exact absurd k1 q3
/-- within work, with pc set -/
def KW (σ X : RS) (c : Int32) : Prop := (RG X ∧ CN X ∧ gI X 142 = 0 ∧ WS X (nT c)) ∧ (0 ≤ c ∧ c < 3020 ∧ gI X 141 = c + 1) ∧ ∀ τ, WQ X (nT c) τ → WQ σ (nT c) τ
theorem KW.of {σ : RS} {c : Int32} (hG : RG σ) (hC : CN σ) (h0 : gI σ 142 = 0) (hR : RA σ σ) (e : c = gI σ 141) : KW σ (sI σ 141 (c + 1)) c := by
  subst e
  obtain ⟨⟨a1, a2⟩, a3, a4⟩ := hR.ws hG
  have hz3 := hG.k.sz.2
  exact ⟨⟨a3, hC.pc, h0, a4⟩, ⟨a1, (nlt a1 (by decide)).mpr (by show _ < 3020; omega), rfl⟩, fun τ h => h.up⟩
/-- a variable's number at an exp's code -/
theorem RG.asg {σ : RS} (hG : RG σ) {c : Nat} (hc : c < nT (gI σ 18)) (ho : aI σ 19 c = 16) : 0 ≤ aI σ 80 (nT (aI σ 22 c)) ∧ aI σ 80 (nT (aI σ 22 c)) < 60 := by
  have hv := hG.k.j.v
  have hA : AG σ := by
    obtain ⟨f, kk, j, hp⟩ := hG.k
    exact hp.1.2.2.2.1.1
  obtain ⟨i', h1, h2, h3⟩ := hA c hc ho
  have q := (hG.ec h1).2.1 h2
  rw [h3] at q
  exact ⟨q.1, Int32.lt_of_lt_of_le q.2 hv.2⟩
theorem RG.vat {σ : RS} (hG : RG σ) {c : Nat} (hc : c < nT (gI σ 18)) (ho : aI σ 19 c = 2 ∨ aI σ 19 c = 3 ∨ aI σ 19 c = 4 ∨ aI σ 19 c = 17) : 0 ≤ aI σ 83 c ∧ aI σ 83 c < 60 := by
  have hv := hG.k.j.v
  have q := (hG.ec hc).1 ho
  exact ⟨q.1, Int32.lt_of_lt_of_le q.2 hv.2⟩
