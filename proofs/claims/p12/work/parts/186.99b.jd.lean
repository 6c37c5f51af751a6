/-! ahead of the judge's loop, and behind it -/
/-- the program as it was read: no default is known yet -/
def PD (σ : RS) : Prop := ∃ k j, PI (sI σ 62 0) [] ([], nT (gI σ 36)) k j
theorem sA_ids {σ : RS} : sI (sA σ 59 (aI σ 59)) 62 0 = sI σ 62 0 := by rw [sA_id]
theorem PD.k {σ : RS} (h : PD σ) : PK σ := by
  obtain ⟨k, j, hp⟩ := h
  exact ⟨aI σ 59, k, j, by rw [sA_ids]; exact hp⟩
theorem PD.d {σ : RS} (h : PD σ) : ∀ k, k < nT (gI σ 49) → aI σ 59 k = -2 := by
  obtain ⟨k, j, hp⟩ := h
  intro q hq
  exact (hp.2.2.2.2.1.2 q hq).2.2.2.2.1.2
theorem PD.s68 {σ : RS} (h : PD σ) : PD (sI σ 68 1) := by
  obtain ⟨k, j, hp⟩ := h
  refine ⟨k, j, hp.mv (σ' := sI (sI σ 68 1) 62 0) k j ⟨Int.le_refl _, hp.1.1.2⟩ ⟨hp.1.2.1.2.2, ?_⟩ ⟨hp.1.2.2.2.2.2.2, ?_⟩ True.intro⟩
  · show k ≤ k + 6 * ((gI σ 14).toInt - (gI σ 14).toInt)
    omega
  · show j ≤ j + ((gI σ 14).toInt - (gI σ 14).toInt)
    omega
theorem PK.fj {σ τ : RS} (h : PK σ) (hf : Fj σ τ) : PK τ := by
  obtain ⟨f, k, j, hp⟩ := h
  have h1 := hp.1.1
  have e14 : gI (sI (sA τ 59 f) 62 0) 14 = gI (sI (sA σ 59 f) 62 0) 14 := hf.1 14 rfl
  refine ⟨f, k, j, ?_⟩
  rw [hf.1 36 rfl]
  exact hp.mv (σ' := sI (sA τ 59 f) 62 0) k j ⟨by rw [e14]; exact Int.le_refl _, by rw [e14]; exact h1.2⟩ ⟨hp.1.2.1.2.2, by rw [e14]; omega⟩ ⟨hp.1.2.2.2.2.2.2, by rw [e14]; omega⟩ True.intro (hf.1 17 rfl) (hf.1 49 rfl) rfl (hf.1 42 rfl) (hf.1 36 rfl) (hf.2.2.1 63 rfl) (hf.2.2.1 64 rfl) (hf.2.2.1 65 rfl) (hf.2.2.1 43 rfl) (hf.2.2.1 37 rfl) (hf.2.2.1 39 rfl) (hf.2.2.1 40 rfl) (hf.2.2.1 41 rfl) (hf.1 18 rfl) (hf.2.2.1 19 rfl) (hf.2.2.1 20 rfl) (hf.2.2.1 21 rfl) (hf.2.2.1 22 rfl) (hf.2.2.1 23 rfl) (hf.2.2.1 24 rfl) (hf.2.2.1 50 rfl) (hf.2.2.1 51 rfl) (hf.2.2.1 52 rfl) (hf.2.2.1 53 rfl) (hf.2.2.1 54 rfl) (hf.2.2.1 55 rfl) (hf.2.2.1 56 rfl) (hf.2.2.1 57 rfl) (hf.2.2.1 58 rfl) rfl (hf.2.2.1 60 rfl) (hf.2.2.1 61 rfl) (hf.2.2.1 3 rfl) (hf.2.2.1 6 rfl) (hgz := fun z => z.same (hf.2.2.1 6 rfl) (hf.2.2.1 38 rfl) (hf.2.2.1 44 rfl))
theorem PK.fv {σ τ : RS} (h : PK σ) (hf : Fu σ τ) : PK τ := by
  obtain ⟨f, k, j, hp⟩ := h
  have h1 := hp.1.1
  have e14 : gI (sI (sA τ 59 f) 62 0) 14 = gI (sI (sA σ 59 f) 62 0) 14 := hf.1 14 rfl
  refine ⟨f, k, j, ?_⟩
  rw [hf.1 36 rfl]
  exact hp.mv (σ' := sI (sA τ 59 f) 62 0) k j ⟨by rw [e14]; exact Int.le_refl _, by rw [e14]; exact h1.2⟩ ⟨hp.1.2.1.2.2, by rw [e14]; omega⟩ ⟨hp.1.2.2.2.2.2.2, by rw [e14]; omega⟩ True.intro (hf.1 17 rfl) (hf.1 49 rfl) rfl (hf.1 42 rfl) (hf.1 36 rfl) (hf.2.2.1 63 rfl) (hf.2.2.1 64 rfl) (hf.2.2.1 65 rfl) (hf.2.2.1 43 rfl) (hf.2.2.1 37 rfl) (hf.2.2.1 39 rfl) (hf.2.2.1 40 rfl) (hf.2.2.1 41 rfl) (hf.1 18 rfl) (hf.2.2.1 19 rfl) (hf.2.2.1 20 rfl) (hf.2.2.1 21 rfl) (hf.2.2.1 22 rfl) (hf.2.2.1 23 rfl) (hf.2.2.1 24 rfl) (hf.2.2.1 50 rfl) (hf.2.2.1 51 rfl) (hf.2.2.1 52 rfl) (hf.2.2.1 53 rfl) (hf.2.2.1 54 rfl) (hf.2.2.1 55 rfl) (hf.2.2.1 56 rfl) (hf.2.2.1 57 rfl) (hf.2.2.1 58 rfl) rfl (hf.2.2.1 60 rfl) (hf.2.2.1 61 rfl) (hf.2.2.1 3 rfl) (hf.2.2.1 6 rfl) (hgz := fun z => z.same (hf.2.2.1 6 rfl) (hf.2.2.1 38 rfl) (hf.2.2.1 44 rfl))
/-- ahead of the loop over the codes -/
def J0 (σ X : RS) : Prop := Fj σ X ∧ (gI X 69 = 0 ∧ gI X 74 = 0 ∧ gI X 91 = gI σ 91 ∧ gI X 68 = 1) ∧ aI X 59 = aI σ 59
theorem J0.jv {σ X : RS} (hD : PD σ) (h91 : gI σ 91 = 0) (h : J0 σ X) (h89 : gI X 89 = 0) : JV X 0 [] ([], 0) := by
  obtain ⟨h1, ⟨h2, h3, h4, h5⟩, h6⟩ := h
  have n0 : nT (0 : Int32) = 0 := by decide
  refine ⟨by rw [h2]; decide, by rw [h3, n0]; exact ⟨by decide, Nat.zero_le _⟩, fun i hi => absurd hi (by rw [h2, n0]; exact Nat.not_lt_zero i), by rw [h89]; decide, ⟨by rw [h4, h91]; decide, by rw [h4, h91, n0]; rfl, fun i hi => absurd hi (by rw [h4, h91, n0]; exact Nat.not_lt_zero i)⟩, fun k hk => Or.inl ?_, fun _ => ⟨fun i hi => absurd hi (by rw [h2, n0]; exact Nat.not_lt_zero i), ⟨[], rfl, rfl, by rw [h2, n0]; rfl⟩, fun q hq => (by cases hq), fun i hi => absurd hi (Nat.not_lt_zero i)⟩⟩
  rw [h6]
  exact hD.d k (by rw [← h1.1 49 rfl]; exact hk)
/-- in the loop over the codes -/
def J1 (σ X : RS) (c : Nat) : Prop := Fj σ X ∧ gI X 68 = 1 ∧ c ≤ nT (gI σ 18) ∧ ∃ E s, Es (aI X 19) (aI X 20) (aI X 21) c = some E ∧ Ss (aI X 19) (aI X 20) c = some s ∧ JV X c E s
/-- what the judge leaves -/
def JD (τ : RS) : Prop := PK τ ∧ (gI τ 68 = 1 ∧ gI τ 91 = 0 ∧ (0 ≤ gI τ 74 ∧ gI τ 74 ≤ 2000)) ∧ (∀ k, k < nT (gI τ 49) → aI τ 59 k = -2 ∨ (0 ≤ aI τ 59 k ∧ nT (aI τ 59 k) < nT (gI τ 18) ∧ aI τ 19 (nT (aI τ 59 k)) = 39 ∧ nT (aI τ 20 (nT (aI τ 59 k))) = k)) ∧ (gI τ 66 = 0 → (∀ i, i < nT (gI τ 18) → EC τ i) ∧ Et (aI τ 19) (aI τ 20) (aI τ 21) (aI τ 81) (nT (gI τ 18)) = some [])
theorem J1.jd {σ X : RS} {c : Nat} (hK : PK σ) (h : J1 σ X c) (hc : nT (gI σ 18) ≤ c) : JD X := by
  obtain ⟨h1, h2, h3, E, s, h4, h5, h6⟩ := h
  have hKX := hK.fj h1
  have e18 := h1.1 18 rfl
  have hcc : c = nT (gI X 18) := by rw [e18]; omega
  subst hcc
  obtain ⟨f, k, j, hp⟩ := hKX
  have hE : Es (aI X 19) (aI X 20) (aI X 21) (nT (gI X 18)) = some [] := hp.2.1
  have hS : Ss (aI X 19) (aI X 20) (nT (gI X 18)) = some ([], nT (gI X 36)) := hp.2.2.1
  have hNe : (Ne (aI X 19) (nT (gI X 18)) : Int) ≤ 4 * (gI X 14).toInt := hp.2.2.2.2.2.2.2.2.2.1.1
  have h14 : (gI X 14).toInt ≤ 500 := hp.1.1.2
  obtain rfl : E = [] := Option.some.inj (h4.symm.trans hE)
  obtain rfl : s = ([], nT (gI X 36)) := Option.some.inj (h5.symm.trans hS)
  have hb := h6.b
  refine ⟨⟨f, k, j, hp⟩, ⟨h2, ?_, h6.x.1, i32 (n := 2000) h6.x.1 (by have := h6.x.2; omega) 2000 (by decide) (by decide)⟩, h6.d, fun he => ?_⟩
  · have z : nT (gI X 91) = 0 := hb.2.1
    exact nT_eq hb.1 (by decide) (by rw [z]; decide)
  · obtain ⟨-, ⟨z, j2, j3, -⟩, -, j6⟩ := h6.e he
    have hz := er_nil j3
    subst hz
    exact ⟨j6, j2⟩
/-- flow leaves it -/
theorem JD.fv {σ τ : RS} (h : JD σ) (hf : Fu σ τ) (he : gI τ 66 = 0 → gI σ 66 = 0) : JD τ := by
  obtain ⟨h1, ⟨h2, h3, h4⟩, h5, h6⟩ := h
  have r19 := hf.2.2.1 19 rfl
  have r20 := hf.2.2.1 20 rfl
  have r21 := hf.2.2.1 21 rfl
  have r22 := hf.2.2.1 22 rfl
  have r59 := hf.2.2.1 59 rfl
  have r80 := hf.2.2.1 80 rfl
  have r81 := hf.2.2.1 81 rfl
  have r82 := hf.2.2.1 82 rfl
  have r83 := hf.2.2.1 83 rfl
  have r38 := hf.2.2.1 38 rfl
  have r39 := hf.2.2.1 39 rfl
  have i18 := hf.1 18 rfl
  have i36 := hf.1 36 rfl
  have i42 := hf.1 42 rfl
  have i49 := hf.1 49 rfl
  refine ⟨h1.fv hf, ⟨by rw [hf.1 68 rfl]; exact h2, by rw [hf.1 91 rfl]; exact h3, by rw [hf.1 74 rfl]; exact h4⟩, by rw [i49, r59, r19, r20, i18]; exact h5, fun q => ?_⟩
  rw [i18, r19, r20, r21, r81]
  obtain ⟨g1, g2⟩ := h6 (he q)
  refine ⟨fun i hi => ?_, g2⟩
  obtain ⟨a1, a2, a3, a4, a5⟩ := g1 i hi
  unfold EC
  rw [r19, r20, r21, r22, r80, r81, r82, r83, i42]
  exact ⟨a1, a2, fun z => ⟨(a3 z).1.fr i36 r39, (a3 z).2.fr r38⟩, a4, a5⟩
