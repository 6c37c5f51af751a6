/-! the reference's flow: one code, where no ERROR of flow is told in the end -/
section
variable {σ τ : RS} {c m d k : Int32}
/-- an exp's code -/
theorem sx_st (h : FlwR σ c m τ d k) (hb : ¬ BdF τ) (hc : aI σ 19 c.toNatClampNeg ≤ 18) : ¬ BdF σ ∧ ¬ uvR σ c ∧ d = c + 1 ∧ k = m ∧ ∃ p, τ = fxS (unS σ 0 p) c := by
  have b0 : ¬ BdF σ := fun q => hb (bd_st h q)
  rcases h with ⟨_, u, p, hu, rfl, e1, e2⟩ | ⟨q, _⟩
  · have u0 : u = 0 := by
      by_cases e : u = 0
      · exact e
      · exact absurd (Or.inr (by rw [fk_x.2]; exact e)) hb
    subst u0
    refine ⟨b0, fun q => ?_, e1, e2, p, rfl⟩
    exact absurd rfl (hu.mpr (Or.inr q))
  · exact absurd hc q
/-- an S's code -/
theorem ss_st (h : FlwR σ c m τ d k) (hb : ¬ BdF τ) (hc : ¬ aI σ 19 c.toNatClampNeg ≤ 18) : ¬ BdF σ ∧ ¬ ltR σ c ∧ ∃ p, d = (fsS (laS σ 0 p) c).2 ∧ ((¬ (¬ d ≤ 0 ∧ aI σ 19 (d - 1).toNatClampNeg = 54) ∧ k = m ∧ τ = (fsS (laS σ 0 p) c).1) ∨ ((¬ d ≤ 0 ∧ aI σ 19 (d - 1).toNatClampNeg = 54) ∧ k = m + 1 ∧ τ = sttS (fsS (laS σ 0 p) c).1 (m + 1))) := by
  have b0 : ¬ BdF σ := fun q => hb (bd_st h q)
  rcases h with ⟨q, _⟩ | ⟨_, u, p, hu, e1, h⟩
  · exact absurd q hc
  · have u0 : u = 0 := by
      by_cases e : u = 0
      · exact e
      · refine absurd ?_ hb
        rcases h with ⟨_, _, rfl⟩ | ⟨_, _, rfl⟩
        · exact Or.inl (by rw [fk_S.1]; exact e)
        · refine Or.inl ?_
          show ¬ gI (fsS (laS σ u p) c).1 112 = 0
          rw [fk_S.1]
          exact e
    subst u0
    have e19 : aI (fsS (laS σ 0 p) c).1 19 = aI σ 19 := (ff_S (σ := laS σ 0 p) (c := c)).2.2.1 19 rfl
    rw [e19] at h
    exact ⟨b0, fun q => absurd rfl (hu.mpr (Or.inr q)), p, e1, h⟩
/-- an S's code that goes on behind it -/
theorem ss_1 (h : FlwR σ c m τ d k) (hb : ¬ BdF τ) (hc : ¬ aI σ 19 c.toNatClampNeg ≤ 18) (h54 : ¬ aI σ 19 c.toNatClampNeg = 54) (h1 : ∀ p, (fsS (laS σ 0 p) c).2 = c + 1) : ¬ BdF σ ∧ ¬ ltR σ c ∧ d = c + 1 ∧ k = m ∧ ∃ p, τ = (fsS (laS σ 0 p) c).1 := by
  obtain ⟨b0, l0, p, e1, h⟩ := ss_st h hb hc
  rw [h1 p] at e1
  have e2 : d - 1 = c := by rw [e1]; exact Int32.add_sub_cancel c 1
  rw [e2] at h
  rcases h with ⟨_, e3, e4⟩ | ⟨q, _⟩
  · exact ⟨b0, l0, e1, e3, p, e4⟩
  · exact absurd q.2 h54
end
