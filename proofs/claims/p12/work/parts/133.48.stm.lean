theorem sSt_20 {n : Nat} {a : Int32} {c : Nat} {s s' : SS} (h : sSt n a c s = some s') : ∀ q ∈ s'.1, q.1 = 20 → q ∈ s.1 ∨ q.2 = c := by
  obtain ⟨l, m⟩ := s
  intro q hq hq1
  unfold sSt at h
  split at h <;> (try split at h) <;> (try split at h) <;> first
    | (cases h; done)
    | (obtain rfl := Option.some.inj h; simp_all; done)
    | (obtain rfl := Option.some.inj h; simp at hq ⊢; rcases hq with rfl | hq <;> simp_all; done)
    | (obtain rfl := Option.some.inj h; simp at hq ⊢; exact Or.inl (Or.inr hq))
    | (obtain rfl := Option.some.inj h; exact Or.inl hq)
theorem Ss_20 {o a : Nat → Int32} (n : Nat) : ∀ s, Ss o a n = some s → ∀ q ∈ s.1, q.1 = 20 → q.2 < n := by
  induction n with
  | zero =>
    intro s h q hq
    have h := Option.some.inj h
    subst h
    cases hq
  | succ n ih =>
    intro s h q hq h1
    unfold Ss at h
    cases hs : Ss o a n with
    | none => rw [hs] at h; cases h
    | some s0 =>
      rw [hs] at h
      rcases sSt_20 h q hq h1 with z | z
      · have := ih s0 hs q z h1; omega
      · omega
/-- an S that has begun has its token -/
theorem PI.tok {σ : RS} {E : List Nat} {s : SS} {k j : Int} (h : PI σ E s k j) {c : Nat} (hc : (20, c) ∈ s.1) : c < nT (gI σ 18) ∧ 0 ≤ aI σ 22 c ∧ aI σ 22 c ≤ 500 := by
  have h1 := Ss_20 _ s h.2.2.1 _ hc rfl
  exact ⟨h1, (h.2.2.2.1 c h1).2.1⟩
