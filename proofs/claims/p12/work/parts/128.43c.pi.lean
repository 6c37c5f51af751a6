/-- a code c tells of no thing K yet -/
def Fr (σ : RS) (K : Int32) : Prop := ∀ c, c < nT (gI σ 18) → kop (nT (aI σ 19 c)) = true → aI σ 20 c ≠ K
theorem kpu_kop {n : Nat} (h : kpu n = true) : kop n = true := by
  unfold kpu at h
  unfold kop
  simp only [Bool.or_eq_true, beq_iff_eq, Bool.and_eq_true, decide_eq_true_eq] at h ⊢
  omega
theorem Fr.up {σ : RS} {K : Int32} (h : Fr σ K) : ∀ c, c < nT (gI σ 18) → kpu (nT (aI σ 19 c)) = true → aI σ 20 c ≠ K := fun c hc hk => h c hc (kpu_kop hk)
theorem Fr.exp {σ τ : RS} (hx : XE σ τ) (K : Int32) (h : Fr σ K) : Fr τ K := by
  obtain ⟨xF, ⟨c1, c2, c3, c4, c5, c6⟩, xr⟩ := hx
  intro c hc hk
  by_cases hq : c < nT (gI σ 18)
  · obtain ⟨q1, q2, -⟩ := c4 c hq
    rw [q1] at hk
    rw [q2]
    exact h c hq hk
  · obtain ⟨y1, y2, -⟩ := c5 c (by omega) hc
    rw [(kop18 (nT18 y1 y2)).1] at hk
    cases hk
theorem Fr.e1 {σ : RS} {K : Int32} (h : Fr σ K) (o a t : Int32) (hc : 0 ≤ gI σ 18 ∧ gI σ 18 < 4000) (hk : kop (nT o) = true → a ≠ K) : Fr (em σ o a t) K := by
  intro c hc2 hk2
  have hN : nT (gI σ 18 + 1) = nT (gI σ 18) + 1 := nT_add hc.1 (by lia)
  have hc3 : c < nT (gI σ 18 + 1) := hc2
  have e19 : aI (em σ o a t) 19 = upd (aI σ 19) (nT (gI σ 18)) o := rfl
  have e20 : aI (em σ o a t) 20 = upd (aI σ 20) (nT (gI σ 18)) a := rfl
  rw [e19] at hk2
  rw [e20]
  by_cases z : c = nT (gI σ 18)
  · subst z
    rw [upd_eq] at hk2 ⊢
    exact hk hk2
  · rw [upd_ne z] at hk2 ⊢
    exact h c (by omega) hk2
