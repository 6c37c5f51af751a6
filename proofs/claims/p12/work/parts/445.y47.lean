/-! the reference's flow of exps: CONSTANTS and what is worked out at once, as the class goes -/
section
variable {σ : RS} {c : Int32} {F : MkF} {w : WzS} {t : TvT} {A : List Int64}
theorem xv_set {a b u v : Int64} (h : XvR σ F u v A) : XvR (sL (sL σ 93 a) 94 b) F a b A := ⟨rfl, rfl, h.2.2.1, OpR.fr (σ := σ) (fun _ _ => ⟨rfl, rfl⟩) h.2.2.2⟩
theorem now_e {u v : Int64} (h : XvR σ F u v A) : nowR σ = u &&& v := by
  unfold nowR
  rw [h.1, h.2.1]
theorem sid_v (hs : ShT (aI σ 81 c.toNatClampNeg) (aI σ 84 c.toNatClampNeg) (aL σ 85 c.toNatClampNeg) t) (hv : VaT t) (h : XvR σ F w.1 w.2.1 A) : XvR (sidS σ c) F (jnT t zerB w).1 (jnT t zerB w).2.1 A := by
  obtain ⟨s1, s2, s3⟩ := hs
  have nw := now_e h
  unfold sidS jnT
  rw [nw, or_ze]
  by_cases k : ¬ aI σ 81 c.toNatClampNeg = 0 ∨ aI σ 84 c.toNatClampNeg = 0
  · have fx : fxT t = false := by
      unfold fxT
      rcases k with k | k
      · rw [decide_eq_false (p := t.1 = 0) (fun q => k (i32_lit (s1.trans q))), Bool.and_false]
      · rw [decide_eq_false (p := ¬ t.2.1 = 0) (fun q => (s2.mpr q) k), Bool.false_and]
    rw [if_pos k, fx, Bool.false_and, Bool.false_and, if_neg (by decide)]
    exact xv_set h
  · have k1 : aI σ 81 c.toNatClampNeg = 0 := Decidable.not_not.mp (fun q => k (Or.inl q))
    have k2 : ¬ aI σ 84 c.toNatClampNeg = 0 := fun q => k (Or.inr q)
    have t1 : t.1 = 0 := by
      rw [k1] at s1
      exact s1.symm
    have t2 := s2.mp k2
    have fx : fxT t = true := by
      unfold fxT
      rw [decide_eq_true t2, decide_eq_true t1]
      rfl
    rw [if_neg k, fx, Bool.true_and, Bool.true_and, s3 t2]
    rcases (hv.2 t2).2 t1 with e | e
    · rw [e, if_pos rfl, if_pos (by decide), if_neg (by decide)]
      exact ⟨rfl, rfl, h.2.2.1, OpR.fr (σ := σ) (fun _ _ => ⟨rfl, rfl⟩) h.2.2.2⟩
    · rw [e, if_neg (by decide), if_neg (by decide), if_pos (by decide)]
      exact ⟨rfl, rfl, h.2.2.1, OpR.fr (σ := σ) (fun _ _ => ⟨rfl, rfl⟩) h.2.2.2⟩
theorem fx_sid (h : aI σ 19 c.toNatClampNeg = 1 ∨ aI σ 19 c.toNatClampNeg = 2 ∨ aI σ 19 c.toNatClampNeg = 6 ∨ aI σ 19 c.toNatClampNeg = 7 ∨ aI σ 19 c.toNatClampNeg = 18) : fxS σ c = sidS σ c := by
  unfold fxS
  rcases h with h | h | h | h | h <;> rw [h, if_neg (by decide), if_neg (fun q => absurd q.1 (by decide)), if_neg (by decide), if_neg (by decide), if_neg (by decide), if_neg (by decide), if_neg (by decide), if_neg (by decide), if_neg (by decide), if_neg (by decide)]
theorem fx_16 (h : aI σ 19 c.toNatClampNeg = 3 ∨ aI σ 19 c.toNatClampNeg = 4 ∨ aI σ 19 c.toNatClampNeg = 16) : fxS σ c = beS σ (nowR σ) := by
  unfold fxS
  rw [if_pos h]
theorem fx_17 (h : aI σ 19 c.toNatClampNeg = 17) : fxS σ c = beS σ (nowR σ ||| 1 <<< ((aI σ 83 c.toNatClampNeg).toInt64 &&& 63)) := by
  unfold fxS
  rw [h, if_neg (by decide), if_neg (fun q => absurd q.1 (by decide)), if_neg (by decide), if_neg (by decide), if_neg (by decide), if_neg (by decide), if_neg (by decide), if_neg (by decide), if_neg (by decide), if_pos rfl]
/-- literals, casts, operators, calls -/
theorem xe_sid {l : List ItZ} {x : XrZ} {G : MkF} (hc : (aI σ 19 c.toNatClampNeg).toInt = opkZ x) (hS : MkS l x G F) (hk : (0 ≤ x.1.1 ∧ x.1.1 ≤ 1) ∨ x.1.1 = 5 ∨ (x.1.1 = 7 ∧ ¬ x.1.2.1 = 20 ∧ ¬ x.1.2.1 = 21) ∨ x.1.1 = 10) (hs : ShT (aI σ 81 c.toNatClampNeg) (aI σ 84 c.toNatClampNeg) (aL σ 85 c.toNatClampNeg) t) (hv : VaT t) (h : XvR σ G w.1 w.2.1 w.2.2.1) : XvR (fxS σ c) F (paW x t w).1 (paW x t w).2.1 (paW x t w).2.2.1 ∧ (paW x t w).2.2.2 = w.2.2.2 := by
  have ep : paW x t w = jnT t zerB w := by
    by_cases c7 : x.1.1 = 7
    · rw [pa_7 c7]
      unfold chW
      rw [if_neg (by omega), if_neg (by omega)]
    · unfold paW
      rw [if_neg (by omega), if_neg (by omega), if_neg (by omega), if_neg (by omega), if_neg (by omega), if_neg (by omega), if_neg (by omega), if_neg (by omega), if_neg (by omega)]
  have ef : F = G := by
    by_cases c5 : x.1.1 = 5
    · exact ((mks_3 (Or.inr (Or.inr c5))).mp hS).2
    · exact (mks_o (by omega)).mp hS
  have eo : opkZ x = 1 ∨ opkZ x = 6 ∨ opkZ x = 7 ∨ opkZ x = 18 := by
    unfold opkZ
    rcases hk with k | k | k | k
    · rw [if_pos k.2]
      exact Or.inl rfl
    · rw [if_neg (by omega), if_neg (by omega), if_neg (by omega), if_neg (by omega), if_pos k]
      exact Or.inr (Or.inl rfl)
    · rw [if_neg (by omega), if_neg (by omega), if_neg (by omega), if_neg (by omega), if_neg (by omega), if_neg (by omega), if_pos k.1, if_neg k.2.2, if_neg k.2.1]
      exact Or.inr (Or.inr (Or.inl rfl))
    · rw [if_neg (by omega), if_neg (by omega), if_neg (by omega), if_neg (by omega), if_neg (by omega), if_neg (by omega), if_neg (by omega), if_neg (by omega), if_neg (by omega), if_pos k]
      exact Or.inr (Or.inr (Or.inr rfl))
  have ec : aI σ 19 c.toNatClampNeg = 1 ∨ aI σ 19 c.toNatClampNeg = 2 ∨ aI σ 19 c.toNatClampNeg = 6 ∨ aI σ 19 c.toNatClampNeg = 7 ∨ aI σ 19 c.toNatClampNeg = 18 := by
    rcases eo with e | e | e | e <;> rw [e] at hc
    · exact Or.inl (i32_lit hc)
    · exact Or.inr (Or.inr (Or.inl (i32_lit hc)))
    · exact Or.inr (Or.inr (Or.inr (Or.inl (i32_lit hc))))
    · exact Or.inr (Or.inr (Or.inr (Or.inr (i32_lit hc))))
  rw [ep, fx_sid ec, ef]
  exact ⟨sid_v hs hv h, rfl⟩
end
