/-! the reference's flow of exps: marks, && and ||, as the class goes -/
section
variable {σ : RS} {c : Int32}
theorem fx_15 (h : aI σ 19 c.toNatClampNeg = 15) : fxS σ c = σ := by
  unfold fxS
  rw [h, if_neg (by decide), if_neg (fun q => absurd q.1 (by decide)), if_pos rfl]
theorem fx_8 (h : aI σ 19 c.toNatClampNeg = 8 ∨ aI σ 19 c.toNatClampNeg = 12) : fxS σ c = beS (sI (sM σ 102 (vp_updL (aL σ 102) (gI σ 100).toNatClampNeg (gL σ 94))) 100 (gI σ 100 + 1)) (gL σ 93) := by
  unfold fxS
  rcases h with h | h
  · rw [h, if_neg (by decide), if_neg (fun q => absurd q.1 (by decide)), if_neg (by decide), if_pos (by decide)]
  · rw [h, if_neg (by decide), if_neg (fun q => absurd q.1 (by decide)), if_neg (by decide), if_pos (by decide)]
theorem fx_9 (h : aI σ 19 c.toNatClampNeg = 9) : fxS σ c = sL (sI σ 100 (gI σ 100 - 1)) 94 (gL σ 94 &&& aL σ 102 (gI σ 100 - 1).toNatClampNeg) := by
  unfold fxS
  rw [h, if_neg (by decide), if_neg (fun q => absurd q.1 (by decide)), if_neg (by decide), if_neg (by decide), if_pos rfl]
theorem fx_10 (h : aI σ 19 c.toNatClampNeg = 10) : fxS σ c = beS (sI (sM σ 101 (vp_updL (aL σ 101) (gI σ 100).toNatClampNeg (gL σ 93))) 100 (gI σ 100 + 1)) (gL σ 94) := by
  unfold fxS
  rw [h, if_neg (by decide), if_neg (fun q => absurd q.1 (by decide)), if_neg (by decide), if_neg (by decide), if_neg (by decide), if_pos rfl]
theorem fx_11 (h : aI σ 19 c.toNatClampNeg = 11) : fxS σ c = sL (sI σ 100 (gI σ 100 - 1)) 93 (gL σ 93 &&& aL σ 101 (gI σ 100 - 1).toNatClampNeg) := by
  unfold fxS
  rw [h, if_neg (by decide), if_neg (fun q => absurd q.1 (by decide)), if_neg (by decide), if_neg (by decide), if_neg (by decide), if_neg (by decide), if_pos rfl]
theorem fx_13 (h : aI σ 19 c.toNatClampNeg = 13) : fxS σ c = beS (sM (sM σ 101 (vp_updL (aL σ 101) (gI σ 100 - 1).toNatClampNeg (gL σ 93))) 102 (vp_updL (aL σ 102) (gI σ 100 - 1).toNatClampNeg (gL σ 94))) (aL σ 102 (gI σ 100 - 1).toNatClampNeg) := by
  unfold fxS
  rw [h, if_neg (by decide), if_neg (fun q => absurd q.1 (by decide)), if_neg (by decide), if_neg (by decide), if_neg (by decide), if_neg (by decide), if_neg (by decide), if_pos rfl]
theorem i32_lit {v w : Int32} (h : v.toInt = w.toInt) : v = w := Int32.toInt_inj.mp h
end
section
variable {σ : RS} {c : Int32} {l : List ItZ} {x : XrZ} {G F : MkF} {w : WzS} {t : TvT}
theorem toa_c {m : Int64} (h : w.2.2.1.length ≤ 400) : toA m w = (w.1, w.2.1, m :: w.2.2.1, w.2.2.2) := by
  unfold toA
  rw [if_pos (by omega)]
/-- one mark, &&, ||, ( ) -/
theorem xe_mk (hc : (aI σ 19 c.toNatClampNeg).toInt = opkZ x) (hS : MkS l x G F) (hG : G.length ≤ 100) (hA : w.2.2.1.length ≤ 200) (hk : x.1.1 = 3 ∨ x.1.1 = 11 ∨ x.1.1 = 12 ∨ x.1.1 = 13 ∨ (x.1.1 = 7 ∧ (x.1.2.1 = 20 ∨ x.1.2.1 = 21))) (h : XvR σ G w.1 w.2.1 w.2.2.1) : XvR (fxS σ c) F (paW x t w).1 (paW x t w).2.1 (paW x t w).2.2.1 ∧ (paW x t w).2.2.2 = w.2.2.2 := by
  unfold opkZ at hc
  rcases hk with k | k | k | k | ⟨k, s⟩
  · rw [if_neg (by omega), if_neg (by omega), if_pos k] at hc
    rw [fx_15 (i32_lit hc), pa_3 k]
    obtain ⟨_, rfl⟩ := (mks_3 (Or.inl k)).mp hS
    exact ⟨h, rfl⟩
  · rw [if_neg (by omega), if_neg (by omega), if_neg (by omega), if_neg (by omega), if_neg (by omega), if_neg (by omega), if_neg (by omega), if_neg (by omega), if_neg (by omega), if_neg (by omega), if_pos k] at hc
    obtain ⟨_, rfl⟩ := (mks_11 k).mp hS
    rw [pa_11 k]
    by_cases s : x.1.2.1 = 21
    · rw [if_pos s] at hc
      rw [fx_8 (Or.inl (i32_lit hc)), if_pos s, if_pos s]
      unfold fkW
      rw [toa_c (by omega)]
      exact ⟨xv_and h hG (Or.inl rfl), rfl⟩
    · rw [if_neg s] at hc
      rw [fx_10 (i32_lit hc), if_neg s, if_neg s]
      unfold fkW
      rw [toa_c (by omega)]
      exact ⟨xv_or h hG, rfl⟩
  · rw [if_neg (by omega), if_neg (by omega), if_neg (by omega), if_neg (by omega), if_neg (by omega), if_neg (by omega), if_neg (by omega), if_neg (by omega), if_neg (by omega), if_neg (by omega), if_neg (by omega), if_pos k] at hc
    obtain ⟨_, rfl⟩ := (mks_12 k).mp hS
    rw [pa_12 k, fx_8 (Or.inr (i32_lit hc))]
    unfold fkW
    rw [toa_c (by omega)]
    exact ⟨xv_and h hG (Or.inr rfl), rfl⟩
  · rw [if_neg (by omega), if_neg (by omega), if_neg (by omega), if_neg (by omega), if_neg (by omega), if_neg (by omega), if_neg (by omega), if_neg (by omega), if_neg (by omega), if_neg (by omega), if_neg (by omega), if_neg (by omega), if_pos k] at hc
    obtain ⟨_, q, H, rfl, rfl⟩ := (mks_13 k).mp hS
    rw [List.length_cons] at hG
    obtain ⟨v, A', e, hx⟩ := xv_el (a' := q) (b' := (xcZ l : Int) - 1) h (by omega)
    rw [pa_13 k, fx_13 (i32_lit hc)]
    unfold elW
    rw [frA_c e]
    dsimp only
    rw [e, List.length_cons] at hA
    rw [toa_c (w := (w.1, w.2.1, A', w.2.2.2)) (by show A'.length ≤ 400; omega)]
    rw [toa_c (w := (w.1, w.2.1, w.1 :: A', w.2.2.2)) (by show (w.1 :: A').length ≤ 400; rw [List.length_cons]; omega)]
    exact ⟨hx, rfl⟩
  · rw [if_neg (by omega), if_neg (by omega), if_neg (by omega), if_neg (by omega), if_neg (by omega), if_neg (by omega), if_pos k] at hc
    obtain ⟨_, e0, _⟩ := (mks_7 ⟨k, s⟩).mp hS
    have ep : paW x t w = chW t x.1.2.1 w := by
      unfold paW
      rw [if_neg (by omega), if_neg (by omega), if_neg (by omega), if_neg (by omega), if_neg (by omega), if_pos k]
    rw [ep]
    unfold chW
    subst e0
    rw [List.length_cons] at hG
    by_cases s1 : x.1.2.1 = 21
    · rw [if_pos s1] at hc h
      rw [fx_9 (i32_lit hc), if_pos s1]
      obtain ⟨v, A', e, hx⟩ := xv_af h (by omega)
      unfold andF
      rw [frA_c e]
      exact ⟨hx, rfl⟩
    · have s2 : x.1.2.1 = 20 := by omega
      rw [if_neg s1, if_pos s2] at hc
      rw [if_neg s1] at h
      rw [fx_11 (i32_lit hc), if_neg s1, if_pos s2]
      obtain ⟨v, A', e, hx⟩ := xv_ot h (by omega)
      unfold andT
      rw [frA_c e]
      exact ⟨hx, rfl⟩
end
