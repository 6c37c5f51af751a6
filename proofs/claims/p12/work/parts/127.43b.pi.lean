theorem aI_em {σ : RS} {o a t : Int32} {r : Nat} (h : 25 ≤ r) : aI (em σ o a t) r = aI σ r := by
  unfold em
  rw [aI_ne (by omega), aI_ne (by omega), aI_ne (by omega), aI_ne (by omega), aI_ne (by omega), aI_ne (by omega)]
  rfl
/-- a plain code more -/
theorem PI.cem {σ : RS} {E E' : List Nat} {s s' : SS} {k j : Int} (h : PI σ E s k j) (o a t : Int32) (ho : 19 ≤ o ∧ o ≤ 54) (ht : 0 ≤ t ∧ t ≤ 500) (hz : ksl (nT o) = 0) (hka : kop (nT o) = true → 0 ≤ a ∧ a < gI σ 49) (h22 : o = 22 → 0 ≤ a ∧ a < 60) (h54 : o = 54 → 0 ≤ a ∧ a ≤ 9) (h46 : (o = 46 ∨ o = 47) → a = -2 ∨ (0 ≤ a ∧ a < gI σ 49))
    (hup : kpu (nT o) = true → ∀ c, c < nT (gI σ 18) → kpu (nT (aI σ 19 c)) = true → aI σ 20 c ≠ a) (he : eSt (nT o) a 0 E = some E') (hs : sSt (nT o) a (nT (gI σ 18)) s = some s') (hk20 : k + 1 ≤ 20) (hpl : opl o := by decide) (hzh : zh s.1 → o = 21 ∨ o = 31 ∨ o = 35 := by first | exact fun _ => Or.inl rfl | exact fun _ => Or.inr (Or.inl rfl) | exact fun _ => Or.inr (Or.inr rfl) | (intro z; simp [zh] at z; done)) : PI (em σ o a t) E' s' (k + 1) j :=
  h.app o a 0 t t t ho ht ht ht hka h22 h54 h46 hup he hs hk20 (fun r q1 q2 => Or.inl ⟨aI_em (by omega), by omega⟩) hpl (hzh := hzh)
/-- a code that stands in the row r of its thing's numbers from now on -/
theorem PI.cems {σ : RS} {E E' : List Nat} {s s' : SS} {k j : Int} (h : PI σ E s k j) (o a t : Int32) (r : Nat) (ho : 19 ≤ o ∧ o ≤ 54) (ht : 0 ≤ t ∧ t ≤ 500) (hr : ksl (nT o) = r) (hr1 : 52 ≤ r ∧ r ≤ 58 ∧ r ≠ 57) (hko : kop (nT o) = true) (hka : 0 ≤ a ∧ a < gI σ 49) (h22 : o = 22 → 0 ≤ a ∧ a < 60) (h54 : o = 54 → 0 ≤ a ∧ a ≤ 9) (h46 : (o = 46 ∨ o = 47) → a = -2 ∨ (0 ≤ a ∧ a < gI σ 49))
    (hup : kpu (nT o) = true → ∀ c, c < nT (gI σ 18) → kpu (nT (aI σ 19 c)) = true → aI σ 20 c ≠ a) (he : eSt (nT o) a 0 E = some E') (hs : sSt (nT o) a (nT (gI σ 18)) s = some s') (hk20 : k + 1 ≤ 20) (hpl : opl o := by decide) (hzh : zh s.1 → o = 21 ∨ o = 31 ∨ o = 35 := by first | exact fun _ => Or.inl rfl | exact fun _ => Or.inr (Or.inl rfl) | exact fun _ => Or.inr (Or.inr rfl) | (intro z; simp [zh] at z; done)) : PI (sA (em σ o a t) r (upd (aI σ r) (nT a) (gI σ 18))) E' s' (k + 1) j := by
  have ea : ∀ q, q < 52 ∨ 58 < q → aI (sA (em σ o a t) r (upd (aI σ r) (nT a) (gI σ 18))) q = aI (em σ o a t) q := fun q hq => aI_ne (by omega)
  refine h.app o a 0 t t t ho ht ht ht (fun _ => hka) h22 h54 h46 hup he hs hk20 ?_ hpl rfl rfl rfl rfl rfl rfl rfl (ea 63 (by omega)) (ea 64 (by omega)) (ea 65 (by omega)) (ea 43 (by omega)) (ea 37 (by omega)) (ea 39 (by omega)) (ea 40 (by omega)) (ea 41 (by omega)) (ea 3 (by omega)) (ea 6 (by omega)) rfl (ea 19 (by omega)) (ea 20 (by omega)) (ea 21 (by omega)) (ea 22 (by omega)) (ea 23 (by omega)) (ea 24 (by omega)) (fun z => z.same (ea 6 (by omega)) (ea 38 (by omega)) (ea 44 (by omega))) hzh
  intro q q1 q2
  by_cases hq : q = r
  · subst hq
    exact Or.inr ⟨hr.symm, fun q => absurd q hr1.2.2, hko, aI_eq⟩
  · exact Or.inl ⟨(aI_ne hq).trans (aI_em (by omega)), by omega⟩
theorem PI.pop {σ : RS} {s : SS} {k j : Int} (h : PI σ [0] s k j) (a t : Int32) (ht : 0 ≤ t ∧ t ≤ 500) (hk : k + 1 ≤ 20) : PI (em σ 21 a t) [] s (k + 1) j :=
  h.cem 21 a t (by decide) ht rfl (fun q => by cases q) (fun q => absurd q (by decide)) (fun q => absurd q (by decide)) (fun q => absurd q (by decide)) (fun q => by cases q) rfl rfl hk
theorem PI.step {σ : RS} {s : SS} {k j : Int} (h : PI σ [] s k j) (t : Int32) (ht : 0 ≤ t ∧ t ≤ 500) (hk : k + 1 ≤ 20) (hnz : ¬ zh s.1 := by first | exact Fs_nz | (intro z; simp [zh] at z; done)) : PI (em σ 20 0 t) [] ((20, nT (gI σ 18)) :: s.1, s.2) (k + 1) j :=
  h.cem 20 0 t (by decide) ht rfl (fun q => by cases q) (fun q => absurd q (by decide)) (fun q => absurd q (by decide)) (fun q => absurd q (by decide)) (fun q => by cases q) rfl rfl hk (hzh := fun z => absurd z hnz)
theorem PI.ends {σ : RS} {r : List (Nat × Nat)} {m : Nat} {k j : Int} {a : Int32} (h : PI σ [] ((20, nT a) :: r, m) k j) (t : Int32) (ht : 0 ≤ t ∧ t ≤ 500) (hk : k + 1 ≤ 20) : PI (em σ 45 a t) [] (r, m) (k + 1) j :=
  h.cem 45 a t (by decide) ht rfl (fun q => by cases q) (fun q => absurd q (by decide)) (fun q => absurd q (by decide)) (fun q => absurd q (by decide)) (fun q => by cases q) rfl (by show (if (20, nT a) = (20, nT a) then some (r, m) else none) = _; rw [if_pos rfl]) hk
theorem PI.wk {σ : RS} {E : List Nat} {s : SS} {k j : Int} (h : PI σ E s k j) (k' j' : Int) (hk : k' ≤ 20 ∧ k ≤ k') (hj : 0 ≤ j' ∧ j' ≤ j) : PI σ E s k' j' := by
  obtain ⟨⟨h1, h2, h3, h4, h5⟩, h6⟩ := h
  exact ⟨⟨h1, ⟨h2.1, by omega, hk.1⟩, h3, h4, ⟨h5.1, by omega, hj.1⟩⟩, h6⟩
/-- a plain code more -/
theorem PI.cemg {σ : RS} {E E' : List Nat} {s s' : SS} {k j : Int} (h : PI σ E s k j) (o a t : Int32) (ho : 19 ≤ o ∧ o ≤ 54) (ht : 0 ≤ t ∧ t ≤ 500) (hz : ksl (nT o) = 0) (hka : kop (nT o) = true → 0 ≤ a ∧ a < gI σ 49) (h22 : o = 22 → 0 ≤ a ∧ a < 60) (h54 : o = 54 → 0 ≤ a ∧ a ≤ 9) (h46 : (o = 46 ∨ o = 47) → a = -2 ∨ (0 ≤ a ∧ a < gI σ 49))
    (hup : kpu (nT o) = true → ∀ c, c < nT (gI σ 18) → kpu (nT (aI σ 19 c)) = true → aI σ 20 c ≠ a) (he : eSt (nT o) a 0 E = some E') (hs : sSt (nT o) a (nT (gI σ 18)) s = some s') (hk20 : k + 1 ≤ 20) (j' : Int) (hox : OX σ s o a t j j') (hzh : zh s.1 → o = 21 ∨ o = 31 ∨ o = 35 := by first | exact fun _ => Or.inl rfl | exact fun _ => Or.inr (Or.inl rfl) | exact fun _ => Or.inr (Or.inr rfl) | (intro z; simp [zh] at z; done)) : PI (em σ o a t) E' s' (k + 1) j' :=
  h.appg o a 0 t t t ho ht ht ht hka h22 h54 h46 hup he hs hk20 j' hox (fun r q1 q2 => Or.inl ⟨aI_em (by omega), by omega⟩) (hzh := hzh)
/-- a code that stands in the row r of its thing's numbers from now on -/
theorem PI.cemsg {σ : RS} {E E' : List Nat} {s s' : SS} {k j : Int} (h : PI σ E s k j) (o a t : Int32) (r : Nat) (ho : 19 ≤ o ∧ o ≤ 54) (ht : 0 ≤ t ∧ t ≤ 500) (hr : ksl (nT o) = r) (hr1 : 52 ≤ r ∧ r ≤ 58 ∧ (r = 57 → 0 ≤ aI σ 61 (nT a))) (hko : kop (nT o) = true) (hka : 0 ≤ a ∧ a < gI σ 49) (h22 : o = 22 → 0 ≤ a ∧ a < 60) (h54 : o = 54 → 0 ≤ a ∧ a ≤ 9) (h46 : (o = 46 ∨ o = 47) → a = -2 ∨ (0 ≤ a ∧ a < gI σ 49))
    (hup : kpu (nT o) = true → ∀ c, c < nT (gI σ 18) → kpu (nT (aI σ 19 c)) = true → aI σ 20 c ≠ a) (he : eSt (nT o) a 0 E = some E') (hs : sSt (nT o) a (nT (gI σ 18)) s = some s') (hk20 : k + 1 ≤ 20) (j' : Int) (hox : OX σ s o a t j j') (hzh : zh s.1 → o = 21 ∨ o = 31 ∨ o = 35 := by first | exact fun _ => Or.inl rfl | exact fun _ => Or.inr (Or.inl rfl) | exact fun _ => Or.inr (Or.inr rfl) | (intro z; simp [zh] at z; done)) : PI (sA (em σ o a t) r (upd (aI σ r) (nT a) (gI σ 18))) E' s' (k + 1) j' := by
  have ea : ∀ q, q < 52 ∨ 58 < q → aI (sA (em σ o a t) r (upd (aI σ r) (nT a) (gI σ 18))) q = aI (em σ o a t) q := fun q hq => aI_ne (by omega)
  refine h.appg o a 0 t t t ho ht ht ht (fun _ => hka) h22 h54 h46 hup he hs hk20 j' hox ?_ rfl rfl rfl rfl rfl rfl rfl (ea 63 (by omega)) (ea 64 (by omega)) (ea 65 (by omega)) (ea 43 (by omega)) (ea 37 (by omega)) (ea 39 (by omega)) (ea 40 (by omega)) (ea 41 (by omega)) (ea 3 (by omega)) (ea 6 (by omega)) rfl (ea 19 (by omega)) (ea 20 (by omega)) (ea 21 (by omega)) (ea 22 (by omega)) (ea 23 (by omega)) (ea 24 (by omega)) (fun z => z.same (ea 6 (by omega)) (ea 38 (by omega)) (ea 44 (by omega))) hzh
  intro q q1 q2
  by_cases hq : q = r
  · subst hq
    exact Or.inr ⟨hr.symm, hr1.2.2, hko, aI_eq⟩
  · exact Or.inl ⟨(aI_ne hq).trans (aI_em (by omega)), by omega⟩
