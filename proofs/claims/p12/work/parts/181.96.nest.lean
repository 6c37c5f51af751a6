/-- the program that stands, whole -/
def PK (σ : RS) : Prop := ∃ f k j, PI (sI (sA σ 59 f) 62 0) [] ([], nT (gI σ 36)) k j
theorem PK.j {σ : RS} (h : PK σ) : PJ σ := by
  obtain ⟨f, k, j, hp⟩ := h
  exact ⟨f, _, k, j, hp⟩
theorem PK.fin {σ : RS} (h : PK σ) : Ss (aI σ 19) (aI σ 20) (nT (gI σ 18)) = some ([], nT (gI σ 36)) := by
  obtain ⟨f, k, j, hp⟩ := h
  exact hp.2.2.1
theorem PK.up {σ : RS} (h : PK σ) : Up (aI σ 19) (aI σ 20) (nT (gI σ 18)) := by
  have hj := h.j
  obtain ⟨f, k, j, hp⟩ := h
  have hU : ∀ c d, c < d → d < nT (gI σ 18) → kpu (nT (aI σ 19 c)) = true → kpu (nT (aI σ 19 d)) = true → aI σ 20 c ≠ aI σ 20 d := hp.2.2.2.2.2.1
  intro c d hcd hd k1 k2 e
  obtain ⟨_, _, _, _, p1⟩ := hj.pc (show c < nT (gI σ 18) by omega)
  obtain ⟨_, _, _, _, p2⟩ := hj.pc hd
  exact hU c d hcd hd k1 k2 (nT_eq (p1.hce.2.2.2.2.1 (kpu_kop k1)).1 (p2.hce.2.2.2.2.1 (kpu_kop k2)).1 e)
/-- the codes of a thing follow each other by their sorts -/
def acts (o a : Nat → Int32) (k d : Nat) : Prop := nT (a d) = k ∧ (kpu (nT (o d)) = true ∨ (∃ x, tfr (nT (o d)) x = true) ∨ ∃ x, tcl (nT (o d)) x = true)
theorem sSt_act {n : Nat} {a : Int32} {c : Nat} {s s' : SS} (h : sSt n a c s = some s') (ha : (∃ x, tfr n x = true) ∨ ∃ x, tcl n x = true) : (∃ x r, tfr n x = true ∧ s.1 = (x, nT a) :: r ∧ s'.1 = (n, nT a) :: r) ∨ (∃ x r, tcl n x = true ∧ s.1 = (x, nT a) :: r ∧ s'.1 = r) := by
  have hn : n ∈ [24, 27, 30, 33, 34, 35, 51, 52, 25, 28, 31, 36, 40, 42, 53] := by
    rcases ha with ⟨x, h⟩ | ⟨x, h⟩
    · unfold tfr at h
      simp only [Bool.or_eq_true, Bool.and_eq_true, beq_iff_eq] at h
      simp only [List.mem_cons, List.not_mem_nil, or_false]
      omega
    · unfold tcl at h
      simp only [Bool.or_eq_true, Bool.and_eq_true, beq_iff_eq] at h
      simp only [List.mem_cons, List.not_mem_nil, or_false]
      omega
  obtain ⟨l, m⟩ := s
  simp only [List.mem_cons, List.not_mem_nil, or_false] at hn
  rcases hn with rfl | rfl | rfl | rfl | rfl | rfl | rfl | rfl | rfl | rfl | rfl | rfl | rfl | rfl | rfl <;> simp only [sSt] at h <;> (split at h) <;> first
    | (cases h; done)
    | (split at h
       · rename_i hz
         obtain rfl := Option.some.inj h
         first
           | (subst hz; first | exact Or.inl ⟨_, _, by decide, rfl, rfl⟩ | exact Or.inr ⟨_, _, by decide, rfl, rfl⟩)
           | (rcases hz with hz | hz <;> subst hz <;> first | exact Or.inl ⟨_, _, by decide, rfl, rfl⟩ | exact Or.inr ⟨_, _, by decide, rfl, rfl⟩)
       · cases h)
theorem sSt_pu {n : Nat} {a : Int32} {c : Nat} {s s' : SS} (h : sSt n a c s = some s') (hk : kpu n = true) : s'.1 = (n, nT a) :: s.1 := by
  have hn : n = 23 ∨ n = 26 ∨ n = 29 ∨ n = 32 ∨ n = 37 ∨ n = 41 ∨ n = 50 := by
    unfold kpu at hk
    simp only [Bool.or_eq_true, beq_iff_eq] at hk
    omega
  rcases hn with rfl | rfl | rfl | rfl | rfl | rfl | rfl <;> (obtain rfl := Option.some.inj h; rfl)
theorem acts_lt {σ : RS} (h : PK σ) {k d v : Nat} (hdv : d < v) (hv : v < nT (gI σ 18)) (hd1 : acts (aI σ 19) (aI σ 20) k d) (hv1 : acts (aI σ 19) (aI σ 20) k v) : nT (aI σ 19 d) < nT (aI σ 19 v) ∧ ¬ ∃ x, tcl (nT (aI σ 19 d)) x = true := by
  have hu := h.up
  obtain ⟨_, _, s1, s1', p1⟩ := h.j.pc (show d < nT (gI σ 18) by omega)
  obtain ⟨_, _, s2, s2', p2⟩ := h.j.pc hv
  obtain ⟨ea, ha⟩ := hd1
  obtain ⟨eb, hb⟩ := hv1
  have nd1 := Ss_nd hu (d + 1) (by omega) s1' p1.hs'
  have nd0 := Ss_nd hu d (by omega) s1 p1.hs
  -- where k was begun
  have horg : ∃ p, p < d + 1 ∧ kpu (nT (aI σ 19 p)) = true ∧ nT (aI σ 20 p) = k := by
    rcases ha with q | q
    · exact ⟨d, by omega, q, ea⟩
    · rcases sSt_act p1.ss q with ⟨x, r, t1, t2, t3⟩ | ⟨x, r, t1, t2, t3⟩
      · obtain ⟨p, g1, g2, g3⟩ := Ss_org d s1 p1.hs (x, nT (aI σ 20 d)) (by rw [t2]; exact List.mem_cons_self) (tfr_lt t1).2.1
        exact ⟨p, by omega, g2, by rw [← ea]; exact g3⟩
      · obtain ⟨p, g1, g2, g3⟩ := Ss_org d s1 p1.hs (x, nT (aI σ 20 d)) (by rw [t2]; exact List.mem_cons_self) (tcl_x t1).2.1
        exact ⟨p, by omega, g2, by rw [← ea]; exact g3⟩
  obtain ⟨p, g1, g2, g3⟩ := horg
  -- v is no beginning
  have hv2 : (∃ x, tfr (nT (aI σ 19 v)) x = true) ∨ ∃ x, tcl (nT (aI σ 19 v)) x = true := by
    rcases hb with q | q
    · exact absurd (g3.trans eb.symm) (hu p v (by omega) hv g2 q)
    · exact q
  obtain ⟨x, hx1, hx2, hx3⟩ : ∃ x, (x, k) ∈ s2.1 ∧ x ≠ 20 ∧ x < nT (aI σ 19 v) := by
    rcases sSt_act p2.ss hv2 with ⟨x, r, t1, t2, t3⟩ | ⟨x, r, t1, t2, t3⟩
    · exact ⟨x, by rw [t2, eb]; exact List.mem_cons_self, (tfr_lt t1).2.1, (tfr_lt t1).1⟩
    · exact ⟨x, by rw [t2, eb]; exact List.mem_cons_self, (tcl_x t1).2.1, (tcl_x t1).1⟩
  have put : s1'.1 = (nT (aI σ 19 d), k) :: s1'.1.tail → nT (aI σ 19 d) ≠ 20 → nT (aI σ 19 d) < nT (aI σ 19 v) := by
    intro e h20
    have hy := Ss_mono (y := nT (aI σ 19 d)) hu g1 g2 g3 s1' p1.hs' (fun q hq q20 qk => ?_) v (by omega) (by omega) s2 p2.hs (x, k) hx1 hx2 rfl
    · have hy : nT (aI σ 19 d) ≤ x := hy
      omega
    · rw [e] at hq
      rcases List.mem_cons.mp hq with rfl | hq
      · exact Nat.le_refl _
      · unfold Nd at nd1
        rw [e] at nd1
        exact absurd qk.symm ((List.pairwise_cons.mp nd1).1 q hq h20 q20)
  rcases ha with q | q
  · refine ⟨put (by rw [sSt_pu p1.ss q, ea]; rfl) (kpu_ne q).1, fun ⟨x, hx⟩ => ?_⟩
    rw [(tcl_x hx).2.2.2] at q
    cases q
  · rcases sSt_act p1.ss q with ⟨x', r, t1, t2, t3⟩ | ⟨x', r, t1, t2, t3⟩
    · refine ⟨put (by rw [t3, ea]; rfl) (tfr_lt t1).2.2.1, fun ⟨y, hy⟩ => ?_⟩
      unfold tfr at t1
      unfold tcl at hy
      simp only [Bool.or_eq_true, Bool.and_eq_true, beq_iff_eq] at t1 hy
      omega
    · exfalso
      refine Ss_gone hu g1 g2 g3 s1' p1.hs' (fun q hq q20 qk => ?_) v (by omega) (by omega) s2 p2.hs (x, k) hx1 hx2 rfl
      rw [t3] at hq
      unfold Nd at nd0
      rw [t2] at nd0
      exact (List.pairwise_cons.mp nd0).1 q hq (tcl_x t1).2.1 q20 (by show nT (aI σ 20 d) = q.2; rw [ea, qk])
/-- a row of a thing's numbers tells where its code stands -/
theorem PK.row {σ : RS} (h : PK σ) {k d r : Nat} (hd : d < nT (gI σ 18)) (ha : acts (aI σ 19) (aI σ 20) k d) (hr : ksl (nT (aI σ 19 d)) = r) (hr0 : r ≠ 0) (hk : kop (nT (aI σ 19 d)) = true) : 0 ≤ aI σ r k ∧ nT (aI σ r k) < nT (gI σ 18) ∧ ksl (nT (aI σ 19 (nT (aI σ r k)))) = r ∧ nT (aI σ 20 (nT (aI σ r k))) = k := by
  obtain ⟨_, _, s1, s1', p1⟩ := h.j.pc hd
  have z5 := p1.hce.2.2.2.2.1 hk
  have z9 := p1.hce.2.2.2.2.2.2.2.2.1 (by rw [hr]; exact hr0)
  have hrr : 52 ≤ r ∧ r ≤ 58 := by
    have : ∀ n, ksl n = 0 ∨ (52 ≤ ksl n ∧ ksl n ≤ 58) := by
      intro n
      unfold ksl
      split <;> simp
    have := this (nT (aI σ 19 d))
    omega
  obtain ⟨f, kk, j, hp⟩ := h
  have hT := hp.2.2.2.2.1.1 r hrr.1 hrr.2 k (by rw [← ha.1]; exact nT_lt z5.1 z5.2)
  have e : aI (sI (sA σ 59 f) 62 0) r = aI σ r := aI_ne (by omega)
  rw [e] at hT
  rw [hr, ha.1] at z9
  rcases hT with q | ⟨q1, q2, q3, q4⟩
  · rw [q] at z9; exact absurd z9 (by decide)
  · exact ⟨q1, nT_lt q1 q2, q3, q4⟩
