/-! a thing's life: from the code that begins it to the code that ends it the same stands open under it -/
theorem tfr_54 {n x : Nat} (h : tfr n x = true) : n ≠ 54 ∧ 18 < n := by
  unfold tfr at h
  simp only [Bool.or_eq_true, Bool.and_eq_true, beq_iff_eq] at h
  omega
/-- a sort that stands open -/
theorem Ss_sort {o a : Nat → Int32} : ∀ (i : Nat) (s : SS), Ss o a i = some s → ∀ q ∈ s.1, q.1 ≠ 20 → kpu q.1 = true ∨ ∃ y, tfr q.1 y = true := by
  intro i
  induction i with
  | zero =>
    intro s h q hq
    obtain rfl := Option.some.inj h
    cases hq
  | succ i ih =>
    intro s h q hq h20
    obtain ⟨s0, h0, h1⟩ := Ss_step h
    rcases sSt_mem h1 q hq h20 with z | ⟨z1, z2⟩ | ⟨x, z1, z2, z3⟩
    · exact ih s0 h0 q z h20
    · exact Or.inl (by rw [z2]; exact z1)
    · exact Or.inr ⟨x, by rw [z3]; exact z1⟩
/-- the code that begins what stands open with that sort -/
def bs (x : Nat) : Nat := match x with
  | 24 => 23
  | 27 => 26
  | 30 => 29
  | 33 => 32
  | 34 => 32
  | 35 => 32
  | 51 => 50
  | 52 => 50
  | x => x
theorem bs_tfr {n x : Nat} (h : tfr n x = true) : bs n = bs x := by
  unfold tfr at h
  simp only [Bool.or_eq_true, Bool.and_eq_true, beq_iff_eq] at h
  rcases h with (((((((⟨rfl, rfl⟩ | ⟨rfl, rfl⟩) | ⟨rfl, rfl⟩) | ⟨rfl, rfl⟩) | ⟨rfl, rfl⟩) | ⟨rfl, rfl⟩) | ⟨rfl, rfl⟩) | ⟨rfl, rfl | rfl⟩) <;> rfl
theorem bs_kpu {n : Nat} (h : kpu n = true) : bs n = n := by
  unfold kpu at h
  simp only [Bool.or_eq_true, beq_iff_eq] at h
  rcases h with (((((rfl | rfl) | rfl) | rfl) | rfl) | rfl) | rfl <;> rfl
theorem PK.back {σ : RS} (h : PK σ) : ∀ (c : Nat), c ≤ nT (gI σ 18) → ∀ l x k r m, Ss (aI σ 19) (aI σ 20) c = some (l ++ (x, k) :: r, m) → x ≠ 20 → ∃ b, b < c ∧ (kpu (nT (aI σ 19 b)) = true ∧ nT (aI σ 19 b) = bs x) ∧ nT (aI σ 20 b) = k ∧ (∃ m, Ss (aI σ 19) (aI σ 20) b = some (r, m)) ∧ ∀ i, b < i → i ≤ c → ∃ l' y m, (y ≠ 20 ∧ bs y = bs x) ∧ Ss (aI σ 19) (aI σ 20) i = some (l' ++ (y, k) :: r, m) := by
  intro c
  induction c using Nat.strongRecOn with
  | ind c ih =>
    intro hc l x k r m hs h20
    obtain ⟨d, d1, d2, d3, ⟨m1, d4⟩, d5⟩ := Ss_born c _ hs l x k r rfl h20
    obtain ⟨_, _, s0, s1, p⟩ := h.j.pc (show d < nT (gI σ 18) by omega)
    have e1 : s1 = ((x, k) :: r, m1) := Option.some.inj (p.hs'.symm.trans d4)
    rcases sSt_cls p.ss with ⟨e, hk, -⟩ | ⟨hn, e⟩ | ⟨hk, e⟩ | ⟨hn, r', e2, e3⟩ | ⟨x', r', ht, e2, e3⟩ | ⟨x', r', ht, e2, e3⟩
    · -- nothing done: then it stood ahead already, and the code put it: no
      exfalso
      rw [e1] at e
      have hu := h.up
      -- the two codes q and d have one sort and one thing
      by_cases hkx : kpu x = true
      · rw [d2] at hk; rw [hk] at hkx; cases hkx
      · have ho1 : 1 ≤ nT (aI σ 19 d) := nT_le (x := 1) (by decide) p.hce.1.1
        rw [d2] at ho1
        -- a code that does nothing has a sort that never stands open
        have hx := Ss_sort _ _ d4 (x, k) List.mem_cons_self h20
        rw [← d2] at hx
        rcases hx with hx | ⟨y, hy⟩
        · rw [hk] at hx; cases hx
        · have := sSt_act p.ss (Or.inl ⟨y, hy⟩)
          rcases this with ⟨y', r', t1, t2, t3⟩ | ⟨y', r', t1, t2, t3⟩
          · rw [e1] at t3
            rw [← e] at t2
            have z := congrArg Prod.fst (List.cons.inj t2).1
            have z : x = y' := z
            have w := (tfr_lt t1).1
            rw [d2] at w
            omega
          · unfold tfr at hy
            unfold tcl at t1
            simp only [Bool.or_eq_true, Bool.and_eq_true, beq_iff_eq] at hy t1
            omega
    · exfalso; rw [hn] at d2; exact h20 d2.symm
    · rw [e1] at e
      obtain ⟨-, z2⟩ := List.cons.inj e
      have z2 : r = s0.1 := z2
      refine ⟨d, d1, ⟨hk, by rw [← d2]; exact (bs_kpu hk).symm⟩, d3, ⟨s0.2, by rw [p.hs, z2]⟩, fun i a1 a2 => ?_⟩
      obtain ⟨l', m', q⟩ := d5 i a1 a2
      exact ⟨l', x, m', ⟨h20, rfl⟩, q⟩
    · exfalso
      rw [hn] at d2
      rw [e1] at e3
      have e3 : (x, k) :: r = r' := e3
      obtain ⟨q, q1, q2, q3, q4, q5⟩ := Ss_born d s0 p.hs [(20, nT (aI σ 20 d))] x k r (by rw [e2, ← e3]; rfl) h20
      have hx := Ss_sort _ _ d4 (x, k) List.mem_cons_self h20
      rw [← d2] at hx
      rcases hx with hx | ⟨y, hy⟩
      · exact absurd rfl (kpu_ne hx).2
      · unfold tfr at hy
        simp only [Bool.or_eq_true, Bool.and_eq_true, beq_iff_eq] at hy
        omega
    · rw [e1] at e3
      obtain ⟨z1, z2⟩ := List.cons.inj e3
      have z2 : r = r' := z2
      subst z2
      rw [d3] at e2
      obtain ⟨b, b1, b2, b3, b4, b5⟩ := ih d d1 (by omega) [] x' k r s0.2 (by rw [p.hs]; congr 1; exact Prod.ext e2 rfl) (tfr_lt ht).2.1
      have eb : bs x = bs x' := by rw [← d2]; exact bs_tfr ht
      refine ⟨b, by omega, ⟨b2.1, by rw [eb]; exact b2.2⟩, b3, b4, fun i a1 a2 => ?_⟩
      by_cases w : i ≤ d
      · rw [eb]; exact b5 i a1 w
      · obtain ⟨l', m', q⟩ := d5 i (by omega) a2
        exact ⟨l', x, m', ⟨h20, rfl⟩, q⟩
    · exfalso
      rw [e1] at e3
      have e3 : (x, k) :: r = r' := e3
      obtain ⟨q, q1, q2, q3, q4, q5⟩ := Ss_born d s0 p.hs [(x', nT (aI σ 20 d))] x k r (by rw [e2, ← e3]; rfl) h20
      have hx := Ss_sort _ _ d4 (x, k) List.mem_cons_self h20
      rw [← d2] at hx
      rcases hx with hx | ⟨y, hy⟩
      · rw [(tcl_x ht).2.2.2] at hx; cases hx
      · unfold tfr at hy
        unfold tcl at ht
        simp only [Bool.or_eq_true, Bool.and_eq_true, beq_iff_eq] at hy ht
        omega
theorem PK.fwd {σ : RS} (h : PK σ) : ∀ (t c : Nat), nT (gI σ 18) - c = t → c ≤ nT (gI σ 18) → ∀ l x k r m, Ss (aI σ 19) (aI σ 20) c = some (l ++ (x, k) :: r, m) → x ≠ 20 → ∃ e, c ≤ e ∧ e < nT (gI σ 18) ∧ (∃ y, tcl (nT (aI σ 19 e)) y = true) ∧ nT (aI σ 20 e) = k ∧ (∃ m, Ss (aI σ 19) (aI σ 20) (e + 1) = some (r, m)) ∧ ∀ i, c ≤ i → i ≤ e → ∃ l' y m, (y ≠ 20 ∧ bs y = bs x) ∧ Ss (aI σ 19) (aI σ 20) i = some (l' ++ (y, k) :: r, m) := by
  intro t
  induction t using Nat.strongRecOn with
  | ind t ih =>
    intro c ht hc l x k r m hs h20
    obtain ⟨d, d1, d2, d3, d4, d5, d6⟩ := Ss_next h.fin h20 _ c hc rfl l m hs
    rcases d5 with ⟨g1, m1, g2⟩ | ⟨g1, g2⟩
    · obtain ⟨e, e1, e2, e3, e4, e5, e6⟩ := ih (nT (gI σ 18) - (d + 1)) (by omega) (d + 1) rfl (by omega) [] _ k r m1 g2 (tfr_lt g1).2.2.1
      refine ⟨e, by omega, e2, e3, e4, e5, fun i a1 a2 => ?_⟩
      by_cases w : i ≤ d
      · obtain ⟨l', m', q⟩ := d6 i a1 w
        exact ⟨l', x, m', ⟨h20, rfl⟩, q⟩
      · rw [← bs_tfr g1]; exact e6 i (by omega) a2
    · refine ⟨d, d1, d2, ⟨x, g1⟩, d4, g2, fun i a1 a2 => ?_⟩
      obtain ⟨l', m', q⟩ := d6 i a1 a2
      exact ⟨l', x, m', ⟨h20, rfl⟩, q⟩
/-- its life -/
theorem PK.life {σ : RS} (h : PK σ) {c : Nat} (hc : c ≤ nT (gI σ 18)) {l : List (Nat × Nat)} {x k : Nat} {r : List (Nat × Nat)} {m : Nat} (hs : Ss (aI σ 19) (aI σ 20) c = some (l ++ (x, k) :: r, m)) (h20 : x ≠ 20) : ∃ b e, (b < c ∧ c ≤ e ∧ e < nT (gI σ 18)) ∧ ((kpu (nT (aI σ 19 b)) = true ∧ nT (aI σ 19 b) = bs x) ∧ nT (aI σ 20 b) = k ∧ ∃ m, Ss (aI σ 19) (aI σ 20) b = some (r, m)) ∧ ((∃ y, tcl (nT (aI σ 19 e)) y = true) ∧ nT (aI σ 20 e) = k ∧ (∃ m, Ss (aI σ 19) (aI σ 20) (e + 1) = some (r, m)) ∧ 0 ≤ aI σ 55 k ∧ nT (aI σ 55 k) = e) ∧ ∀ i, b < i → i ≤ e → ∃ l' y m, (y ≠ 20 ∧ bs y = bs x) ∧ Ss (aI σ 19) (aI σ 20) i = some (l' ++ (y, k) :: r, m) := by
  obtain ⟨b, b1, b2, b3, b4, b5⟩ := h.back c hc l x k r m hs h20
  obtain ⟨e, e1, e2, e3, e4, e5, e6⟩ := h.fwd _ c rfl hc l x k r m hs h20
  have hk : ksl (nT (aI σ 19 e)) = 55 ∧ kop (nT (aI σ 19 e)) = true := by
    obtain ⟨y, hy⟩ := e3
    unfold tcl at hy
    simp only [Bool.or_eq_true, Bool.and_eq_true, beq_iff_eq] at hy
    have hn : nT (aI σ 19 e) = 25 ∨ nT (aI σ 19 e) = 28 ∨ nT (aI σ 19 e) = 31 ∨ nT (aI σ 19 e) = 36 ∨ nT (aI σ 19 e) = 40 ∨ nT (aI σ 19 e) = 42 ∨ nT (aI σ 19 e) = 53 := by omega
    rcases hn with q | q | q | q | q | q | q <;> rw [q] <;> exact ⟨rfl, rfl⟩
  have hu := h.uq e2 ⟨e4, Or.inr (Or.inr e3)⟩ hk.1 (Or.inr (Or.inr (Or.inl rfl))) hk.2
  refine ⟨b, e, ⟨b1, e1, e2⟩, ⟨b2, b3, b4⟩, ⟨e3, e4, e5, hu.1, hu.2⟩, fun i a1 a2 => ?_⟩
  by_cases w : i ≤ c
  · exact b5 i a1 w
  · exact e6 i (by omega) a2
