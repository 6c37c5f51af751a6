/-! behind the lexer: what the parse asks of NAMES and of longs -/
theorem tk_1 {w c : Int} (h : tkR 1 w c) : c = 80 := by
  rcases h with z | z | z | z | z | z | z
  · exact absurd z.1 (by decide)
  · exact absurd z.1 (by decide)
  · exact z.2
  · exact absurd z.1 (by decide)
  · exact absurd z.1 (by decide)
  · exact absurd z.1 (by decide)
  · exact absurd z.1 (by decide)
theorem tk_2 {w c : Int} (h : tkR 2 w c) : c = 81 ∨ c = 82 := by
  rcases h with z | z | z | z | z | z | z
  · exact absurd z.1 (by decide)
  · exact absurd z.1 (by decide)
  · exact absurd z.1 (by decide)
  · exact z.2
  · exact absurd z.1 (by decide)
  · exact absurd z.1 (by decide)
  · exact absurd z.1 (by decide)
/-- a token that is no last one, in both -/
theorem lx_in {σ τ : RS} {x : TxY} {s : SpC} {n : Nat} (hx : okY x) (hL : LxQ σ τ x) (hT : TkS x s n) {i : Nat} (hi : i < nT (gI τ 2)) (h5 : i ≤ 500) (h3 : aI τ 3 i = 1 ∨ aI τ 3 i = 2) : (i + 1 < nT (gI τ 2)) ∧ i < n ∧ tkR (aI τ 3 i).toInt (aI τ 6 i).toInt (oneY x (atY x i)).2 ∧ (aI τ 5 i).toInt = (oneY x (atY x i)).1 ∧ zK s i = (oneY x (atY x i)).2 ∧ atY x i < x.2 ∧ 0 ≤ atY x i := by
  obtain ⟨-, m, hm, hm2, hTk, hat, hlast⟩ := hL
  obtain ⟨hn, hj, hln, hend⟩ := hT
  have e2 : nT (gI τ 2) = m + 1 := by
    show (gI τ 2).toInt.toNat = m + 1
    omega
  have hA := at_0 (x := x) hx.2.1 (n := m) (fun k hk => ⟨(hTk k hk).2.1, (hTk k hk).2.2.1⟩)
  have him : i < m := by
    rcases Nat.lt_or_ge i m with q | q
    · exact q
    · exfalso
      have e : i = m := by omega
      subst e
      rcases hlast with ⟨-, q2⟩ | ⟨-, -, q3⟩
      · rw [q2] at h3
        exact absurd h3 (by decide)
      · rw [q3] at h3
        exact absurd h3 (by decide)
  obtain ⟨k1, k2, k3, k4, k5⟩ := hTk i him
  have hin : i < n := by
    rcases Nat.lt_or_ge i n with z | z
    · exact z
    · exfalso
      have hnm : n ≤ m := by omega
      have hAn := hA n hnm
      obtain ⟨-, q2, q3, -⟩ := hTk n (by omega)
      rcases hend with ⟨-, q⟩ | ⟨-, q1, -, -⟩
      · omega
      · have o := one_le (x := x) (i := atY x n) hAn.1 q2
        omega
  exact ⟨by omega, hin, k4, k5, (hj i hin).1, k2, (hA i (by omega)).1⟩
theorem tz_of {σ τ : RS} {x : TxY} {s : SpC} {n : Nat} (hx : okY x) (hL : LxQ σ τ x) (hV : ∃ m : Nat, (gI τ 2).toInt = m + 1 ∧ TkT τ x m) (hT : TkS x s n) : TlZ τ s ∧ NmZ (nN x) τ := by
  obtain ⟨m, hm, hV⟩ := hV
  have e2 : nT (gI τ 2) = m + 1 := by
    show (gI τ 2).toInt.toNat = m + 1
    omega
  refine ⟨?_, ?_⟩
  · intro i hi h5 h3
    obtain ⟨a, b, c, d, e, f, g⟩ := lx_in hx hL hT hi h5 (Or.inr h3)
    rw [h3] at c
    have c2 := tk_2 c
    have v := (hV i (by omega)).2.1 c2
    rw [e]
    rcases c2 with c2 | c2
    · refine Or.inl ⟨?_, c2⟩
      by_cases q : aI τ 10 i = 0
      · exact q
      · have := v.1.mp q
        omega
    · exact Or.inr ⟨v.1.mpr c2, c2⟩
  · intro i j hi hj h5 g5 h3 g3
    obtain ⟨a, b, c, d, e, f, g⟩ := lx_in hx hL hT hi h5 (Or.inl h3)
    obtain ⟨a', b', c', d', e', f', g'⟩ := lx_in hx hL hT hj g5 (Or.inl g3)
    rw [h3] at c
    rw [g3] at c'
    have c2 := tk_1 c
    have c2' := tk_1 c'
    have v := (hV i (by omega)).1 c2
    have v' := (hV j (by omega)).1 c2'
    have l := nb_len c2 f g
    have l' := nb_len c2' f' g'
    have ei : ((i : Int)).toNat = i := rfl
    have ej : ((j : Int)).toNat = j := rfl
    unfold nN
    rw [ei, ej]
    refine ⟨fun q => ?_, fun q => ?_⟩
    · have q1 : hwY (nbZ x i) = hwY (nbZ x j) := by
        have z := q.1
        rw [v.1, v'.1] at z
        exact z
      have q2 : lwY (nbZ x i) = lwY (nbZ x j) := by
        have z := q.2.1
        rw [v.2, v'.2] at z
        exact z
      have q3 : (nbZ x i).length = (nbZ x j).length := by
        have z := congrArg Int32.toInt q.2.2
        rw [d, d'] at z
        omega
      rw [hl_inj nb_al nb_al l.2 q3 q1 q2]
    · have z := vl_inj (B := 256) (by decide) (nbZ x i) (nbZ x j) (al_b nb_al) (al_b nb_al) q
      refine ⟨?_, ?_, ?_⟩
      · rw [v.1, v'.1]
        exact congrArg hwY z
      · rw [v.2, v'.2]
        exact congrArg lwY z
      · rw [← Int32.toInt_inj, d, d', ← l.1, ← l'.1, z]
