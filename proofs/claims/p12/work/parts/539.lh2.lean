/-! the tokens of the program that stands: both halves have the same -/
def RtR (ρ : RS) (y : TxY) (n : Nat) : Prop := ((gI ρ 2).toInt = n + 1 ∨ ((gI ρ 2).toInt = 0 ∧ n = 0)) ∧ TkL ρ y n
theorem RtR.k {ρ ρ1 : RS} {y : TxY} {n : Nat} (h : RtR ρ y n) (k : KpQ ρ ρ1) : RtR ρ1 y n := by
  refine ⟨by rw [k.1.1]; exact h.1, fun j hj => ?_⟩
  have q := h.2 j hj
  rw [k.2 3 rfl, k.2 4 rfl, k.2 5 rfl, k.2 6 rfl]
  exact q
theorem TkL.c {ρ : RS} {x y : TxY} {n : Nat} (h : TkL ρ x n) (e : EqT x y) : TkL ρ y n := by
  intro j hj
  have q := h j hj
  rw [at_c e, one_c (bt_q e) e.1, e.1] at q
  exact q
/-- where a text has its end, one run of the lexer has it -/
theorem lx_end {σ τ : RS} {x : TxY} {n : Nat} (hL : LxQ σ τ x) (hE : EndY x n) : RtR τ x n := by
  obtain ⟨-, m, hm, hm2, hTk, hat, hlast⟩ := hL
  have e : m = n := by
    rcases Nat.lt_or_ge m n with q | q
    · have z := hE.1 m q
      rcases hlast with ⟨q1, -⟩ | ⟨-, q1, -⟩
      · omega
      · exact absurd q1 z.1
    · rcases Nat.lt_or_ge n m with z | z
      · have y := (hTk n z).2.1
        have w := hE.2
        omega
      · omega
  subst e
  exact ⟨Or.inl hm, hTk⟩
/-- a text that is read well has its end where the class has it -/
theorem end_of {σ τ : RS} {x : TxY} {s S : SpC} {n : Nat} {U : RS} (hx : okY x) (hL : LxQ σ τ x) (hT : TkS x s n) (hK : zK S = zK s) (hc : codY S = 84) (hS : ShR U S) (h2 : gI U 2 = gI τ 2) : EndY x n := by
  obtain ⟨-, m, hm, hm2, hTk, hat, hlast⟩ := hL
  obtain ⟨hn, hj, hln, hend⟩ := hT
  have hA := at_le hx.2.1 (fun j h => ⟨(hj j h).2.2.1, (hj j h).2.2.2⟩)
  have hAn := hA n (Nat.le_refl _)
  have stop : n ≤ 500 → ¬ n < m := fun h5 h => by
    obtain ⟨-, k2, k3, -⟩ := hTk n h
    rcases hend with ⟨-, q⟩ | ⟨-, q1, q2, -⟩
    · omega
    · have o := one_le (x := x) (i := atY x n) hAn.1 q2
      omega
  obtain ⟨⟨z0, -⟩, ⟨p1, p2, p3, p4⟩, -⟩ := hS
  have c84 : zK s (zAt S).toNat = 84 := by
    rw [← hK, ← hc]
    unfold codY
    rw [if_pos z0]
  have e0 : (0 : Int32).toInt = 0 := rfl
  have e5 : (500 : Int32).toInt = 500 := rfl
  have y2 := Int32.le_iff_toInt_le.mp p2
  have y3 := Int32.lt_iff_toInt_lt.mp p3
  have y4 := Int32.le_iff_toInt_le.mp p4
  rw [h2] at y3
  have hp : n ≤ (zAt S).toNat := by
    rcases Nat.lt_or_ge (zAt S).toNat n with q | q
    · have w := (hj _ q).1
      rw [c84] at w
      exact absurd w.symm (one_ok).1
    · exact q
  have hpm : (zAt S).toNat ≤ m := by omega
  have hp5 : (zAt S).toNat ≤ 500 := by omega
  have hE : x.2 ≤ atY x n := by
    rcases hend with ⟨-, q⟩ | ⟨q0, -⟩
    · omega
    · rcases Nat.lt_or_ge n (zAt S).toNat with w | w
      · exact absurd (show n < m by omega) (stop (by omega))
      · have e : (zAt S).toNat = n := by omega
        rw [e, q0] at c84
        exact absurd c84 (by decide)
  exact ⟨fun j h => ⟨by have := (hj j h).2.2.1; omega, (hj j h).2.2.2⟩, by omega⟩
