/-! the tokens of the program that stands: both halves have the same -/
def RtR (ρ : RS) (y : TxY) (n : Nat) : Prop := ((gI ρ 2).toInt = n + 1 ∨ ((gI ρ 2).toInt = 0 ∧ n = 0)) ∧ TkL ρ y n
theorem RtR.k {ρ ρ1 : RS} {y : TxY} {n : Nat} (h : RtR ρ y n) (k : KpQ ρ ρ1) : RtR ρ1 y n := by
  refine ⟨by rw [k.1.1]; exact h.1, fun j hj => ?_⟩
  have q := h.2 j hj
  rw [k.2 3 rfl, k.2 4 rfl, k.2 5 rfl, k.2 6 rfl]
  exact q
theorem TkL.c {ρ : RS} {x y : TxY} {n : Nat} (h : TkL ρ x n) (e : EqT x y) : TkL ρ y n := by
  intro j hj
  have q := h j hj
  rw [at_c e, one_c (bt_q e) e.1, e.1] at q
  exact q
/-- where a text has its end, one run of the lexer has it -/
theorem lx_end {σ τ : RS} {x : TxY} {n : Nat} (hL : LxQ σ τ x) (hE : EndY x n) : RtR τ x n := by
  obtain ⟨-, m, hm, hm2, hTk, hat, hlast⟩ := hL
  have e : m = n := by
    rcases Nat.lt_or_ge m n with q | q
    · have z := hE.1 m q
      rcases hlast with ⟨q1, -⟩ | ⟨-, q1, -⟩
      · omega
      · exact absurd q1 z.1
    · rcases Nat.lt_or_ge n m with z | z
      · have y := (hTk n z).2.1
        have w := hE.2
        omega
      · omega
  subst e
  exact ⟨Or.inl hm, hTk⟩
/-- a text that is read well has its end where the class has it -/
theorem end_of {σ τ : RS} {x : TxY} {s S : SpC} {n : Nat} {U : RS} (hx : okY x) (hL : LxQ σ τ x) (hT : TkS x s n) (hK : zK S = zK s) (hc : codY S = 84) (hS : ShR U S) (h2 : gI U 2 = gI τ 2) : EndY x n := by
  obtain ⟨-, m, hm, hm2, hTk, hat, hlast⟩ := hL
  obtain ⟨hn, hj, hln, hend⟩ := hT
  have hA := at_le hx.2.1 (fun j h => ⟨(hj j h).2.2.1, (hj j h).2.2.2⟩)
  have hAn := hA n (Nat.le_refl _)
  have stop : n ≤ 500 → ¬ n < m := fun h5 h => by
    obtain ⟨-, k2, k3, -⟩ := hTk n h
    rcases hend with ⟨-, q⟩ | ⟨-, q1, q2, -⟩
    · omega
    · have o := one_le (x := x) (i := atY x n) hAn.1 q2
      omega
  obtain ⟨⟨z0, -⟩, ⟨p1, p2, p3, p4⟩, -⟩ := hS
  have c84 : zK s (zAt S).toNat = 84 := by
    rw [← hK, ← hc]
    unfold codY
    rw [if_pos z0]
  have e0 : (0 : Int32).toInt = 0 := rfl
  have e5 : (500 : Int32).toInt = 500 := rfl
  have y2 := Int32.le_iff_toInt_le.mp p2
  have y3 := Int32.lt_iff_toInt_lt.mp p3
  have y4 := Int32.le_iff_toInt_le.mp p4
  rw [h2] at y3
  have hp : n ≤ (zAt S).toNat := by
    rcases Nat.lt_or_ge (zAt S).toNat n with q | q
    · have w := (hj _ q).1
      rw [c84] at w
      exact absurd w.symm (one_ok).1
    · exact q
  have hpm : (zAt S).toNat ≤ m := by omega
  have hp5 : (zAt S).toNat ≤ 500 := by omega
  have hE : x.2 ≤ atY x n := by
    rcases hend with ⟨-, q⟩ | ⟨q0, -⟩
    · omega
    · rcases Nat.lt_or_ge n (zAt S).toNat with w | w
      · exact absurd (show n < m by omega) (stop (by omega))
      · have e : (zAt S).toNat = n := by omega
        rw [e, q0] at c84
        exact absurd c84 (by decide)
  exact ⟨fun j h => ⟨by have := (hj j h).2.2.1; omega, (hj j h).2.2.2⟩, by omega⟩
theorem sr_tk {k w c : Int} (h : tkR k w c) (h4 : ¬ c = 84) (h5 : ¬ c = 85) : srY c = k := by
  unfold srY
  rcases h with ⟨-, q⟩ | ⟨-, q⟩ | ⟨rfl, rfl⟩ | ⟨rfl, rfl | rfl⟩ | ⟨rfl, rfl⟩ | ⟨rfl, q1, q2, rfl⟩ | ⟨rfl, q⟩
  · exact absurd q h4
  · exact absurd q h5
  · decide
  · decide
  · decide
  · decide
  · have z := (wdR_b (w := w)).mp ⟨q1, q2⟩
    rw [if_neg (by omega), if_neg (by omega), if_neg (by omega), if_pos (by omega)]
  · have z : 0 ≤ c ∧ c ≤ 42 := sgT_rg _ q
    rw [if_neg (by omega), if_neg (by omega), if_neg (by omega), if_neg (by omega)]
/-- token's answers are the same -/
theorem tk_same {ρ : RS} {y : TxY} {n : Nat} {i what r r2 nn : Int32} (h : RtR ρ y n) (hr : r.toInt = tknY y n i.toInt what.toInt) (hn : (0 < gI ρ 2 ∧ nn = gI ρ 2 - 1) ∨ (gI ρ 2 = 0 ∧ nn = 0)) (hb : 0 ≤ gI ρ 2 ∧ gI ρ 2 ≤ 2590) (h2 : (((i < 0 ∨ nn ≤ i) ∨ what < 0 ∨ 2 < what) ∧ r2 = -1) ∨ ((0 ≤ i ∧ i < nn) ∧ ((what = 0 ∧ r2 = aI ρ 4 (nT i)) ∨ (what = 1 ∧ r2 = aI ρ 5 (nT i)) ∨ (what = 2 ∧ r2 = aI ρ 3 (nT i))))) : r = r2 := by
  have e0 : (0 : Int32).toInt = 0 := rfl
  have e1 : (1 : Int32).toInt = 1 := rfl
  have e2 : (2 : Int32).toInt = 2 := rfl
  have em : (-1 : Int32).toInt = -1 := by decide
  have b1 := Int32.le_iff_toInt_le.mp hb.1
  have b2 := Int32.le_iff_toInt_le.mp hb.2
  have e25 : (2590 : Int32).toInt = 2590 := rfl
  have hnn : nn.toInt = n := by
    rcases hn with ⟨q, rfl⟩ | ⟨q, rfl⟩
    · have q1 := Int32.lt_iff_toInt_lt.mp q
      have s : (gI ρ 2 - 1).toInt = (gI ρ 2).toInt - 1 := subC (by rw [e1]) (by omega) (by omega)
      have z := h.1
      omega
    · have q1 := congrArg Int32.toInt q
      have z := h.1
      omega
  apply Int32.toInt_inj.mp
  rw [hr]
  rcases h2 with ⟨q, rfl⟩ | ⟨⟨q1, q2⟩, q⟩
  · rw [em]
    rw [Int32.lt_iff_toInt_lt, Int32.le_iff_toInt_le, Int32.lt_iff_toInt_lt, Int32.lt_iff_toInt_lt] at q
    rcases Decidable.em (i.toInt < 0 ∨ (n : Int) ≤ i.toInt) with z | z
    · exact (tn_b z).symm
    · exact (tn_3 (by omega) (by omega) (by omega)).symm
  · have q1 := Int32.le_iff_toInt_le.mp q1
    have q2 := Int32.lt_iff_toInt_lt.mp q2
    have ni : ¬ (i.toInt < 0 ∨ (n : Int) ≤ i.toInt) := by omega
    obtain ⟨j1, j2, j3, j4, j5⟩ := h.2 i.toInt.toNat (by omega)
    rcases q with ⟨rfl, rfl⟩ | ⟨rfl, rfl⟩ | ⟨rfl, rfl⟩
    · exact (tn_0 ni e0 j1).symm
    · exact (tn_1 ni e1 j5).symm
    · exact (tn_2 ni e2 (sr_tk j4 (one_ok).1 ((one_ok).2.resolve_left j3)).symm).symm
