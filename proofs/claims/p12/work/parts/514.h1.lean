/-! both halves read a text alike -/
theorem at_le {x : TxY} (hx : 0 ≤ x.2) {n : Nat} (h : ∀ j, j < n → 0 < (oneY x (atY x j)).1 ∧ atY x j < x.2) : ∀ j, j ≤ n → 0 ≤ atY x j ∧ atY x j ≤ x.2 := by
  intro j
  induction j with
  | zero => intro _; exact sk_le (x := x) (i := 0) hx
  | succ j ih =>
    intro hj
    have a := ih (by omega)
    have b := h j (by omega)
    have o := one_le (x := x) (i := atY x j) a.1 b.2
    have s := sk_le (x := x) (i := atY x j + (oneY x (atY x j)).1) (by omega)
    show 0 ≤ skY x (atY x j + (oneY x (atY x j)).1) ∧ skY x (atY x j + (oneY x (atY x j)).1) ≤ x.2
    omega
theorem sh_of {σ τ : RS} {x : TxY} {s : SpC} {n : Nat} (hx : okY x) (hL : LxQ σ τ x) (hT : TkS x s n) (hZ : Z0Y s) : ShR (sI (sI τ 14 0) 15 0) s := by
  obtain ⟨-, m, hm, hm2, hTk, hat, hlast⟩ := hL
  obtain ⟨hn, hj, hln, hend⟩ := hT
  have hA := at_le hx.2.1 (fun j h => ⟨(hj j h).2.2.1, (hj j h).2.2.2⟩)
  have hAn := hA n (Nat.le_refl _)
  have stop : n ≤ 500 → ¬ n < m := fun h5 h => by
    obtain ⟨-, k2, k3, -⟩ := hTk n h
    rcases hend with ⟨-, q⟩ | ⟨-, q1, q2, -⟩
    · omega
    · have o := one_le (x := x) (i := atY x n) hAn.1 q2
      omega
  have e2 : nT (gI τ 2) = m + 1 := by
    show (gI τ 2).toInt.toNat = m + 1
    omega
  have e0 : (0 : Int32).toInt = 0 := rfl
  refine ⟨⟨hZ.2.1, rfl⟩, ⟨by rw [hZ.1]; rfl, by show (0 : Int32) ≤ 0; decide, ?_, by show (0 : Int32) ≤ 500; decide⟩, ?_, ?_⟩
  · show (0 : Int32) < gI τ 2
    rw [Int32.lt_iff_toInt_lt, e0]
    omega
  · intro i hi h5
    replace hi : i < m + 1 := by rw [← e2]; exact hi
    show tkR (aI τ 3 i).toInt (aI τ 6 i).toInt (zK s i) ∧ (aI τ 4 i).toInt = zL s i
    rcases Nat.lt_or_ge i m with q | q
    · obtain ⟨k1, k2, k3, k4, -⟩ := hTk i q
      have hin : i < n := by
        rcases Nat.lt_or_ge i n with z | z
        · exact z
        · exact absurd (show n < m by omega) (stop (by omega))
      obtain ⟨j1, j2, -⟩ := hj i hin
      rw [j1, j2]
      exact ⟨k4, k1⟩
    · have e : m = i := by omega
      subst e
      rcases Nat.lt_or_ge m n with z | z
      · obtain ⟨-, -, j3, j4⟩ := hj m z
        exfalso
        rcases hlast with ⟨q1, -⟩ | ⟨-, q1, -⟩ <;> omega
      · have ei : n = m := by
          rcases Nat.lt_or_ge n m with z2 | z2
          · exact absurd z2 (stop (by omega))
          · omega
        subst ei
        rw [hln]
        refine ⟨?_, hat⟩
        rcases hlast with ⟨q1, q2⟩ | ⟨q1, q2, q3⟩
        · rcases hend with ⟨h84, -⟩ | ⟨-, -, q4, -⟩
          · rw [h84, q2]; exact Or.inl ⟨rfl, rfl⟩
          · omega
        · rcases hend with ⟨-, q4⟩ | ⟨h85, -⟩
          · omega
          · rw [h85, q3]; exact Or.inr (Or.inl ⟨rfl, rfl⟩)
  · intro i hi h0 h6
    replace hi : i < m + 1 := by rw [← e2]; exact hi
    left
    show i + 1 < nT (gI τ 2)
    rw [e2]
    rcases Nat.lt_or_ge i m with q | q
    · omega
    · have e : m = i := by omega
      subst e
      rcases hlast with ⟨-, q2⟩ | ⟨-, -, q2⟩
      · exact absurd q2 h0
      · exact absurd q2 h6
theorem mlR_len {σ : RS} : ∀ n, (mlR σ n).length = n := by
  intro n
  induction n with
  | zero => rfl
  | succ n ih => rw [mlR, List.length_cons, ih]
/-- the text on the reference's tape -/
def txR (ρ : RS) : TxY := (fun j => (aI ρ 0 j).toInt, (gI ρ 1).toInt)
theorem tx_ok {ρ : RS} (h : IV ρ) : okY (txR ρ) := by
  have e0 : (0 : Int32).toInt = 0 := rfl
  have e25 : (2500 : Int32).toInt = 2500 := rfl
  have e256 : (256 : Int32).toInt = 256 := rfl
  have a := Int32.le_iff_toInt_le.mp h.1.2.2.2.1.1.1
  have b := Int32.le_iff_toInt_le.mp h.1.2.2.2.1.1.2
  refine ⟨fun j => ?_, ?_, ?_⟩
  · have y := h.1.2.2.1.1 j
    have y1 := Int32.le_iff_toInt_le.mp y.1
    have y2 := Int32.lt_iff_toInt_lt.mp y.2
    show 0 ≤ (aI ρ 0 j).toInt ∧ (aI ρ 0 j).toInt ≤ 255
    omega
  · show 0 ≤ (gI ρ 1).toInt
    omega
  · show (gI ρ 1).toInt ≤ 2500
    omega
