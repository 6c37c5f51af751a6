/-! params are SURELY assigned where a method begins: both halves -/
theorem pb_sn {v : Int} : ∀ (n i : Nat) (m : Int64), pbL v (n + 1) i m = pbL v n i m ||| bitQ (v + ((i + n : Nat) : Int)) := by
  intro n
  induction n with
  | zero => exact fun i m => rfl
  | succ n ih =>
    intro i m
    rw [pbL, ih, pbL, show i + 1 + n = i + (n + 1) by omega]
theorem st_pb {σ : RS} {m : Int32} {v np N : Nat} (h : ∀ k, k < N → ((m < gI σ 36 ∧ aI σ 46 k = m ∧ Int32.ofInt k < aI σ 40 m.toNatClampNeg + aI σ 39 m.toNatClampNeg) ↔ (v ≤ k ∧ k < v + np))) : ∀ n, n ≤ N → stB σ m n = pbL (v : Int) (min np (n - v)) 0 zerB := by
  intro n
  induction n with
  | zero =>
    intro _
    rw [show min np (0 - v) = 0 by omega]
    rfl
  | succ n ih =>
    intro hn
    have ih := ih (by omega)
    rw [stB]
    by_cases c : v ≤ n ∧ n < v + np
    · rw [if_pos ((h n (by omega)).mpr c), ih, show min np (n + 1 - v) = (n - v) + 1 by omega, show min np (n - v) = n - v by omega, pb_sn, show (v : Int) + ((0 + (n - v) : Nat) : Int) = (n : Int) by omega]
      rfl
    · rw [if_neg (fun q => c ((h n (by omega)).mp q)), ih, show min np (n + 1 - v) = min np (n - v) by omega]
theorem st_all {σ : RS} {m : Int32} {v np N : Nat} (h : ∀ k, k < N → ((m < gI σ 36 ∧ aI σ 46 k = m ∧ Int32.ofInt k < aI σ 40 m.toNatClampNeg + aI σ 39 m.toNatClampNeg) ↔ (v ≤ k ∧ k < v + np))) (hv : v + np ≤ N) : stB σ m N = pbL (v : Int) np 0 zerB := by
  rw [st_pb h N (Nat.le_refl _), show min np (N - v) = np by omega]
