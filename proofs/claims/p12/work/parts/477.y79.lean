/-! methods of what is read, in the reference -/
def mthL : List (Int × Int × List Int) → Nat → Option (Int × Int × List Int)
  | [], _ => none
  | a :: l, k => if k = l.length then some a else mthL l k
/-- methods by number: the class's own; out, in -/
def msM (Nv : Int → Int) (Ko Ki : Int) (s : SpC) : MfT := fun i => if i = 10 then some (Ko, 5, [4]) else if i = 11 then some (Ki, 3, []) else (mthL (zMs s) i).map (fun m => (Nv m.1, m.2.1, m.2.2.reverse))
/-- where variables of methods stand -/
def V4R (σ : RS) : Prop := ∀ m : Nat, m < nT (gI σ 36) → (0 ≤ (aI σ 40 m).toInt ∧ 0 ≤ (aI σ 39 m).toInt) ∧ ∀ k : Nat, k < nT (gI σ 42) → ((aI σ 46 k).toInt = (m : Int) → (aI σ 40 m).toInt ≤ (k : Int)) ∧ ((aI σ 40 m).toInt ≤ (k : Int) → (k : Int) < (aI σ 40 m).toInt + (aI σ 39 m).toInt → (aI σ 46 k).toInt = (m : Int))
theorem ml_len {σ : RS} : ∀ n, (mlR σ n).length = n := fun n => by
  induction n with
  | zero => rfl
  | succ n ih => rw [mlR, List.length_cons, ih]
theorem pl_len {f : Nat → Int32} {a : Nat} : ∀ n, (plR f a n).length = n := fun n => by
  induction n with
  | zero => rfl
  | succ n ih => rw [plR, List.length_cons, ih]
theorem pl_get {f : Nat → Int32} {a : Nat} : ∀ n i, i < n → (plR f a n).reverse.getD i 0 = (f (a + i)).toInt := fun n => by
  induction n with
  | zero => exact fun i h => absurd h (Nat.not_lt_zero _)
  | succ n ih =>
    intro i h
    rw [plR, List.reverse_cons]
    have len : (plR f a n).reverse.length = n := by rw [List.length_reverse, pl_len]
    by_cases e : i = n
    · rw [e, List.getD_eq_getElem?_getD, List.getElem?_append_right (by omega), len, Nat.sub_self]
      rfl
    · rw [List.getD_eq_getElem?_getD, List.getElem?_append_left (by omega), ← List.getD_eq_getElem?_getD]
      exact ih i (by omega)
theorem mth_ml {σ : RS} : ∀ n k, mthL (mlR σ n) k = if k < n then some ((aI σ 37 k).toInt, (aI σ 38 k).toInt, plR (aI σ 44) (nT (aI σ 40 k)) (nT (aI σ 39 k))) else none := by
  intro n
  induction n with
  | zero => exact fun k => rfl
  | succ n ih =>
    intro k
    rw [mlR, mthL, ml_len]
    by_cases e : k = n
    · rw [if_pos e, if_pos (by omega), e]
    · rw [if_neg e, ih]
      by_cases c : k < n
      · rw [if_pos c, if_pos (by omega)]
      · rw [if_neg c, if_neg (by omega)]
theorem mth_mem : ∀ {l : List (Int × Int × List Int)} {k : Nat} {m}, mthL l k = some m → m ∈ l := by
  intro l
  induction l with
  | nil => intro k m h; cases h
  | cons a l ih =>
    intro k m h
    rw [mthL] at h
    split at h
    · rw [Option.some.inj h]
      exact List.mem_cons_self
    · exact List.mem_cons_of_mem _ (ih h)
section
variable {N : Int → Int} {σ Y : RS} {z : ZS} {Ko Ki : Int}
theorem RdW.ms (R : RdW N σ z) : (0 ≤ gI σ 36 ∧ gI σ 36 ≤ 10) ∧ zMs z.1 = mlR σ (nT (gI σ 36)) ∧ ∀ m, m < nT (gI σ 36) → nT (aI σ 40 m) + nT (aI σ 39 m) ≤ nT (gI σ 42) := ⟨R.2.1.2.2.2.2.1, R.2.1.2.2.2.1, R.2.1.2.2.2.2.2⟩
theorem ms_own (R : RdW N σ z) {i : Nat} (h : i < nT (gI σ 36)) : msM N Ko Ki z.1 i = some (N (aI σ 37 i).toInt, (aI σ 38 i).toInt, (plR (aI σ 44) (nT (aI σ 40 i)) (nT (aI σ 39 i))).reverse) := by
  obtain ⟨⟨r1, r2⟩, r3, _⟩ := R.ms
  have n := (nt_pos r1).1
  have l := Int32.le_iff_toInt_le.mp r2
  have l : (gI σ 36).toInt ≤ 10 := l
  unfold msM
  rw [if_neg (by omega), if_neg (by omega), r3, mth_ml, if_pos h]
  rfl
theorem ms_some (R : RdW N σ z) {i : Nat} : (∃ e, msM N Ko Ki z.1 i = some e) ↔ (i < nT (gI σ 36) ∨ i = 10 ∨ i = 11) := by
  obtain ⟨_, r3, _⟩ := R.ms
  unfold msM
  by_cases c : i = 10
  · rw [if_pos c]
    exact ⟨fun _ => Or.inr (Or.inl c), fun _ => ⟨_, rfl⟩⟩
  by_cases d : i = 11
  · rw [if_neg c, if_pos d]
    exact ⟨fun _ => Or.inr (Or.inr d), fun _ => ⟨_, rfl⟩⟩
  rw [if_neg c, if_neg d, r3, mth_ml]
  by_cases h : i < nT (gI σ 36)
  · rw [if_pos h]
    exact ⟨fun _ => Or.inl h, fun _ => ⟨_, rfl⟩⟩
  · rw [if_neg h]
    exact ⟨fun q => (by obtain ⟨e, he⟩ := q; cases he), fun q => (by omega)⟩
/-- bits that a method begins with, TYPES -/
theorem mtf_of (R : RdW N σ z) (V : V4R σ) {σ0 : RS} (hf : JfR (sI σ 68 1) σ0) : MtF σ0 (msM N Ko Ki z.1) (fun M => (aI σ 40 M).toInt) (nT (gI σ 36)) := by
  obtain ⟨⟨r1, r2⟩, r3, r4⟩ := R.ms
  have n36 := (nt_pos r1).1
  have l := Int32.le_iff_toInt_le.mp r2
  have l : (gI σ 36).toInt ≤ 10 := l
  refine ⟨by omega, fun Y F M hM => ?_⟩
  have g36 : gI Y 36 = gI σ 36 := (F.1 36 rfl).trans (hf.1 36 (by decide) (by decide) (by decide) (by decide) (by decide) (by decide))
  have g42 : gI Y 42 = gI σ 42 := (F.1 42 rfl).trans (hf.1 42 (by decide) (by decide) (by decide) (by decide) (by decide) (by decide))
  have aa : ∀ k, flA k = false → bJ k = false → aI Y k = aI σ k := fun k h1 h2 => (F.2.2.1 k h1).trans (hf.2.2.1 k h2)
  obtain ⟨⟨v1, v2⟩, v3⟩ := V M hM
  have own := ms_own (Ko := Ko) (Ki := Ki) R hM
  have n40 : ((nT (aI σ 40 M) : Nat) : Int) = (aI σ 40 M).toInt := Int.toNat_of_nonneg v1
  have n39 : ((nT (aI σ 39 M) : Nat) : Int) = (aI σ 39 M).toInt := Int.toNat_of_nonneg v2
  have r4 := r4 M hM
  refine ⟨?_, ?_⟩
  · rw [mty_s own, aa 38 rfl rfl]
  · rw [np_s own]
    show _ = pbL (aI σ 40 M).toInt ((plR (aI σ 44) (nT (aI σ 40 M)) (nT (aI σ 39 M))).reverse).length 0 zerB
    rw [List.length_reverse, pl_len, ← n40, g42]
    have h60 := R.vs
    have mT : (Int32.ofInt (M : Int)).toInt = (M : Int) := Int32.toInt_ofInt_of_le (by show (-2147483648 : Int) ≤ _; omega) (by show _ < (2147483648 : Int); omega)
    have mN : (Int32.ofInt (M : Int)).toNatClampNeg = M := by
      show (Int32.ofInt (M : Int)).toInt.toNat = M
      omega
    have n42 : nT (gI σ 42) ≤ 60 := by
      show (gI σ 42).toInt.toNat ≤ 60
      omega
    have b40 : (aI σ 40 M).toInt ≤ 100000 := by omega
    have b39 : (aI σ 39 M).toInt ≤ 100 := by omega
    have sum : (aI σ 40 M + aI σ 39 M).toInt = (aI σ 40 M).toInt + (aI σ 39 M).toInt := i32_pk rfl v1 b40 v2 b39
    exact st_all (fun k hk => by
      have hk : k < nT (gI σ 42) := hk
      rw [g36, aa 46 rfl rfl, aa 40 rfl rfl, aa 39 rfl rfl, mN]
      obtain ⟨w1, w2⟩ := v3 k hk
      have kT : (Int32.ofInt (k : Int)).toInt = (k : Int) := Int32.toInt_ofInt_of_le (by show (-2147483648 : Int) ≤ _; omega) (by show _ < (2147483648 : Int); omega)
      rw [Int32.lt_iff_toInt_lt, Int32.lt_iff_toInt_lt, ← Int32.toInt_inj, mT, kT, sum]
      constructor
      · rintro ⟨_, a, b⟩
        have := w1 a
        omega
      · rintro ⟨a, b⟩
        exact ⟨by omega, w2 (by omega) (by omega), by omega⟩) r4
end
