theorem ite_L {p : Prop} [Decidable p] {α : Type} {P : α → Prop} {a b : α} (ha : p → P a) (hb : P b) : P (if p then a else b) := by
  split
  · next h => exact ha h
  · exact hb
theorem ite_H {p : Prop} [Decidable p] {α : Type} {P : α → Prop} {a b : α} (ha : p → P a) (hb : ¬ p → P b) : P (if p then a else b) := by
  split
  · next h => exact ha h
  · next h => exact hb h
def nxY (x : TxY) : Nat → Int
  | 0 => 0
  | k + 1 => atY x k + (oneY x (atY x k)).1
theorem at_nx {x : TxY} : ∀ k, atY x k = skY x (nxY x k) := by
  intro k
  cases k with
  | zero => rfl
  | succ k => rfl
theorem sg1_le {b : Int} : (sg1Y b).1 = 0 ∨ (sg1Y b).1 = 1 := by
  unfold sg1Y
  repeat' with_reducible refine ite_H (P := fun q : Int × Int => q.1 = 0 ∨ q.1 = 1) (fun _ => ?_) (fun _ => ?_)
  all_goals decide
theorem one_le {x : TxY} {i : Int} (h0 : 0 ≤ i) (h : i < x.2) : 0 ≤ (oneY x i).1 ∧ i + (oneY x i).1 ≤ x.2 := by
  have hn := nm_le (x := x) (x.2 - i).toNat i [] (by omega)
  have hd := nd_le (x := x) (x.2 - i).toNat i (by omega)
  have hb : ∀ k : Int, btY x k < 0 ∨ k < x.2 := fun k => by
    by_cases q : k < x.2
    · exact Or.inr q
    · exact Or.inl (by rw [bt_out q]; decide)
  have h1 := hb (i + 1)
  have h2 := hb (i + 2)
  have h3 := hb (i + 3)
  have hl := hb (ndY x (x.2 - i).toNat i)
  unfold oneY
  split
  · split
    · exact ⟨Int.le_refl _, by show i + 0 ≤ x.2; omega⟩
    · dsimp only
      omega
  split
  · split
    · exact ⟨Int.le_refl _, by show i + 0 ≤ x.2; omega⟩
    split
    · dsimp only
      omega
    · dsimp only
      omega
  split
  · split
    · dsimp only
      omega
    · exact ⟨Int.le_refl _, by show i + 0 ≤ x.2; omega⟩
  · unfold sgnY
    have hs := @sg1_le (btY x i)
    repeat' with_reducible refine ite_L (P := fun q : Int × Int => 0 ≤ q.1 ∧ i + q.1 ≤ x.2) (fun _ => ?_) ?_
    all_goals ((try dsimp only); omega)
