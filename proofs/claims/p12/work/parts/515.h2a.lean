/-! texts that agree up to their length -/
def EqT (x y : TxY) : Prop := x.2 = y.2 ∧ ∀ j : Nat, (j : Int) < x.2 → x.1 j = y.1 j
theorem bt_q {x y : TxY} (h : EqT x y) : btY x = btY y := by
  funext i
  unfold btY
  rw [← h.1]
  rcases Decidable.em (0 ≤ i ∧ i < x.2) with q | q
  · rw [if_pos q, if_pos q]
    exact h.2 i.toNat (by omega)
  · rw [if_neg q, if_neg q]
theorem bb_c {x y : TxY} (hb : btY x = btY y) (h2 : x.2 = y.2) : ∀ (f : Nat) (i r : Int), bbY x f i r = bbY y f i r := by
  intro f
  induction f with
  | zero => exact fun _ _ => h2
  | succ f ih => intro i r; rw [bbY, bbY, hb, ih, ih, ih]
theorem sk_c {x y : TxY} (hb : btY x = btY y) (h2 : x.2 = y.2) (i : Int) : skY x i = skY y i := by
  unfold skY
  rw [h2, bb_c hb h2]
theorem nm_c {x y : TxY} (hb : btY x = btY y) : ∀ (f : Nat) (e : Int) (l : List Int), nmY x f e l = nmY y f e l := by
  intro f
  induction f with
  | zero => exact fun _ _ => rfl
  | succ f ih => intro e l; rw [nmY, nmY, hb, ih]
theorem nd_c {x y : TxY} (hb : btY x = btY y) : ∀ (f : Nat) (e : Int), ndY x f e = ndY y f e := by
  intro f
  induction f with
  | zero => exact fun _ => rfl
  | succ f ih => intro e; rw [ndY, ndY, hb, ih]
theorem one_c {x y : TxY} (hb : btY x = btY y) (h2 : x.2 = y.2) (i : Int) : oneY x i = oneY y i := by
  unfold oneY
  rw [h2, hb, nm_c hb, nd_c hb]
theorem at_c {x y : TxY} (h : EqT x y) : ∀ k, atY x k = atY y k := by
  intro k
  induction k with
  | zero => exact sk_c (bt_q h) h.1 0
  | succ k ih => rw [atY, atY, ih, one_c (bt_q h) h.1, sk_c (bt_q h) h.1]
/-- codes of tokens -/
theorem wc_ok {l : List Int} : ¬ wcY l = 84 ∧ ¬ wcY l = 85 := by
  unfold wcY
  repeat' with_reducible refine ite_H (P := fun q : Int => ¬ q = 84 ∧ ¬ q = 85) (fun _ => ?_) (fun _ => ?_)
  all_goals decide
theorem sg1_ok {b : Int} : ¬ (sg1Y b).2 = 84 ∧ ((sg1Y b).1 = 0 ∨ ¬ (sg1Y b).2 = 85) := by
  unfold sg1Y
  repeat' with_reducible refine ite_H (P := fun q : Int × Int => ¬ q.2 = 84 ∧ (q.1 = 0 ∨ ¬ q.2 = 85)) (fun _ => ?_) (fun _ => ?_)
  all_goals decide
theorem one_ok {x : TxY} {i : Int} : ¬ (oneY x i).2 = 84 ∧ ((oneY x i).1 = 0 ∨ ¬ (oneY x i).2 = 85) := by
  unfold oneY
  have hw := fun l => @wc_ok l
  have hs := @sg1_ok (btY x i)
  refine ite_H (P := fun q : Int × Int => ¬ q.2 = 84 ∧ (q.1 = 0 ∨ ¬ q.2 = 85)) (fun _ => ?_) (fun _ => ?_)
  · refine ite_H (P := fun q : Int × Int => ¬ q.2 = 84 ∧ (q.1 = 0 ∨ ¬ q.2 = 85)) (fun _ => by decide) (fun _ => ⟨(hw _).1, Or.inr (hw _).2⟩)
  refine ite_H (P := fun q : Int × Int => ¬ q.2 = 84 ∧ (q.1 = 0 ∨ ¬ q.2 = 85)) (fun _ => ?_) (fun _ => ?_)
  · refine ite_H (P := fun q : Int × Int => ¬ q.2 = 84 ∧ (q.1 = 0 ∨ ¬ q.2 = 85)) (fun _ => by decide) (fun _ => ?_)
    exact ite_H (P := fun q : Int × Int => ¬ q.2 = 84 ∧ (q.1 = 0 ∨ ¬ q.2 = 85)) (fun _ => ⟨by show ¬ (82 : Int) = 84; decide, Or.inr (by show ¬ (82 : Int) = 85; decide)⟩) (fun _ => ⟨by show ¬ (81 : Int) = 84; decide, Or.inr (by show ¬ (81 : Int) = 85; decide)⟩)
  refine ite_H (P := fun q : Int × Int => ¬ q.2 = 84 ∧ (q.1 = 0 ∨ ¬ q.2 = 85)) (fun _ => ?_) (fun _ => ?_)
  · exact ite_H (P := fun q : Int × Int => ¬ q.2 = 84 ∧ (q.1 = 0 ∨ ¬ q.2 = 85)) (fun _ => by decide) (fun _ => by decide)
  · unfold sgnY
    repeat' with_reducible refine ite_H (P := fun q : Int × Int => ¬ q.2 = 84 ∧ (q.1 = 0 ∨ ¬ q.2 = 85)) (fun _ => ?_) (fun _ => ?_)
    all_goals first | exact hs | decide
/-- n tokens, then the end -/
def EndY (x : TxY) (n : Nat) : Prop := (∀ j, j < n → ¬ (oneY x (atY x j)).1 = 0 ∧ atY x j < x.2) ∧ atY x n = x.2
theorem EndY.c {x y : TxY} {n : Nat} (h : EndY x n) (e : EqT x y) : EndY y n := by
  refine ⟨fun j hj => ?_, ?_⟩
  · rw [← at_c e, ← one_c (bt_q e) e.1, ← e.1]
    exact h.1 j hj
  · rw [← at_c e, ← e.1]
    exact h.2
