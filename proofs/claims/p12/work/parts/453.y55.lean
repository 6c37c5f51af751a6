/-! the reference's flow: one code of an S in a run -/
/-- what stands fixed while flow goes -/
def EnF (σ : RS) (C : CxT) (z : ZS) (T : TbT) : Prop := FxE σ C z T ∧ (∀ a, 52 ≤ a → a ≤ 58 → ∀ k : Nat, k < tnM z → (aI σ a k).toInt = pqZ a (k : Int) z.2.1) ∧ (∀ k : Nat, k < tnM z → (aI σ 59 k).toInt = dfZ (k : Int) z.2.1) ∧ ∀ y l, (.inr y :: l) <:+ z.2.1 → thO y.1 = true → (0 ≤ y.2.1 ∧ y.2.1 < (tnM z : Int)) ∧ (y.1 = 50 → (aI σ 51 y.2.1.toNat).toInt = (l.length : Int)) ∧ (y.1 = 51 → (aI σ 61 y.2.1.toNat).toInt = -2 - y.2.2.2.2)
/-- a code -/
def IcY (σ : RS) (l : List ItZ) (y : Int × Int × Int × Int × Int) : Prop := (aI σ 19 (plI l).toNatClampNeg).toInt = y.1 ∧ (aI σ 20 (plI l).toNatClampNeg).toInt = y.2.1 ∧ (aI σ 21 (plI l).toNatClampNeg).toInt = y.2.2.1 ∧ (aI σ 22 (plI l).toNatClampNeg).toInt = y.2.2.2.1
/-- no jump is touched -/
def NxT (k : Nat) (σ Y : RS) : Prop := FqT k σ Y ∧ jnS Y = jnS σ ∧ gI Y 103 = gI σ 103
section
variable {σ τ υ : RS} {C : CxT} {z : ZS} {T : TbT} {l m : List ItZ} {x : ItZ} {y : Int × Int × Int × Int × Int} {k : Nat} {M : Int32}
theorem EnF.fr (h : EnF σ C z T) (f : FfR σ τ) : EnF τ C z T := by
  obtain ⟨h1, h2, h3, h4⟩ := h
  have a : ∀ k, flA k = false → aI τ k = aI σ k := f.2.2.1
  refine ⟨h1.fr f, fun b b1 b2 k hk => ?_, fun k hk => by rw [a 59 rfl]; exact h3 k hk, fun y l hs o => by rw [a 51 rfl, a 61 rfl]; exact h4 y l hs o⟩
  have e : aI τ b = aI σ b := by
    have : b = 52 ∨ b = 53 ∨ b = 54 ∨ b = 55 ∨ b = 56 ∨ b = 57 ∨ b = 58 := by omega
    rcases this with rfl | rfl | rfl | rfl | rfl | rfl | rfl <;> exact a _ rfl
  rw [e]
  exact h2 b b1 b2 k hk
theorem ic_at (E : FxE σ C z T) (hs : (.inr y :: l) <:+ z.2.1) : IcY σ l y := by
  obtain ⟨_, _, pn⟩ := pl_lt E hs
  have e := E.1.1.at (itN_at hs)
  unfold IcY
  rw [pn]
  exact e
theorem NxT.rf : NxT k σ σ := ⟨FqT.rf, rfl, rfl⟩
theorem NxT.tr (h : NxT k σ τ) (g : NxT k τ υ) : NxT k σ υ := ⟨h.1.tr g.1, g.2.1.trans h.2.1, g.2.2.trans h.2.2⟩
theorem FqT.la {u p : Int32} : FqT k σ (laS σ u p) := ⟨FfR.rf.la, fun _ _ => ⟨rfl, rfl, rfl, rfl, rfl⟩, rfl, rfl, rfl⟩
theorem Jq.la {u p : Int32} : Jq σ (laS σ u p) := ⟨rfl, rfl, rfl, rfl, rfl, rfl⟩
theorem nx_la {u p : Int32} : NxT k σ (laS σ u p) := ⟨FqT.la, Jq.la.jn, rfl⟩
theorem nx_of {u p : Int32} (f : FqT k (laS σ u p) τ) (j : Jq (laS σ u p) τ) : NxT k σ τ := nx_la.tr ⟨f, j.jn, j.1⟩
theorem Bw.la {A : Prop} {t f : Int64} {u p : Int32} (h : Bw σ A t f) : Bw (laS σ u p) A t f := h
/-- no method ends there -/
theorem no_54 (E : FxE σ C z T) (hs : (x :: l) <:+ z.2.1) (hx : ∀ y, x = .inr y → ¬ y.1 = 54) : ¬ (¬ plI (x :: l) ≤ 0 ∧ aI σ 19 (plI (x :: l) - 1).toNatClampNeg = 54) := by
  intro ⟨_, q⟩
  have e : plI (x :: l) - 1 = plI l := by rw [← pl_s E hs]; exact Int32.add_sub_cancel _ _
  obtain ⟨_, _, pn⟩ := pl_lt E hs
  rw [e, pn] at q
  cases x with
  | inr y =>
    have r := (E.1.1.at (itN_at hs)).1
    have r : (aI σ 19 l.length).toInt = y.1 := r
    rw [q] at r
    exact hx y rfl r.symm
  | inl v =>
    have r := (E.1.1.at (itN_at hs)).1
    have r : (aI σ 19 l.length).toInt = opkZ v := r
    rw [q] at r
    have r : (54 : Int) = opkZ v := r
    have r2 : opkZ v ≤ 22 := by
      unfold opkZ
      repeat' split
      all_goals omega
    omega
/-- a code of an S that tells no ERROR -/
theorem go_c {c : Int32} (hc : c < gI σ 18) (hr : RnR τ σ c M) (hb : ¬ BdF σ) (hy : 19 ≤ (aI σ 19 c.toNatClampNeg).toInt ∧ ¬ (aI σ 19 c.toNatClampNeg).toInt = 20 ∧ ¬ (aI σ 19 c.toNatClampNeg).toInt = 54) : ∃ p, ¬ BdF (fsS (laS σ 0 p) c).1 ∧ ∀ d, (fsS (laS σ 0 p) c).2 = d → ¬ (¬ d ≤ 0 ∧ aI σ 19 (d - 1).toNatClampNeg = 54) → RnR τ (fsS (laS σ 0 p) c).1 d M := by
  obtain ⟨Y, c1, m1, st, r2⟩ := hr.st hc
  have n18 : ¬ aI σ 19 c.toNatClampNeg ≤ 18 := fun q => by
    have q := Int32.le_iff_toInt_le.mp q
    have q : (aI σ 19 c.toNatClampNeg).toInt ≤ 18 := q
    omega
  rcases st with ⟨q, _⟩ | ⟨_, u, p, hu, e1, h⟩
  · exact absurd q n18
  · have u0 : u = 0 := by
      by_cases e : u = 0
      · exact e
      · rcases hu.mp e with q | q
        · exact absurd (Or.inl q) hb
        · rcases q with q | q
          · exact absurd q.1 hy.2.1
          · exact absurd q.1 hy.2.2
    subst u0
    have e19 : aI (fsS (laS σ 0 p) c).1 19 = aI σ 19 := (ff_S (σ := laS σ 0 p) (c := c)).2.2.1 19 rfl
    rw [e19] at h
    refine ⟨p, fun q => ?_, fun d hd n => ?_⟩
    · have k := fk_S (σ := laS σ 0 p) (c := c)
      rcases q with q | q
      · rw [k.1] at q
        exact q rfl
      · rw [k.2] at q
        exact hb (Or.inr q)
    · rw [hd] at e1
      subst e1
      rcases h with ⟨_, e2, e3⟩ | ⟨q, _⟩
      · rw [e2, e3] at r2
        exact r2
      · exact absurd q n
theorem go (E : FxE σ C z T) (hs : (.inr y :: l) <:+ z.2.1) (hr : RnR τ σ (plI l) M) (hb : ¬ BdF σ) (hy : 19 ≤ y.1 ∧ ¬ y.1 = 20 ∧ ¬ y.1 = 54) : ∃ p, ¬ BdF (fsS (laS σ 0 p) (plI l)).1 ∧ IcY (laS σ 0 p) l y ∧ ((fsS (laS σ 0 p) (plI l)).2 = plI l + 1 → RnR τ (fsS (laS σ 0 p) (plI l)).1 (plI (.inr y :: l)) M) ∧ ∀ d, (fsS (laS σ 0 p) (plI l)).2 = d → ¬ (¬ d ≤ 0 ∧ aI σ 19 (d - 1).toNatClampNeg = 54) → RnR τ (fsS (laS σ 0 p) (plI l)).1 d M := by
  have i := ic_at E hs
  obtain ⟨p, b, g⟩ := go_c (pl_lt E hs).1 hr hb (by rw [i.1]; exact hy)
  refine ⟨p, b, i, fun e => ?_, g⟩
  exact g _ (e.trans (pl_s E hs)) (no_54 E hs (fun y' e' => by cases e'; exact hy.2.2))
/-- a code that does nothing -/
theorem go_no (E : FxE σ C z T) (hs : (.inr y :: l) <:+ z.2.1) (hr : RnR τ σ (plI l) M) (hb : ¬ BdF σ) (hy : y.1 = 26 ∨ y.1 = 29 ∨ y.1 = 32 ∨ y.1 = 34 ∨ y.1 = 41) {A : Prop} {t f : Int64} (h : Bw σ A t f) : ∃ Y, RnR τ Y (plI (.inr y :: l)) M ∧ ¬ BdF Y ∧ Bw Y A t f ∧ NxT k σ Y ∧ ∀ i, aI Y 95 i = aI σ 95 i ∧ aL Y 96 i = aL σ 96 i ∧ aI Y 97 i = aI σ 97 i ∧ aL Y 98 i = aL σ 98 i ∧ aL Y 99 i = aL σ 99 i := by
  obtain ⟨p, nb, i, g, _⟩ := go E hs hr hb (by omega)
  have e : fsS (laS σ 0 p) (plI l) = (laS σ 0 p, plI l + 1) := fs_d (by have := i.1; omega)
  rw [e] at nb g
  exact ⟨_, g rfl, nb, h.la, nx_la, fun _ => ⟨rfl, rfl, rfl, rfl, rfl⟩⟩
theorem f2_25 {c : Int32} : (fs_25 σ c).2 = c + 1 := by
  unfold fs_25
  repeat' split
  all_goals rfl
theorem f2_27 {c : Int32} : (fs_27 σ c).2 = c + 1 := by
  unfold fs_27
  repeat' split
  all_goals rfl
theorem f2_28 {c : Int32} : (fs_28 σ c).2 = c + 1 := by
  unfold fs_28
  repeat' split
  all_goals rfl
theorem f2_30 {c : Int32} : (fs_30 σ c).2 = c + 1 := by
  unfold fs_30
  repeat' split
  all_goals rfl
theorem f2_31 {c : Int32} : (fs_31 σ c).2 = c + 1 := by
  unfold fs_31
  repeat' split
  all_goals rfl
theorem f2_40 {c : Int32} : (fs_40 σ c).2 = c + 1 := by
  unfold fs_40
  repeat' split
  all_goals rfl
theorem f2_42 {c : Int32} : (fs_42 σ c).2 = c + 1 := by
  unfold fs_42
  repeat' split
  all_goals rfl
theorem f2_22 {c : Int32} : (fs_22 σ c).2 = c + 1 := by
  unfold fs_22
  repeat' split
  all_goals rfl
theorem f2_52 {c : Int32} : (fs_52 σ c).2 = c + 1 := by
  unfold fs_52
  repeat' split
  all_goals rfl
theorem f2_53 {c : Int32} : (fs_53 σ c).2 = c + 1 := by
  unfold fs_53
  repeat' split
  all_goals rfl
end
