/-! an ERROR of flow that is told stays told, as the class goes -/
section
variable {N : Int → Int} {z : ZS} {T : TbT} {j : Nat}
abbrev RSk (F : RcT) : Prop := (∀ x a r, (F.1 x a r).2.2.2.2 = false → r.2.2.2 = false) ∧ (∀ x a d r, (F.2.1 x a d r).2.2.2.2.2 = false → r.2.2.2 = false) ∧ ∀ j a r, (F.2.2 j a r).2.2.2.2 = false → r.2.2.2 = false
theorem rsk_rw {F : RcT} {r : RR} (h : RSk F) (q : (rwR F z j r).2.2.2.2 = false) : r.2.2.2 = false := h.1 _ _ _ q
theorem rsk_bd {F : RcT} {r : RR} {a : Bool} (h : RSk F) (q : (bdR F z j a r).2.2.2.2 = false) : r.2.2.2 = false := by
  unfold bdR at q
  split at q
  · exact q
  · exact h.2.2 _ _ _ q
theorem rsk_in {F : RcT} {r : RR} (h : RSk F) (q : (inR F N z T j r).2.2.2.2 = false) : r.2.2.2 = false := by
  unfold inR at q
  split at q
  · exact rsk_rw h q
  split at q
  · exact rsk_bd h q
  split at q
  · unfold ifR at q
    dsimp only at q
    split at q
    · exact rsk_bd h q
    · exact rsk_bd h (h.2.2 _ _ _ q)
  split at q
  · exact rsk_bd h q
  split at q
  · exact rsk_bd h q
  split at q
  · exact h.2.1 _ _ _ _ q
  split at q
  · unfold tyR at q
    dsimp only at q
    have s1 : ∀ b : Bool × RR, (if ojS z j < 0 then b else (b.1 || (rwR F z (ojS z j).toNat b.2).1, (rwR F z (ojS z j).toNat b.2).2)).2.2.2.2 = false → b.2.2.2.2 = false := fun b q => by
      split at q
      · exact q
      · exact rsk_rw h q
    have q := s1 _ q
    have s2 : ∀ a : Bool × RR, (if bjS z j < 0 then (false, a.2) else rwR F z (bjS z j).toNat a.2).2.2.2.2 = false → a.2.2.2.2 = false := fun a q => by
      split at q
      · exact q
      · exact rsk_rw h q
    have q := s2 _ q
    split at q
    · exact q
    · exact rsk_rw h q
  split at q
  · unfold mkR at q
    split at q
    · exact q
    split at q
    · exact q
    split at q
    · exact q
    · exact q
  · exact q
theorem rsk_F : ∀ n, RSk (rcF N z T n) := by
  intro n
  induction n with
  | zero => exact ⟨fun _ _ _ q => q, fun _ _ _ _ q => q, fun _ _ _ q => q⟩
  | succ n ih =>
    refine ⟨fun x a r q => ?_, fun x a d r q => ?_, fun j a r q => ?_⟩
    · rw [rcF] at q
      dsimp only at q
      split at q
      · exact q
      · exact ih.2.2 _ _ _ (ih.1 _ _ _ q)
    · rw [rcF] at q
      dsimp only at q
      split at q
      · exact q
      split at q
      · exact ih.2.1 _ _ _ _ q
      · exact ih.2.2 _ _ _ (ih.2.1 _ _ _ _ q)
    · rw [rc_st] at q
      unfold stRc at q
      split at q
      · split at q
        · exact rsk_in ih q
        · exact q
      · exact absurd q (by show ¬ true = false; decide)
/-- none goes on where nothing is reached -/
theorem rc_al {f : Nat} {r : RR} {a : Bool} (hf : 1 ≤ f) (q : ((rcF N z T f).2.2 j a r).2.2.2.2 = false) : a = true := by
  obtain ⟨f, rfl⟩ : ∃ k, f = k + 1 := ⟨f - 1, by omega⟩
  rw [rc_st] at q
  unfold stRc at q
  cases a
  · rw [if_neg (by decide)] at q
    exact absurd q (by show ¬ true = false; decide)
  · rfl
abbrev geA (g : GzA) : Bool := g.2.2.2.2.2.2.2
abbrev ASk (F : AsT) : Prop := (∀ x m g, geA (F.1 x m g).2 = false → geA g = false) ∧ (∀ x ch m d g, geA (F.2.1 x ch m d g).2.2 = false → geA g = false) ∧ ∀ j m g, geA (F.2.2 j m g).2 = false → geA g = false
theorem ask_ex {g : GzA} {x : Int} {m : Int64} (q : geA (exB z T x m g).2 = false) : geA g = false := by
  cases e : geA g
  · rfl
  · have := ex_stk (z := z) (T := T) (x := x) (m := m) (w := g.2.2.2.2) e
    exact absurd (this.symm.trans q) (by decide)
/-- no ERROR in it: it is told -/
theorem ex_get {g : GzA} {x : Int} {m : Int64} (q : geA (exB z T x m g).2 = false) : ∃ e, exD z T x m = some e := by
  cases h : exD z T x m with
  | some e => exact ⟨e, rfl⟩
  | none => exact absurd ((ex_none (w := g.2.2.2.2) h).symm.trans q) (by decide)
theorem ask_bd {F : AsT} {g : GzA} {m : Int64} (h : ASk F) (q : geA (bdA F z j m g).2 = false) : geA g = false := by
  unfold bdA at q
  split at q
  · exact q
  · exact h.2.2 _ _ _ q
theorem ask_in {F : AsT} {g : GzA} {m : Int64} (h : ASk F) (q : geA (inA F N z T j m g).2 = false) : geA g = false := by
  unfold inA at q
  split at q
  · exact h.1 _ _ _ q
  split at q
  · unfold tdA at q
    split at q
    · exact q
    · exact ask_ex q
  split at q
  · exact ask_ex q
  split at q
  · exact ask_ex q
  split at q
  · unfold ldT at q
    split at q
    · exact q
    split at q
    · exact q
    · exact q
  split at q
  · exact ask_bd h q
  split at q
  · unfold ifA at q
    dsimp only at q
    split at q
    · exact ask_ex (ask_bd h q)
    · exact ask_ex (ask_bd h (h.2.2 _ _ _ q))
  split at q
  · exact ask_bd h (ask_ex q)
  split at q
  · unfold whA at q
    dsimp only at q
    have s1 : ∀ b : Int64 × GzA, geA (if kjS z j = 60 then (F.1 (gjS z j) (b.1 &&& b.2.2.2.2.1 j) b.2).2 else b.2) = false → geA b.2 = false := fun b q => by
      split at q
      · exact h.1 _ _ _ q
      · exact q
    have q := ask_ex (ask_bd h (s1 _ q))
    split at q
    · exact h.1 _ _ _ q
    · exact q
  split at q
  · exact ask_ex (h.2.1 _ _ _ _ _ q)
  split at q
  · unfold tyA at q
    dsimp only at q
    have s1 : ∀ b : Int64 × GzA, geA (if ojS z j < 0 then b else (b.1 &&& (F.2.2 (ojS z j).toNat (if ljS z j < 0 then m else m ||| bitQ (ljS z j)) b.2).1, (F.2.2 (ojS z j).toNat (if ljS z j < 0 then m else m ||| bitQ (ljS z j)) b.2).2)).2 = false → geA b.2 = false := fun b q => by
      split at q
      · exact q
      · exact h.2.2 _ _ _ q
    have q := ask_bd h (s1 _ q)
    split at q
    · exact q
    · exact h.2.2 _ _ _ q
  · exact q
theorem ask_F : ∀ n, ASk (asF N z T n) := by
  intro n
  induction n with
  | zero => exact ⟨fun _ _ _ q => q, fun _ _ _ _ _ q => q, fun _ _ _ q => q⟩
  | succ n ih =>
    refine ⟨fun x m g q => ?_, fun x ch m d g q => ?_, fun j m g q => ?_⟩
    · rw [asF] at q
      dsimp only at q
      split at q
      · exact q
      · exact ih.2.2 _ _ _ (ih.1 _ _ _ q)
    · rw [asF] at q
      dsimp only at q
      split at q
      · exact q
      split at q
      · exact ih.2.1 _ _ _ _ _ q
      · exact ih.2.2 _ _ _ (ih.2.1 _ _ _ _ _ q)
    · rw [as_st] at q
      have q : geA (if lvS z j ≤ 20 then inA (asF N z T n) N z T j m (gaB j m g) else (m, gaB j m g)).2 = false := q
      by_cases c : lvS z j ≤ 20
      · rw [if_pos c] at q
        have q : geA (gaB j m g) = false := ask_in ih q
        exact q
      · rw [if_neg c] at q
        exact q
end
