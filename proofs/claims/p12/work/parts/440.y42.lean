/-! the reference's flow: what it leaves alone -/
def flI (k : Nat) : Bool := k == 92 || k == 100 || k == 103 || k == 112 || k == 113 || k == 114 || k == 115 || k == 116 || k == 117
def flL (k : Nat) : Bool := k == 93 || k == 94
def flA (k : Nat) : Bool := k == 95 || k == 97 || k == 104 || k == 105 || k == 106 || k == 107 || k == 109 || k == 111
def flM (k : Nat) : Bool := k == 96 || k == 98 || k == 99 || k == 101 || k == 102 || k == 108 || k == 110
def FfR (σ τ : RS) : Prop := (∀ k, flI k = false → gI τ k = gI σ k) ∧ (∀ k, flL k = false → gL τ k = gL σ k) ∧ (∀ k, flA k = false → aI τ k = aI σ k) ∧ ∀ k, flM k = false → aL τ k = aL σ k
section
variable {σ τ υ : RS} {k : Nat}
theorem FfR.rf : FfR σ σ := ⟨fun _ _ => rfl, fun _ _ => rfl, fun _ _ => rfl, fun _ _ => rfl⟩
theorem FfR.tr (h : FfR σ τ) (g : FfR τ υ) : FfR σ υ := ⟨fun k q => (g.1 k q).trans (h.1 k q), fun k q => (g.2.1 k q).trans (h.2.1 k q), fun k q => (g.2.2.1 k q).trans (h.2.2.1 k q), fun k q => (g.2.2.2 k q).trans (h.2.2.2 k q)⟩
theorem ff_ne {P : Nat → Bool} {i k : Nat} (h : P k = true) (q : P i = false) : Nat.beq i k = false := by
  cases e : Nat.beq i k
  · rfl
  · rw [Nat.eq_of_beq_eq_true e, h] at q
    cases q
theorem FfR.I {v : Int32} (hk : flI k = true) (h : FfR σ τ) : FfR σ (sI τ k v) := ⟨fun i q => by
  have e := ff_ne hk q
  rw [gI_sI, e]
  exact h.1 i q, h.2.1, h.2.2.1, h.2.2.2⟩
theorem FfR.L {v : Int64} (hk : flL k = true) (h : FfR σ τ) : FfR σ (sL τ k v) := ⟨h.1, fun i q => by
  have e := ff_ne hk q
  rw [gL_sL, e]
  exact h.2.1 i q, h.2.2.1, h.2.2.2⟩
theorem FfR.A {v : Nat → Int32} (hk : flA k = true) (h : FfR σ τ) : FfR σ (sA τ k v) := ⟨h.1, h.2.1, fun i q => by
  have e := ff_ne hk q
  rw [aI_sA, e]
  exact h.2.2.1 i q, h.2.2.2⟩
theorem FfR.M {v : Nat → Int64} (hk : flM k = true) (h : FfR σ τ) : FfR σ (sM τ k v) := ⟨h.1, h.2.1, h.2.2.1, fun i q => by
  have e := ff_ne hk q
  rw [aL_sM, e]
  exact h.2.2.2 i q⟩
theorem FfR.be {b : Int64} (h : FfR σ τ) : FfR σ (beS τ b) := FfR.L rfl (FfR.L rfl h)
theorem FfR.co {k on : Int32} {n : Nat} (h : FfR σ τ) : FfR σ (coS τ k on n) := FfR.A rfl (FfR.I rfl h)
theorem FfR.en {k : Int32} {n : Nat} (h : FfR σ τ) : FfR σ (enS τ k n) := FfR.M rfl (FfR.A rfl h)
theorem FfR.la {u p : Int32} (h : FfR σ τ) : FfR σ (laS τ u p) := FfR.I rfl (FfR.I rfl h)
theorem FfR.un {u p : Int32} (h : FfR σ τ) : FfR σ (unS τ u p) := FfR.I rfl (FfR.I rfl h)
theorem FfR.tt {m : Int32} (h : FfR σ τ) : FfR σ (sttS τ m) := FfR.be (FfR.I rfl h)
theorem ff_if {a b : RS} {p : Prop} [Decidable p] (h1 : FfR σ a) (h2 : FfR σ b) : FfR σ (if p then a else b) := by
  split
  · exact h1
  · exact h2
end
theorem ff_20 {σ : RS} {c : Int32} : FfR σ (fs_20 σ c).1 := by
  unfold fs_20
  repeat' split
  all_goals dsimp only
  all_goals repeat (first | exact FfR.rf | with_reducible refine FfR.be ?_ | with_reducible refine FfR.co ?_ | with_reducible refine FfR.en ?_ | with_reducible refine FfR.I rfl ?_ | with_reducible refine FfR.A rfl ?_ | with_reducible refine FfR.M rfl ?_ | with_reducible refine FfR.L rfl ?_)
theorem ff_21 {σ : RS} {c : Int32} : FfR σ (fs_21 σ c).1 := by
  unfold fs_21
  repeat' split
  all_goals dsimp only
  all_goals repeat (first | exact FfR.rf | with_reducible refine FfR.be ?_ | with_reducible refine FfR.co ?_ | with_reducible refine FfR.en ?_ | with_reducible refine FfR.I rfl ?_ | with_reducible refine FfR.A rfl ?_ | with_reducible refine FfR.M rfl ?_ | with_reducible refine FfR.L rfl ?_)
theorem ff_22 {σ : RS} {c : Int32} : FfR σ (fs_22 σ c).1 := by
  unfold fs_22
  repeat' split
  all_goals dsimp only
  all_goals repeat (first | exact FfR.rf | with_reducible refine FfR.be ?_ | with_reducible refine FfR.co ?_ | with_reducible refine FfR.en ?_ | with_reducible refine FfR.I rfl ?_ | with_reducible refine FfR.A rfl ?_ | with_reducible refine FfR.M rfl ?_ | with_reducible refine FfR.L rfl ?_)
theorem ff_23 {σ : RS} {c : Int32} : FfR σ (fs_23 σ c).1 := by
  unfold fs_23
  repeat' split
  all_goals dsimp only
  all_goals repeat (first | exact FfR.rf | with_reducible refine FfR.be ?_ | with_reducible refine FfR.co ?_ | with_reducible refine FfR.en ?_ | with_reducible refine FfR.I rfl ?_ | with_reducible refine FfR.A rfl ?_ | with_reducible refine FfR.M rfl ?_ | with_reducible refine FfR.L rfl ?_)
theorem ff_24 {σ : RS} {c : Int32} : FfR σ (fs_24 σ c).1 := by
  unfold fs_24
  repeat' split
  all_goals dsimp only
  all_goals repeat (first | exact FfR.rf | with_reducible refine FfR.be ?_ | with_reducible refine FfR.co ?_ | with_reducible refine FfR.en ?_ | with_reducible refine FfR.I rfl ?_ | with_reducible refine FfR.A rfl ?_ | with_reducible refine FfR.M rfl ?_ | with_reducible refine FfR.L rfl ?_)
theorem ff_25 {σ : RS} {c : Int32} : FfR σ (fs_25 σ c).1 := by
  unfold fs_25
  repeat' split
  all_goals dsimp only
  all_goals repeat (first | exact FfR.rf | with_reducible refine FfR.be ?_ | with_reducible refine FfR.co ?_ | with_reducible refine FfR.en ?_ | with_reducible refine FfR.I rfl ?_ | with_reducible refine FfR.A rfl ?_ | with_reducible refine FfR.M rfl ?_ | with_reducible refine FfR.L rfl ?_)
theorem ff_27 {σ : RS} {c : Int32} : FfR σ (fs_27 σ c).1 := by
  unfold fs_27
  repeat' split
  all_goals dsimp only
  all_goals repeat (first | exact FfR.rf | with_reducible refine FfR.be ?_ | with_reducible refine FfR.co ?_ | with_reducible refine FfR.en ?_ | with_reducible refine FfR.I rfl ?_ | with_reducible refine FfR.A rfl ?_ | with_reducible refine FfR.M rfl ?_ | with_reducible refine FfR.L rfl ?_)
theorem ff_28 {σ : RS} {c : Int32} : FfR σ (fs_28 σ c).1 := by
  unfold fs_28
  repeat' split
  all_goals dsimp only
  all_goals repeat (first | exact FfR.rf | with_reducible refine FfR.be ?_ | with_reducible refine FfR.co ?_ | with_reducible refine FfR.en ?_ | with_reducible refine FfR.I rfl ?_ | with_reducible refine FfR.A rfl ?_ | with_reducible refine FfR.M rfl ?_ | with_reducible refine FfR.L rfl ?_)
theorem ff_30 {σ : RS} {c : Int32} : FfR σ (fs_30 σ c).1 := by
  unfold fs_30
  repeat' split
  all_goals dsimp only
  all_goals repeat (first | exact FfR.rf | with_reducible refine FfR.be ?_ | with_reducible refine FfR.co ?_ | with_reducible refine FfR.en ?_ | with_reducible refine FfR.I rfl ?_ | with_reducible refine FfR.A rfl ?_ | with_reducible refine FfR.M rfl ?_ | with_reducible refine FfR.L rfl ?_)
theorem ff_31 {σ : RS} {c : Int32} : FfR σ (fs_31 σ c).1 := by
  unfold fs_31
  repeat' split
  all_goals dsimp only
  all_goals repeat (first | exact FfR.rf | with_reducible refine FfR.be ?_ | with_reducible refine FfR.co ?_ | with_reducible refine FfR.en ?_ | with_reducible refine FfR.I rfl ?_ | with_reducible refine FfR.A rfl ?_ | with_reducible refine FfR.M rfl ?_ | with_reducible refine FfR.L rfl ?_)
theorem ff_33 {σ : RS} {c : Int32} : FfR σ (fs_33 σ c).1 := by
  unfold fs_33
  repeat' split
  all_goals dsimp only
  all_goals repeat (first | exact FfR.rf | with_reducible refine FfR.be ?_ | with_reducible refine FfR.co ?_ | with_reducible refine FfR.en ?_ | with_reducible refine FfR.I rfl ?_ | with_reducible refine FfR.A rfl ?_ | with_reducible refine FfR.M rfl ?_ | with_reducible refine FfR.L rfl ?_)
theorem ff_35 {σ : RS} {c : Int32} : FfR σ (fs_35 σ c).1 := by
  unfold fs_35
  repeat' split
  all_goals dsimp only
  all_goals repeat (first | exact FfR.rf | with_reducible refine FfR.be ?_ | with_reducible refine FfR.co ?_ | with_reducible refine FfR.en ?_ | with_reducible refine FfR.I rfl ?_ | with_reducible refine FfR.A rfl ?_ | with_reducible refine FfR.M rfl ?_ | with_reducible refine FfR.L rfl ?_)
theorem ff_36 {σ : RS} {c : Int32} : FfR σ (fs_36 σ c).1 := by
  unfold fs_36
  repeat' split
  all_goals dsimp only
  all_goals repeat (first | exact FfR.rf | with_reducible refine FfR.be ?_ | with_reducible refine FfR.co ?_ | with_reducible refine FfR.en ?_ | with_reducible refine FfR.I rfl ?_ | with_reducible refine FfR.A rfl ?_ | with_reducible refine FfR.M rfl ?_ | with_reducible refine FfR.L rfl ?_)
theorem ff_37 {σ : RS} {c : Int32} : FfR σ (fs_37 σ c).1 := by
  unfold fs_37
  repeat' split
  all_goals dsimp only
  all_goals repeat (first | exact FfR.rf | with_reducible refine FfR.be ?_ | with_reducible refine FfR.co ?_ | with_reducible refine FfR.en ?_ | with_reducible refine FfR.I rfl ?_ | with_reducible refine FfR.A rfl ?_ | with_reducible refine FfR.M rfl ?_ | with_reducible refine FfR.L rfl ?_)
theorem ff_38 {σ : RS} {c : Int32} : FfR σ (fs_38 σ c).1 := by
  unfold fs_38
  repeat' split
  all_goals dsimp only
  all_goals repeat (first | exact FfR.rf | with_reducible refine FfR.be ?_ | with_reducible refine FfR.co ?_ | with_reducible refine FfR.en ?_ | with_reducible refine FfR.I rfl ?_ | with_reducible refine FfR.A rfl ?_ | with_reducible refine FfR.M rfl ?_ | with_reducible refine FfR.L rfl ?_)
theorem ff_39 {σ : RS} {c : Int32} : FfR σ (fs_39 σ c).1 := by
  unfold fs_39
  repeat' split
  all_goals dsimp only
  all_goals repeat (first | exact FfR.rf | with_reducible refine FfR.be ?_ | with_reducible refine FfR.co ?_ | with_reducible refine FfR.en ?_ | with_reducible refine FfR.I rfl ?_ | with_reducible refine FfR.A rfl ?_ | with_reducible refine FfR.M rfl ?_ | with_reducible refine FfR.L rfl ?_)
theorem ff_40 {σ : RS} {c : Int32} : FfR σ (fs_40 σ c).1 := by
  unfold fs_40
  repeat' split
  all_goals dsimp only
  all_goals repeat (first | exact FfR.rf | with_reducible refine FfR.be ?_ | with_reducible refine FfR.co ?_ | with_reducible refine FfR.en ?_ | with_reducible refine FfR.I rfl ?_ | with_reducible refine FfR.A rfl ?_ | with_reducible refine FfR.M rfl ?_ | with_reducible refine FfR.L rfl ?_)
theorem ff_42 {σ : RS} {c : Int32} : FfR σ (fs_42 σ c).1 := by
  unfold fs_42
  repeat' split
  all_goals dsimp only
  all_goals repeat (first | exact FfR.rf | with_reducible refine FfR.be ?_ | with_reducible refine FfR.co ?_ | with_reducible refine FfR.en ?_ | with_reducible refine FfR.I rfl ?_ | with_reducible refine FfR.A rfl ?_ | with_reducible refine FfR.M rfl ?_ | with_reducible refine FfR.L rfl ?_)
theorem ff_45 {σ : RS} {c : Int32} : FfR σ (fs_45 σ c).1 := by
  unfold fs_45
  repeat' split
  all_goals dsimp only
  all_goals repeat (first | exact FfR.rf | with_reducible refine FfR.be ?_ | with_reducible refine FfR.co ?_ | with_reducible refine FfR.en ?_ | with_reducible refine FfR.I rfl ?_ | with_reducible refine FfR.A rfl ?_ | with_reducible refine FfR.M rfl ?_ | with_reducible refine FfR.L rfl ?_)
theorem ff_46 {σ : RS} {c : Int32} : FfR σ (fs_46 σ c).1 := by
  unfold fs_46
  repeat' split
  all_goals dsimp only
  all_goals repeat (first | exact FfR.rf | with_reducible refine FfR.be ?_ | with_reducible refine FfR.co ?_ | with_reducible refine FfR.en ?_ | with_reducible refine FfR.I rfl ?_ | with_reducible refine FfR.A rfl ?_ | with_reducible refine FfR.M rfl ?_ | with_reducible refine FfR.L rfl ?_)
theorem ff_47 {σ : RS} {c : Int32} : FfR σ (fs_47 σ c).1 := by
  unfold fs_47
  repeat' split
  all_goals dsimp only
  all_goals repeat (first | exact FfR.rf | with_reducible refine FfR.be ?_ | with_reducible refine FfR.co ?_ | with_reducible refine FfR.en ?_ | with_reducible refine FfR.I rfl ?_ | with_reducible refine FfR.A rfl ?_ | with_reducible refine FfR.M rfl ?_ | with_reducible refine FfR.L rfl ?_)
theorem ff_48 {σ : RS} {c : Int32} : FfR σ (fs_48 σ c).1 := by
  unfold fs_48
  repeat' split
  all_goals dsimp only
  all_goals repeat (first | exact FfR.rf | with_reducible refine FfR.be ?_ | with_reducible refine FfR.co ?_ | with_reducible refine FfR.en ?_ | with_reducible refine FfR.I rfl ?_ | with_reducible refine FfR.A rfl ?_ | with_reducible refine FfR.M rfl ?_ | with_reducible refine FfR.L rfl ?_)
theorem ff_49 {σ : RS} {c : Int32} : FfR σ (fs_49 σ c).1 := by
  unfold fs_49
  repeat' split
  all_goals dsimp only
  all_goals repeat (first | exact FfR.rf | with_reducible refine FfR.be ?_ | with_reducible refine FfR.co ?_ | with_reducible refine FfR.en ?_ | with_reducible refine FfR.I rfl ?_ | with_reducible refine FfR.A rfl ?_ | with_reducible refine FfR.M rfl ?_ | with_reducible refine FfR.L rfl ?_)
theorem ff_50 {σ : RS} {c : Int32} : FfR σ (fs_50 σ c).1 := by
  unfold fs_50
  repeat' split
  all_goals dsimp only
  all_goals repeat (first | exact FfR.rf | with_reducible refine FfR.be ?_ | with_reducible refine FfR.co ?_ | with_reducible refine FfR.en ?_ | with_reducible refine FfR.I rfl ?_ | with_reducible refine FfR.A rfl ?_ | with_reducible refine FfR.M rfl ?_ | with_reducible refine FfR.L rfl ?_)
theorem ff_51 {σ : RS} {c : Int32} : FfR σ (fs_51 σ c).1 := by
  unfold fs_51
  repeat' split
  all_goals dsimp only
  all_goals repeat (first | exact FfR.rf | with_reducible refine FfR.be ?_ | with_reducible refine FfR.co ?_ | with_reducible refine FfR.en ?_ | with_reducible refine FfR.I rfl ?_ | with_reducible refine FfR.A rfl ?_ | with_reducible refine FfR.M rfl ?_ | with_reducible refine FfR.L rfl ?_)
theorem ff_52 {σ : RS} {c : Int32} : FfR σ (fs_52 σ c).1 := by
  unfold fs_52
  repeat' split
  all_goals dsimp only
  all_goals repeat (first | exact FfR.rf | with_reducible refine FfR.be ?_ | with_reducible refine FfR.co ?_ | with_reducible refine FfR.en ?_ | with_reducible refine FfR.I rfl ?_ | with_reducible refine FfR.A rfl ?_ | with_reducible refine FfR.M rfl ?_ | with_reducible refine FfR.L rfl ?_)
theorem ff_53 {σ : RS} {c : Int32} : FfR σ (fs_53 σ c).1 := by
  unfold fs_53
  repeat' split
  all_goals dsimp only
  all_goals repeat (first | exact FfR.rf | with_reducible refine FfR.be ?_ | with_reducible refine FfR.co ?_ | with_reducible refine FfR.en ?_ | with_reducible refine FfR.I rfl ?_ | with_reducible refine FfR.A rfl ?_ | with_reducible refine FfR.M rfl ?_ | with_reducible refine FfR.L rfl ?_)
theorem ff_S {σ : RS} {c : Int32} : FfR σ (fsS σ c).1 := by
  unfold fsS
  split
  · exact ff_20
  · exact ff_21
  · exact ff_22
  · exact ff_23
  · exact ff_24
  · exact ff_25
  · exact ff_27
  · exact ff_28
  · exact ff_30
  · exact ff_31
  · exact ff_33
  · exact ff_35
  · exact ff_36
  · exact ff_37
  · exact ff_38
  · exact ff_39
  · exact ff_40
  · exact ff_42
  · exact ff_45
  · exact ff_46
  · exact ff_47
  · exact ff_48
  · exact ff_49
  · exact ff_50
  · exact ff_51
  · exact ff_52
  · exact ff_53
  · exact FfR.rf
theorem ff_x {σ : RS} {c : Int32} : FfR σ (fxS σ c) := by
  unfold fxS
  refine ff_if (FfR.be FfR.rf) (ff_if (FfR.L rfl (FfR.L rfl FfR.rf)) (ff_if FfR.rf (ff_if (FfR.be (FfR.I rfl (FfR.M rfl FfR.rf))) (ff_if (FfR.L rfl (FfR.I rfl FfR.rf)) (ff_if (FfR.be (FfR.I rfl (FfR.M rfl FfR.rf))) (ff_if (FfR.L rfl (FfR.I rfl FfR.rf)) (ff_if (FfR.be (FfR.M rfl (FfR.M rfl FfR.rf))) (ff_if ?_ (ff_if (FfR.be FfR.rf) ?_)))))))))
  · exact ff_if (FfR.L rfl (FfR.L rfl (FfR.I rfl FfR.rf))) (FfR.be (FfR.L rfl (FfR.L rfl (FfR.I rfl FfR.rf))))
  · unfold sidS
    exact ff_if (FfR.be FfR.rf) (ff_if (FfR.L rfl (FfR.be FfR.rf)) (FfR.L rfl (FfR.be FfR.rf)))
theorem ff_st {σ τ : RS} {c m d k : Int32} (h : FlwR σ c m τ d k) : FfR σ τ := by
  rcases h with ⟨_, u, p, _, rfl, _⟩ | ⟨_, u, p, _, _, h⟩
  · exact (FfR.un FfR.rf).tr ff_x
  · have key : FfR σ (fsS (laS σ u p) c).1 := (FfR.la FfR.rf).tr ff_S
    rcases h with ⟨_, _, rfl⟩ | ⟨_, _, rfl⟩
    · exact key
    · exact key.tt
