/-! the reference's flow: runs from a state to the end; an ERROR of flow stays told -/
/-- n codes, the first one first -/
def FlC : Nat → RS → Int32 → Int32 → RS → Int32 → Int32 → Prop
  | 0, σ, c, m, τ, d, k => σ = τ ∧ c = d ∧ m = k
  | n + 1, σ, c, m, τ, d, k => c < gI σ 18 ∧ ∃ (Y : RS) (c1 m1 : Int32), FlwR σ c m Y c1 m1 ∧ FlC n Y c1 m1 τ d k
theorem flc_sn : ∀ (n : Nat) {σ : RS} {c m : Int32} {Y : RS} {d k : Int32} {τ : RS} {e l : Int32}, FlC n σ c m Y d k → d < gI Y 18 → FlwR Y d k τ e l → FlC (n + 1) σ c m τ e l := by
  intro n
  induction n with
  | zero =>
    intro σ c m Y d k τ e l h h1 h2
    obtain ⟨rfl, rfl, rfl⟩ := h
    exact ⟨h1, _, _, _, h2, rfl, rfl, rfl⟩
  | succ n ih =>
    intro σ c m Y d k τ e l h h1 h2
    obtain ⟨a, Z, c1, m1, b, h⟩ := h
    exact ⟨a, Z, c1, m1, b, ih h h1 h2⟩
theorem flt_c {σ0 : RS} : ∀ (n : Nat) {Y : RS} {c m : Int32}, FlT σ0 n Y c m → FlC n σ0 0 0 Y c m := by
  intro n
  induction n with
  | zero =>
    intro Y c m h
    obtain ⟨rfl, rfl, rfl⟩ := h
    exact ⟨rfl, rfl, rfl⟩
  | succ n ih =>
    intro Y c m h
    obtain ⟨Z, d, k, h1, h2, h3⟩ := h
    exact flc_sn n (ih h1) h2 h3
/-- from here the run gets to τ, where no code is left -/
def RnR (τ : RS) (σ : RS) (c m : Int32) : Prop := ∃ (n : Nat) (d k : Int32), FlC n σ c m τ d k ∧ ¬ d < gI τ 18
theorem RnR.st {τ σ : RS} {c m : Int32} (h : RnR τ σ c m) (hc : c < gI σ 18) : ∃ (Y : RS) (c1 m1 : Int32), FlwR σ c m Y c1 m1 ∧ RnR τ Y c1 m1 := by
  obtain ⟨n, d, k, h, h2⟩ := h
  cases n with
  | zero =>
    obtain ⟨rfl, rfl, rfl⟩ := h
    exact absurd hc h2
  | succ n =>
    obtain ⟨_, Y, c1, m1, b, h⟩ := h
    exact ⟨Y, c1, m1, b, n, d, k, h, h2⟩
theorem RnR.en {τ σ : RS} {c m : Int32} (h : RnR τ σ c m) (hc : ¬ c < gI σ 18) : σ = τ := by
  obtain ⟨n, d, k, h, h2⟩ := h
  cases n with
  | zero => exact h.1
  | succ n => exact absurd h.1 hc
theorem fk_20 {σ : RS} {c : Int32} : gI (fs_20 σ c).1 112 = gI σ 112 ∧ gI (fs_20 σ c).1 114 = gI σ 114 := by
  unfold fs_20
  repeat' split
  all_goals exact ⟨rfl, rfl⟩
theorem fk_21 {σ : RS} {c : Int32} : gI (fs_21 σ c).1 112 = gI σ 112 ∧ gI (fs_21 σ c).1 114 = gI σ 114 := by
  unfold fs_21
  repeat' split
  all_goals exact ⟨rfl, rfl⟩
theorem fk_22 {σ : RS} {c : Int32} : gI (fs_22 σ c).1 112 = gI σ 112 ∧ gI (fs_22 σ c).1 114 = gI σ 114 := by
  unfold fs_22
  repeat' split
  all_goals exact ⟨rfl, rfl⟩
theorem fk_23 {σ : RS} {c : Int32} : gI (fs_23 σ c).1 112 = gI σ 112 ∧ gI (fs_23 σ c).1 114 = gI σ 114 := by
  unfold fs_23
  repeat' split
  all_goals exact ⟨rfl, rfl⟩
theorem fk_24 {σ : RS} {c : Int32} : gI (fs_24 σ c).1 112 = gI σ 112 ∧ gI (fs_24 σ c).1 114 = gI σ 114 := by
  unfold fs_24
  repeat' split
  all_goals exact ⟨rfl, rfl⟩
theorem fk_25 {σ : RS} {c : Int32} : gI (fs_25 σ c).1 112 = gI σ 112 ∧ gI (fs_25 σ c).1 114 = gI σ 114 := by
  unfold fs_25
  repeat' split
  all_goals exact ⟨rfl, rfl⟩
theorem fk_27 {σ : RS} {c : Int32} : gI (fs_27 σ c).1 112 = gI σ 112 ∧ gI (fs_27 σ c).1 114 = gI σ 114 := by
  unfold fs_27
  repeat' split
  all_goals exact ⟨rfl, rfl⟩
theorem fk_28 {σ : RS} {c : Int32} : gI (fs_28 σ c).1 112 = gI σ 112 ∧ gI (fs_28 σ c).1 114 = gI σ 114 := by
  unfold fs_28
  repeat' split
  all_goals exact ⟨rfl, rfl⟩
theorem fk_30 {σ : RS} {c : Int32} : gI (fs_30 σ c).1 112 = gI σ 112 ∧ gI (fs_30 σ c).1 114 = gI σ 114 := by
  unfold fs_30
  repeat' split
  all_goals exact ⟨rfl, rfl⟩
theorem fk_31 {σ : RS} {c : Int32} : gI (fs_31 σ c).1 112 = gI σ 112 ∧ gI (fs_31 σ c).1 114 = gI σ 114 := by
  unfold fs_31
  repeat' split
  all_goals exact ⟨rfl, rfl⟩
theorem fk_33 {σ : RS} {c : Int32} : gI (fs_33 σ c).1 112 = gI σ 112 ∧ gI (fs_33 σ c).1 114 = gI σ 114 := by
  unfold fs_33
  repeat' split
  all_goals exact ⟨rfl, rfl⟩
theorem fk_35 {σ : RS} {c : Int32} : gI (fs_35 σ c).1 112 = gI σ 112 ∧ gI (fs_35 σ c).1 114 = gI σ 114 := by
  unfold fs_35
  repeat' split
  all_goals exact ⟨rfl, rfl⟩
theorem fk_36 {σ : RS} {c : Int32} : gI (fs_36 σ c).1 112 = gI σ 112 ∧ gI (fs_36 σ c).1 114 = gI σ 114 := by
  unfold fs_36
  repeat' split
  all_goals exact ⟨rfl, rfl⟩
theorem fk_37 {σ : RS} {c : Int32} : gI (fs_37 σ c).1 112 = gI σ 112 ∧ gI (fs_37 σ c).1 114 = gI σ 114 := by
  unfold fs_37
  repeat' split
  all_goals exact ⟨rfl, rfl⟩
theorem fk_38 {σ : RS} {c : Int32} : gI (fs_38 σ c).1 112 = gI σ 112 ∧ gI (fs_38 σ c).1 114 = gI σ 114 := by
  unfold fs_38
  repeat' split
  all_goals exact ⟨rfl, rfl⟩
theorem fk_39 {σ : RS} {c : Int32} : gI (fs_39 σ c).1 112 = gI σ 112 ∧ gI (fs_39 σ c).1 114 = gI σ 114 := by
  unfold fs_39
  repeat' split
  all_goals exact ⟨rfl, rfl⟩
theorem fk_40 {σ : RS} {c : Int32} : gI (fs_40 σ c).1 112 = gI σ 112 ∧ gI (fs_40 σ c).1 114 = gI σ 114 := by
  unfold fs_40
  repeat' split
  all_goals exact ⟨rfl, rfl⟩
theorem fk_42 {σ : RS} {c : Int32} : gI (fs_42 σ c).1 112 = gI σ 112 ∧ gI (fs_42 σ c).1 114 = gI σ 114 := by
  unfold fs_42
  repeat' split
  all_goals exact ⟨rfl, rfl⟩
theorem fk_45 {σ : RS} {c : Int32} : gI (fs_45 σ c).1 112 = gI σ 112 ∧ gI (fs_45 σ c).1 114 = gI σ 114 := by
  unfold fs_45
  repeat' split
  all_goals exact ⟨rfl, rfl⟩
theorem fk_46 {σ : RS} {c : Int32} : gI (fs_46 σ c).1 112 = gI σ 112 ∧ gI (fs_46 σ c).1 114 = gI σ 114 := by
  unfold fs_46
  repeat' split
  all_goals exact ⟨rfl, rfl⟩
theorem fk_47 {σ : RS} {c : Int32} : gI (fs_47 σ c).1 112 = gI σ 112 ∧ gI (fs_47 σ c).1 114 = gI σ 114 := by
  unfold fs_47
  repeat' split
  all_goals exact ⟨rfl, rfl⟩
theorem fk_48 {σ : RS} {c : Int32} : gI (fs_48 σ c).1 112 = gI σ 112 ∧ gI (fs_48 σ c).1 114 = gI σ 114 := by
  unfold fs_48
  repeat' split
  all_goals exact ⟨rfl, rfl⟩
theorem fk_49 {σ : RS} {c : Int32} : gI (fs_49 σ c).1 112 = gI σ 112 ∧ gI (fs_49 σ c).1 114 = gI σ 114 := by
  unfold fs_49
  repeat' split
  all_goals exact ⟨rfl, rfl⟩
theorem fk_50 {σ : RS} {c : Int32} : gI (fs_50 σ c).1 112 = gI σ 112 ∧ gI (fs_50 σ c).1 114 = gI σ 114 := by
  unfold fs_50
  repeat' split
  all_goals exact ⟨rfl, rfl⟩
theorem fk_51 {σ : RS} {c : Int32} : gI (fs_51 σ c).1 112 = gI σ 112 ∧ gI (fs_51 σ c).1 114 = gI σ 114 := by
  unfold fs_51
  repeat' split
  all_goals exact ⟨rfl, rfl⟩
theorem fk_52 {σ : RS} {c : Int32} : gI (fs_52 σ c).1 112 = gI σ 112 ∧ gI (fs_52 σ c).1 114 = gI σ 114 := by
  unfold fs_52
  repeat' split
  all_goals exact ⟨rfl, rfl⟩
theorem fk_53 {σ : RS} {c : Int32} : gI (fs_53 σ c).1 112 = gI σ 112 ∧ gI (fs_53 σ c).1 114 = gI σ 114 := by
  unfold fs_53
  repeat' split
  all_goals exact ⟨rfl, rfl⟩
theorem fk_S {σ : RS} {c : Int32} : gI (fsS σ c).1 112 = gI σ 112 ∧ gI (fsS σ c).1 114 = gI σ 114 := by
  unfold fsS
  split
  · exact fk_20
  · exact fk_21
  · exact fk_22
  · exact fk_23
  · exact fk_24
  · exact fk_25
  · exact fk_27
  · exact fk_28
  · exact fk_30
  · exact fk_31
  · exact fk_33
  · exact fk_35
  · exact fk_36
  · exact fk_37
  · exact fk_38
  · exact fk_39
  · exact fk_40
  · exact fk_42
  · exact fk_45
  · exact fk_46
  · exact fk_47
  · exact fk_48
  · exact fk_49
  · exact fk_50
  · exact fk_51
  · exact fk_52
  · exact fk_53
  · exact ⟨rfl, rfl⟩
def FkP (σ τ : RS) : Prop := gI τ 112 = gI σ 112 ∧ gI τ 114 = gI σ 114
theorem fk_if {σ a b : RS} {p : Prop} [Decidable p] (h1 : FkP σ a) (h2 : FkP σ b) : FkP σ (if p then a else b) := by
  split
  · exact h1
  · exact h2
theorem fk_x {σ : RS} {c : Int32} : FkP σ (fxS σ c) := by
  unfold fxS
  refine fk_if ⟨rfl, rfl⟩ (fk_if ⟨rfl, rfl⟩ (fk_if ⟨rfl, rfl⟩ (fk_if ⟨rfl, rfl⟩ (fk_if ⟨rfl, rfl⟩ (fk_if ⟨rfl, rfl⟩ (fk_if ⟨rfl, rfl⟩ (fk_if ⟨rfl, rfl⟩ (fk_if ?_ (fk_if ⟨rfl, rfl⟩ ?_)))))))))
  · exact fk_if ⟨rfl, rfl⟩ ⟨rfl, rfl⟩
  · unfold sidS
    exact fk_if ⟨rfl, rfl⟩ (fk_if ⟨rfl, rfl⟩ ⟨rfl, rfl⟩)
/-- an ERROR of flow is told -/
def BdF (σ : RS) : Prop := ¬ gI σ 112 = 0 ∨ ¬ gI σ 114 = 0
theorem bd_st {σ τ : RS} {c m d k : Int32} (h : FlwR σ c m τ d k) (hb : BdF σ) : BdF τ := by
  rcases h with ⟨_, u, p, hu, rfl, _⟩ | ⟨_, u, p, hu, _, h⟩
  · have e := fk_x (σ := unS σ u p) (c := c)
    unfold BdF
    rw [e.1, e.2]
    rcases hb with hb | hb
    · exact Or.inl hb
    · exact Or.inr (hu.mpr (Or.inl hb))
  · have e := fk_S (σ := laS σ u p) (c := c)
    have key : BdF (fsS (laS σ u p) c).1 := by
      unfold BdF
      rw [e.1, e.2]
      rcases hb with hb | hb
      · exact Or.inl (hu.mpr (Or.inl hb))
      · exact Or.inr hb
    rcases h with ⟨_, _, rfl⟩ | ⟨_, _, rfl⟩
    · exact key
    · exact key
theorem bd_rn : ∀ (n : Nat) {σ τ : RS} {c m d k : Int32}, FlC n σ c m τ d k → BdF σ → BdF τ := by
  intro n
  induction n with
  | zero =>
    intro σ τ c m d k h hb
    rw [← h.1]
    exact hb
  | succ n ih =>
    intro σ τ c m d k h hb
    obtain ⟨_, Y, c1, m1, b, h⟩ := h
    exact ih h (bd_st b hb)
theorem RnR.bd {τ σ : RS} {c m : Int32} (h : RnR τ σ c m) (hb : BdF σ) : BdF τ := by
  obtain ⟨n, d, k, h, _⟩ := h
  exact bd_rn n h hb
