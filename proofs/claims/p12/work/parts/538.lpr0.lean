/-! the empty text is read well -/
def S0 : RS := (fun _ => 0, fun _ => 0, fun _ _ => 0, fun _ _ => 0)
theorem ev_blk {n μ pc : Nat} {ls : RL} {st : List Value} {σ τ : RS} {w : Option Value} {bs : RB} {is : List RI} (h1 : evl μ = some bs) (h2 : rfd bs pc = some is) (h : Ev n μ is pc ls st σ w τ) : Ev (n + 1) μ [] pc ls st σ w τ := ⟨bs, is, h1, h2, h⟩
theorem ev_x {n μ pc : Nat} {x : RI} {is : List RI} {ls : RL} {st : List Value} {σ τ : RS} {w : Option Value} (h : rxe x pc ls st σ (fun pc' ls' st' σ' => Ev n μ is pc' ls' st' σ' w τ) (fun t st' => Ev n μ [] t ls st' σ w τ) (fun w' => w' = w ∧ σ = τ) (fun μ' As st' => ∃ w' σ', Ev n μ' [] 0 (lv_args 0 (.ref 1000 :: As)) [] σ w' σ' ∧ Ev n μ is (pc + 3) ls (w'.toList ++ st') σ' w τ)) : Ev (n + 1) μ (x :: is) pc ls st σ w τ := h
def T0 : RS := (sI (sA (sA (sA (sA (sI (sI (sI S0 12 0) 13 0) 2 0) 4 (upd (aI (sI (sI (sI S0 12 0) 13 0) 2 0) 4) 0 0)) 6 (upd (aI (sA (sI (sI (sI S0 12 0) 13 0) 2 0) 4 (upd (aI (sI (sI (sI S0 12 0) 13 0) 2 0) 4) 0 0)) 6) 0 0)) 3 (upd (aI (sA (sA (sI (sI (sI S0 12 0) 13 0) 2 0) 4 (upd (aI (sI (sI (sI S0 12 0) 13 0) 2 0) 4) 0 0)) 6 (upd (aI (sA (sI (sI (sI S0 12 0) 13 0) 2 0) 4 (upd (aI (sI (sI (sI S0 12 0) 13 0) 2 0) 4) 0 0)) 6) 0 0)) 3) 0 0)) 5 (upd (aI (sA (sA (sA (sI (sI (sI S0 12 0) 13 0) 2 0) 4 (upd (aI (sI (sI (sI S0 12 0) 13 0) 2 0) 4) 0 0)) 6 (upd (aI (sA (sI (sI (sI S0 12 0) 13 0) 2 0) 4 (upd (aI (sI (sI (sI S0 12 0) 13 0) 2 0) 4) 0 0)) 6) 0 0)) 3 (upd (aI (sA (sA (sI (sI (sI S0 12 0) 13 0) 2 0) 4 (upd (aI (sI (sI (sI S0 12 0) 13 0) 2 0) 4) 0 0)) 6 (upd (aI (sA (sI (sI (sI S0 12 0) 13 0) 2 0) 4 (upd (aI (sI (sI (sI S0 12 0) 13 0) 2 0) 4) 0 0)) 6) 0 0)) 3) 0 0)) 5) 0 0)) 2 1)
set_option maxRecDepth 100000 in
theorem rd0 : EvM 6 [] S0 none T0 := by
  refine Exists.intro 87 ?_
  refine ev_blk rfl rfl ?_
  refine ev_x ⟨_, rlk_mem rfl, ?_⟩
  refine ev_x ⟨_, rlk_mem rfl, ?_⟩
  refine ev_x ?_
  refine ev_x ?_
  refine ev_x ⟨_, rlk_mem rfl, ?_⟩
  refine ev_x ?_
  refine ev_x ?_
  refine ev_x ⟨_, rlk_mem rfl, ?_⟩
  refine ev_x ?_
  refine ev_x ?_
  refine ev_x ?_
  refine ev_x ?_
  refine ev_blk rfl rfl ?_
  refine ev_x ⟨_, rlk_mem rfl, ?_⟩
  refine ev_x (Or.inr ⟨(by show ¬ (1 : Int32) = 0; decide), ?_⟩)
  refine ev_blk rfl rfl ?_
  refine ev_x ?_
  refine ev_x ?_
  refine ev_blk rfl rfl ?_
  refine ev_x ⟨_, rlk_mem rfl, ?_⟩
  refine ev_x ?_
  refine ev_x ⟨_, rlk_mem rfl, ?_⟩
  refine ev_x ?_
  refine ev_x (Or.inl ⟨(by show (0 : Int32) ≤ 0; decide), ?_⟩)
  refine ev_blk rfl rfl ?_
  refine ev_x ⟨_, rlk_mem rfl, ?_⟩
  refine ev_x ?_
  refine ev_x ?_
  refine ev_x ⟨_, rlk_mem rfl, ?_⟩
  refine ev_x ?_
  refine ev_x ⟨_, rlk_mem rfl, ?_⟩
  refine ev_x ⟨_, rlk_mem rfl, ?_⟩
  refine ev_x ?_
  refine ev_x ⟨(by unfold vp_in; decide), ?_⟩
  refine ev_x ⟨_, rlk_mem rfl, ?_⟩
  refine ev_x ?_
  refine ev_x ⟨_, rlk_mem rfl, ?_⟩
  refine ev_x ?_
  refine ev_x ⟨(by unfold vp_in; decide), ?_⟩
  refine ev_x ⟨_, rlk_mem rfl, ?_⟩
  refine ev_x ?_
  refine ev_x ⟨_, rlk_mem rfl, ?_⟩
  refine ev_x ?_
  refine ev_x (Or.inr ⟨(by show (0 : Int32) = 0; decide), ?_⟩)
  refine ev_blk rfl rfl ?_
  refine ev_x ⟨_, rlk_mem rfl, ?_⟩
  refine ev_x ?_
  refine ev_x ⟨_, rlk_mem rfl, ?_⟩
  refine ev_x ?_
  refine ev_x ⟨(by unfold vp_in; decide), ?_⟩
  refine ev_x ?_
  refine ev_blk rfl rfl ?_
  refine ev_x ⟨_, rlk_mem rfl, ?_⟩
  refine ev_x ?_
  refine ev_x ⟨_, rlk_mem rfl, ?_⟩
  refine ev_x ⟨_, rlk_mem rfl, ?_⟩
  refine ev_x ?_
  refine ev_x ⟨_, rlk_mem rfl, ?_⟩
  refine ev_x ?_
  refine ev_x ⟨_, rlk_mem rfl, ?_⟩
  refine ev_x ⟨(by unfold vp_in; decide), ?_⟩
  refine ev_x ?_
  refine ev_x ⟨(by unfold vp_in; decide), ?_⟩
  refine ev_x ⟨_, rlk_mem rfl, ?_⟩
  refine ev_x ?_
  refine ev_x ?_
  refine ev_x ?_
  refine ev_x ?_
  refine ev_x ?_
  refine ev_x ⟨_, rlk_mem rfl, ?_⟩
  refine ev_x ?_
  refine ev_x ⟨_, rlk_mem rfl, ?_⟩
  refine ev_x ⟨(by unfold vp_in; decide), ?_⟩
  refine ev_x (Or.inl ⟨(by show (0 : Int32) = 0; decide), ?_⟩)
  refine ev_blk rfl rfl ?_
  refine ev_x ?_
  refine ev_blk rfl rfl ?_
  refine ev_x ?_
  refine ev_x ?_
  refine ev_blk rfl rfl ?_
  refine ev_x ⟨_, rlk_mem rfl, ?_⟩
  refine ev_x (Or.inl ⟨(by show (0 : Int32) = 0; decide), ?_⟩)
  refine ev_blk rfl rfl ?_
  exact ev_x ⟨rfl, rfl⟩
set_option maxRecDepth 100000 in
theorem rd1 : EvM 37 [] T0 (some (.int 1)) (sI (sI (sI (sI (sI (sI (sI T0 36 0) 42 0) 49 0) 18 0) 14 0) 15 0) 17 0) := by
  refine Exists.intro 34 ?_
  refine ev_blk rfl rfl ?_
  refine ev_x ⟨_, rlk_mem rfl, ?_⟩
  refine ev_x ?_
  refine ev_x ?_
  refine ev_x ⟨_, rlk_mem rfl, ?_⟩
  refine ev_x ?_
  refine ev_x ?_
  refine ev_x ⟨_, rlk_mem rfl, ?_⟩
  refine ev_x ?_
  refine ev_x ?_
  refine ev_x ⟨_, rlk_mem rfl, ?_⟩
  refine ev_x ?_
  refine ev_x ?_
  refine ev_x ⟨_, rlk_mem rfl, ?_⟩
  refine ev_x ?_
  refine ev_x ?_
  refine ev_x ⟨_, rlk_mem rfl, ?_⟩
  refine ev_x ?_
  refine ev_x ?_
  refine ev_x ⟨_, rlk_mem rfl, ?_⟩
  refine ev_x ?_
  refine ev_x ?_
  refine ev_blk rfl rfl ?_
  refine ev_x ⟨_, rlk_mem rfl, ?_⟩
  refine ev_x ?_
  refine ev_x ⟨_, rlk_mem rfl, ?_⟩
  refine ev_x ?_
  refine ev_x ⟨(by unfold vp_in; decide), ?_⟩
  refine ev_x (Or.inl ⟨(by show (0 : Int32) = 0; decide), ?_⟩)
  refine ev_blk rfl rfl ?_
  refine ev_x ?_
  exact ev_x ⟨rfl, rfl⟩
theorem PR.zero (f : Nat → Int32) : PR 0 f := by
  exact ⟨S0, T0, _, ⟨rfl, fun i hi => absurd hi (Nat.not_lt_zero i)⟩, fun _ => ⟨by show (0 : Int32) ≤ 0; decide, by show (0 : Int32) < 256; decide⟩, fun _ => by show (0 : Int32) ≤ 0; decide, rd0, rd1⟩
/-- a new reference -/
def S1n : RS := sI S0 120 (-2)
theorem S1n_z {k : Nat} (h : k ≠ 120) : gI S1n k = 0 := by
  show gI (sI S0 120 (-2)) k = 0
  rw [gI_sI, nb_ne h]
  rfl
theorem S1n_s {k : Nat} (h : k ≠ 120) : sI S1n k 0 = S1n := by
  have e : sI S1n k (gI S1n k) = S1n := sI_id
  rw [S1n_z h] at e
  exact e
theorem IV.new : IV S1n := by
  have y0 : Yb (fun _ => (0 : Int32)) := fun _ => ⟨by show (0 : Int32) ≤ 0; decide, by show (0 : Int32) < 256; decide⟩
  have hg : GZ S1n := ⟨fun _ => by show (0 : Int32) ≤ 0; decide, fun _ => ⟨by show (0 : Int32) ≤ 0; decide, by show (0 : Int32) ≤ 4; decide⟩, fun _ => by show (0 : Int32) ≤ 0; decide⟩
  refine ⟨⟨⟨S1n_z (by decide), ?_⟩, hg, ⟨y0, y0⟩, ⟨?_, ?_⟩, ⟨?_, ?_⟩, ?_⟩, Or.inl ⟨S1n_z (by decide), 12, 1, ?_⟩⟩
  · rw [S1n_z (by decide)]; decide
  · rw [S1n_z (by decide)]; decide
  · rw [S1n_z (by decide)]; decide
  · rw [S1n_z (by decide)]; decide
  · rw [S1n_z (by decide)]; decide
  · rw [S1n_z (by decide)]; exact PR.zero _
  · have q := PI.zero hg
    have e : zz S1n = S1n := by
      unfold zz
      rw [S1n_s (by decide), S1n_s (by decide), S1n_s (by decide), S1n_s (by decide), S1n_s (by decide), S1n_s (by decide), S1n_s (by decide)]
    rw [e] at q
    rw [S1n_z (by decide)]
    exact q
