/-! the reference judges one exp -/
theorem JgR.m {τ : RS} {r r' : Option TvT} {F G : TvT → RS → Prop} (h : JgR τ r F) (e : r' = r) (hF : ∀ x, F x τ → G x τ) : JgR τ r' G := by
  rcases h with h | ⟨x, h1, h2⟩
  · exact Or.inl ⟨e.trans h.1, h.2⟩
  · exact Or.inr ⟨x, e.trans h1, hF x h2⟩
def FrJ (σ σ1 : RS) (k : Int32) : Prop := gI σ1 69 = gI σ 69 - k ∧ (∀ j, j ≠ 69 → gI σ1 j = gI σ j) ∧ gL σ1 = gL σ ∧ aL σ1 = aL σ ∧ ∀ j, j ≠ 80 → j ≠ 82 → j ≠ 83 → aI σ1 j = aI σ j
theorem FrJ.rf {σ : RS} : FrJ σ σ 0 := ⟨by rw [Int32.sub_zero], fun _ _ => rfl, rfl, rfl, fun _ _ _ _ => rfl⟩
theorem FrJ.p {σ : RS} {k : Int32} : FrJ σ (sI σ 69 (gI σ 69 - k)) k := ⟨rfl, fun j hj => by rw [gI_sI, nb_ne hj], rfl, rfl, fun _ _ _ _ => rfl⟩
theorem FrJ.a {σ σ1 : RS} {k : Int32} {j : Nat} {f : Nat → Int32} (h : FrJ σ σ1 k) (hj : j = 80 ∨ j = 82 ∨ j = 83) : FrJ σ (sA σ1 j f) k := ⟨h.1, h.2.1, h.2.2.1, h.2.2.2.1, fun i h0 h2 h3 => (aI_ne (by omega)).trans (h.2.2.2.2 i h0 h2 h3)⟩
/-- how many it takes -/
def opnZ (x : XrZ) : Int32 := if x.1.1 = 3 ∨ x.1.1 = 4 ∨ x.1.1 = 5 ∨ x.1.1 = 9 then 1 else if x.1.1 = 7 then 2 else if x.1.1 = 8 then 3 else if x.1.1 = 10 then Int32.ofInt x.2.2.2.length else 0
/-- what is noted beside: work, what, meaning -/
def BaR (σ σ1 : RS) (c t : Nat) (x : XrZ) (e : TvT) : Prop :=
  FrJ σ σ1 (opnZ x) ∧ ((∀ q, q ≠ c → aI σ1 82 q = aI σ 82 q) ∧ (∀ q, q ≠ c → aI σ1 83 q = aI σ 83 q) ∧ ∀ q, q ≠ t → aI σ1 80 q = aI σ 80 q) ∧
  ((x.1.1 = 4 ∨ x.1.1 = 8 → (aI σ1 82 c).toInt = e.1) ∧ ((x.1.1 = 7 ∧ 22 ≤ x.1.2.1) ∨ (x.1.1 = 9 ∧ ¬ x.1.2.1 = 8) → (aI σ1 82 c).toInt = e.2.2.2)) ∧
  ((x.1.1 = 2 ∨ x.1.1 = 6 ∨ x.1.1 = 9 → (aI σ1 83 c).toInt = x.2.1.2.1 ∧ (aI σ1 80 t).toInt = x.2.1.2.1) ∧ (x.1.1 = 10 → (aI σ1 83 c).toInt = e.2.2.2 ∧ (aI σ1 80 t).toInt = 100 + e.2.2.2)) ∧
  (¬ (x.1.1 = 2 ∨ x.1.1 = 6 ∨ x.1.1 = 9 ∨ x.1.1 = 10) → aI σ1 80 = aI σ 80)
/-- where none is told -/
def GoR (σ : RS) (c t : Int32) (x : XrZ) (e : TvT) (τ : RS) : Prop := (11 ≤ x.1.1 → τ = σ) ∧ (x.1.1 ≤ 10 → ∃ (σ1 : RS) (ty su : Int32) (v : Int64), ShT ty su v e ∧ τ = lieS σ1 c ty su v ∧ BaR σ σ1 c.toNatClampNeg t.toNatClampNeg x e)
theorem opk_c {x : XrZ} (h0 : 0 ≤ x.1.1) (h1 : x.1.1 ≤ 14) : (x.1.1 ≤ 1 ∧ opkZ x = 1) ∨ (x.1.1 = 2 ∧ opkZ x = 2) ∨ (x.1.1 = 3 ∧ opkZ x = 15) ∨ (x.1.1 = 4 ∧ opkZ x = 5) ∨ (x.1.1 = 5 ∧ opkZ x = 6) ∨ (x.1.1 = 6 ∧ (opkZ x = 3 ∨ opkZ x = 4)) ∨ (x.1.1 = 7 ∧ ((x.1.2.1 = 21 ∧ opkZ x = 9) ∨ (x.1.2.1 = 20 ∧ opkZ x = 11) ∨ (¬ x.1.2.1 = 21 ∧ ¬ x.1.2.1 = 20 ∧ opkZ x = 7))) ∨ (x.1.1 = 8 ∧ opkZ x = 14) ∨ (x.1.1 = 9 ∧ opkZ x = 17) ∨ (x.1.1 = 10 ∧ opkZ x = 18) ∨ (x.1.1 = 11 ∧ (opkZ x = 8 ∨ opkZ x = 10)) ∨ (x.1.1 = 12 ∧ opkZ x = 12) ∨ (x.1.1 = 13 ∧ opkZ x = 13) ∨ (x.1.1 = 14 ∧ opkZ x = 16) := by
  unfold opkZ
  by_cases a0 : x.1.1 ≤ 1
  · rw [if_pos a0]
    refine Or.inl ?_
    exact ⟨a0, rfl⟩
  rw [if_neg a0]
  by_cases a1 : x.1.1 = 2
  · rw [if_pos a1]
    refine Or.inr (Or.inl ?_)
    exact ⟨a1, rfl⟩
  rw [if_neg a1]
  by_cases a2 : x.1.1 = 3
  · rw [if_pos a2]
    refine Or.inr (Or.inr (Or.inl ?_))
    exact ⟨a2, rfl⟩
  rw [if_neg a2]
  by_cases a3 : x.1.1 = 4
  · rw [if_pos a3]
    refine Or.inr (Or.inr (Or.inr (Or.inl ?_)))
    exact ⟨a3, rfl⟩
  rw [if_neg a3]
  by_cases a4 : x.1.1 = 5
  · rw [if_pos a4]
    refine Or.inr (Or.inr (Or.inr (Or.inr (Or.inl ?_))))
    exact ⟨a4, rfl⟩
  rw [if_neg a4]
  by_cases a5 : x.1.1 = 6
  · rw [if_pos a5]
    refine Or.inr (Or.inr (Or.inr (Or.inr (Or.inr (Or.inl ?_)))))
    refine ⟨a5, ?_⟩
    split
    · exact Or.inl rfl
    · exact Or.inr rfl
  rw [if_neg a5]
  by_cases a6 : x.1.1 = 7
  · rw [if_pos a6]
    refine Or.inr (Or.inr (Or.inr (Or.inr (Or.inr (Or.inr (Or.inl ?_))))))
    refine ⟨a6, ?_⟩
    split
    · next q => exact Or.inl ⟨q, rfl⟩
    · next q =>
      split
      · next r => exact Or.inr (Or.inl ⟨r, rfl⟩)
      · next r => exact Or.inr (Or.inr ⟨q, r, rfl⟩)
  rw [if_neg a6]
  by_cases a7 : x.1.1 = 8
  · rw [if_pos a7]
    refine Or.inr (Or.inr (Or.inr (Or.inr (Or.inr (Or.inr (Or.inr (Or.inl ?_)))))))
    exact ⟨a7, rfl⟩
  rw [if_neg a7]
  by_cases a8 : x.1.1 = 9
  · rw [if_pos a8]
    refine Or.inr (Or.inr (Or.inr (Or.inr (Or.inr (Or.inr (Or.inr (Or.inr (Or.inl ?_))))))))
    exact ⟨a8, rfl⟩
  rw [if_neg a8]
  by_cases a9 : x.1.1 = 10
  · rw [if_pos a9]
    refine Or.inr (Or.inr (Or.inr (Or.inr (Or.inr (Or.inr (Or.inr (Or.inr (Or.inr (Or.inl ?_)))))))))
    exact ⟨a9, rfl⟩
  rw [if_neg a9]
  by_cases a10 : x.1.1 = 11
  · rw [if_pos a10]
    refine Or.inr (Or.inr (Or.inr (Or.inr (Or.inr (Or.inr (Or.inr (Or.inr (Or.inr (Or.inr (Or.inl ?_))))))))))
    refine ⟨a10, ?_⟩
    split
    · exact Or.inl rfl
    · exact Or.inr rfl
  rw [if_neg a10]
  by_cases a11 : x.1.1 = 12
  · rw [if_pos a11]
    refine Or.inr (Or.inr (Or.inr (Or.inr (Or.inr (Or.inr (Or.inr (Or.inr (Or.inr (Or.inr (Or.inr (Or.inl ?_)))))))))))
    exact ⟨a11, rfl⟩
  rw [if_neg a11]
  by_cases a12 : x.1.1 = 13
  · rw [if_pos a12]
    refine Or.inr (Or.inr (Or.inr (Or.inr (Or.inr (Or.inr (Or.inr (Or.inr (Or.inr (Or.inr (Or.inr (Or.inr (Or.inl ?_))))))))))))
    exact ⟨a12, rfl⟩
  rw [if_neg a12]
  rw [if_neg (by omega)]
  exact Or.inr (Or.inr (Or.inr (Or.inr (Or.inr (Or.inr (Or.inr (Or.inr (Or.inr (Or.inr (Or.inr (Or.inr (Or.inr ⟨by omega, rfl⟩))))))))))))
theorem opn_1 {x : XrZ} (h : x.1.1 = 3 ∨ x.1.1 = 4 ∨ x.1.1 = 5 ∨ x.1.1 = 9) : opnZ x = 1 := if_pos h
theorem opn_7 {x : XrZ} (h : x.1.1 = 7) : opnZ x = 2 := by unfold opnZ; rw [if_neg (by omega), if_pos h]
theorem opn_8 {x : XrZ} (h : x.1.1 = 8) : opnZ x = 3 := by unfold opnZ; rw [if_neg (by omega), if_neg (by omega), if_pos h]
theorem opn_10 {x : XrZ} (h : x.1.1 = 10) : opnZ x = Int32.ofInt x.2.2.2.length := by unfold opnZ; rw [if_neg (by omega), if_neg (by omega), if_neg (by omega), if_pos h]
theorem opn_0 {x : XrZ} (h : x.1.1 ≤ 2 ∨ x.1.1 = 6) : opnZ x = 0 := by unfold opnZ; rw [if_neg (by omega), if_neg (by omega), if_neg (by omega), if_neg (by omega)]
theorem BaR.lit {σ : RS} {c t : Nat} {x : XrZ} {e : TvT} (h : x.1.1 ≤ 1) : BaR σ σ c t x e := ⟨by rw [opn_0 (by omega)]; exact FrJ.rf, ⟨fun _ _ => rfl, fun _ _ => rfl, fun _ _ => rfl⟩, ⟨fun q => by omega, fun q => by omega⟩, ⟨fun q => by omega, fun q => by omega⟩, fun _ => rfl⟩
theorem BaR.var {σ : RS} {c t : Nat} {l : Int32} {x : XrZ} {e : TvT} (h : x.1.1 = 2 ∨ x.1.1 = 6) (hl : l.toInt = x.2.1.2.1) : BaR σ (sA (sA σ 83 (upd (aI σ 83) c l)) 80 (upd (aI σ 80) t l)) c t x e := ⟨by rw [opn_0 (by omega)]; exact (FrJ.rf.a (by decide)).a (by decide), ⟨fun _ _ => rfl, fun q hq => upd_ne hq, fun q hq => upd_ne hq⟩, ⟨fun q => by omega, fun q => by omega⟩, ⟨fun _ => ⟨(congrArg Int32.toInt upd_eq).trans hl, (congrArg Int32.toInt upd_eq).trans hl⟩, fun q => by omega⟩, fun q => absurd h (by omega)⟩
theorem BaR.one {σ : RS} {c t : Nat} {x : XrZ} {e : TvT} (h : x.1.1 = 3 ∨ x.1.1 = 5) : BaR σ (sI σ 69 (gI σ 69 - 1)) c t x e := ⟨by rw [opn_1 (by omega)]; exact FrJ.p, ⟨fun _ _ => rfl, fun _ _ => rfl, fun _ _ => rfl⟩, ⟨fun q => by omega, fun q => by omega⟩, ⟨fun q => by omega, fun q => by omega⟩, fun _ => rfl⟩
theorem BaR.un {σ : RS} {c t : Nat} {ty : Int32} {x : XrZ} {e : TvT} (h : x.1.1 = 4) (hl : ty.toInt = e.1) : BaR σ (sA (sI σ 69 (gI σ 69 - 1)) 82 (upd (aI σ 82) c ty)) c t x e := ⟨by rw [opn_1 (by omega)]; exact FrJ.p.a (by decide), ⟨fun q hq => upd_ne hq, fun _ _ => rfl, fun _ _ => rfl⟩, ⟨fun _ => (congrArg Int32.toInt upd_eq).trans hl, fun q => by omega⟩, ⟨fun q => by omega, fun q => by omega⟩, fun _ => rfl⟩
theorem BaR.bi {σ : RS} {c t : Nat} {ty : Int32} {x : XrZ} {e : TvT} (h : x.1.1 = 7) (hl : ty.toInt = e.2.2.2) : BaR σ (sA (sI σ 69 (gI σ 69 - 2)) 82 (upd (aI σ 82) c ty)) c t x e := ⟨by rw [opn_7 (by omega)]; exact FrJ.p.a (by decide), ⟨fun q hq => upd_ne hq, fun _ _ => rfl, fun _ _ => rfl⟩, ⟨fun q => by omega, fun _ => (congrArg Int32.toInt upd_eq).trans hl⟩, ⟨fun q => by omega, fun q => by omega⟩, fun _ => rfl⟩
theorem BaR.an {σ : RS} {c t : Nat} {x : XrZ} {e : TvT} (h : x.1.1 = 7) (hs : x.1.2.1 < 22) : BaR σ (sI σ 69 (gI σ 69 - 2)) c t x e := ⟨by rw [opn_7 (by omega)]; exact FrJ.p, ⟨fun _ _ => rfl, fun _ _ => rfl, fun _ _ => rfl⟩, ⟨fun q => by omega, fun q => by omega⟩, ⟨fun q => by omega, fun q => by omega⟩, fun _ => rfl⟩
theorem BaR.ch {σ : RS} {c t : Nat} {ty : Int32} {x : XrZ} {e : TvT} (h : x.1.1 = 8) (hl : ty.toInt = e.1) : BaR σ (sA (sI σ 69 (gI σ 69 - 3)) 82 (upd (aI σ 82) c ty)) c t x e := ⟨by rw [opn_8 (by omega)]; exact FrJ.p.a (by decide), ⟨fun q hq => upd_ne hq, fun _ _ => rfl, fun _ _ => rfl⟩, ⟨fun _ => (congrArg Int32.toInt upd_eq).trans hl, fun q => by omega⟩, ⟨fun q => by omega, fun q => by omega⟩, fun _ => rfl⟩
theorem BaR.as0 {σ : RS} {c t : Nat} {l : Int32} {x : XrZ} {e : TvT} (h : x.1.1 = 9) (h8 : x.1.2.1 = 8) (hl : l.toInt = x.2.1.2.1) : BaR σ (sA (sA (sI σ 69 (gI σ 69 - 1)) 83 (upd (aI σ 83) c l)) 80 (upd (aI σ 80) t l)) c t x e := ⟨by rw [opn_1 (by omega)]; exact (FrJ.p.a (by decide)).a (by decide), ⟨fun _ _ => rfl, fun q hq => upd_ne hq, fun q hq => upd_ne hq⟩, ⟨fun q => by omega, fun q => by omega⟩, ⟨fun _ => ⟨(congrArg Int32.toInt upd_eq).trans hl, (congrArg Int32.toInt upd_eq).trans hl⟩, fun q => by omega⟩, fun q => absurd h (by omega)⟩
theorem BaR.as1 {σ : RS} {c t : Nat} {l wk : Int32} {x : XrZ} {e : TvT} (h : x.1.1 = 9) (hw : wk.toInt = e.2.2.2) (hl : l.toInt = x.2.1.2.1) : BaR σ (sA (sA (sA (sI σ 69 (gI σ 69 - 1)) 83 (upd (aI σ 83) c l)) 80 (upd (aI σ 80) t l)) 82 (upd (aI σ 82) c wk)) c t x e := ⟨by rw [opn_1 (by omega)]; exact ((FrJ.p.a (by decide)).a (by decide)).a (by decide), ⟨fun q hq => upd_ne hq, fun q hq => upd_ne hq, fun q hq => upd_ne hq⟩, ⟨fun q => by omega, fun _ => (congrArg Int32.toInt upd_eq).trans hw⟩, ⟨fun _ => ⟨(congrArg Int32.toInt upd_eq).trans hl, (congrArg Int32.toInt upd_eq).trans hl⟩, fun q => by omega⟩, fun q => absurd h (by omega)⟩
theorem BaR.cal {σ : RS} {c t : Nat} {l : Int32} {x : XrZ} {e : TvT} (h : x.1.1 = 10) (hn : aI σ 20 c = Int32.ofInt x.2.2.2.length) (hl : l.toInt = e.2.2.2) (hr : 0 ≤ e.2.2.2 ∧ e.2.2.2 < 12) : BaR σ (sA (sA (sA (sI σ 69 (gI σ 69 - aI σ 20 c)) 83 (upd (aI σ 83) c (-2))) 83 (upd (upd (aI σ 83) c (-2)) c l)) 80 (upd (aI σ 80) t (100 + l))) c t x e := by
  refine ⟨by rw [opn_10 h, ← hn]; exact ((FrJ.p.a (by decide)).a (by decide)).a (by decide), ⟨fun _ _ => rfl, fun q hq => (upd_ne hq).trans (upd_ne hq), fun q hq => upd_ne hq⟩, ⟨fun q => by omega, fun q => by omega⟩, ⟨fun q => by omega, fun _ => ⟨(congrArg Int32.toInt upd_eq).trans hl, (congrArg Int32.toInt upd_eq).trans ?_⟩⟩, fun q => absurd h (by omega)⟩
  rw [Int32.toInt_add, hl, show (100 : Int32).toInt = 100 from rfl]
  exact Int.bmod_eq_of_le (by omega) (by omega)
def Qw_literalJ : UQ1 := fun A1 σ w τ => Qw_literalA A1 σ w τ ∧ Qw_literalB A1 σ w τ
theorem w_literalJ : UMet 89 (fun _ _ => True) Qw_literalJ := fun A1 σ q w τ h => ⟨w_literalA A1 σ q w τ h, w_literalB A1 σ q w τ h⟩
def Qw_stepJ : UQ1 := fun A1 σ w τ => Qw_stepA A1 σ w τ ∧ Qw_stepB A1 σ w τ
theorem w_stepJ : UMet 90 (fun _ _ => True) Qw_stepJ := fun A1 σ q w τ h => ⟨w_stepA A1 σ q w τ h, w_stepB A1 σ q w τ h⟩
def Qw_unaryJ : UQ1 := fun A1 σ w τ => Qw_unaryA A1 σ w τ ∧ Qw_unaryB A1 σ w τ
theorem w_unaryJ : UMet 91 (fun _ _ => True) Qw_unaryJ := fun A1 σ q w τ h => ⟨w_unaryA A1 σ q w τ h, w_unaryB A1 σ q w τ h⟩
def Qw_castsJ : UQ1 := fun A1 σ w τ => Qw_castsA A1 σ w τ ∧ Qw_castsB A1 σ w τ
theorem w_castsJ : UMet 92 (fun _ _ => True) Qw_castsJ := fun A1 σ q w τ h => ⟨w_castsA A1 σ q w τ h, w_castsB A1 σ q w τ h⟩
def Qw_binaryJ : UQ1 := fun A1 σ w τ => Qw_binaryA A1 σ w τ ∧ Qw_binaryB A1 σ w τ
theorem w_binaryJ : UMet 95 (fun _ _ => True) Qw_binaryJ := fun A1 σ q w τ h => ⟨w_binaryA A1 σ q w τ h, w_binaryB A1 σ q w τ h⟩
def Qw_choiceJ : UQ1 := fun A1 σ w τ => Qw_choiceA A1 σ w τ ∧ Qw_choiceB A1 σ w τ
theorem w_choiceJ : UMet 98 (fun _ _ => True) Qw_choiceJ := fun A1 σ q w τ h => ⟨w_choiceA A1 σ q w τ h, w_choiceB A1 σ q w τ h⟩
def Qw_assignJ : UQ1 := fun A1 σ w τ => Qw_assignA A1 σ w τ ∧ Qw_assignB A1 σ w τ
theorem w_assignJ : UMet 100 (fun _ _ => True) Qw_assignJ := fun A1 σ q w τ h => ⟨w_assignA A1 σ q w τ h, w_assignB A1 σ q w τ h⟩
def Qw_callJ : UQ1 := fun A1 σ w τ => Qw_callA A1 σ w τ ∧ Qw_callB A1 σ w τ
theorem w_callJ : UMet 104 (fun _ _ => True) Qw_callJ := fun A1 σ q w τ h => ⟨w_callA A1 σ q w τ h, w_callB A1 σ q w τ h⟩
def Pv_judgeExpA : UP1 := fun A1 σ => match A1 with
  | [.int c] => ¬ gI σ 66 = 0
  | _ => False
def Qv_judgeExpA : UQ1 := fun A1 σ w τ => match A1 with
  | [.int c] => w = none ∧ ¬ gI τ 66 = 0
  | _ => False
def Qw_judgeExpA : UQ1 := fun A1 σ w τ => Pv_judgeExpA A1 σ → Qv_judgeExpA A1 σ w τ
set_option maxRecDepth 100000 in
set_option maxHeartbeats 4000000 in
theorem v_judgeExpA : UMet 88 (Pv_judgeExpA) (Qv_judgeExpA) := by
  refine UMet.by BjudgeExp [(100, (fun _ _ => True), Qw_assignA), (95, (fun _ _ => True), Qw_binaryA), (104, (fun _ _ => True), Qw_callA), (92, (fun _ _ => True), Qw_castsA), (98, (fun _ _ => True), Qw_choiceA), (70, (fun _ _ => True), Qw_err), (71, (fun _ _ => True), Qw_find), (77, (fun _ _ => True), Qw_lie), (89, (fun _ _ => True), Qw_literalA), (80, (fun _ _ => True), Qw_need), (78, (fun _ _ => True), Qw_none), (90, (fun _ _ => True), Qw_stepA), (91, (fun _ _ => True), Qw_unaryA)] rfl (ucc w_assignA (ucc w_binaryA (ucc w_callA (ucc w_castsA (ucc w_choiceA (ucc w_err (ucc w_find (ucc w_lie (ucc w_literalA (ucc w_need (ucc w_none (ucc w_stepA (ucc w_unaryA uc0))))))))))))) ?_
  intro A1 σ hP K hB hW
  unfold Pv_judgeExpA at hP
  split at hP
  next c =>
    have all : ∀ N : Nat, (∀ (x1 : Int32) (Y : RS), ¬ gI Y 66 = 0 → K N 0 [(0, .ref 1000), (1, .int x1)] [] Y) ∧ (∀ (x1 : Int32) (x2 : Int32) (Y : RS), ¬ gI Y 66 = 0 → K N 100 [(0, .ref 1000), (1, .int x1), (2, .int x2)] [] Y) ∧ (∀ (x1 : Int32) (x2 : Int32) (Y : RS), ¬ gI Y 66 = 0 → K N 107 [(0, .ref 1000), (1, .int x1), (2, .int x2)] [] Y) ∧ (∀ (x1 : Int32) (x2 : Int32) (x3 : Int32) (Y : RS), ¬ gI Y 66 = 0 → K N 124 [(0, .ref 1000), (1, .int x1), (2, .int x2), (3, .int x3)] [] Y) ∧ (∀ (x1 : Int32) (x2 : Int32) (x3 : Int32) (Y : RS), ¬ gI Y 66 = 0 → K N 138 [(0, .ref 1000), (1, .int x1), (2, .int x2), (3, .int x3)] [] Y) ∧ (∀ (x1 : Int32) (x2 : Int32) (x3 : Int32) (s0 : Int32) (s1 : Int32) (Y : RS), ¬ gI Y 66 = 0 → K N 162 [(0, .ref 1000), (1, .int x1), (2, .int x2), (3, .int x3)] [.int s0, .int s1, .ref 1000] Y) ∧ (∀ (x1 : Int32) (x2 : Int32) (x3 : Int32) (s0 : Int32) (s1 : Int32) (Y : RS), ¬ gI Y 66 = 0 → K N 171 [(0, .ref 1000), (1, .int x1), (2, .int x2), (3, .int x3)] [.int s0, .int s1, .ref 1000] Y) ∧ (∀ (x1 : Int32) (x2 : Int32) (x3 : Int32) (s0 : Int32) (s1 : Int32) (Y : RS), ¬ gI Y 66 = 0 → K N 175 [(0, .ref 1000), (1, .int x1), (2, .int x2), (3, .int x3)] [.int s0, .int s1, .ref 1000] Y) ∧ (∀ (x1 : Int32) (x2 : Int32) (x3 : Int32) (s0 : Int32) (s1 : Int32) (s2 : Int32) (Y : RS), ¬ gI Y 66 = 0 → K N 176 [(0, .ref 1000), (1, .int x1), (2, .int x2), (3, .int x3)] [.int s0, .int s1, .int s2, .ref 1000] Y) ∧ (∀ (x1 : Int32) (x2 : Int32) (x3 : Int32) (Y : RS), ¬ gI Y 66 = 0 → K N 185 [(0, .ref 1000), (1, .int x1), (2, .int x2), (3, .int x3)] [] Y) ∧ (∀ (x1 : Int32) (x2 : Int32) (Y : RS), ¬ gI Y 66 = 0 → K N 186 [(0, .ref 1000), (1, .int x1), (2, .int x2)] [] Y) ∧ (∀ (x1 : Int32) (x2 : Int32) (Y : RS), ¬ gI Y 66 = 0 → K N 193 [(0, .ref 1000), (1, .int x1), (2, .int x2)] [] Y) ∧ (∀ (x1 : Int32) (x2 : Int32) (Y : RS), ¬ gI Y 66 = 0 → K N 199 [(0, .ref 1000), (1, .int x1), (2, .int x2)] [] Y) ∧ (∀ (x1 : Int32) (x2 : Int32) (Y : RS), ¬ gI Y 66 = 0 → K N 205 [(0, .ref 1000), (1, .int x1), (2, .int x2)] [] Y) ∧ (∀ (x1 : Int32) (x2 : Int32) (Y : RS), ¬ gI Y 66 = 0 → K N 211 [(0, .ref 1000), (1, .int x1), (2, .int x2)] [] Y) ∧ (∀ (x1 : Int32) (x2 : Int32) (x4 : Int32) (x5 : Int32) (Y : RS), ¬ gI Y 66 = 0 → K N 250 [(0, .ref 1000), (1, .int x1), (2, .int x2), (4, .int x4), (5, .int x5)] [] Y) ∧ (∀ (x1 : Int32) (x2 : Int32) (x4 : Int32) (x5 : Int32) (Y : RS), ¬ gI Y 66 = 0 → K N 255 [(0, .ref 1000), (1, .int x1), (2, .int x2), (4, .int x4), (5, .int x5)] [] Y) ∧ (∀ (x1 : Int32) (x2 : Int32) (x4 : Int32) (x5 : Int32) (Y : RS), ¬ gI Y 66 = 0 → K N 263 [(0, .ref 1000), (1, .int x1), (2, .int x2), (4, .int x4), (5, .int x5)] [] Y) ∧ (∀ (x1 : Int32) (x2 : Int32) (x4 : Int32) (x5 : Int32) (Y : RS), ¬ gI Y 66 = 0 → K N 275 [(0, .ref 1000), (1, .int x1), (2, .int x2), (4, .int x4), (5, .int x5)] [] Y) ∧ (∀ (x1 : Int32) (x2 : Int32) (x4 : Int32) (x5 : Int32) (Y : RS), ¬ gI Y 66 = 0 → K N 289 [(0, .ref 1000), (1, .int x1), (2, .int x2), (4, .int x4), (5, .int x5)] [] Y) ∧ (∀ (x1 : Int32) (x2 : Int32) (x4 : Int32) (x5 : Int32) (Y : RS), ¬ gI Y 66 = 0 → K N 293 [(0, .ref 1000), (1, .int x1), (2, .int x2), (4, .int x4), (5, .int x5)] [] Y) ∧ (∀ (x1 : Int32) (x2 : Int32) (x4 : Int32) (x5 : Int32) (s0 : Int32) (Y : RS), ¬ gI Y 66 = 0 → K N 294 [(0, .ref 1000), (1, .int x1), (2, .int x2), (4, .int x4), (5, .int x5)] [.int s0] Y) ∧ (∀ (x1 : Int32) (x2 : Int32) (x4 : Int32) (x5 : Int32) (x6 : Int32) (Y : RS), ¬ gI Y 66 = 0 → K N 310 [(0, .ref 1000), (1, .int x1), (2, .int x2), (4, .int x4), (5, .int x5), (6, .int x6)] [] Y) ∧ (∀ (x1 : Int32) (x2 : Int32) (x4 : Int32) (x5 : Int32) (x6 : Int32) (Y : RS), ¬ gI Y 66 = 0 → K N 326 [(0, .ref 1000), (1, .int x1), (2, .int x2), (4, .int x4), (5, .int x5), (6, .int x6)] [] Y) ∧ (∀ (x1 : Int32) (x2 : Int32) (x4 : Int32) (x5 : Int32) (x6 : Int32) (Y : RS), ¬ gI Y 66 = 0 → K N 330 [(0, .ref 1000), (1, .int x1), (2, .int x2), (4, .int x4), (5, .int x5), (6, .int x6)] [] Y) ∧ (∀ (x1 : Int32) (x2 : Int32) (x4 : Int32) (x5 : Int32) (x6 : Int32) (s0 : Int32) (Y : RS), ¬ gI Y 66 = 0 → K N 331 [(0, .ref 1000), (1, .int x1), (2, .int x2), (4, .int x4), (5, .int x5), (6, .int x6)] [.int s0] Y) ∧ (∀ (x1 : Int32) (x2 : Int32) (x4 : Int32) (x5 : Int32) (x6 : Int32) (x7 : Int32) (Y : RS), ¬ gI Y 66 = 0 → K N 347 [(0, .ref 1000), (1, .int x1), (2, .int x2), (4, .int x4), (5, .int x5), (6, .int x6), (7, .int x7)] [] Y) ∧ (∀ (x1 : Int32) (x2 : Int32) (x4 : Int32) (x5 : Int32) (x6 : Int32) (x7 : Int32) (Y : RS), ¬ gI Y 66 = 0 → K N 363 [(0, .ref 1000), (1, .int x1), (2, .int x2), (4, .int x4), (5, .int x5), (6, .int x6), (7, .int x7)] [] Y) ∧ (∀ (x1 : Int32) (x2 : Int32) (x4 : Int32) (x5 : Int32) (x6 : Int32) (x7 : Int32) (Y : RS), ¬ gI Y 66 = 0 → K N 367 [(0, .ref 1000), (1, .int x1), (2, .int x2), (4, .int x4), (5, .int x5), (6, .int x6), (7, .int x7)] [] Y) ∧ (∀ (x1 : Int32) (x2 : Int32) (x4 : Int32) (x5 : Int32) (x6 : Int32) (x7 : Int32) (s0 : Int32) (Y : RS), ¬ gI Y 66 = 0 → K N 368 [(0, .ref 1000), (1, .int x1), (2, .int x2), (4, .int x4), (5, .int x5), (6, .int x6), (7, .int x7)] [.int s0] Y) ∧ (∀ (x1 : Int32) (x2 : Int32) (x4 : Int32) (x5 : Int32) (x6 : Int32) (x7 : Int32) (x8 : Int32) (s0 : Int32) (s1 : Int32) (s2 : Int32) (Y : RS), ¬ gI Y 66 = 0 → K N 386 [(0, .ref 1000), (1, .int x1), (2, .int x2), (4, .int x4), (5, .int x5), (6, .int x6), (7, .int x7), (8, .int x8)] [.int s0, .int s1, .int s2, .ref 1000] Y) ∧ (∀ (x1 : Int32) (x2 : Int32) (x4 : Int32) (x5 : Int32) (x6 : Int32) (x7 : Int32) (x8 : Int32) (s0 : Int32) (s1 : Int32) (s2 : Int32) (Y : RS), ¬ gI Y 66 = 0 → K N 391 [(0, .ref 1000), (1, .int x1), (2, .int x2), (4, .int x4), (5, .int x5), (6, .int x6), (7, .int x7), (8, .int x8)] [.int s0, .int s1, .int s2, .ref 1000] Y) ∧ (∀ (x1 : Int32) (x2 : Int32) (x4 : Int32) (x5 : Int32) (x6 : Int32) (x7 : Int32) (x8 : Int32) (s0 : Int32) (s1 : Int32) (s2 : Int32) (Y : RS), ¬ gI Y 66 = 0 → K N 394 [(0, .ref 1000), (1, .int x1), (2, .int x2), (4, .int x4), (5, .int x5), (6, .int x6), (7, .int x7), (8, .int x8)] [.int s0, .int s1, .int s2, .ref 1000] Y) ∧ (∀ (x1 : Int32) (x2 : Int32) (x4 : Int32) (x5 : Int32) (x6 : Int32) (x7 : Int32) (x8 : Int32) (s0 : Int32) (s1 : Int32) (s2 : Int32) (Y : RS), ¬ gI Y 66 = 0 → K N 399 [(0, .ref 1000), (1, .int x1), (2, .int x2), (4, .int x4), (5, .int x5), (6, .int x6), (7, .int x7), (8, .int x8)] [.int s0, .int s1, .int s2, .ref 1000] Y) ∧ (∀ (x1 : Int32) (x2 : Int32) (x4 : Int32) (x5 : Int32) (x6 : Int32) (x7 : Int32) (x8 : Int32) (s0 : Int32) (s1 : Int32) (s2 : Int32) (Y : RS), ¬ gI Y 66 = 0 → K N 403 [(0, .ref 1000), (1, .int x1), (2, .int x2), (4, .int x4), (5, .int x5), (6, .int x6), (7, .int x7), (8, .int x8)] [.int s0, .int s1, .int s2, .ref 1000] Y) ∧ (∀ (x1 : Int32) (x2 : Int32) (x4 : Int32) (x5 : Int32) (x6 : Int32) (x7 : Int32) (x8 : Int32) (s0 : Int64) (s1 : Int32) (s2 : Int32) (s3 : Int32) (Y : RS), ¬ gI Y 66 = 0 → K N 404 [(0, .ref 1000), (1, .int x1), (2, .int x2), (4, .int x4), (5, .int x5), (6, .int x6), (7, .int x7), (8, .int x8)] [.long s0, .int s1, .int s2, .int s3, .ref 1000] Y) ∧ (∀ (x1 : Int32) (x2 : Int32) (x4 : Int32) (x5 : Int32) (Y : RS), ¬ gI Y 66 = 0 → K N 407 [(0, .ref 1000), (1, .int x1), (2, .int x2), (4, .int x4), (5, .int x5)] [] Y) ∧ (∀ (x1 : Int32) (x2 : Int32) (Y : RS), ¬ gI Y 66 = 0 → K N 408 [(0, .ref 1000), (1, .int x1), (2, .int x2)] [] Y) ∧ (∀ (x1 : Int32) (x2 : Int32) (Y : RS), ¬ gI Y 66 = 0 → K N 414 [(0, .ref 1000), (1, .int x1), (2, .int x2)] [] Y) ∧ (∀ (x1 : Int32) (x2 : Int32) (Y : RS), ¬ gI Y 66 = 0 → K N 457 [(0, .ref 1000), (1, .int x1), (2, .int x2)] [] Y) ∧ (∀ (x1 : Int32) (x2 : Int32) (Y : RS), ¬ gI Y 66 = 0 → K N 464 [(0, .ref 1000), (1, .int x1), (2, .int x2)] [] Y) ∧ (∀ (x1 : Int32) (x2 : Int32) (Y : RS), ¬ gI Y 66 = 0 → K N 471 [(0, .ref 1000), (1, .int x1), (2, .int x2)] [] Y) := by
      intro N
      induction N using Nat.strongRecOn with
      | ind N ih =>
        refine ⟨?_, ?_, ?_, ?_, ?_, ?_, ?_, ?_, ?_, ?_, ?_, ?_, ?_, ?_, ?_, ?_, ?_, ?_, ?_, ?_, ?_, ?_, ?_, ?_, ?_, ?_, ?_, ?_, ?_, ?_, ?_, ?_, ?_, ?_, ?_, ?_, ?_, ?_, ?_, ?_, ?_, ?_⟩
        · intro x1 Y hz
          refine hB _ _ _ _ _ (fun m1 hm1 => ?_)
          dsimp only [ugo, uwp, ust, uct, rfd, BjudgeExp, BjudgeExp_0, Nat.beq, lv_args, rlk, rs1, rs2, rdl, rky, rcd, rno, rsw, Value.category, List.filter, List.take, List.drop, List.reverse, List.reverseAux, List.cons_append, List.nil_append, Option.toList, Int.toNat, Int.reduceToNat, if_pos, if_neg, reduceIte, ↓reduceIte, Nat.reduceAdd, Nat.reduceEqDiff, Nat.reduceBEq, beq_self_eq_true, Bool.not_true, Bool.not_false, Bool.and_true, Bool.and_false, Bool.true_and, Bool.false_and, gI_sI, gI_sL, gI_sA, gI_sM, gL_sI, gL_sL, gL_sA, gL_sM, aI_sI, aI_sL, aI_sA, aI_sM, aL_sI, aL_sL, aL_sA, aL_sM]; try dsimp only
          intro p2
          intro p3
          refine ⟨fun h4 => ?_, fun h4 => ?_⟩
          · exact hW _ 100 [(0, .ref 1000), (1, .int x1), (2, .int ((aI Y 22) (x1).toNatClampNeg))] _ _ _ (by simp [rdl, rky, Value.category]) ((ih m1 hm1).2.1 x1 ((aI Y 22) (x1).toNatClampNeg) _ hz)
          refine ⟨fun h5 => ?_, fun h5 => ?_⟩
          · exact hW _ 107 [(0, .ref 1000), (1, .int x1), (2, .int ((aI Y 22) (x1).toNatClampNeg))] _ _ _ (by simp [rdl, rky, Value.category]) ((ih m1 hm1).2.2.1 x1 ((aI Y 22) (x1).toNatClampNeg) _ hz)
          refine ⟨fun h6 => ?_, fun h6 => ?_⟩
          · exact hW _ 186 [(0, .ref 1000), (1, .int x1), (2, .int ((aI Y 22) (x1).toNatClampNeg))] _ _ _ (by simp [rdl, rky, Value.category]) ((ih m1 hm1).2.2.2.2.2.2.2.2.2.2.1 x1 ((aI Y 22) (x1).toNatClampNeg) _ hz)
          refine ⟨fun h7 => ?_, fun h7 => ?_⟩
          · exact hW _ 186 [(0, .ref 1000), (1, .int x1), (2, .int ((aI Y 22) (x1).toNatClampNeg))] _ _ _ (by simp [rdl, rky, Value.category]) ((ih m1 hm1).2.2.2.2.2.2.2.2.2.2.1 x1 ((aI Y 22) (x1).toNatClampNeg) _ hz)
          refine ⟨fun h8 => ?_, fun h8 => ?_⟩
          · exact hW _ 193 [(0, .ref 1000), (1, .int x1), (2, .int ((aI Y 22) (x1).toNatClampNeg))] _ _ _ (by simp [rdl, rky, Value.category]) ((ih m1 hm1).2.2.2.2.2.2.2.2.2.2.2.1 x1 ((aI Y 22) (x1).toNatClampNeg) _ hz)
          refine ⟨fun h9 => ?_, fun h9 => ?_⟩
          · exact hW _ 199 [(0, .ref 1000), (1, .int x1), (2, .int ((aI Y 22) (x1).toNatClampNeg))] _ _ _ (by simp [rdl, rky, Value.category]) ((ih m1 hm1).2.2.2.2.2.2.2.2.2.2.2.2.1 x1 ((aI Y 22) (x1).toNatClampNeg) _ hz)
          refine ⟨fun h10 => ?_, fun h10 => ?_⟩
          · exact hW _ 205 [(0, .ref 1000), (1, .int x1), (2, .int ((aI Y 22) (x1).toNatClampNeg))] _ _ _ (by simp [rdl, rky, Value.category]) ((ih m1 hm1).2.2.2.2.2.2.2.2.2.2.2.2.2.1 x1 ((aI Y 22) (x1).toNatClampNeg) _ hz)
          refine ⟨fun h11 => ?_, fun h11 => ?_⟩
          · exact hW _ 471 [(0, .ref 1000), (1, .int x1), (2, .int ((aI Y 22) (x1).toNatClampNeg))] _ _ _ (by simp [rdl, rky, Value.category]) ((ih m1 hm1).2.2.2.2.2.2.2.2.2.2.2.2.2.2.2.2.2.2.2.2.2.2.2.2.2.2.2.2.2.2.2.2.2.2.2.2.2.2.2.2.2 x1 ((aI Y 22) (x1).toNatClampNeg) _ hz)
          refine ⟨fun h12 => ?_, fun h12 => ?_⟩
          · exact hW _ 211 [(0, .ref 1000), (1, .int x1), (2, .int ((aI Y 22) (x1).toNatClampNeg))] _ _ _ (by simp [rdl, rky, Value.category]) ((ih m1 hm1).2.2.2.2.2.2.2.2.2.2.2.2.2.2.1 x1 ((aI Y 22) (x1).toNatClampNeg) _ hz)
          refine ⟨fun h13 => ?_, fun h13 => ?_⟩
          · exact hW _ 471 [(0, .ref 1000), (1, .int x1), (2, .int ((aI Y 22) (x1).toNatClampNeg))] _ _ _ (by simp [rdl, rky, Value.category]) ((ih m1 hm1).2.2.2.2.2.2.2.2.2.2.2.2.2.2.2.2.2.2.2.2.2.2.2.2.2.2.2.2.2.2.2.2.2.2.2.2.2.2.2.2.2 x1 ((aI Y 22) (x1).toNatClampNeg) _ hz)
          refine ⟨fun h14 => ?_, fun h14 => ?_⟩
          · exact hW _ 211 [(0, .ref 1000), (1, .int x1), (2, .int ((aI Y 22) (x1).toNatClampNeg))] _ _ _ (by simp [rdl, rky, Value.category]) ((ih m1 hm1).2.2.2.2.2.2.2.2.2.2.2.2.2.2.1 x1 ((aI Y 22) (x1).toNatClampNeg) _ hz)
          refine ⟨fun h15 => ?_, fun h15 => ?_⟩
          · exact hW _ 471 [(0, .ref 1000), (1, .int x1), (2, .int ((aI Y 22) (x1).toNatClampNeg))] _ _ _ (by simp [rdl, rky, Value.category]) ((ih m1 hm1).2.2.2.2.2.2.2.2.2.2.2.2.2.2.2.2.2.2.2.2.2.2.2.2.2.2.2.2.2.2.2.2.2.2.2.2.2.2.2.2.2 x1 ((aI Y 22) (x1).toNatClampNeg) _ hz)
          refine ⟨fun h16 => ?_, fun h16 => ?_⟩
          · exact hW _ 471 [(0, .ref 1000), (1, .int x1), (2, .int ((aI Y 22) (x1).toNatClampNeg))] _ _ _ (by simp [rdl, rky, Value.category]) ((ih m1 hm1).2.2.2.2.2.2.2.2.2.2.2.2.2.2.2.2.2.2.2.2.2.2.2.2.2.2.2.2.2.2.2.2.2.2.2.2.2.2.2.2.2 x1 ((aI Y 22) (x1).toNatClampNeg) _ hz)
          refine ⟨fun h17 => ?_, fun h17 => ?_⟩
          · exact hW _ 408 [(0, .ref 1000), (1, .int x1), (2, .int ((aI Y 22) (x1).toNatClampNeg))] _ _ _ (by simp [rdl, rky, Value.category]) ((ih m1 hm1).2.2.2.2.2.2.2.2.2.2.2.2.2.2.2.2.2.2.2.2.2.2.2.2.2.2.2.2.2.2.2.2.2.2.2.2.2.1 x1 ((aI Y 22) (x1).toNatClampNeg) _ hz)
          refine ⟨fun h18 => ?_, fun h18 => ?_⟩
          · exact hW _ 414 [(0, .ref 1000), (1, .int x1), (2, .int ((aI Y 22) (x1).toNatClampNeg))] _ _ _ (by simp [rdl, rky, Value.category]) ((ih m1 hm1).2.2.2.2.2.2.2.2.2.2.2.2.2.2.2.2.2.2.2.2.2.2.2.2.2.2.2.2.2.2.2.2.2.2.2.2.2.2.1 x1 ((aI Y 22) (x1).toNatClampNeg) _ hz)
          refine ⟨fun h19 => ?_, fun h19 => ?_⟩
          · exact hW _ 471 [(0, .ref 1000), (1, .int x1), (2, .int ((aI Y 22) (x1).toNatClampNeg))] _ _ _ (by simp [rdl, rky, Value.category]) ((ih m1 hm1).2.2.2.2.2.2.2.2.2.2.2.2.2.2.2.2.2.2.2.2.2.2.2.2.2.2.2.2.2.2.2.2.2.2.2.2.2.2.2.2.2 x1 ((aI Y 22) (x1).toNatClampNeg) _ hz)
          refine ⟨fun h20 => ?_, fun h20 => ?_⟩
          · exact hW _ 457 [(0, .ref 1000), (1, .int x1), (2, .int ((aI Y 22) (x1).toNatClampNeg))] _ _ _ (by simp [rdl, rky, Value.category]) ((ih m1 hm1).2.2.2.2.2.2.2.2.2.2.2.2.2.2.2.2.2.2.2.2.2.2.2.2.2.2.2.2.2.2.2.2.2.2.2.2.2.2.2.1 x1 ((aI Y 22) (x1).toNatClampNeg) _ hz)
          refine ⟨fun h21 => ?_, fun h21 => ?_⟩
          · exact hW _ 464 [(0, .ref 1000), (1, .int x1), (2, .int ((aI Y 22) (x1).toNatClampNeg))] _ _ _ (by simp [rdl, rky, Value.category]) ((ih m1 hm1).2.2.2.2.2.2.2.2.2.2.2.2.2.2.2.2.2.2.2.2.2.2.2.2.2.2.2.2.2.2.2.2.2.2.2.2.2.2.2.2.1 x1 ((aI Y 22) (x1).toNatClampNeg) _ hz)
          exact hW _ 471 [(0, .ref 1000), (1, .int x1), (2, .int ((aI Y 22) (x1).toNatClampNeg))] _ _ _ (by simp [rdl, rky, Value.category]) ((ih m1 hm1).2.2.2.2.2.2.2.2.2.2.2.2.2.2.2.2.2.2.2.2.2.2.2.2.2.2.2.2.2.2.2.2.2.2.2.2.2.2.2.2.2 x1 ((aI Y 22) (x1).toNatClampNeg) _ hz)
        · intro x1 x2 Y hz
          refine hB _ _ _ _ _ (fun m1 hm1 => ?_)
          dsimp only [ugo, uwp, ust, uct, rfd, BjudgeExp, BjudgeExp_100, Nat.beq, lv_args, rlk, rs1, rs2, rdl, rky, rcd, rno, rsw, Value.category, List.filter, List.take, List.drop, List.reverse, List.reverseAux, List.cons_append, List.nil_append, Option.toList, Int.toNat, Int.reduceToNat, if_pos, if_neg, reduceIte, ↓reduceIte, Nat.reduceAdd, Nat.reduceEqDiff, Nat.reduceBEq, beq_self_eq_true, Bool.not_true, Bool.not_false, Bool.and_true, Bool.and_false, Bool.true_and, Bool.false_and, gI_sI, gI_sL, gI_sA, gI_sM, gL_sI, gL_sL, gL_sA, gL_sM, aI_sI, aI_sL, aI_sA, aI_sM, aL_sI, aL_sL, aL_sA, aL_sM]; try dsimp only
          refine ⟨trivial, fun w2 τ2 hq2 => ?_⟩
          obtain ⟨rfl, hz2⟩ := hq2 hz
          dsimp only [Option.toList, List.cons_append, List.nil_append, Nat.beq, gI_sI, gI_sL, gI_sA, gI_sM, gL_sI, gL_sL, gL_sA, gL_sM, aI_sI, aI_sL, aI_sA, aI_sM, aL_sI, aL_sL, aL_sA, aL_sM]
          unfold Qv_judgeExpA
          try dsimp only
          exact ⟨rfl, hz2⟩
        · intro x1 x2 Y hz
          refine hB _ _ _ _ _ (fun m1 hm1 => ?_)
          dsimp only [ugo, uwp, ust, uct, rfd, BjudgeExp, BjudgeExp_107, Nat.beq, lv_args, rlk, rs1, rs2, rdl, rky, rcd, rno, rsw, Value.category, List.filter, List.take, List.drop, List.reverse, List.reverseAux, List.cons_append, List.nil_append, Option.toList, Int.toNat, Int.reduceToNat, if_pos, if_neg, reduceIte, ↓reduceIte, Nat.reduceAdd, Nat.reduceEqDiff, Nat.reduceBEq, beq_self_eq_true, Bool.not_true, Bool.not_false, Bool.and_true, Bool.and_false, Bool.true_and, Bool.false_and, gI_sI, gI_sL, gI_sA, gI_sM, gL_sI, gL_sL, gL_sA, gL_sM, aI_sI, aI_sL, aI_sA, aI_sM, aL_sI, aL_sL, aL_sA, aL_sM]; try dsimp only
          refine ⟨trivial, fun w2 τ2 hq2 => ?_⟩
          obtain ⟨rfl, r2, rfl, hr2⟩ := hq2 trivial
          dsimp only [Option.toList, List.cons_append, List.nil_append, Nat.beq, gI_sI, gI_sL, gI_sA, gI_sM, gL_sI, gL_sL, gL_sA, gL_sM, aI_sI, aI_sL, aI_sA, aI_sM, aL_sI, aL_sL, aL_sA, aL_sM]
          intro p3
          refine ⟨fun h4 => ?_, fun h4 => ?_⟩
          · exact hW _ 138 [(0, .ref 1000), (1, .int x1), (2, .int x2), (3, .int r2)] _ _ _ (by simp [rdl, rky, Value.category]) ((ih m1 hm1).2.2.2.2.1 x1 x2 r2 _ hz)
          · exact hW _ 124 [(0, .ref 1000), (1, .int x1), (2, .int x2), (3, .int r2)] _ _ _ (by simp [rdl, rky, Value.category]) ((ih m1 hm1).2.2.2.1 x1 x2 r2 _ hz)
        · intro x1 x2 x3 Y hz
          refine hB _ _ _ _ _ (fun m1 hm1 => ?_)
          dsimp only [ugo, uwp, ust, uct, rfd, BjudgeExp, BjudgeExp_124, Nat.beq, lv_args, rlk, rs1, rs2, rdl, rky, rcd, rno, rsw, Value.category, List.filter, List.take, List.drop, List.reverse, List.reverseAux, List.cons_append, List.nil_append, Option.toList, Int.toNat, Int.reduceToNat, if_pos, if_neg, reduceIte, ↓reduceIte, Nat.reduceAdd, Nat.reduceEqDiff, Nat.reduceBEq, beq_self_eq_true, Bool.not_true, Bool.not_false, Bool.and_true, Bool.and_false, Bool.true_and, Bool.false_and, gI_sI, gI_sL, gI_sA, gI_sM, gL_sI, gL_sL, gL_sA, gL_sM, aI_sI, aI_sL, aI_sA, aI_sM, aL_sI, aL_sL, aL_sA, aL_sM, oi_3]; try dsimp only
          refine ⟨trivial, fun w2 τ2 hq2 => ?_⟩
          obtain ⟨rfl, hz2⟩ := hq2 (show ¬ (3 : Int32) = 0 by decide)
          dsimp only [Option.toList, List.cons_append, List.nil_append, Nat.beq, gI_sI, gI_sL, gI_sA, gI_sM, gL_sI, gL_sL, gL_sA, gL_sM, aI_sI, aI_sL, aI_sA, aI_sM, aL_sI, aL_sL, aL_sA, aL_sM]
          refine ⟨trivial, fun w3 τ3 hq3 => ?_⟩
          obtain ⟨rfl, rfl⟩ := hq3 trivial
          dsimp only [Option.toList, List.cons_append, List.nil_append, Nat.beq, gI_sI, gI_sL, gI_sA, gI_sM, gL_sI, gL_sL, gL_sA, gL_sM, aI_sI, aI_sL, aI_sA, aI_sM, aL_sI, aL_sL, aL_sA, aL_sM]
          exact hW _ 185 [(0, .ref 1000), (1, .int x1), (2, .int x2), (3, .int x3)] _ _ _ (by simp [rdl, rky, Value.category]) ((ih m1 hm1).2.2.2.2.2.2.2.2.2.1 x1 x2 x3 _ hz2)
        · intro x1 x2 x3 Y hz
          refine hB _ _ _ _ _ (fun m1 hm1 => ?_)
          dsimp only [ugo, uwp, ust, uct, rfd, BjudgeExp, BjudgeExp_138, Nat.beq, lv_args, rlk, rs1, rs2, rdl, rky, rcd, rno, rsw, Value.category, List.filter, List.take, List.drop, List.reverse, List.reverseAux, List.cons_append, List.nil_append, Option.toList, Int.toNat, Int.reduceToNat, if_pos, if_neg, reduceIte, ↓reduceIte, Nat.reduceAdd, Nat.reduceEqDiff, Nat.reduceBEq, beq_self_eq_true, Bool.not_true, Bool.not_false, Bool.and_true, Bool.and_false, Bool.true_and, Bool.false_and, gI_sI, gI_sL, gI_sA, gI_sM, gL_sI, gL_sL, gL_sA, gL_sM, aI_sI, aI_sL, aI_sA, aI_sM, aL_sI, aL_sL, aL_sA, aL_sM]; try dsimp only
          intro p2
          intro p3
          intro p4
          refine ⟨fun h5 => ?_, fun h5 => ?_⟩
          · exact hW _ 175 [(0, .ref 1000), (1, .int x1), (2, .int x2), (3, .int x3)] _ _ _ (by simp [rdl, rky, Value.category]) ((ih m1 hm1).2.2.2.2.2.2.2.1 x1 x2 x3 ((aI Y 44) (x3).toNatClampNeg) x1 _ hz)
          · exact hW _ 162 [(0, .ref 1000), (1, .int x1), (2, .int x2), (3, .int x3)] _ _ _ (by simp [rdl, rky, Value.category]) ((ih m1 hm1).2.2.2.2.2.1 x1 x2 x3 ((aI Y 44) (x3).toNatClampNeg) x1 _ hz)
        · intro x1 x2 x3 s0 s1 Y hz
          refine hB _ _ _ _ _ (fun m1 hm1 => ?_)
          dsimp only [ugo, uwp, ust, uct, rfd, BjudgeExp, BjudgeExp_162, Nat.beq, lv_args, rlk, rs1, rs2, rdl, rky, rcd, rno, rsw, Value.category, List.filter, List.take, List.drop, List.reverse, List.reverseAux, List.cons_append, List.nil_append, Option.toList, Int.toNat, Int.reduceToNat, if_pos, if_neg, reduceIte, ↓reduceIte, Nat.reduceAdd, Nat.reduceEqDiff, Nat.reduceBEq, beq_self_eq_true, Bool.not_true, Bool.not_false, Bool.and_true, Bool.and_false, Bool.true_and, Bool.false_and, gI_sI, gI_sL, gI_sA, gI_sM, gL_sI, gL_sL, gL_sA, gL_sM, aI_sI, aI_sL, aI_sA, aI_sM, aL_sI, aL_sL, aL_sA, aL_sM]; try dsimp only
          intro p2
          refine ⟨fun h3 => ?_, fun h3 => ?_⟩
          · exact hW _ 175 [(0, .ref 1000), (1, .int x1), (2, .int x2), (3, .int x3)] _ _ _ (by simp [rdl, rky, Value.category]) ((ih m1 hm1).2.2.2.2.2.2.2.1 x1 x2 x3 s0 s1 _ hz)
          · exact hW _ 171 [(0, .ref 1000), (1, .int x1), (2, .int x2), (3, .int x3)] _ _ _ (by simp [rdl, rky, Value.category]) ((ih m1 hm1).2.2.2.2.2.2.1 x1 x2 x3 s0 s1 _ hz)
        · intro x1 x2 x3 s0 s1 Y hz
          refine hB _ _ _ _ _ (fun m1 hm1 => ?_)
          dsimp only [ugo, uwp, ust, uct, rfd, BjudgeExp, BjudgeExp_171, Nat.beq, lv_args, rlk, rs1, rs2, rdl, rky, rcd, rno, rsw, Value.category, List.filter, List.take, List.drop, List.reverse, List.reverseAux, List.cons_append, List.nil_append, Option.toList, Int.toNat, Int.reduceToNat, if_pos, if_neg, reduceIte, ↓reduceIte, Nat.reduceAdd, Nat.reduceEqDiff, Nat.reduceBEq, beq_self_eq_true, Bool.not_true, Bool.not_false, Bool.and_true, Bool.and_false, Bool.true_and, Bool.false_and, gI_sI, gI_sL, gI_sA, gI_sM, gL_sI, gL_sL, gL_sA, gL_sM, aI_sI, aI_sL, aI_sA, aI_sM, aL_sI, aL_sL, aL_sA, aL_sM, oi_1]; try dsimp only
          exact hW _ 176 [(0, .ref 1000), (1, .int x1), (2, .int x2), (3, .int x3)] _ _ _ (by simp [rdl, rky, Value.category]) ((ih m1 hm1).2.2.2.2.2.2.2.2.1 x1 x2 x3 1 s0 s1 _ hz)
        · intro x1 x2 x3 s0 s1 Y hz
          refine hB _ _ _ _ _ (fun m1 hm1 => ?_)
          dsimp only [ugo, uwp, ust, uct, rfd, BjudgeExp, BjudgeExp_175, Nat.beq, lv_args, rlk, rs1, rs2, rdl, rky, rcd, rno, rsw, Value.category, List.filter, List.take, List.drop, List.reverse, List.reverseAux, List.cons_append, List.nil_append, Option.toList, Int.toNat, Int.reduceToNat, if_pos, if_neg, reduceIte, ↓reduceIte, Nat.reduceAdd, Nat.reduceEqDiff, Nat.reduceBEq, beq_self_eq_true, Bool.not_true, Bool.not_false, Bool.and_true, Bool.and_false, Bool.true_and, Bool.false_and, gI_sI, gI_sL, gI_sA, gI_sM, gL_sI, gL_sL, gL_sA, gL_sM, aI_sI, aI_sL, aI_sA, aI_sM, aL_sI, aL_sL, aL_sA, aL_sM, oi_0]; try dsimp only
          exact hW _ 176 [(0, .ref 1000), (1, .int x1), (2, .int x2), (3, .int x3)] _ _ _ (by simp [rdl, rky, Value.category]) ((ih m1 hm1).2.2.2.2.2.2.2.2.1 x1 x2 x3 0 s0 s1 _ hz)
        · intro x1 x2 x3 s0 s1 s2 Y hz
          refine hB _ _ _ _ _ (fun m1 hm1 => ?_)
          dsimp only [ugo, uwp, ust, uct, rfd, BjudgeExp, BjudgeExp_176, Nat.beq, lv_args, rlk, rs1, rs2, rdl, rky, rcd, rno, rsw, Value.category, List.filter, List.take, List.drop, List.reverse, List.reverseAux, List.cons_append, List.nil_append, Option.toList, Int.toNat, Int.reduceToNat, if_pos, if_neg, reduceIte, ↓reduceIte, Nat.reduceAdd, Nat.reduceEqDiff, Nat.reduceBEq, beq_self_eq_true, Bool.not_true, Bool.not_false, Bool.and_true, Bool.and_false, Bool.true_and, Bool.false_and, gI_sI, gI_sL, gI_sA, gI_sM, gL_sI, gL_sL, gL_sA, gL_sM, aI_sI, aI_sL, aI_sA, aI_sM, aL_sI, aL_sL, aL_sA, aL_sM]; try dsimp only
          intro p2
          refine ⟨trivial, fun w3 τ3 hq3 => ?_⟩
          obtain ⟨rfl, rfl⟩ := hq3 trivial
          dsimp only [Option.toList, List.cons_append, List.nil_append, Nat.beq, gI_sI, gI_sL, gI_sA, gI_sM, gL_sI, gL_sL, gL_sA, gL_sM, aI_sI, aI_sL, aI_sA, aI_sM, aL_sI, aL_sL, aL_sA, aL_sM]
          exact hW _ 185 [(0, .ref 1000), (1, .int x1), (2, .int x2), (3, .int x3)] _ _ _ (by simp [rdl, rky, Value.category]) ((ih m1 hm1).2.2.2.2.2.2.2.2.2.1 x1 x2 x3 _ hz)
        · intro x1 x2 x3 Y hz
          refine hB _ _ _ _ _ (fun m1 hm1 => ?_)
          dsimp only [ugo, uwp, ust, uct, rfd, BjudgeExp, BjudgeExp_185, Nat.beq, lv_args, rlk, rs1, rs2, rdl, rky, rcd, rno, rsw, Value.category, List.filter, List.take, List.drop, List.reverse, List.reverseAux, List.cons_append, List.nil_append, Option.toList, Int.toNat, Int.reduceToNat, if_pos, if_neg, reduceIte, ↓reduceIte, Nat.reduceAdd, Nat.reduceEqDiff, Nat.reduceBEq, beq_self_eq_true, Bool.not_true, Bool.not_false, Bool.and_true, Bool.and_false, Bool.true_and, Bool.false_and, gI_sI, gI_sL, gI_sA, gI_sM, gL_sI, gL_sL, gL_sA, gL_sM, aI_sI, aI_sL, aI_sA, aI_sM, aL_sI, aL_sL, aL_sA, aL_sM]; try dsimp only
          unfold Qv_judgeExpA
          try dsimp only
          exact ⟨rfl, hz⟩
        · intro x1 x2 Y hz
          refine hB _ _ _ _ _ (fun m1 hm1 => ?_)
          dsimp only [ugo, uwp, ust, uct, rfd, BjudgeExp, BjudgeExp_186, Nat.beq, lv_args, rlk, rs1, rs2, rdl, rky, rcd, rno, rsw, Value.category, List.filter, List.take, List.drop, List.reverse, List.reverseAux, List.cons_append, List.nil_append, Option.toList, Int.toNat, Int.reduceToNat, if_pos, if_neg, reduceIte, ↓reduceIte, Nat.reduceAdd, Nat.reduceEqDiff, Nat.reduceBEq, beq_self_eq_true, Bool.not_true, Bool.not_false, Bool.and_true, Bool.and_false, Bool.true_and, Bool.false_and, gI_sI, gI_sL, gI_sA, gI_sM, gL_sI, gL_sL, gL_sA, gL_sM, aI_sI, aI_sL, aI_sA, aI_sM, aL_sI, aL_sL, aL_sA, aL_sM]; try dsimp only
          refine ⟨trivial, fun w2 τ2 hq2 => ?_⟩
          obtain ⟨rfl, hz2⟩ := hq2 hz
          dsimp only [Option.toList, List.cons_append, List.nil_append, Nat.beq, gI_sI, gI_sL, gI_sA, gI_sM, gL_sI, gL_sL, gL_sA, gL_sM, aI_sI, aI_sL, aI_sA, aI_sM, aL_sI, aL_sL, aL_sA, aL_sM]
          unfold Qv_judgeExpA
          try dsimp only
          exact ⟨rfl, hz2⟩
        · intro x1 x2 Y hz
          refine hB _ _ _ _ _ (fun m1 hm1 => ?_)
          dsimp only [ugo, uwp, ust, uct, rfd, BjudgeExp, BjudgeExp_193, Nat.beq, lv_args, rlk, rs1, rs2, rdl, rky, rcd, rno, rsw, Value.category, List.filter, List.take, List.drop, List.reverse, List.reverseAux, List.cons_append, List.nil_append, Option.toList, Int.toNat, Int.reduceToNat, if_pos, if_neg, reduceIte, ↓reduceIte, Nat.reduceAdd, Nat.reduceEqDiff, Nat.reduceBEq, beq_self_eq_true, Bool.not_true, Bool.not_false, Bool.and_true, Bool.and_false, Bool.true_and, Bool.false_and, gI_sI, gI_sL, gI_sA, gI_sM, gL_sI, gL_sL, gL_sA, gL_sM, aI_sI, aI_sL, aI_sA, aI_sM, aL_sI, aL_sL, aL_sA, aL_sM]; try dsimp only
          refine ⟨trivial, fun w2 τ2 hq2 => ?_⟩
          obtain ⟨rfl, hz2⟩ := hq2 hz
          dsimp only [Option.toList, List.cons_append, List.nil_append, Nat.beq, gI_sI, gI_sL, gI_sA, gI_sM, gL_sI, gL_sL, gL_sA, gL_sM, aI_sI, aI_sL, aI_sA, aI_sM, aL_sI, aL_sL, aL_sA, aL_sM]
          unfold Qv_judgeExpA
          try dsimp only
          exact ⟨rfl, hz2⟩
        · intro x1 x2 Y hz
          refine hB _ _ _ _ _ (fun m1 hm1 => ?_)
          dsimp only [ugo, uwp, ust, uct, rfd, BjudgeExp, BjudgeExp_199, Nat.beq, lv_args, rlk, rs1, rs2, rdl, rky, rcd, rno, rsw, Value.category, List.filter, List.take, List.drop, List.reverse, List.reverseAux, List.cons_append, List.nil_append, Option.toList, Int.toNat, Int.reduceToNat, if_pos, if_neg, reduceIte, ↓reduceIte, Nat.reduceAdd, Nat.reduceEqDiff, Nat.reduceBEq, beq_self_eq_true, Bool.not_true, Bool.not_false, Bool.and_true, Bool.and_false, Bool.true_and, Bool.false_and, gI_sI, gI_sL, gI_sA, gI_sM, gL_sI, gL_sL, gL_sA, gL_sM, aI_sI, aI_sL, aI_sA, aI_sM, aL_sI, aL_sL, aL_sA, aL_sM]; try dsimp only
          refine ⟨trivial, fun w2 τ2 hq2 => ?_⟩
          obtain ⟨rfl, hz2⟩ := hq2 hz
          dsimp only [Option.toList, List.cons_append, List.nil_append, Nat.beq, gI_sI, gI_sL, gI_sA, gI_sM, gL_sI, gL_sL, gL_sA, gL_sM, aI_sI, aI_sL, aI_sA, aI_sM, aL_sI, aL_sL, aL_sA, aL_sM]
          unfold Qv_judgeExpA
          try dsimp only
          exact ⟨rfl, hz2⟩
        · intro x1 x2 Y hz
          refine hB _ _ _ _ _ (fun m1 hm1 => ?_)
          dsimp only [ugo, uwp, ust, uct, rfd, BjudgeExp, BjudgeExp_205, Nat.beq, lv_args, rlk, rs1, rs2, rdl, rky, rcd, rno, rsw, Value.category, List.filter, List.take, List.drop, List.reverse, List.reverseAux, List.cons_append, List.nil_append, Option.toList, Int.toNat, Int.reduceToNat, if_pos, if_neg, reduceIte, ↓reduceIte, Nat.reduceAdd, Nat.reduceEqDiff, Nat.reduceBEq, beq_self_eq_true, Bool.not_true, Bool.not_false, Bool.and_true, Bool.and_false, Bool.true_and, Bool.false_and, gI_sI, gI_sL, gI_sA, gI_sM, gL_sI, gL_sL, gL_sA, gL_sM, aI_sI, aI_sL, aI_sA, aI_sM, aL_sI, aL_sL, aL_sA, aL_sM]; try dsimp only
          refine ⟨trivial, fun w2 τ2 hq2 => ?_⟩
          obtain ⟨rfl, hz2⟩ := hq2 hz
          dsimp only [Option.toList, List.cons_append, List.nil_append, Nat.beq, gI_sI, gI_sL, gI_sA, gI_sM, gL_sI, gL_sL, gL_sA, gL_sM, aI_sI, aI_sL, aI_sA, aI_sM, aL_sI, aL_sL, aL_sA, aL_sM]
          unfold Qv_judgeExpA
          try dsimp only
          exact ⟨rfl, hz2⟩
        · intro x1 x2 Y hz
          refine hB _ _ _ _ _ (fun m1 hm1 => ?_)
          dsimp only [ugo, uwp, ust, uct, rfd, BjudgeExp, BjudgeExp_211, Nat.beq, lv_args, rlk, rs1, rs2, rdl, rky, rcd, rno, rsw, Value.category, List.filter, List.take, List.drop, List.reverse, List.reverseAux, List.cons_append, List.nil_append, Option.toList, Int.toNat, Int.reduceToNat, if_pos, if_neg, reduceIte, ↓reduceIte, Nat.reduceAdd, Nat.reduceEqDiff, Nat.reduceBEq, beq_self_eq_true, Bool.not_true, Bool.not_false, Bool.and_true, Bool.and_false, Bool.true_and, Bool.false_and, gI_sI, gI_sL, gI_sA, gI_sM, gL_sI, gL_sL, gL_sA, gL_sM, aI_sI, aI_sL, aI_sA, aI_sM, aL_sI, aL_sL, aL_sA, aL_sM, oi_0, oi_1, oi_2]; try dsimp only
          refine ⟨trivial, fun w2 τ2 hq2 => ?_⟩
          obtain ⟨hA2, b2, rfl, hb2⟩ := hq2 trivial
          have hz2 := hA2 hz
          dsimp only [Option.toList, List.cons_append, List.nil_append, Nat.beq, gI_sI, gI_sL, gI_sA, gI_sM, gL_sI, gL_sL, gL_sA, gL_sM, aI_sI, aI_sL, aI_sA, aI_sM, aL_sI, aL_sL, aL_sA, aL_sM]
          refine ⟨trivial, fun w3 τ3 hq3 => ?_⟩
          obtain ⟨hA3, b3, rfl, hb3⟩ := hq3 trivial
          have hz3 := hA3 hz2
          dsimp only [Option.toList, List.cons_append, List.nil_append, Nat.beq, gI_sI, gI_sL, gI_sA, gI_sM, gL_sI, gL_sL, gL_sA, gL_sM, aI_sI, aI_sL, aI_sA, aI_sM, aL_sI, aL_sL, aL_sA, aL_sM]
          refine ⟨fun h4 => ?_, fun h4 => ?_⟩
          · exact hW _ 255 [(0, .ref 1000), (1, .int x1), (2, .int x2), (4, .int b2), (5, .int b3)] _ _ _ (by simp [rdl, rky, Value.category]) ((ih m1 hm1).2.2.2.2.2.2.2.2.2.2.2.2.2.2.2.2.1 x1 x2 b2 b3 _ hz3)
          · exact hW _ 250 [(0, .ref 1000), (1, .int x1), (2, .int x2), (4, .int b2), (5, .int b3)] _ _ _ (by simp [rdl, rky, Value.category]) ((ih m1 hm1).2.2.2.2.2.2.2.2.2.2.2.2.2.2.2.1 x1 x2 b2 b3 _ hz3)
        · intro x1 x2 x4 x5 Y hz
          refine hB _ _ _ _ _ (fun m1 hm1 => ?_)
          dsimp only [ugo, uwp, ust, uct, rfd, BjudgeExp, BjudgeExp_250, Nat.beq, lv_args, rlk, rs1, rs2, rdl, rky, rcd, rno, rsw, Value.category, List.filter, List.take, List.drop, List.reverse, List.reverseAux, List.cons_append, List.nil_append, Option.toList, Int.toNat, Int.reduceToNat, if_pos, if_neg, reduceIte, ↓reduceIte, Nat.reduceAdd, Nat.reduceEqDiff, Nat.reduceBEq, beq_self_eq_true, Bool.not_true, Bool.not_false, Bool.and_true, Bool.and_false, Bool.true_and, Bool.false_and, gI_sI, gI_sL, gI_sA, gI_sM, gL_sI, gL_sL, gL_sA, gL_sM, aI_sI, aI_sL, aI_sA, aI_sM, aL_sI, aL_sL, aL_sA, aL_sM]; try dsimp only
          refine ⟨fun h2 => ?_, fun h2 => ?_⟩
          · exact hW _ 263 [(0, .ref 1000), (1, .int x1), (2, .int x2), (4, .int x4), (5, .int x5)] _ _ _ (by simp [rdl, rky, Value.category]) ((ih m1 hm1).2.2.2.2.2.2.2.2.2.2.2.2.2.2.2.2.2.1 x1 x2 x4 x5 _ hz)
          · exact hW _ 255 [(0, .ref 1000), (1, .int x1), (2, .int x2), (4, .int x4), (5, .int x5)] _ _ _ (by simp [rdl, rky, Value.category]) ((ih m1 hm1).2.2.2.2.2.2.2.2.2.2.2.2.2.2.2.2.1 x1 x2 x4 x5 _ hz)
        · intro x1 x2 x4 x5 Y hz
          refine hB _ _ _ _ _ (fun m1 hm1 => ?_)
          dsimp only [ugo, uwp, ust, uct, rfd, BjudgeExp, BjudgeExp_255, Nat.beq, lv_args, rlk, rs1, rs2, rdl, rky, rcd, rno, rsw, Value.category, List.filter, List.take, List.drop, List.reverse, List.reverseAux, List.cons_append, List.nil_append, Option.toList, Int.toNat, Int.reduceToNat, if_pos, if_neg, reduceIte, ↓reduceIte, Nat.reduceAdd, Nat.reduceEqDiff, Nat.reduceBEq, beq_self_eq_true, Bool.not_true, Bool.not_false, Bool.and_true, Bool.and_false, Bool.true_and, Bool.false_and, gI_sI, gI_sL, gI_sA, gI_sM, gL_sI, gL_sL, gL_sA, gL_sM, aI_sI, aI_sL, aI_sA, aI_sM, aL_sI, aL_sL, aL_sA, aL_sM]; try dsimp only
          refine ⟨trivial, fun w2 τ2 hq2 => ?_⟩
          obtain ⟨rfl, rfl⟩ := hq2 trivial
          dsimp only [Option.toList, List.cons_append, List.nil_append, Nat.beq, gI_sI, gI_sL, gI_sA, gI_sM, gL_sI, gL_sL, gL_sA, gL_sM, aI_sI, aI_sL, aI_sA, aI_sM, aL_sI, aL_sL, aL_sA, aL_sM]
          exact hW _ 407 [(0, .ref 1000), (1, .int x1), (2, .int x2), (4, .int x4), (5, .int x5)] _ _ _ (by simp [rdl, rky, Value.category]) ((ih m1 hm1).2.2.2.2.2.2.2.2.2.2.2.2.2.2.2.2.2.2.2.2.2.2.2.2.2.2.2.2.2.2.2.2.2.2.2.2.1 x1 x2 x4 x5 _ hz)
        · intro x1 x2 x4 x5 Y hz
          refine hB _ _ _ _ _ (fun m1 hm1 => ?_)
          dsimp only [ugo, uwp, ust, uct, rfd, BjudgeExp, BjudgeExp_263, Nat.beq, lv_args, rlk, rs1, rs2, rdl, rky, rcd, rno, rsw, Value.category, List.filter, List.take, List.drop, List.reverse, List.reverseAux, List.cons_append, List.nil_append, Option.toList, Int.toNat, Int.reduceToNat, if_pos, if_neg, reduceIte, ↓reduceIte, Nat.reduceAdd, Nat.reduceEqDiff, Nat.reduceBEq, beq_self_eq_true, Bool.not_true, Bool.not_false, Bool.and_true, Bool.and_false, Bool.true_and, Bool.false_and, gI_sI, gI_sL, gI_sA, gI_sM, gL_sI, gL_sL, gL_sA, gL_sM, aI_sI, aI_sL, aI_sA, aI_sM, aL_sI, aL_sL, aL_sA, aL_sM]; try dsimp only
          intro p2
          refine ⟨fun h3 => ?_, fun h3 => ?_⟩
          · exact hW _ 293 [(0, .ref 1000), (1, .int x1), (2, .int x2), (4, .int x4), (5, .int x5)] _ _ _ (by simp [rdl, rky, Value.category]) ((ih m1 hm1).2.2.2.2.2.2.2.2.2.2.2.2.2.2.2.2.2.2.2.2.1 x1 x2 x4 x5 _ hz)
          · exact hW _ 275 [(0, .ref 1000), (1, .int x1), (2, .int x2), (4, .int x4), (5, .int x5)] _ _ _ (by simp [rdl, rky, Value.category]) ((ih m1 hm1).2.2.2.2.2.2.2.2.2.2.2.2.2.2.2.2.2.2.1 x1 x2 x4 x5 _ hz)
        · intro x1 x2 x4 x5 Y hz
          refine hB _ _ _ _ _ (fun m1 hm1 => ?_)
          dsimp only [ugo, uwp, ust, uct, rfd, BjudgeExp, BjudgeExp_275, Nat.beq, lv_args, rlk, rs1, rs2, rdl, rky, rcd, rno, rsw, Value.category, List.filter, List.take, List.drop, List.reverse, List.reverseAux, List.cons_append, List.nil_append, Option.toList, Int.toNat, Int.reduceToNat, if_pos, if_neg, reduceIte, ↓reduceIte, Nat.reduceAdd, Nat.reduceEqDiff, Nat.reduceBEq, beq_self_eq_true, Bool.not_true, Bool.not_false, Bool.and_true, Bool.and_false, Bool.true_and, Bool.false_and, gI_sI, gI_sL, gI_sA, gI_sM, gL_sI, gL_sL, gL_sA, gL_sM, aI_sI, aI_sL, aI_sA, aI_sM, aL_sI, aL_sL, aL_sA, aL_sM, oi_1]; try dsimp only
          intro p2
          refine ⟨fun h3 => ?_, fun h3 => ?_⟩
          · exact hW _ 293 [(0, .ref 1000), (1, .int x1), (2, .int x2), (4, .int x4), (5, .int x5)] _ _ _ (by simp [rdl, rky, Value.category]) ((ih m1 hm1).2.2.2.2.2.2.2.2.2.2.2.2.2.2.2.2.2.2.2.2.1 x1 x2 x4 x5 _ hz)
          · exact hW _ 289 [(0, .ref 1000), (1, .int x1), (2, .int x2), (4, .int x4), (5, .int x5)] _ _ _ (by simp [rdl, rky, Value.category]) ((ih m1 hm1).2.2.2.2.2.2.2.2.2.2.2.2.2.2.2.2.2.2.2.1 x1 x2 x4 x5 _ hz)
        · intro x1 x2 x4 x5 Y hz
          refine hB _ _ _ _ _ (fun m1 hm1 => ?_)
          dsimp only [ugo, uwp, ust, uct, rfd, BjudgeExp, BjudgeExp_289, Nat.beq, lv_args, rlk, rs1, rs2, rdl, rky, rcd, rno, rsw, Value.category, List.filter, List.take, List.drop, List.reverse, List.reverseAux, List.cons_append, List.nil_append, Option.toList, Int.toNat, Int.reduceToNat, if_pos, if_neg, reduceIte, ↓reduceIte, Nat.reduceAdd, Nat.reduceEqDiff, Nat.reduceBEq, beq_self_eq_true, Bool.not_true, Bool.not_false, Bool.and_true, Bool.and_false, Bool.true_and, Bool.false_and, gI_sI, gI_sL, gI_sA, gI_sM, gL_sI, gL_sL, gL_sA, gL_sM, aI_sI, aI_sL, aI_sA, aI_sM, aL_sI, aL_sL, aL_sA, aL_sM, oi_1]; try dsimp only
          exact hW _ 294 [(0, .ref 1000), (1, .int x1), (2, .int x2), (4, .int x4), (5, .int x5)] _ _ _ (by simp [rdl, rky, Value.category]) ((ih m1 hm1).2.2.2.2.2.2.2.2.2.2.2.2.2.2.2.2.2.2.2.2.2.1 x1 x2 x4 x5 1 _ hz)
        · intro x1 x2 x4 x5 Y hz
          refine hB _ _ _ _ _ (fun m1 hm1 => ?_)
          dsimp only [ugo, uwp, ust, uct, rfd, BjudgeExp, BjudgeExp_293, Nat.beq, lv_args, rlk, rs1, rs2, rdl, rky, rcd, rno, rsw, Value.category, List.filter, List.take, List.drop, List.reverse, List.reverseAux, List.cons_append, List.nil_append, Option.toList, Int.toNat, Int.reduceToNat, if_pos, if_neg, reduceIte, ↓reduceIte, Nat.reduceAdd, Nat.reduceEqDiff, Nat.reduceBEq, beq_self_eq_true, Bool.not_true, Bool.not_false, Bool.and_true, Bool.and_false, Bool.true_and, Bool.false_and, gI_sI, gI_sL, gI_sA, gI_sM, gL_sI, gL_sL, gL_sA, gL_sM, aI_sI, aI_sL, aI_sA, aI_sM, aL_sI, aL_sL, aL_sA, aL_sM, oi_0]; try dsimp only
          exact hW _ 294 [(0, .ref 1000), (1, .int x1), (2, .int x2), (4, .int x4), (5, .int x5)] _ _ _ (by simp [rdl, rky, Value.category]) ((ih m1 hm1).2.2.2.2.2.2.2.2.2.2.2.2.2.2.2.2.2.2.2.2.2.1 x1 x2 x4 x5 0 _ hz)
        · intro x1 x2 x4 x5 s0 Y hz
          refine hB _ _ _ _ _ (fun m1 hm1 => ?_)
          dsimp only [ugo, uwp, ust, uct, rfd, BjudgeExp, BjudgeExp_294, Nat.beq, lv_args, rlk, rs1, rs2, rdl, rky, rcd, rno, rsw, Value.category, List.filter, List.take, List.drop, List.reverse, List.reverseAux, List.cons_append, List.nil_append, Option.toList, Int.toNat, Int.reduceToNat, if_pos, if_neg, reduceIte, ↓reduceIte, Nat.reduceAdd, Nat.reduceEqDiff, Nat.reduceBEq, beq_self_eq_true, Bool.not_true, Bool.not_false, Bool.and_true, Bool.and_false, Bool.true_and, Bool.false_and, gI_sI, gI_sL, gI_sA, gI_sM, gL_sI, gL_sL, gL_sA, gL_sM, aI_sI, aI_sL, aI_sA, aI_sM, aL_sI, aL_sL, aL_sA, aL_sM]; try dsimp only
          intro p2
          refine ⟨fun h3 => ?_, fun h3 => ?_⟩
          · have c3 : ((aL Y 72) ((gI Y 69)).toNatClampNeg) = (0 : Int64) := (cL (a := (0 : Int64)) (b := ((aL Y 72) ((gI Y 69)).toNatClampNeg))).1.mp h3
            exact hW _ 330 [(0, .ref 1000), (1, .int x1), (2, .int x2), (4, .int x4), (5, .int x5), (6, .int s0)] _ _ _ (by simp [rdl, rky, Value.category]) ((ih m1 hm1).2.2.2.2.2.2.2.2.2.2.2.2.2.2.2.2.2.2.2.2.2.2.2.2.1 x1 x2 x4 x5 s0 _ hz)
          · have c3 : ¬ ((aL Y 72) ((gI Y 69)).toNatClampNeg) = (0 : Int64) := fun q => h3 ((cL (a := (0 : Int64)) (b := ((aL Y 72) ((gI Y 69)).toNatClampNeg))).1.mpr q)
            exact hW _ 310 [(0, .ref 1000), (1, .int x1), (2, .int x2), (4, .int x4), (5, .int x5), (6, .int s0)] _ _ _ (by simp [rdl, rky, Value.category]) ((ih m1 hm1).2.2.2.2.2.2.2.2.2.2.2.2.2.2.2.2.2.2.2.2.2.2.1 x1 x2 x4 x5 s0 _ hz)
        · intro x1 x2 x4 x5 x6 Y hz
          refine hB _ _ _ _ _ (fun m1 hm1 => ?_)
          dsimp only [ugo, uwp, ust, uct, rfd, BjudgeExp, BjudgeExp_310, Nat.beq, lv_args, rlk, rs1, rs2, rdl, rky, rcd, rno, rsw, Value.category, List.filter, List.take, List.drop, List.reverse, List.reverseAux, List.cons_append, List.nil_append, Option.toList, Int.toNat, Int.reduceToNat, if_pos, if_neg, reduceIte, ↓reduceIte, Nat.reduceAdd, Nat.reduceEqDiff, Nat.reduceBEq, beq_self_eq_true, Bool.not_true, Bool.not_false, Bool.and_true, Bool.and_false, Bool.true_and, Bool.false_and, gI_sI, gI_sL, gI_sA, gI_sM, gL_sI, gL_sL, gL_sA, gL_sM, aI_sI, aI_sL, aI_sA, aI_sM, aL_sI, aL_sL, aL_sA, aL_sM, oi_1]; try dsimp only
          intro p2
          refine ⟨fun h3 => ?_, fun h3 => ?_⟩
          · have c3 : ((aL Y 72) (((gI Y 69) + 1)).toNatClampNeg) = (0 : Int64) := (cL (a := (0 : Int64)) (b := ((aL Y 72) (((gI Y 69) + 1)).toNatClampNeg))).1.mp h3
            exact hW _ 330 [(0, .ref 1000), (1, .int x1), (2, .int x2), (4, .int x4), (5, .int x5), (6, .int x6)] _ _ _ (by simp [rdl, rky, Value.category]) ((ih m1 hm1).2.2.2.2.2.2.2.2.2.2.2.2.2.2.2.2.2.2.2.2.2.2.2.2.1 x1 x2 x4 x5 x6 _ hz)
          · have c3 : ¬ ((aL Y 72) (((gI Y 69) + 1)).toNatClampNeg) = (0 : Int64) := fun q => h3 ((cL (a := (0 : Int64)) (b := ((aL Y 72) (((gI Y 69) + 1)).toNatClampNeg))).1.mpr q)
            exact hW _ 326 [(0, .ref 1000), (1, .int x1), (2, .int x2), (4, .int x4), (5, .int x5), (6, .int x6)] _ _ _ (by simp [rdl, rky, Value.category]) ((ih m1 hm1).2.2.2.2.2.2.2.2.2.2.2.2.2.2.2.2.2.2.2.2.2.2.2.1 x1 x2 x4 x5 x6 _ hz)
        · intro x1 x2 x4 x5 x6 Y hz
          refine hB _ _ _ _ _ (fun m1 hm1 => ?_)
          dsimp only [ugo, uwp, ust, uct, rfd, BjudgeExp, BjudgeExp_326, Nat.beq, lv_args, rlk, rs1, rs2, rdl, rky, rcd, rno, rsw, Value.category, List.filter, List.take, List.drop, List.reverse, List.reverseAux, List.cons_append, List.nil_append, Option.toList, Int.toNat, Int.reduceToNat, if_pos, if_neg, reduceIte, ↓reduceIte, Nat.reduceAdd, Nat.reduceEqDiff, Nat.reduceBEq, beq_self_eq_true, Bool.not_true, Bool.not_false, Bool.and_true, Bool.and_false, Bool.true_and, Bool.false_and, gI_sI, gI_sL, gI_sA, gI_sM, gL_sI, gL_sL, gL_sA, gL_sM, aI_sI, aI_sL, aI_sA, aI_sM, aL_sI, aL_sL, aL_sA, aL_sM, oi_1]; try dsimp only
          exact hW _ 331 [(0, .ref 1000), (1, .int x1), (2, .int x2), (4, .int x4), (5, .int x5), (6, .int x6)] _ _ _ (by simp [rdl, rky, Value.category]) ((ih m1 hm1).2.2.2.2.2.2.2.2.2.2.2.2.2.2.2.2.2.2.2.2.2.2.2.2.2.1 x1 x2 x4 x5 x6 1 _ hz)
        · intro x1 x2 x4 x5 x6 Y hz
          refine hB _ _ _ _ _ (fun m1 hm1 => ?_)
          dsimp only [ugo, uwp, ust, uct, rfd, BjudgeExp, BjudgeExp_330, Nat.beq, lv_args, rlk, rs1, rs2, rdl, rky, rcd, rno, rsw, Value.category, List.filter, List.take, List.drop, List.reverse, List.reverseAux, List.cons_append, List.nil_append, Option.toList, Int.toNat, Int.reduceToNat, if_pos, if_neg, reduceIte, ↓reduceIte, Nat.reduceAdd, Nat.reduceEqDiff, Nat.reduceBEq, beq_self_eq_true, Bool.not_true, Bool.not_false, Bool.and_true, Bool.and_false, Bool.true_and, Bool.false_and, gI_sI, gI_sL, gI_sA, gI_sM, gL_sI, gL_sL, gL_sA, gL_sM, aI_sI, aI_sL, aI_sA, aI_sM, aL_sI, aL_sL, aL_sA, aL_sM, oi_0]; try dsimp only
          exact hW _ 331 [(0, .ref 1000), (1, .int x1), (2, .int x2), (4, .int x4), (5, .int x5), (6, .int x6)] _ _ _ (by simp [rdl, rky, Value.category]) ((ih m1 hm1).2.2.2.2.2.2.2.2.2.2.2.2.2.2.2.2.2.2.2.2.2.2.2.2.2.1 x1 x2 x4 x5 x6 0 _ hz)
        · intro x1 x2 x4 x5 x6 s0 Y hz
          refine hB _ _ _ _ _ (fun m1 hm1 => ?_)
          dsimp only [ugo, uwp, ust, uct, rfd, BjudgeExp, BjudgeExp_331, Nat.beq, lv_args, rlk, rs1, rs2, rdl, rky, rcd, rno, rsw, Value.category, List.filter, List.take, List.drop, List.reverse, List.reverseAux, List.cons_append, List.nil_append, Option.toList, Int.toNat, Int.reduceToNat, if_pos, if_neg, reduceIte, ↓reduceIte, Nat.reduceAdd, Nat.reduceEqDiff, Nat.reduceBEq, beq_self_eq_true, Bool.not_true, Bool.not_false, Bool.and_true, Bool.and_false, Bool.true_and, Bool.false_and, gI_sI, gI_sL, gI_sA, gI_sM, gL_sI, gL_sL, gL_sA, gL_sM, aI_sI, aI_sL, aI_sA, aI_sM, aL_sI, aL_sL, aL_sA, aL_sM]; try dsimp only
          intro p2
          refine ⟨fun h3 => ?_, fun h3 => ?_⟩
          · have c3 : ¬ ((aL Y 72) ((gI Y 69)).toNatClampNeg) = (0 : Int64) := fun q => h3 ((cL (a := (0 : Int64)) (b := ((aL Y 72) ((gI Y 69)).toNatClampNeg))).1.mpr q)
            exact hW _ 363 [(0, .ref 1000), (1, .int x1), (2, .int x2), (4, .int x4), (5, .int x5), (6, .int x6), (7, .int s0)] _ _ _ (by simp [rdl, rky, Value.category]) ((ih m1 hm1).2.2.2.2.2.2.2.2.2.2.2.2.2.2.2.2.2.2.2.2.2.2.2.2.2.2.2.1 x1 x2 x4 x5 x6 s0 _ hz)
          · have c3 : ((aL Y 72) ((gI Y 69)).toNatClampNeg) = (0 : Int64) := (cL (a := (0 : Int64)) (b := ((aL Y 72) ((gI Y 69)).toNatClampNeg))).1.mp h3
            exact hW _ 347 [(0, .ref 1000), (1, .int x1), (2, .int x2), (4, .int x4), (5, .int x5), (6, .int x6), (7, .int s0)] _ _ _ (by simp [rdl, rky, Value.category]) ((ih m1 hm1).2.2.2.2.2.2.2.2.2.2.2.2.2.2.2.2.2.2.2.2.2.2.2.2.2.2.1 x1 x2 x4 x5 x6 s0 _ hz)
        · intro x1 x2 x4 x5 x6 x7 Y hz
          refine hB _ _ _ _ _ (fun m1 hm1 => ?_)
          dsimp only [ugo, uwp, ust, uct, rfd, BjudgeExp, BjudgeExp_347, Nat.beq, lv_args, rlk, rs1, rs2, rdl, rky, rcd, rno, rsw, Value.category, List.filter, List.take, List.drop, List.reverse, List.reverseAux, List.cons_append, List.nil_append, Option.toList, Int.toNat, Int.reduceToNat, if_pos, if_neg, reduceIte, ↓reduceIte, Nat.reduceAdd, Nat.reduceEqDiff, Nat.reduceBEq, beq_self_eq_true, Bool.not_true, Bool.not_false, Bool.and_true, Bool.and_false, Bool.true_and, Bool.false_and, gI_sI, gI_sL, gI_sA, gI_sM, gL_sI, gL_sL, gL_sA, gL_sM, aI_sI, aI_sL, aI_sA, aI_sM, aL_sI, aL_sL, aL_sA, aL_sM, oi_1]; try dsimp only
          intro p2
          refine ⟨fun h3 => ?_, fun h3 => ?_⟩
          · have c3 : ((aL Y 72) (((gI Y 69) + 1)).toNatClampNeg) = (0 : Int64) := (cL (a := (0 : Int64)) (b := ((aL Y 72) (((gI Y 69) + 1)).toNatClampNeg))).1.mp h3
            exact hW _ 367 [(0, .ref 1000), (1, .int x1), (2, .int x2), (4, .int x4), (5, .int x5), (6, .int x6), (7, .int x7)] _ _ _ (by simp [rdl, rky, Value.category]) ((ih m1 hm1).2.2.2.2.2.2.2.2.2.2.2.2.2.2.2.2.2.2.2.2.2.2.2.2.2.2.2.2.1 x1 x2 x4 x5 x6 x7 _ hz)
          · have c3 : ¬ ((aL Y 72) (((gI Y 69) + 1)).toNatClampNeg) = (0 : Int64) := fun q => h3 ((cL (a := (0 : Int64)) (b := ((aL Y 72) (((gI Y 69) + 1)).toNatClampNeg))).1.mpr q)
            exact hW _ 363 [(0, .ref 1000), (1, .int x1), (2, .int x2), (4, .int x4), (5, .int x5), (6, .int x6), (7, .int x7)] _ _ _ (by simp [rdl, rky, Value.category]) ((ih m1 hm1).2.2.2.2.2.2.2.2.2.2.2.2.2.2.2.2.2.2.2.2.2.2.2.2.2.2.2.1 x1 x2 x4 x5 x6 x7 _ hz)
        · intro x1 x2 x4 x5 x6 x7 Y hz
          refine hB _ _ _ _ _ (fun m1 hm1 => ?_)
          dsimp only [ugo, uwp, ust, uct, rfd, BjudgeExp, BjudgeExp_363, Nat.beq, lv_args, rlk, rs1, rs2, rdl, rky, rcd, rno, rsw, Value.category, List.filter, List.take, List.drop, List.reverse, List.reverseAux, List.cons_append, List.nil_append, Option.toList, Int.toNat, Int.reduceToNat, if_pos, if_neg, reduceIte, ↓reduceIte, Nat.reduceAdd, Nat.reduceEqDiff, Nat.reduceBEq, beq_self_eq_true, Bool.not_true, Bool.not_false, Bool.and_true, Bool.and_false, Bool.true_and, Bool.false_and, gI_sI, gI_sL, gI_sA, gI_sM, gL_sI, gL_sL, gL_sA, gL_sM, aI_sI, aI_sL, aI_sA, aI_sM, aL_sI, aL_sL, aL_sA, aL_sM, oi_1]; try dsimp only
          exact hW _ 368 [(0, .ref 1000), (1, .int x1), (2, .int x2), (4, .int x4), (5, .int x5), (6, .int x6), (7, .int x7)] _ _ _ (by simp [rdl, rky, Value.category]) ((ih m1 hm1).2.2.2.2.2.2.2.2.2.2.2.2.2.2.2.2.2.2.2.2.2.2.2.2.2.2.2.2.2.1 x1 x2 x4 x5 x6 x7 1 _ hz)
        · intro x1 x2 x4 x5 x6 x7 Y hz
          refine hB _ _ _ _ _ (fun m1 hm1 => ?_)
          dsimp only [ugo, uwp, ust, uct, rfd, BjudgeExp, BjudgeExp_367, Nat.beq, lv_args, rlk, rs1, rs2, rdl, rky, rcd, rno, rsw, Value.category, List.filter, List.take, List.drop, List.reverse, List.reverseAux, List.cons_append, List.nil_append, Option.toList, Int.toNat, Int.reduceToNat, if_pos, if_neg, reduceIte, ↓reduceIte, Nat.reduceAdd, Nat.reduceEqDiff, Nat.reduceBEq, beq_self_eq_true, Bool.not_true, Bool.not_false, Bool.and_true, Bool.and_false, Bool.true_and, Bool.false_and, gI_sI, gI_sL, gI_sA, gI_sM, gL_sI, gL_sL, gL_sA, gL_sM, aI_sI, aI_sL, aI_sA, aI_sM, aL_sI, aL_sL, aL_sA, aL_sM, oi_0]; try dsimp only
          exact hW _ 368 [(0, .ref 1000), (1, .int x1), (2, .int x2), (4, .int x4), (5, .int x5), (6, .int x6), (7, .int x7)] _ _ _ (by simp [rdl, rky, Value.category]) ((ih m1 hm1).2.2.2.2.2.2.2.2.2.2.2.2.2.2.2.2.2.2.2.2.2.2.2.2.2.2.2.2.2.1 x1 x2 x4 x5 x6 x7 0 _ hz)
        · intro x1 x2 x4 x5 x6 x7 s0 Y hz
          refine hB _ _ _ _ _ (fun m1 hm1 => ?_)
          dsimp only [ugo, uwp, ust, uct, rfd, BjudgeExp, BjudgeExp_368, Nat.beq, lv_args, rlk, rs1, rs2, rdl, rky, rcd, rno, rsw, Value.category, List.filter, List.take, List.drop, List.reverse, List.reverseAux, List.cons_append, List.nil_append, Option.toList, Int.toNat, Int.reduceToNat, if_pos, if_neg, reduceIte, ↓reduceIte, Nat.reduceAdd, Nat.reduceEqDiff, Nat.reduceBEq, beq_self_eq_true, Bool.not_true, Bool.not_false, Bool.and_true, Bool.and_false, Bool.true_and, Bool.false_and, gI_sI, gI_sL, gI_sA, gI_sM, gL_sI, gL_sL, gL_sA, gL_sM, aI_sI, aI_sL, aI_sA, aI_sM, aL_sI, aL_sL, aL_sA, aL_sM, oi_0, oi_9]; try dsimp only
          intro p2
          refine ⟨fun h3 => ?_, fun h3 => ?_⟩
          · exact hW _ 394 [(0, .ref 1000), (1, .int x1), (2, .int x2), (4, .int x4), (5, .int x5), (6, .int x6), (7, .int x7), (8, .int s0)] _ _ _ (by simp [rdl, rky, Value.category]) ((ih m1 hm1).2.2.2.2.2.2.2.2.2.2.2.2.2.2.2.2.2.2.2.2.2.2.2.2.2.2.2.2.2.2.2.2.1 x1 x2 x4 x5 x6 x7 s0 x6 0 x1 _ hz)
          · exact hW _ 386 [(0, .ref 1000), (1, .int x1), (2, .int x2), (4, .int x4), (5, .int x5), (6, .int x6), (7, .int x7), (8, .int s0)] _ _ _ (by simp [rdl, rky, Value.category]) ((ih m1 hm1).2.2.2.2.2.2.2.2.2.2.2.2.2.2.2.2.2.2.2.2.2.2.2.2.2.2.2.2.2.2.1 x1 x2 x4 x5 x6 x7 s0 x6 0 x1 _ hz)
        · intro x1 x2 x4 x5 x6 x7 x8 s0 s1 s2 Y hz
          refine hB _ _ _ _ _ (fun m1 hm1 => ?_)
          dsimp only [ugo, uwp, ust, uct, rfd, BjudgeExp, BjudgeExp_386, Nat.beq, lv_args, rlk, rs1, rs2, rdl, rky, rcd, rno, rsw, Value.category, List.filter, List.take, List.drop, List.reverse, List.reverseAux, List.cons_append, List.nil_append, Option.toList, Int.toNat, Int.reduceToNat, if_pos, if_neg, reduceIte, ↓reduceIte, Nat.reduceAdd, Nat.reduceEqDiff, Nat.reduceBEq, beq_self_eq_true, Bool.not_true, Bool.not_false, Bool.and_true, Bool.and_false, Bool.true_and, Bool.false_and, gI_sI, gI_sL, gI_sA, gI_sM, gL_sI, gL_sL, gL_sA, gL_sM, aI_sI, aI_sL, aI_sA, aI_sM, aL_sI, aL_sL, aL_sA, aL_sM]; try dsimp only
          refine ⟨fun h2 => ?_, fun h2 => ?_⟩
          · exact hW _ 403 [(0, .ref 1000), (1, .int x1), (2, .int x2), (4, .int x4), (5, .int x5), (6, .int x6), (7, .int x7), (8, .int x8)] _ _ _ (by simp [rdl, rky, Value.category]) ((ih m1 hm1).2.2.2.2.2.2.2.2.2.2.2.2.2.2.2.2.2.2.2.2.2.2.2.2.2.2.2.2.2.2.2.2.2.2.1 x1 x2 x4 x5 x6 x7 x8 s0 s1 s2 _ hz)
          · exact hW _ 391 [(0, .ref 1000), (1, .int x1), (2, .int x2), (4, .int x4), (5, .int x5), (6, .int x6), (7, .int x7), (8, .int x8)] _ _ _ (by simp [rdl, rky, Value.category]) ((ih m1 hm1).2.2.2.2.2.2.2.2.2.2.2.2.2.2.2.2.2.2.2.2.2.2.2.2.2.2.2.2.2.2.2.1 x1 x2 x4 x5 x6 x7 x8 s0 s1 s2 _ hz)
        · intro x1 x2 x4 x5 x6 x7 x8 s0 s1 s2 Y hz
          refine hB _ _ _ _ _ (fun m1 hm1 => ?_)
          dsimp only [ugo, uwp, ust, uct, rfd, BjudgeExp, BjudgeExp_391, Nat.beq, lv_args, rlk, rs1, rs2, rdl, rky, rcd, rno, rsw, Value.category, List.filter, List.take, List.drop, List.reverse, List.reverseAux, List.cons_append, List.nil_append, Option.toList, Int.toNat, Int.reduceToNat, if_pos, if_neg, reduceIte, ↓reduceIte, Nat.reduceAdd, Nat.reduceEqDiff, Nat.reduceBEq, beq_self_eq_true, Bool.not_true, Bool.not_false, Bool.and_true, Bool.and_false, Bool.true_and, Bool.false_and, gI_sI, gI_sL, gI_sA, gI_sM, gL_sI, gL_sL, gL_sA, gL_sM, aI_sI, aI_sL, aI_sA, aI_sM, aL_sI, aL_sL, aL_sA, aL_sM]; try dsimp only
          exact hW _ 399 [(0, .ref 1000), (1, .int x1), (2, .int x2), (4, .int x4), (5, .int x5), (6, .int x6), (7, .int x7), (8, .int x8)] _ _ _ (by simp [rdl, rky, Value.category]) ((ih m1 hm1).2.2.2.2.2.2.2.2.2.2.2.2.2.2.2.2.2.2.2.2.2.2.2.2.2.2.2.2.2.2.2.2.2.1 x1 x2 x4 x5 x6 x7 x8 s0 s1 s2 _ hz)
        · intro x1 x2 x4 x5 x6 x7 x8 s0 s1 s2 Y hz
          refine hB _ _ _ _ _ (fun m1 hm1 => ?_)
          dsimp only [ugo, uwp, ust, uct, rfd, BjudgeExp, BjudgeExp_394, Nat.beq, lv_args, rlk, rs1, rs2, rdl, rky, rcd, rno, rsw, Value.category, List.filter, List.take, List.drop, List.reverse, List.reverseAux, List.cons_append, List.nil_append, Option.toList, Int.toNat, Int.reduceToNat, if_pos, if_neg, reduceIte, ↓reduceIte, Nat.reduceAdd, Nat.reduceEqDiff, Nat.reduceBEq, beq_self_eq_true, Bool.not_true, Bool.not_false, Bool.and_true, Bool.and_false, Bool.true_and, Bool.false_and, gI_sI, gI_sL, gI_sA, gI_sM, gL_sI, gL_sL, gL_sA, gL_sM, aI_sI, aI_sL, aI_sA, aI_sM, aL_sI, aL_sL, aL_sA, aL_sM]; try dsimp only
          refine ⟨fun h2 => ?_, fun h2 => ?_⟩
          · exact hW _ 403 [(0, .ref 1000), (1, .int x1), (2, .int x2), (4, .int x4), (5, .int x5), (6, .int x6), (7, .int x7), (8, .int x8)] _ _ _ (by simp [rdl, rky, Value.category]) ((ih m1 hm1).2.2.2.2.2.2.2.2.2.2.2.2.2.2.2.2.2.2.2.2.2.2.2.2.2.2.2.2.2.2.2.2.2.2.1 x1 x2 x4 x5 x6 x7 x8 s0 s1 s2 _ hz)
          · exact hW _ 399 [(0, .ref 1000), (1, .int x1), (2, .int x2), (4, .int x4), (5, .int x5), (6, .int x6), (7, .int x7), (8, .int x8)] _ _ _ (by simp [rdl, rky, Value.category]) ((ih m1 hm1).2.2.2.2.2.2.2.2.2.2.2.2.2.2.2.2.2.2.2.2.2.2.2.2.2.2.2.2.2.2.2.2.2.1 x1 x2 x4 x5 x6 x7 x8 s0 s1 s2 _ hz)
        · intro x1 x2 x4 x5 x6 x7 x8 s0 s1 s2 Y hz
          refine hB _ _ _ _ _ (fun m1 hm1 => ?_)
          dsimp only [ugo, uwp, ust, uct, rfd, BjudgeExp, BjudgeExp_399, Nat.beq, lv_args, rlk, rs1, rs2, rdl, rky, rcd, rno, rsw, Value.category, List.filter, List.take, List.drop, List.reverse, List.reverseAux, List.cons_append, List.nil_append, Option.toList, Int.toNat, Int.reduceToNat, if_pos, if_neg, reduceIte, ↓reduceIte, Nat.reduceAdd, Nat.reduceEqDiff, Nat.reduceBEq, beq_self_eq_true, Bool.not_true, Bool.not_false, Bool.and_true, Bool.and_false, Bool.true_and, Bool.false_and, gI_sI, gI_sL, gI_sA, gI_sM, gL_sI, gL_sL, gL_sA, gL_sM, aI_sI, aI_sL, aI_sA, aI_sM, aL_sI, aL_sL, aL_sA, aL_sM]; try dsimp only
          exact hW _ 404 [(0, .ref 1000), (1, .int x1), (2, .int x2), (4, .int x4), (5, .int x5), (6, .int x6), (7, .int x7), (8, .int x8)] _ _ _ (by simp [rdl, rky, Value.category]) ((ih m1 hm1).2.2.2.2.2.2.2.2.2.2.2.2.2.2.2.2.2.2.2.2.2.2.2.2.2.2.2.2.2.2.2.2.2.2.2.1 x1 x2 x4 x5 x6 x7 x8 (1 : Int64) s0 s1 s2 _ hz)
        · intro x1 x2 x4 x5 x6 x7 x8 s0 s1 s2 Y hz
          refine hB _ _ _ _ _ (fun m1 hm1 => ?_)
          dsimp only [ugo, uwp, ust, uct, rfd, BjudgeExp, BjudgeExp_403, Nat.beq, lv_args, rlk, rs1, rs2, rdl, rky, rcd, rno, rsw, Value.category, List.filter, List.take, List.drop, List.reverse, List.reverseAux, List.cons_append, List.nil_append, Option.toList, Int.toNat, Int.reduceToNat, if_pos, if_neg, reduceIte, ↓reduceIte, Nat.reduceAdd, Nat.reduceEqDiff, Nat.reduceBEq, beq_self_eq_true, Bool.not_true, Bool.not_false, Bool.and_true, Bool.and_false, Bool.true_and, Bool.false_and, gI_sI, gI_sL, gI_sA, gI_sM, gL_sI, gL_sL, gL_sA, gL_sM, aI_sI, aI_sL, aI_sA, aI_sM, aL_sI, aL_sL, aL_sA, aL_sM]; try dsimp only
          exact hW _ 404 [(0, .ref 1000), (1, .int x1), (2, .int x2), (4, .int x4), (5, .int x5), (6, .int x6), (7, .int x7), (8, .int x8)] _ _ _ (by simp [rdl, rky, Value.category]) ((ih m1 hm1).2.2.2.2.2.2.2.2.2.2.2.2.2.2.2.2.2.2.2.2.2.2.2.2.2.2.2.2.2.2.2.2.2.2.2.1 x1 x2 x4 x5 x6 x7 x8 (0 : Int64) s0 s1 s2 _ hz)
        · intro x1 x2 x4 x5 x6 x7 x8 s0 s1 s2 s3 Y hz
          refine hB _ _ _ _ _ (fun m1 hm1 => ?_)
          dsimp only [ugo, uwp, ust, uct, rfd, BjudgeExp, BjudgeExp_404, Nat.beq, lv_args, rlk, rs1, rs2, rdl, rky, rcd, rno, rsw, Value.category, List.filter, List.take, List.drop, List.reverse, List.reverseAux, List.cons_append, List.nil_append, Option.toList, Int.toNat, Int.reduceToNat, if_pos, if_neg, reduceIte, ↓reduceIte, Nat.reduceAdd, Nat.reduceEqDiff, Nat.reduceBEq, beq_self_eq_true, Bool.not_true, Bool.not_false, Bool.and_true, Bool.and_false, Bool.true_and, Bool.false_and, gI_sI, gI_sL, gI_sA, gI_sM, gL_sI, gL_sL, gL_sA, gL_sM, aI_sI, aI_sL, aI_sA, aI_sM, aL_sI, aL_sL, aL_sA, aL_sM]; try dsimp only
          refine ⟨trivial, fun w2 τ2 hq2 => ?_⟩
          obtain ⟨rfl, rfl⟩ := hq2 trivial
          dsimp only [Option.toList, List.cons_append, List.nil_append, Nat.beq, gI_sI, gI_sL, gI_sA, gI_sM, gL_sI, gL_sL, gL_sA, gL_sM, aI_sI, aI_sL, aI_sA, aI_sM, aL_sI, aL_sL, aL_sA, aL_sM]
          exact hW _ 407 [(0, .ref 1000), (1, .int x1), (2, .int x2), (4, .int x4), (5, .int x5)] _ _ _ (by simp [rdl, rky, Value.category]) ((ih m1 hm1).2.2.2.2.2.2.2.2.2.2.2.2.2.2.2.2.2.2.2.2.2.2.2.2.2.2.2.2.2.2.2.2.2.2.2.2.1 x1 x2 x4 x5 _ hz)
        · intro x1 x2 x4 x5 Y hz
          refine hB _ _ _ _ _ (fun m1 hm1 => ?_)
          dsimp only [ugo, uwp, ust, uct, rfd, BjudgeExp, BjudgeExp_407, Nat.beq, lv_args, rlk, rs1, rs2, rdl, rky, rcd, rno, rsw, Value.category, List.filter, List.take, List.drop, List.reverse, List.reverseAux, List.cons_append, List.nil_append, Option.toList, Int.toNat, Int.reduceToNat, if_pos, if_neg, reduceIte, ↓reduceIte, Nat.reduceAdd, Nat.reduceEqDiff, Nat.reduceBEq, beq_self_eq_true, Bool.not_true, Bool.not_false, Bool.and_true, Bool.and_false, Bool.true_and, Bool.false_and, gI_sI, gI_sL, gI_sA, gI_sM, gL_sI, gL_sL, gL_sA, gL_sM, aI_sI, aI_sL, aI_sA, aI_sM, aL_sI, aL_sL, aL_sA, aL_sM]; try dsimp only
          unfold Qv_judgeExpA
          try dsimp only
          exact ⟨rfl, hz⟩
        · intro x1 x2 Y hz
          refine hB _ _ _ _ _ (fun m1 hm1 => ?_)
          dsimp only [ugo, uwp, ust, uct, rfd, BjudgeExp, BjudgeExp_408, Nat.beq, lv_args, rlk, rs1, rs2, rdl, rky, rcd, rno, rsw, Value.category, List.filter, List.take, List.drop, List.reverse, List.reverseAux, List.cons_append, List.nil_append, Option.toList, Int.toNat, Int.reduceToNat, if_pos, if_neg, reduceIte, ↓reduceIte, Nat.reduceAdd, Nat.reduceEqDiff, Nat.reduceBEq, beq_self_eq_true, Bool.not_true, Bool.not_false, Bool.and_true, Bool.and_false, Bool.true_and, Bool.false_and, gI_sI, gI_sL, gI_sA, gI_sM, gL_sI, gL_sL, gL_sA, gL_sM, aI_sI, aI_sL, aI_sA, aI_sM, aL_sI, aL_sL, aL_sA, aL_sM]; try dsimp only
          refine ⟨trivial, fun w2 τ2 hq2 => ?_⟩
          obtain ⟨rfl, hz2⟩ := hq2 hz
          dsimp only [Option.toList, List.cons_append, List.nil_append, Nat.beq, gI_sI, gI_sL, gI_sA, gI_sM, gL_sI, gL_sL, gL_sA, gL_sM, aI_sI, aI_sL, aI_sA, aI_sM, aL_sI, aL_sL, aL_sA, aL_sM]
          unfold Qv_judgeExpA
          try dsimp only
          exact ⟨rfl, hz2⟩
        · intro x1 x2 Y hz
          refine hB _ _ _ _ _ (fun m1 hm1 => ?_)
          dsimp only [ugo, uwp, ust, uct, rfd, BjudgeExp, BjudgeExp_414, Nat.beq, lv_args, rlk, rs1, rs2, rdl, rky, rcd, rno, rsw, Value.category, List.filter, List.take, List.drop, List.reverse, List.reverseAux, List.cons_append, List.nil_append, Option.toList, Int.toNat, Int.reduceToNat, if_pos, if_neg, reduceIte, ↓reduceIte, Nat.reduceAdd, Nat.reduceEqDiff, Nat.reduceBEq, beq_self_eq_true, Bool.not_true, Bool.not_false, Bool.and_true, Bool.and_false, Bool.true_and, Bool.false_and, gI_sI, gI_sL, gI_sA, gI_sM, gL_sI, gL_sL, gL_sA, gL_sM, aI_sI, aI_sL, aI_sA, aI_sM, aL_sI, aL_sL, aL_sA, aL_sM, oi_1]; try dsimp only
          intro p2
          intro p3
          intro p4
          refine ⟨trivial, fun w5 τ5 hq5 => ?_⟩
          obtain ⟨rfl, rfl⟩ := hq5 trivial
          dsimp only [Option.toList, List.cons_append, List.nil_append, Nat.beq, gI_sI, gI_sL, gI_sA, gI_sM, gL_sI, gL_sL, gL_sA, gL_sM, aI_sI, aI_sL, aI_sA, aI_sM, aL_sI, aL_sL, aL_sA, aL_sM]
          unfold Qv_judgeExpA
          try dsimp only
          exact ⟨rfl, hz⟩
        · intro x1 x2 Y hz
          refine hB _ _ _ _ _ (fun m1 hm1 => ?_)
          dsimp only [ugo, uwp, ust, uct, rfd, BjudgeExp, BjudgeExp_457, Nat.beq, lv_args, rlk, rs1, rs2, rdl, rky, rcd, rno, rsw, Value.category, List.filter, List.take, List.drop, List.reverse, List.reverseAux, List.cons_append, List.nil_append, Option.toList, Int.toNat, Int.reduceToNat, if_pos, if_neg, reduceIte, ↓reduceIte, Nat.reduceAdd, Nat.reduceEqDiff, Nat.reduceBEq, beq_self_eq_true, Bool.not_true, Bool.not_false, Bool.and_true, Bool.and_false, Bool.true_and, Bool.false_and, gI_sI, gI_sL, gI_sA, gI_sM, gL_sI, gL_sL, gL_sA, gL_sM, aI_sI, aI_sL, aI_sA, aI_sM, aL_sI, aL_sL, aL_sA, aL_sM]; try dsimp only
          refine ⟨trivial, fun w2 τ2 hq2 => ?_⟩
          obtain ⟨rfl, hz2⟩ := hq2 hz
          dsimp only [Option.toList, List.cons_append, List.nil_append, Nat.beq, gI_sI, gI_sL, gI_sA, gI_sM, gL_sI, gL_sL, gL_sA, gL_sM, aI_sI, aI_sL, aI_sA, aI_sM, aL_sI, aL_sL, aL_sA, aL_sM]
          unfold Qv_judgeExpA
          try dsimp only
          exact ⟨rfl, hz2⟩
        · intro x1 x2 Y hz
          refine hB _ _ _ _ _ (fun m1 hm1 => ?_)
          dsimp only [ugo, uwp, ust, uct, rfd, BjudgeExp, BjudgeExp_464, Nat.beq, lv_args, rlk, rs1, rs2, rdl, rky, rcd, rno, rsw, Value.category, List.filter, List.take, List.drop, List.reverse, List.reverseAux, List.cons_append, List.nil_append, Option.toList, Int.toNat, Int.reduceToNat, if_pos, if_neg, reduceIte, ↓reduceIte, Nat.reduceAdd, Nat.reduceEqDiff, Nat.reduceBEq, beq_self_eq_true, Bool.not_true, Bool.not_false, Bool.and_true, Bool.and_false, Bool.true_and, Bool.false_and, gI_sI, gI_sL, gI_sA, gI_sM, gL_sI, gL_sL, gL_sA, gL_sM, aI_sI, aI_sL, aI_sA, aI_sM, aL_sI, aL_sL, aL_sA, aL_sM]; try dsimp only
          refine ⟨trivial, fun w2 τ2 hq2 => ?_⟩
          obtain ⟨rfl, hz2⟩ := hq2 hz
          dsimp only [Option.toList, List.cons_append, List.nil_append, Nat.beq, gI_sI, gI_sL, gI_sA, gI_sM, gL_sI, gL_sL, gL_sA, gL_sM, aI_sI, aI_sL, aI_sA, aI_sM, aL_sI, aL_sL, aL_sA, aL_sM]
          unfold Qv_judgeExpA
          try dsimp only
          exact ⟨rfl, hz2⟩
        · intro x1 x2 Y hz
          refine hB _ _ _ _ _ (fun m1 hm1 => ?_)
          dsimp only [ugo, uwp, ust, uct, rfd, BjudgeExp, BjudgeExp_471, Nat.beq, lv_args, rlk, rs1, rs2, rdl, rky, rcd, rno, rsw, Value.category, List.filter, List.take, List.drop, List.reverse, List.reverseAux, List.cons_append, List.nil_append, Option.toList, Int.toNat, Int.reduceToNat, if_pos, if_neg, reduceIte, ↓reduceIte, Nat.reduceAdd, Nat.reduceEqDiff, Nat.reduceBEq, beq_self_eq_true, Bool.not_true, Bool.not_false, Bool.and_true, Bool.and_false, Bool.true_and, Bool.false_and, gI_sI, gI_sL, gI_sA, gI_sM, gL_sI, gL_sL, gL_sA, gL_sM, aI_sI, aI_sL, aI_sA, aI_sM, aL_sI, aL_sL, aL_sA, aL_sM]; try dsimp only
          unfold Qv_judgeExpA
          try dsimp only
          exact ⟨rfl, hz⟩
    intro n0
    exact (all n0).1 c σ hP
  next => exact hP.elim
theorem w_judgeExpA : UMet 88 (fun _ _ => True) Qw_judgeExpA := fun A1 σ _ w τ h hP => v_judgeExpA A1 σ hP w τ h
