/-! the reference between two calls: the program that stands, judged or not -/
def RfU (N : Int → Int) (σ : RS) (s : SpC) (z : ZS) : Prop := (gI σ 68 = 0 ∧ RdB N σ s z) ∨ (gI σ 68 = 1 ∧ JuR N σ s z)
section
variable {N : Int → Int} {σ τ : RS} {s : SpC} {z : ZS}
theorem RfU.f8 (h : RfU N σ s z) (f : F8 σ τ) : RfU N τ s z := by
  rcases h with ⟨a, b⟩ | ⟨a, σ0, τ0, b, c, d, e⟩
  · exact Or.inl ⟨f.2.trans a, b.f9 f.1⟩
  · exact Or.inr ⟨f.2.trans a, σ0, τ0, b, c, d, e.tr f⟩
theorem RfU.jd (h : RfU N σ s z) (h91 : gI σ 91 = 0) (j : JdR σ τ) : gI τ 68 = 1 ∧ JuR N τ s z := by
  rcases h with ⟨a, b⟩ | ⟨a, b⟩
  · rcases j with ⟨n, _⟩ | ⟨_, e⟩
    · exact absurd a n
    · exact ⟨w_68 e, σ, τ, b, h91, e, F8.rf⟩
  · rcases j with ⟨_, rfl⟩ | ⟨n, _⟩
    · exact ⟨a, b⟩
    · rw [a] at n
      exact absurd n (by decide)
theorem JuR.f8 (h : JuR N σ s z) (f : F8 σ τ) : JuR N τ s z := by
  obtain ⟨σ0, τ0, b, c, d, e⟩ := h
  exact ⟨σ0, τ0, b, c, d, e.tr f⟩
theorem hx_jd (h : HX σ τ) : ∃ X, JdR σ X ∧ F8 X τ := by
  obtain ⟨X, b, e, f⟩ := h
  exact ⟨X, ((w_isGood [] σ trivial _ X e) trivial).1, f⟩
theorem RfU.hx (h : RfU N σ s z) (h91 : gI σ 91 = 0) (j : HX σ τ) : gI τ 68 = 1 ∧ JuR N τ s z := by
  obtain ⟨X, j, f⟩ := hx_jd j
  have q := h.jd h91 j
  exact ⟨f.2.trans q.1, q.2.f8 f⟩
theorem RfU.ju (h : gI τ 68 = 1 ∧ JuR N τ s z) : RfU N τ s z := Or.inr h
theorem nv_c {x y : TxY} (hb : btY x = btY y) : ∀ (f : Nat) (e v : Int), nvY x f e v = nvY y f e v := by
  intro f
  induction f with
  | zero => exact fun _ _ => rfl
  | succ f ih => intro e v; rw [nvY, nvY, hb, ih]
theorem nwo_c {x y : TxY} {i : Int} {v : Int64} (e : EqT x y) (h : WoC x i v) : WoC y i v := by
  obtain ⟨h1, h2, h3⟩ := h
  have o := one_c (bt_q e) e.1 i
  refine ⟨fun q => ?_, fun q => ?_, fun q => ?_⟩
  · rw [← o] at q
    have r := h1 q
    show v.toInt = kyY (nmY y (y.2 - i).toNat i []).2
    rw [← nm_c (bt_q e), ← e.1]
    exact r
  · rw [← o] at q
    have r := h2 q
    rw [← nv_c (bt_q e), ← e.1]
    exact r
  · rw [← o] at q
    rw [← bt_q e]
    exact h3 q
theorem TkS.c8 {x y : TxY} {s : SpC} {n : Nat} (h : TkS x s n) (e : EqT x y) : TkS y s n := by
  obtain ⟨h1, h2, h3, h4⟩ := h
  refine ⟨h1, fun j hj => ?_, ?_, ?_⟩
  · have q := h2 j hj
    rw [at_c e, one_c (bt_q e) e.1, e.1] at q
    exact q
  · rw [at_c e] at h3
    exact h3
  · rw [at_c e, one_c (bt_q e) e.1, e.1] at h4
    exact h4
theorem NwN.c {x y : TxY} {n : Nat} (h : NwN N x n) (e : EqT x y) : NwN N y n := by
  intro k hk
  obtain ⟨v, a, b⟩ := h k hk
  refine ⟨v, a, ?_⟩
  rw [← at_c e]
  exact nwo_c e b
/-- a text is read well -/
theorem rfu_of {ρ T U : RS} {x : TxY} {n : Nat} (hok : okY x) (hx : (gI ρ 1).toInt = x.2 ∧ ∀ j, (aI ρ 0 j).toInt = x.1 j) (hZ : Z0Y s) (hT : TkS x s n) (hN : NwN N x n) (e1 : EvM 6 [] ρ none T) (e2 : EvM 37 [] T (some (.int 1)) U) : RdB N U s (prM N 11 (z0S s)) := by
  have L : (none : Option Value) = none ∧ LxQ ρ T x := w_lexer [] ρ trivial none T e1 x ⟨hok, hx⟩
  rcases rdb_of hok hx hZ hT hN e1 (sh_of hok L.2 hT hZ) e2 with ⟨q, _⟩ | ⟨_, h, _⟩
  · exact absurd q (by decide)
  · exact h
theorem RnG2.rb {ρ : RS} {n : Nat} (hI : IV ρ) (hZ : Z0Y s) (hT : TkS (txR ρ) s n) (hN : NwN N (txR ρ) n) (h : RnG2 ρ τ) (h68 : gI τ 68 = 0) : RfU N τ s (prM N 11 (z0S s)) := by
  obtain ⟨T, U, e1, e2, _, _, f⟩ := h
  exact Or.inl ⟨h68, (rfu_of (tx_ok hI) ⟨rfl, fun _ => rfl⟩ hZ hT hN e1 e2).f9 f⟩
/-- a text is read badly: what is kept is read again -/
theorem RnB2.rb {ρ : RS} {y : TxY} {n : Nat} (h : RnB2 ρ τ) (hy : okY y) (h2 : y.2 = (gI ρ 119).toInt) (h1 : ∀ j : Nat, (j : Int) < y.2 → y.1 j = (aI ρ 118 j).toInt) (hZ : Z0Y s) (hT : TkS y s n) (hN : NwN N y n) : RfU N τ s (prM N 11 (z0S s)) := by
  obtain ⟨⟨X, T, U, ⟨x1, x2, x3⟩, e1, e2, hkt, hkq, q⟩, -⟩ := h
  have e0 : (0 : Int32).toInt = 0 := rfl
  have e256 : (256 : Int32).toInt = 256 := rfl
  have hq : EqT y (txR X) := by
    refine ⟨?_, fun j hj => ?_⟩
    · show y.2 = (gI X 1).toInt
      rw [x1, h2]
    · show y.1 j = (aI X 0 j).toInt
      rw [h1 j hj, x3 j (by show j < (gI ρ 119).toInt.toNat; omega)]
  have hok : okY (txR X) := by
    refine ⟨fun j => ?_, ?_, ?_⟩
    · have y1 := Int32.le_iff_toInt_le.mp (x2 j).1
      have y2 := Int32.lt_iff_toInt_lt.mp (x2 j).2
      show 0 ≤ (aI X 0 j).toInt ∧ (aI X 0 j).toInt ≤ 255
      omega
    · rw [← hq.1]; exact hy.2.1
    · rw [← hq.1]; exact hy.2.2
  have R := rfu_of (x := txR X) hok ⟨rfl, fun _ => rfl⟩ hZ (hT.c8 hq) (hN.c hq) e1 e2
  rcases q with ⟨_, z8, f⟩ | ⟨_, V, f, v91, ev⟩
  · exact Or.inl ⟨z8, R.f9 f⟩
  · exact Or.inr ⟨w_68 ev, V, τ, R.f9 f, v91, ev, F8.rf⟩
end
