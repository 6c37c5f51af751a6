/-! SURELY assigned, purely, as the class goes -/
def allB : Int64 := Int64.ofInt (-1)
def zerB : Int64 := Int64.ofNat ((0 : Fin 2) : Nat)
def bitQ (v : Int) : Int64 := Int64.ofNat ((1 : Fin 2) : Nat) <<< ((Int32.ofInt v).toInt64 &&& 63)
def hasQ (m : Int64) (v : Int) : Bool := m.toBitVec.getLsbD v.toNat
/-- when true, when false, what is left for later, whether an ERROR is told -/
abbrev WzS : Type := Int64 × Int64 × List Int64 × Bool
def fxT (t : TvT) : Bool := decide (¬ t.2.1 = 0) && decide (t.1 = 0)
/-- both sides come together -/
def jnT (t : TvT) (more : Int64) (w : WzS) : WzS := (if (fxT t && decide (t.2.2.1 = zerB)) = true then allB else (w.1 &&& w.2.1) ||| more, if (fxT t && decide (t.2.2.1 = Int64.ofNat ((1 : Fin 2) : Nat))) = true then allB else (w.1 &&& w.2.1) ||| more, w.2.2)
def erW (w : WzS) : WzS := (w.1, w.2.1, w.2.2.1, true)
def tkW (t : TvT) (lk : Int) (w : WzS) : WzS := jnT t zerB (if t.2.1 = 0 ∧ 0 ≤ lk ∧ hasQ (w.1 &&& w.2.1) lk = false then erW w else w)
def toA (m : Int64) (w : WzS) : WzS := if w.2.2.1.length < 500 then (w.1, w.2.1, m :: w.2.2.1, w.2.2.2) else w
def frA (w : WzS) : Int64 × WzS := match w.2.2.1 with
  | [] => (allB, w)
  | m :: l => (m, (w.1, w.2.1, l, w.2.2.2))
def beW (m : Int64) (w : WzS) : WzS := (m, m, w.2.2)
def fkW (later now : Int64) (w : WzS) : WzS := beW now (toA later w)
def elW (w : WzS) : WzS := (fun (q : Int64 × WzS) => beW q.1 (toA q.2.2.1 (toA q.2.1 q.2))) (frA w)
def andF (w : WzS) : WzS := (fun (q : Int64 × WzS) => (q.2.1, q.2.2.1 &&& q.1, q.2.2.2)) (frA w)
def andT (w : WzS) : WzS := (fun (q : Int64 × WzS) => (q.2.1 &&& q.1, q.2.2)) (frA w)
def chW (t : TvT) (sg : Int) (w : WzS) : WzS := if sg = 21 then andF w else if sg = 20 then andT w else jnT t zerB w
/-- one exp -/
def paW (x : XrZ) (t : TvT) (w : WzS) : WzS :=
  if x.1.1 = 3 then w
  else if x.1.1 = 11 then (if x.1.2.1 = 21 then fkW w.2.1 w.1 w else fkW w.1 w.2.1 w)
  else if x.1.1 = 12 then fkW w.2.1 w.1 w
  else if x.1.1 = 13 then elW w
  else if x.1.1 = 8 then andT (andF w)
  else if x.1.1 = 7 then chW t x.1.2.1 w
  else if x.1.1 = 4 then (if x.1.2.1 = 39 then (w.2.1, w.1, w.2.2) else w)
  else if x.1.1 = 2 ∨ x.1.1 = 14 ∨ x.1.1 = 6 then tkW t x.2.1.2.1 w
  else if x.1.1 = 9 then jnT t (if x.2.1.2.1 < 0 then zerB else bitQ x.2.1.2.1) w
  else jnT t zerB w
theorem pa_3 {x : XrZ} {t : TvT} {w : WzS} (h : x.1.1 = 3) : paW x t w = w := by unfold paW; rw [if_pos h]
theorem pa_11 {x : XrZ} {t : TvT} {w : WzS} (h : x.1.1 = 11) : paW x t w = (if x.1.2.1 = 21 then fkW w.2.1 w.1 w else fkW w.1 w.2.1 w) := by unfold paW; rw [if_neg (by omega), if_pos h]
theorem pa_12 {x : XrZ} {t : TvT} {w : WzS} (h : x.1.1 = 12) : paW x t w = fkW w.2.1 w.1 w := by unfold paW; rw [if_neg (by omega), if_neg (by omega), if_pos h]
theorem pa_13 {x : XrZ} {t : TvT} {w : WzS} (h : x.1.1 = 13) : paW x t w = elW w := by unfold paW; rw [if_neg (by omega), if_neg (by omega), if_neg (by omega), if_pos h]
theorem pa_8 {x : XrZ} {t : TvT} {w : WzS} (h : x.1.1 = 8) : paW x t w = andT (andF w) := by unfold paW; rw [if_neg (by omega), if_neg (by omega), if_neg (by omega), if_neg (by omega), if_pos h]
theorem pa_7 {x : XrZ} {t : TvT} {w : WzS} (h : x.1.1 = 7) : paW x t w = chW t x.1.2.1 w := by unfold paW; rw [if_neg (by omega), if_neg (by omega), if_neg (by omega), if_neg (by omega), if_neg (by omega), if_pos h]
theorem pa_4 {x : XrZ} {t : TvT} {w : WzS} (h : x.1.1 = 4) : paW x t w = (if x.1.2.1 = 39 then (w.2.1, w.1, w.2.2) else w) := by unfold paW; rw [if_neg (by omega), if_neg (by omega), if_neg (by omega), if_neg (by omega), if_neg (by omega), if_neg (by omega), if_pos h]
theorem pa_2 {x : XrZ} {t : TvT} {w : WzS} (h : x.1.1 = 2 ∨ x.1.1 = 14 ∨ x.1.1 = 6) : paW x t w = tkW t x.2.1.2.1 w := by unfold paW; rw [if_neg (by omega), if_neg (by omega), if_neg (by omega), if_neg (by omega), if_neg (by omega), if_neg (by omega), if_neg (by omega), if_pos h]
theorem pa_9 {x : XrZ} {t : TvT} {w : WzS} (h : x.1.1 = 9) : paW x t w = jnT t (if x.2.1.2.1 < 0 then zerB else bitQ x.2.1.2.1) w := by unfold paW; rw [if_neg (by omega), if_neg (by omega), if_neg (by omega), if_neg (by omega), if_neg (by omega), if_neg (by omega), if_neg (by omega), if_neg (by omega), if_pos h]
theorem pa_o {x : XrZ} {t : TvT} {w : WzS} (h : ¬ (x.1.1 = 3 ∨ x.1.1 = 11 ∨ x.1.1 = 12 ∨ x.1.1 = 13 ∨ x.1.1 = 8 ∨ x.1.1 = 7 ∨ x.1.1 = 4 ∨ x.1.1 = 2 ∨ x.1.1 = 14 ∨ x.1.1 = 6 ∨ x.1.1 = 9)) : paW x t w = jnT t zerB w := by unfold paW; rw [if_neg (by omega), if_neg (by omega), if_neg (by omega), if_neg (by omega), if_neg (by omega), if_neg (by omega), if_neg (by omega), if_neg (by omega), if_neg (by omega)]
/-- n exps from k on -/
def bxL (z : ZS) (T : TbT) : Nat → Nat → WzS → WzS
  | 0, _, w => w
  | n + 1, k, w => bxL z T n (k + 1) (paW (xth z k) (T.1 k) w)
/-- an exp by its number, or none -/
def bxW (z : ZS) (T : TbT) (x : Int) (m : Int64) (w : WzS) : WzS := if x < 0 then (m, m, [], w.2.2.2) else bxL z T (x + 1 - (xth z x.toNat).2.2.1.1).toNat (xth z x.toNat).2.2.1.1.toNat (m, m, [], w.2.2.2)
def noW (w : WzS) : Int64 := w.1 &&& w.2.1
/-- what the class keeps of it -/
def WzC (E : Nat → Nat) (σ : CsC) (w : WzS) : Prop := (fLC σ (E 4) 91 = w.1 ∧ fLC σ (E 4) 92 = w.2.1 ∧ (fIC σ (E 4) 94).toInt = (w.2.2.1.length : Int)) ∧ (w.2.2.1.length ≤ 500 ∧ fRC σ (E 4) 93 = some (E 93) ∧ E 93 < cnC σ) ∧ (∀ i, i < w.2.2.1.length → eLC σ (E 93) i = w.2.2.1.getD (w.2.2.1.length - 1 - i) 0) ∧ (erC E σ ↔ w.2.2.2 = true)
theorem WzC.t {E : Nat → Nat} {σ τ : CsC} {w : WzS} {m : Int64} (h : WzC E σ w) (e : pLC σ (E 4) 91 m = τ) : WzC E τ (m, w.2) := by
  rw [← e]
  refine ⟨⟨?_, ?_, h.1.2.2⟩, h.2.1, h.2.2.1, h.2.2.2⟩
  · show u2C (fLC σ) (E 4) 91 m (E 4) 91 = m
    exact u2C_eq
  · show u2C (fLC σ) (E 4) 91 m (E 4) 92 = w.2.1
    rw [u2C_nk (by decide)]
    exact h.1.2.1
theorem WzC.f {E : Nat → Nat} {σ τ : CsC} {w : WzS} {m : Int64} (h : WzC E σ w) (e : pLC σ (E 4) 92 m = τ) : WzC E τ (w.1, m, w.2.2) := by
  rw [← e]
  refine ⟨⟨?_, ?_, h.1.2.2⟩, h.2.1, h.2.2.1, h.2.2.2⟩
  · show u2C (fLC σ) (E 4) 92 m (E 4) 91 = w.1
    rw [u2C_nk (by decide)]
    exact h.1.1
  · show u2C (fLC σ) (E 4) 92 m (E 4) 92 = m
    exact u2C_eq
theorem WzC.we {E : Nat → Nat} {σ τ : CsC} {w : WzS} (h : WzC E σ w) (g : WeC σ τ) : WzC E τ w := by
  unfold WzC at *
  rw [er_we g, we_i g, we_l g, we_r g, we_el g, we_c g]
  exact h
theorem WzC.x {E : Nat → Nat} {σ τ : CsC} {w : WzS} (h : WzC E σ w) (f : FrE [217, 218] σ τ) (hl : E 4 < cnC σ) (hb : erC E τ) : WzC E τ (erW w) := by
  have q := (f.2 rfl (E 4) hl).1
  have q2 := f.2 rfl (E 93) h.2.1.2.2
  refine ⟨⟨(q 91 rfl).2.1.trans h.1.1, (q 92 rfl).2.1.trans h.1.2.1, by rw [(q 94 rfl).1]; exact h.1.2.2⟩, ⟨h.2.1.1, (q 93 rfl).2.2.trans h.2.1.2.1, Nat.lt_of_lt_of_le h.2.1.2.2 f.1⟩, fun i hi => ?_, iff_of_true hb rfl⟩
  rw [q2.2.2.1 rfl]
  exact h.2.2.1 i hi
theorem WzC.to {E : Nat → Nat} {σ τ υ : CsC} {w : WzS} {m : Int64} {k k1 : Int32} (h : WzC E σ w) (hk : k.toNatClampNeg = w.2.2.1.length) (hl : w.2.2.1.length < 500) (e : qLC σ (E 93) (vp_updL (eLC σ (E 93)) k.toNatClampNeg m) = τ) (e2 : pIC τ (E 4) 94 k1 = υ) (hk1 : k1.toInt = (w.2.2.1.length : Int) + 1) : WzC E υ (toA m w) := by
  unfold toA
  rw [if_pos hl, ← e2, ← e]
  refine ⟨⟨h.1.1, h.1.2.1, ?_⟩, ⟨?_, h.2.1.2⟩, fun i hi => ?_, ?_⟩
  · show (u2C (fIC (qLC σ (E 93) _)) (E 4) 94 k1 (E 4) 94).toInt = _
    rw [u2C_eq, hk1]
    show _ = ((m :: w.2.2.1).length : Int)
    rw [List.length_cons]
    omega
  · show (m :: w.2.2.1).length ≤ 500
    rw [List.length_cons]
    omega
  · show u1C (eLC σ) (E 93) _ (E 93) i = (m :: w.2.2.1).getD ((m :: w.2.2.1).length - 1 - i) 0
    have hi : i < w.2.2.1.length + 1 := hi
    rw [u1C_eq, List.length_cons, hk]
    by_cases c : i = w.2.2.1.length
    · rw [c, show w.2.2.1.length + 1 - 1 - w.2.2.1.length = 0 by omega]
      exact if_pos rfl
    · rw [show w.2.2.1.length + 1 - 1 - i = (w.2.2.1.length - 1 - i) + 1 by omega]
      show _ = w.2.2.1.getD (w.2.2.1.length - 1 - i) 0
      rw [← h.2.2.1 i (by omega)]
      exact if_neg c
  · show (¬ u2C (fIC (qLC σ (E 93) _)) (E 4) 94 k1 (E 1) 217 = 0) ↔ _
    rw [u2C_nk (by decide)]
    exact h.2.2.2
theorem WzC.fo {E : Nat → Nat} {σ τ : CsC} {w : WzS} {k1 : Int32} {m : Int64} {l : List Int64} (h : WzC E σ w) (hw : w.2.2.1 = m :: l) (e : pIC σ (E 4) 94 k1 = τ) (hk1 : k1.toInt = (l.length : Int)) : WzC E τ (w.1, w.2.1, l, w.2.2.2) ∧ eLC τ (E 93) l.length = m := by
  rw [← e]
  refine ⟨⟨⟨h.1.1, h.1.2.1, ?_⟩, ⟨?_, h.2.1.2⟩, fun i hi => ?_, ?_⟩, ?_⟩
  · show (u2C (fIC σ) (E 4) 94 k1 (E 4) 94).toInt = _
    rw [u2C_eq, hk1]
  · have := h.2.1.1
    rw [hw, List.length_cons] at this
    show l.length ≤ 500
    omega
  · have q := h.2.2.1 i (by rw [hw, List.length_cons]; have hi : i < l.length := hi; omega)
    rw [hw, List.length_cons] at q
    have hi : i < l.length := hi
    rw [show l.length + 1 - 1 - i = (l.length - 1 - i) + 1 by omega] at q
    exact q
  · show (¬ u2C (fIC σ) (E 4) 94 k1 (E 1) 217 = 0) ↔ _
    rw [u2C_nk (by decide)]
    exact h.2.2.2
  · have q := h.2.2.1 l.length (by rw [hw, List.length_cons]; omega)
    rw [hw, List.length_cons, show l.length + 1 - 1 - l.length = 0 by omega] at q
    exact q
theorem frA_n {w : WzS} (h : w.2.2.1 = []) : frA w = (allB, w) := by unfold frA; rw [h]
theorem frA_c {w : WzS} {m : Int64} {l : List Int64} (h : w.2.2.1 = m :: l) : frA w = (m, (w.1, w.2.1, l, w.2.2.2)) := by unfold frA; rw [h]
theorem toA_t {m : Int64} {w : WzS} : (toA m w).1 = w.1 := by unfold toA; split <;> rfl
theorem toA_f {m : Int64} {w : WzS} : (toA m w).2.1 = w.2.1 := by unfold toA; split <;> rfl
theorem frA_t {w : WzS} : (frA w).2.1 = w.1 := by unfold frA; split <;> rfl
theorem frA_f {w : WzS} : (frA w).2.2.1 = w.2.1 := by unfold frA; split <;> rfl
theorem WzC.z {E : Nat → Nat} {σ τ : CsC} {w : WzS} {k : Int32} (h : WzC E σ w) (e : pIC σ (E 4) 94 k = τ) (hk : k.toInt = 0) : WzC E τ (w.1, w.2.1, [], w.2.2.2) := by
  rw [← e]
  refine ⟨⟨h.1.1, h.1.2.1, ?_⟩, ⟨Nat.zero_le _, h.2.1.2⟩, fun i hi => absurd hi (Nat.not_lt_zero _), ?_⟩
  · show (u2C (fIC σ) (E 4) 94 k (E 4) 94).toInt = _
    rw [u2C_eq, hk]
    rfl
  · show (¬ u2C (fIC σ) (E 4) 94 k (E 1) 217 = 0) ↔ _
    rw [u2C_nk (by decide)]
    exact h.2.2.2
