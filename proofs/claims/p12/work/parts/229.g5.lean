/-! the reference shows what is read -/
def sgT : List (Int × Int) := [(40, 0), (41, 1), (123, 2), (125, 3), (59, 4), (44, 5), (58, 6), (63, 7), (61, 8), (443, 9), (445, 10), (442, 11), (447, 12), (437, 13), (438, 14), (524, 15), (494, 16), (704, 17), (705, 18), (706, 19), (308, 20), (307, 21), (124, 22), (94, 23), (38, 24), (300, 25), (301, 26), (60, 27), (302, 28), (62, 29), (303, 30), (304, 31), (305, 32), (306, 33), (43, 34), (45, 35), (42, 36), (47, 37), (37, 38), (33, 39), (126, 40), (309, 41), (310, 42)]
def wdR (w : Int) : Int := if w = 9 then 10 else if w = 10 then 9 else w
/-- kind and what of a token, its code -/
def tkR (k w c : Int) : Prop := (k = 0 ∧ c = 84) ∨ (k = 6 ∧ c = 85) ∨ (k = 1 ∧ c = 80) ∨ (k = 2 ∧ (c = 81 ∨ c = 82)) ∨ (k = 3 ∧ c = 83) ∨ (k = 4 ∧ 0 ≤ w ∧ w ≤ 23 ∧ c = 50 + wdR w) ∨ (k = 5 ∧ (w, c) ∈ sgT)
theorem sgT_in : ∀ p ∈ sgT, ∀ q ∈ sgT, (p.1 = q.1 ↔ p.2 = q.2) := by decide
theorem sgT_rg : ∀ p ∈ sgT, 0 ≤ p.2 ∧ p.2 ≤ 42 := by decide
theorem sgT_set : ∀ p ∈ sgT, ((p.1 = 61 ∨ 400 < p.1) ↔ (8 ≤ p.2 ∧ p.2 ≤ 19)) := by decide
theorem wdR_b {w : Int} : (0 ≤ w ∧ w ≤ 23) ↔ (0 ≤ wdR w ∧ wdR w ≤ 23) := by unfold wdR; split <;> (try split) <;> omega
theorem wdR_i {w v : Int} : wdR w = wdR v ↔ w = v := by unfold wdR; split <;> split <;> (try split) <;> (try split) <;> omega
theorem tk_sg {k w c a d : Int} (h : tkR k w c) (m : (a, d) ∈ sgT) : (k = 5 ∧ w = a) ↔ c = d := by
  have r := sgT_rg _ m
  have r1 : 0 ≤ d ∧ d ≤ 42 := r
  rcases h with h | h | h | h | h | ⟨h, hw0, hw1, hc⟩ | h
  · omega
  · omega
  · omega
  · omega
  · omega
  · have := (wdR_b (w := w)).mp ⟨hw0, hw1⟩
    omega
  · have q := sgT_in _ h.2 _ m
    exact ⟨fun z => q.mp z.2, fun z => ⟨h.1, q.mpr z⟩⟩
theorem tk_wd {k w c a : Int} (h : tkR k w c) (h0 : 0 ≤ a ∧ a ≤ 23) : (k = 4 ∧ w = a) ↔ c = 50 + wdR a := by
  have r := (wdR_b (w := a)).mp h0
  rcases h with h | h | h | h | h | ⟨h, hw0, hw1, hc⟩ | h
  · omega
  · omega
  · omega
  · omega
  · omega
  · have q := @wdR_i w a
    exact ⟨fun z => by rw [hc, z.2], fun z => ⟨h, q.mp (by omega)⟩⟩
  · have := sgT_rg _ h.2
    have : 0 ≤ c ∧ c ≤ 42 := this
    omega
theorem tk_ty {k w c : Int} (h : tkR k w c) : (k = 4 ∧ w ≤ 4) ↔ (50 ≤ c ∧ c ≤ 54) := by
  rcases h with h | h | h | h | h | ⟨h, hw0, hw1, hc⟩ | h
  · omega
  · omega
  · omega
  · omega
  · omega
  · unfold wdR at hc
    split at hc <;> (try split at hc) <;> omega
  · have := sgT_rg _ h.2
    have : 0 ≤ c ∧ c ≤ 42 := this
    omega
theorem tk_set {k w c : Int} (h : tkR k w c) : (k = 5 ∧ (w = 61 ∨ 400 < w)) ↔ (8 ≤ c ∧ c ≤ 19) := by
  rcases h with h | h | h | h | h | ⟨h, hw0, hw1, hc⟩ | h
  · omega
  · omega
  · omega
  · omega
  · omega
  · have := (wdR_b (w := w)).mp ⟨hw0, hw1⟩
    omega
  · have q := sgT_set _ h.2
    exact ⟨fun z => q.mp z.2, fun z => ⟨h.1, q.mpr z⟩⟩
theorem tk_k {k w c : Int} (h : tkR k w c) : (k = 0 ↔ c = 84) ∧ (k = 6 ↔ c = 85) ∧ (k = 1 ↔ c = 80) ∧ (k = 2 ↔ (c = 81 ∨ c = 82)) ∧ (k = 3 ↔ c = 83) ∧ (k = 4 ↔ (50 ≤ c ∧ c ≤ 73)) ∧ (k = 5 ↔ (0 ≤ c ∧ c ≤ 42)) ∧ (0 ≤ c ∧ c ≤ 85) := by
  rcases h with h | h | h | h | h | ⟨h, hw0, hw1, hc⟩ | h
  · omega
  · omega
  · omega
  · omega
  · omega
  · have := (wdR_b (w := w)).mp ⟨hw0, hw1⟩
    omega
  · have := sgT_rg _ h.2
    have : 0 ≤ c ∧ c ≤ 42 := this
    omega
/-- an operator's strength -/
def stR (s : Int32) : Int32 := if s.toInt = 308 then 1 else if s.toInt = 307 then 2 else if s.toInt = 124 then 3 else if s.toInt = 94 then 4 else if s.toInt = 38 then 5 else if s.toInt = 300 ∨ s.toInt = 301 then 6 else if s.toInt = 60 ∨ s.toInt = 302 ∨ s.toInt = 62 ∨ s.toInt = 303 then 7 else if s.toInt = 304 ∨ s.toInt = 305 ∨ s.toInt = 306 then 8 else if s.toInt = 43 ∨ s.toInt = 45 then 9 else if s.toInt = 42 ∨ s.toInt = 47 ∨ s.toInt = 37 then 10 else 0
theorem sgT_str : ∀ p ∈ sgT, (0 < stR (Int32.ofInt p.1) ↔ (20 ≤ p.2 ∧ p.2 ≤ 38)) := by decide
def ShR (σ : RS) (s : SpC) : Prop := (zFt s = 0 ∧ gI σ 15 = 0) ∧ (zAt s = (gI σ 14).toInt ∧ 0 ≤ gI σ 14 ∧ gI σ 14 < gI σ 2 ∧ gI σ 14 ≤ 500) ∧
  (∀ i, i < nT (gI σ 2) → i ≤ 500 → tkR (aI σ 3 i).toInt (aI σ 6 i).toInt (zK s i) ∧ (aI σ 4 i).toInt = zL s i) ∧
  (∀ i, i < nT (gI σ 2) → ¬ aI σ 3 i = 0 → ¬ aI σ 3 i = 6 → i + 1 < nT (gI σ 2) ∨ 2500 ≤ i)
/-- a fault -/
def FlR (τ : RS) (S : SpC) : Prop := ¬ zFt S = 0 ∧ (gI τ 15).toInt = zFt S ∧ (gI τ 16).toInt = zPl S
theorem FlR.g {τ : RS} {S T : SpC} (h : FlR τ S) (g : GpY S T) : FlR τ T := by
  have e := gp_eq g h.1
  unfold FlR
  rw [e.1, e.2]
  exact h
theorem FlR.q {τ : RS} {S T : SpC} (h : FlR τ S) (g : zFt T = zFt S ∧ zPl T = zPl S) : FlR τ T := by
  unfold FlR
  rw [g.1, g.2]
  exact h
theorem ShR.n5 {σ : RS} {s : SpC} (h : ShR σ s) : (gI σ 14).toNatClampNeg ≤ 500 ∧ (gI σ 14).toNatClampNeg < (gI σ 2).toNatClampNeg := by
  refine ⟨?_, nT_lt h.2.1.2.1 h.2.1.2.2.1⟩
  have := nT_le h.2.1.2.1 h.2.1.2.2.2
  exact this
theorem ShR.a5 {σ : RS} {s : SpC} (h : ShR σ s) : 0 ≤ zAt s ∧ zAt s ≤ 500 := by
  rw [h.2.1.1]
  have h1 := h.2.1.2.1
  have h2 := h.2.1.2.2.2
  rw [Int32.le_iff_toInt_le] at h1 h2
  exact ⟨h1, h2⟩
theorem ShR.cod {σ : RS} {s : SpC} (h : ShR σ s) : codY s = zK s (gI σ 14).toNatClampNeg := by
  unfold codY
  rw [if_pos h.1.1, h.2.1.1]
  rfl
theorem ShR.tk {σ : RS} {s : SpC} (h : ShR σ s) : tkR (aI σ 3 (gI σ 14).toNatClampNeg).toInt (aI σ 6 (gI σ 14).toNatClampNeg).toInt (codY s) := by
  rw [h.cod]
  exact (h.2.2.1 _ h.n5.2 h.n5.1).1
theorem ShR.pl {σ : RS} {s : SpC} (h : ShR σ s) : (aI σ 4 (gI σ 14).toNatClampNeg).toInt = zL s (zAt s).toNat := by
  rw [h.2.1.1]
  exact (h.2.2.1 _ h.n5.2 h.n5.1).2
theorem i32_eq {x : Int32} {n : Int} (h : (Int32.ofInt n).toInt = n) : x = Int32.ofInt n ↔ x.toInt = n := ⟨fun e => by rw [e, h], fun e => by rw [← Int32.toInt_inj, e, h]⟩
theorem ShR.sg {σ : RS} {s : SpC} (h : ShR σ s) {x : Int32} {d : Int} (m : (x.toInt, d) ∈ sgT) : (aI σ 3 (gI σ 14).toNatClampNeg = 5 ∧ aI σ 6 (gI σ 14).toNatClampNeg = x) ↔ codY s = d := by
  rw [← tk_sg h.tk m, ← Int32.toInt_inj, ← Int32.toInt_inj]
  rfl
theorem ShR.wd {σ : RS} {s : SpC} (h : ShR σ s) {x : Int32} (m : 0 ≤ x.toInt ∧ x.toInt ≤ 23) : (aI σ 3 (gI σ 14).toNatClampNeg = 4 ∧ aI σ 6 (gI σ 14).toNatClampNeg = x) ↔ codY s = 50 + wdR x.toInt := by
  rw [← tk_wd h.tk m, ← Int32.toInt_inj, ← Int32.toInt_inj]
  rfl
theorem ShR.ki {σ : RS} {s : SpC} (h : ShR σ s) : (aI σ 3 (gI σ 14).toNatClampNeg = 0 ↔ codY s = 84) ∧ (aI σ 3 (gI σ 14).toNatClampNeg = 6 ↔ codY s = 85) ∧ (aI σ 3 (gI σ 14).toNatClampNeg = 1 ↔ codY s = 80) ∧ (aI σ 3 (gI σ 14).toNatClampNeg = 2 ↔ (codY s = 81 ∨ codY s = 82)) ∧ (aI σ 3 (gI σ 14).toNatClampNeg = 3 ↔ codY s = 83) ∧ (aI σ 3 (gI σ 14).toNatClampNeg = 4 ↔ (50 ≤ codY s ∧ codY s ≤ 73)) ∧ (aI σ 3 (gI σ 14).toNatClampNeg = 5 ↔ (0 ≤ codY s ∧ codY s ≤ 42)) ∧ (0 ≤ codY s ∧ codY s ≤ 85) := by
  have q := tk_k h.tk
  refine ⟨?_, ?_, ?_, ?_, ?_, ?_, ?_, q.2.2.2.2.2.2.2⟩
  · rw [← q.1, ← Int32.toInt_inj]; rfl
  · rw [← q.2.1, ← Int32.toInt_inj]; rfl
  · rw [← q.2.2.1, ← Int32.toInt_inj]; rfl
  · rw [← q.2.2.2.1, ← Int32.toInt_inj]; rfl
  · rw [← q.2.2.2.2.1, ← Int32.toInt_inj]; rfl
  · rw [← q.2.2.2.2.2.1, ← Int32.toInt_inj]; rfl
  · rw [← q.2.2.2.2.2.2.1, ← Int32.toInt_inj]; rfl
theorem ShR.ty {σ : RS} {s : SpC} (h : ShR σ s) : (aI σ 3 (gI σ 14).toNatClampNeg = 4 ∧ aI σ 6 (gI σ 14).toNatClampNeg ≤ 4) ↔ (50 ≤ codY s ∧ codY s ≤ 54) := by
  rw [← tk_ty h.tk, ← Int32.toInt_inj, Int32.le_iff_toInt_le]
  rfl
theorem ShR.set {σ : RS} {s : SpC} (h : ShR σ s) : (aI σ 3 (gI σ 14).toNatClampNeg = 5 ∧ (aI σ 6 (gI σ 14).toNatClampNeg = 61 ∨ 400 < aI σ 6 (gI σ 14).toNatClampNeg)) ↔ (8 ≤ codY s ∧ codY s ≤ 19) := by
  rw [← tk_set h.tk, ← Int32.toInt_inj, ← Int32.toInt_inj, Int32.lt_iff_toInt_lt]
  rfl
theorem ShR.str {σ : RS} {s : SpC} (h : ShR σ s) (h5 : aI σ 3 (gI σ 14).toNatClampNeg = 5) : 0 < stR (aI σ 6 (gI σ 14).toNatClampNeg) ↔ (20 ≤ codY s ∧ codY s ≤ 38) := by
  have t := h.tk
  rw [h5] at t
  have m : ((aI σ 6 (gI σ 14).toNatClampNeg).toInt, codY s) ∈ sgT := by
    rcases t with t | t | t | t | t | t | t
    · exact absurd t.1 (by decide)
    · exact absurd t.1 (by decide)
    · exact absurd t.1 (by decide)
    · exact absurd t.1 (by decide)
    · exact absurd t.1 (by decide)
    · exact absurd t.1 (by decide)
    · exact t.2
  have q := sgT_str _ m
  dsimp only at q
  rw [Int32.ofInt_toInt] at q
  exact q
/-- a word's TYPE -/
theorem ShR.ty2 {σ : RS} {s : SpC} (h : ShR σ s) (hc : 50 ≤ codY s ∧ codY s ≤ 55) : (aI σ 6 (gI σ 14).toNatClampNeg).toInt = codY s - 50 := by
  have t := h.tk
  rcases t with t | t | t | t | t | ⟨t, t0, t1, t2⟩ | t
  · omega
  · omega
  · omega
  · omega
  · omega
  · unfold wdR at t2
    split at t2 <;> (try split at t2) <;> omega
  · have := sgT_rg _ t.2
    have : 0 ≤ codY s ∧ codY s ≤ 42 := this
    omega
theorem ShR.kp {σ τ : RS} {s : SpC} (h : ShR σ s) (e2 : gI τ 2 = gI σ 2) (e14 : gI τ 14 = gI σ 14) (e15 : gI τ 15 = gI σ 15) (a3 : aI τ 3 = aI σ 3) (a4 : aI τ 4 = aI σ 4) (a6 : aI τ 6 = aI σ 6) : ShR τ s := by
  unfold ShR
  rw [e2, e14, e15, a3, a4, a6]
  exact h
/-- only what is shown counts -/
theorem ShR.s2 {σ : RS} {s t : SpC} (h : ShR σ s) (e1 : t.1 = s.1) (e2 : t.2.2 = s.2.2) : ShR σ t := by
  have a : zFt t = zFt s := by unfold zFt; rw [e1]
  have b : zAt t = zAt s := by unfold zAt; rw [e1]
  have c : zK t = zK s := by unfold zK; rw [e2]
  have d : zL t = zL s := by unfold zL; rw [e2]
  unfold ShR
  rw [a, b, c, d]
  exact h
/-- a token is taken -/
theorem ShR.p {σ τ : RS} {s : SpC} (h : ShR σ s) (e2 : gI τ 2 = gI σ 2) (e14 : gI τ 14 = gI σ 14 + 1) (e15 : gI τ 15 = gI σ 15) (a3 : aI τ 3 = aI σ 3) (a4 : aI τ 4 = aI σ 4) (a6 : aI τ 6 = aI σ 6) (hl : gI σ 14 < 500) (ht : ¬ codY s = 84 ∧ ¬ codY s = 85) : ShR τ (accY s) ∧ zAt s < 500 := by
  have hk := h.ki
  have k0 : ¬ aI σ 3 (gI σ 14).toNatClampNeg = 0 := fun q => ht.1 (hk.1.mp q)
  have k6 : ¬ aI σ 3 (gI σ 14).toNatClampNeg = 6 := fun q => ht.2 (hk.2.1.mp q)
  have hn := h.n5
  have h0 := h.2.1.2.1
  have ea := nT_add h0 (show gI σ 14 < 2147483647 by lia)
  have ei : (gI σ 14 + 1).toInt = (gI σ 14).toInt + 1 := by
    have q1 : (0 : Int32).toInt ≤ (gI σ 14).toInt := Int32.le_iff_toInt_le.mp h0
    have q2 : (gI σ 14).toInt < (500 : Int32).toInt := Int32.lt_iff_toInt_lt.mp hl
    have q1 : 0 ≤ (gI σ 14).toInt := q1
    have q2 : (gI σ 14).toInt < 500 := q2
    rw [Int32.toInt_add]
    have e1 : (1 : Int32).toInt = 1 := rfl
    rw [e1]
    exact Int.bmod_eq_of_le (by omega) (by omega)
  have hz : zAt s < 500 := by
    rw [h.2.1.1]
    exact Int32.lt_iff_toInt_lt.mp hl
  have hc : (gI σ 14).toNatClampNeg + 1 < (gI σ 2).toNatClampNeg := by
    rcases h.2.2.2 _ hn.2 k0 k6 with q | q
    · exact q
    · omega
  refine ⟨?_, hz⟩
  rw [accY_s h.1.1 hz]
  unfold ShR
  rw [e2, e14, e15, a3, a4, a6]
  refine ⟨h.1, ⟨by show zAt s + 1 = _; rw [ei, h.2.1.1], by lia, ?_, by lia⟩, h.2.2.1, h.2.2.2⟩
  have q0 : 0 ≤ gI σ 14 + 1 := by lia
  have q1 : 0 ≤ gI σ 2 := by have := h.2.1.2.2.1; lia
  refine Int32.not_le.mp (fun q => ?_)
  have := nT_le q1 q
  have ea : (gI σ 14 + 1).toNatClampNeg = (gI σ 14).toNatClampNeg + 1 := ea
  unfold nT at this
  omega
theorem FlR.rai {σ τ : RS} {s : SpC} {n : Int} (h : ShR σ s) (hn : ¬ n = 0) (e15 : (gI τ 15).toInt = if codY s = 85 then 1 else n) (e16 : gI τ 16 = aI σ 4 (gI σ 14).toNatClampNeg) : FlR τ (raiY n s) := by
  refine ⟨raiY_z hn, ?_, ?_⟩
  · rw [e15]
    unfold raiY codY
    rw [if_pos h.1.1, if_pos h.1.1]
    rfl
  · rw [e16, h.pl]
    unfold raiY
    rw [if_pos h.1.1]
    rfl
/-- lists by rows -/
def olY (f : Nat → Int32) : Nat → List Int
  | 0 => []
  | n + 1 => (f n).toInt :: olY f n
theorem olY_upd {f : Nat → Int32} {i : Nat} {v : Int32} : ∀ n, n ≤ i → olY (upd f i v) n = olY f n := by
  intro n
  induction n with
  | zero => exact fun _ => rfl
  | succ n ih =>
    intro h
    show (upd f i v n).toInt :: _ = _
    rw [upd_ne (by omega), ih (by omega)]
    rfl
def oR (σ : RS) : List Int := olY (aI σ 25) (nT (gI σ 29))
def wO (σ : RS) : Prop := wfY (oR σ) ∧ (∀ i, i < nT (gI σ 29) → aI σ 25 i = 2 → 0 < stR (aI σ 26 i)) ∧ 0 ≤ gI σ 29
theorem oR_pop {σ : RS} (h : 0 < gI σ 29) : oR σ = (aI σ 25 (gI σ 29 - 1).toNatClampNeg).toInt :: oR (sI σ 29 (gI σ 29 - 1)) := by
  have e := nT_sub h
  show olY (aI σ 25) (nT (gI σ 29)) = _
  rw [e]
  rfl
theorem oR_nil {σ : RS} (h : gI σ 29 ≤ 0) : oR σ = [] := by
  have : nT (gI σ 29) = 0 := by
    unfold nT
    have q : (gI σ 29).toInt ≤ (0 : Int32).toInt := Int32.le_iff_toInt_le.mp h
    have q : (gI σ 29).toInt ≤ 0 := q
    show (gI σ 29).toInt.toNat = 0
    omega
  show olY _ _ = _
  rw [this]
  rfl
theorem oR_i {σ : RS} {k : Nat} {v : Int32} (h : k ≠ 29) : oR (sI σ k v) = oR σ := by
  show olY (aI σ 25) (nT (gI (sI σ k v) 29)) = _
  rw [gI_sI, nb_ne (fun q => h q.symm)]
  rfl
theorem oR_a {σ : RS} {k : Nat} {f : Nat → Int32} (h : k ≠ 25) : oR (sA σ k f) = oR σ := by
  show olY (aI (sA σ k f) 25) _ = _
  rw [aI_sA, nb_ne (fun q => h q.symm)]
  rfl
theorem oR_em {σ τ : RS} {op a : Int32} (h : Em σ op a τ) : oR τ = oR σ := by
  unfold oR
  rw [h.1 29 (by decide), h.2.2.2.2.1 25 (by omega)]
theorem oR_pu {σ τ : RS} {s g t : Int32} (h : Pu σ s g t τ) : oR τ = s.toInt :: oR σ := by
  unfold oR
  rw [h.2.1, nT_add h.2.2.2.2.1 (by have := h.2.2.2.2.2; lia), h.2.2.1.1]
  show (upd _ _ _ _).toInt :: _ = _
  rw [upd_eq, olY_upd _ (Nat.le_refl _)]
theorem wO.pop {σ : RS} (h : wO σ) (h0 : 0 < gI σ 29) : wO (sI σ 29 (gI σ 29 - 1)) := by
  have e := nT_sub h0
  have p := oR_pop h0
  refine ⟨?_, fun i hi => ?_, ?_⟩
  · have q := h.1
    rw [p] at q
    exact q.2.2.2.2
  · exact h.2.1 i (by have : nT (gI (sI σ 29 (gI σ 29 - 1)) 29) = nT (gI σ 29 - 1) := rfl; omega)
  · show 0 ≤ gI σ 29 - 1
    lia
theorem wO.i {σ : RS} {k : Nat} {v : Int32} (h : wO σ) (hk : k ≠ 29) : wO (sI σ k v) := by
  have e : gI (sI σ k v) 29 = gI σ 29 := by rw [gI_sI, nb_ne (fun q => hk q.symm)]
  unfold wO
  rw [oR_i hk, e]
  exact h
theorem wO.a {σ : RS} {k : Nat} {f : Nat → Int32} (h : wO σ) (h5 : k ≠ 25) (h6 : k ≠ 26) : wO (sA σ k f) := by
  unfold wO
  rw [oR_a h5, aI_ne (fun q => h5 q.symm), aI_ne (fun q => h6 q.symm)]
  exact h
theorem wO.em {σ τ : RS} {op a : Int32} (h : wO σ) (e : Em σ op a τ) : wO τ := by
  unfold wO
  rw [oR_em e, e.1 29 (by decide), e.2.2.2.2.1 25 (by omega), e.2.2.2.2.1 26 (by omega)]
  exact h
theorem wO.pu {σ τ : RS} {s g t : Int32} (h : wO σ) (e : Pu σ s g t τ) (hw : wfY (s.toInt :: oR σ)) (hs : s = 2 → 0 < stR g) : wO τ := by
  have hl := e.2.2.2.2
  have en := nT_add hl.1 (show gI σ 29 < 2147483647 by have := hl.2; lia)
  unfold wO
  rw [oR_pu e, e.2.1, e.2.2.1.1, e.2.2.1.2.1, en]
  refine ⟨hw, fun i hi => ?_, by lia⟩
  by_cases q : i = nT (gI σ 29)
  · subst q
    rw [upd_eq, upd_eq]
    exact hs
  · rw [upd_ne q, upd_ne q]
    exact h.2.1 i (by omega)
/-- levels that stand open -/
def nbY : List Int → Nat
  | [] => 0
  | k :: O => (if k = 2 then 0 else 1) + nbY O
/-- what an exp's reading keeps -/
def xiR (k : Nat) : Bool := (Nat.ble 14 k && Nat.ble k 18) || k == 29 || (Nat.ble 31 k && Nat.ble k 35)
def xaR (k : Nat) : Bool := (Nat.ble 19 k && Nat.ble k 28) || k == 30
def KR (σ τ : RS) : Prop := ((∀ k, xiR k = false → gI τ k = gI σ k) ∧ ∀ k, xaR k = false → aI τ k = aI σ k) ∧
  nT (gI σ 18) ≤ nT (gI τ 18) ∧ (∀ c, c < nT (gI σ 18) → aI τ 19 c = aI σ 19 c ∧ aI τ 20 c = aI σ 20 c) ∧ (∀ c, nT (gI σ 18) ≤ c → c < nT (gI τ 18) → aI τ 19 c ≤ 18)
theorem KR.rf {σ : RS} : KR σ σ := ⟨⟨fun _ _ => rfl, fun _ _ => rfl⟩, Nat.le_refl _, fun _ _ => ⟨rfl, rfl⟩, fun _ a b => by omega⟩
theorem KR.tr {σ τ υ : RS} (h : KR σ τ) (g : KR τ υ) : KR σ υ := by
  refine ⟨⟨fun k hk => (g.1.1 k hk).trans (h.1.1 k hk), fun k hk => (g.1.2 k hk).trans (h.1.2 k hk)⟩, Nat.le_trans h.2.1 g.2.1, fun c hc => ?_, fun c h1 h2 => ?_⟩
  · have a := h.2.2.1 c hc
    have b := g.2.2.1 c (Nat.lt_of_lt_of_le hc h.2.1)
    exact ⟨b.1.trans a.1, b.2.trans a.2⟩
  · by_cases q : c < nT (gI τ 18)
    · rw [(g.2.2.1 c q).1]
      exact h.2.2.2 c h1 q
    · exact g.2.2.2 c (by omega) h2
theorem KR.i {σ τ : RS} (h : KR σ τ) {k : Nat} {v : Int32} (hk : xiR k = true) (h8 : k ≠ 18) : KR σ (sI τ k v) := by
  have e : gI (sI τ k v) 18 = gI τ 18 := by rw [gI_sI, nb_ne (fun q => h8 q.symm)]
  unfold KR
  rw [e]
  exact ⟨⟨fun j hj => by rw [gI_sI, nb_ne (fun q => by subst q; rw [hk] at hj; cases hj)]; exact h.1.1 j hj, h.1.2⟩, h.2⟩
theorem KR.a {σ τ : RS} (h : KR σ τ) {k : Nat} {f : Nat → Int32} (hk : xaR k = true) (h9 : k ≠ 19) (h0 : k ≠ 20) : KR σ (sA τ k f) := by
  refine ⟨⟨h.1.1, fun j hj => by rw [aI_sA, nb_ne (fun q => by subst q; rw [hk] at hj; cases hj)]; exact h.1.2 j hj⟩, h.2.1, fun c hc => ?_, fun c h1 h2 => ?_⟩
  · rw [aI_ne (fun q => h9 q.symm), aI_ne (fun q => h0 q.symm)]
    exact h.2.2.1 c hc
  · rw [aI_ne (fun q => h9 q.symm)]
    exact h.2.2.2 c h1 h2
theorem KR.ca {σ τ : RS} (h : KR σ τ) {i : Nat} {v : Int32} (hi : nT (gI σ 18) ≤ i) : KR σ (sA τ 20 (upd (aI τ 20) i v)) := by
  refine ⟨⟨h.1.1, fun j hj => by rw [aI_sA, nb_ne (fun q => by subst q; cases hj)]; exact h.1.2 j hj⟩, h.2.1, fun c hc => ?_, fun c h1 h2 => ?_⟩
  · rw [aI_ne (by decide), aI_eq, upd_ne (by omega)]
    exact h.2.2.1 c hc
  · rw [aI_ne (by decide)]
    exact h.2.2.2 c h1 h2
theorem KR.em {σ τ υ : RS} {op a : Int32} (h : KR σ τ) (e : Em τ op a υ) (ho : op ≤ 18) : KR σ υ := by
  obtain ⟨p1, p2, p3, p4, p5, p6, p7⟩ := e
  have en := nT_add p6 (show gI τ 18 < 2147483647 by lia)
  refine ⟨⟨fun k hk => (p1 k (fun q => by subst q; cases hk)).trans (h.1.1 k hk), fun k hk => (p5 k ?_).trans (h.1.2 k hk)⟩, ?_, fun c hc => ?_, fun c h1 h2 => ?_⟩
  · unfold xaR at hk
    simp only [Bool.or_eq_false_iff, Bool.and_eq_false_iff, Nat.ble_eq, beq_eq_false_iff_ne] at hk
    rcases hk.1 with q | q
    · have : ¬ 19 ≤ k := fun z => by rw [Nat.ble_eq_true_of_le z] at q; cases q
      omega
    · have : ¬ k ≤ 28 := fun z => by rw [Nat.ble_eq_true_of_le z] at q; cases q
      omega
  · rw [p2, en]
    have := h.2.1
    omega
  · have := h.2.1
    rw [p3, p4, upd_ne (by omega), upd_ne (by omega)]
    exact h.2.2.1 c hc
  · rw [p2, en] at h2
    rw [p3]
    by_cases q : c = nT (gI τ 18)
    · subst q
      rw [upd_eq]
      exact ho
    · rw [upd_ne q]
      exact h.2.2.2 c h1 (by omega)
theorem KR.pu {σ τ υ : RS} {s g t : Int32} (h : KR σ τ) (e : Pu τ s g t υ) : KR σ υ := by
  obtain ⟨p1, p2, p3, p4, p5⟩ := e
  have r : ∀ k, k < 25 ∨ 28 < k → aI υ k = aI τ k := p4
  refine ⟨⟨fun k hk => (p1 k (fun q => by subst q; cases hk)).trans (h.1.1 k hk), fun k hk => (r k ?_).trans (h.1.2 k hk)⟩, ?_, fun c hc => ?_, fun c h1 h2 => ?_⟩
  · unfold xaR at hk
    simp only [Bool.or_eq_false_iff, Bool.and_eq_false_iff, beq_eq_false_iff_ne] at hk
    rcases hk.1 with q | q
    · have : ¬ 19 ≤ k := fun z => by rw [Nat.ble_eq_true_of_le z] at q; cases q
      omega
    · have : ¬ k ≤ 28 := fun z => by rw [Nat.ble_eq_true_of_le z] at q; cases q
      omega
  · rw [p1 18 (by decide)]
    exact h.2.1
  · rw [r 19 (by omega), r 20 (by omega)]
    exact h.2.2.1 c hc
  · rw [r 19 (by omega)]
    exact h.2.2.2 c h1 (by rw [p1 18 (by decide)] at h2; exact h2)
/-- an exp is read: the tokens, the depth, what stays -/
def XrR (σ0 τ : RS) (s : SpC) (n : Nat) : Prop := ShR τ s ∧ ((gI τ 17).toInt + n = 21 ∧ 1 ≤ n) ∧ KR σ0 τ
theorem XrR.i {σ0 τ : RS} {s : SpC} {n : Nat} (h : XrR σ0 τ s n) {k : Nat} {v : Int32} (hk : k = 29 ∨ k = 31 ∨ k = 32 ∨ k = 33 ∨ k = 34 ∨ k = 35) : XrR σ0 (sI τ k v) s n := by
  refine ⟨h.1.kp ?_ ?_ ?_ rfl rfl rfl, ?_, h.2.2.i ?_ (by omega)⟩
  · rw [gI_sI, nb_ne (by omega)]
  · rw [gI_sI, nb_ne (by omega)]
  · rw [gI_sI, nb_ne (by omega)]
  · rw [gI_sI, nb_ne (by omega)]
    exact h.2.1
  · rcases hk with q | q | q | q | q | q <;> subst q <;> rfl
theorem XrR.a {σ0 τ : RS} {s : SpC} {n : Nat} (h : XrR σ0 τ s n) {k : Nat} {f : Nat → Int32} (hk : k = 21 ∨ k = 28 ∨ k = 30) : XrR σ0 (sA τ k f) s n := by
  refine ⟨h.1.kp rfl rfl rfl (aI_ne (by omega)) (aI_ne (by omega)) (aI_ne (by omega)), h.2.1, h.2.2.a ?_ (by omega) (by omega)⟩
  rcases hk with q | q | q <;> subst q <;> rfl
theorem XrR.ca {σ0 τ : RS} {s : SpC} {n : Nat} (h : XrR σ0 τ s n) {i : Nat} {v : Int32} (hi : nT (gI σ0 18) ≤ i) : XrR σ0 (sA τ 20 (upd (aI τ 20) i v)) s n :=
  ⟨h.1.kp rfl rfl rfl (aI_ne (by omega)) (aI_ne (by omega)) (aI_ne (by omega)), h.2.1, h.2.2.ca hi⟩
theorem XrR.em {σ0 τ υ : RS} {s : SpC} {n : Nat} {op a : Int32} (h : XrR σ0 τ s n) (e : Em τ op a υ) (ho : op ≤ 18) : XrR σ0 υ s n :=
  ⟨h.1.kp (e.1 2 (by decide)) (e.1 14 (by decide)) (e.1 15 (by decide)) (e.2.2.2.2.1 3 (by omega)) (e.2.2.2.2.1 4 (by omega)) (e.2.2.2.2.1 6 (by omega)), by rw [e.1 17 (by decide)]; exact h.2.1, h.2.2.em e ho⟩
theorem XrR.pu {σ0 τ υ : RS} {s : SpC} {n : Nat} {q g t : Int32} (h : XrR σ0 τ s n) (e : Pu τ q g t υ) : XrR σ0 υ s n :=
  ⟨h.1.kp (e.1 2 (by decide)) (e.1 14 (by decide)) (e.1 15 (by decide)) (e.2.2.2.1 3 (by omega)) (e.2.2.2.1 4 (by omega)) (e.2.2.2.1 6 (by omega)), by rw [e.1 17 (by decide)]; exact h.2.1, h.2.2.pu e⟩
theorem i32_sub {x : Int32} (h0 : -1 ≤ x.toInt) (h1 : x.toInt ≤ 100) : (x - 1).toInt = x.toInt - 1 := by
  rw [Int32.toInt_sub]
  have e1 : (1 : Int32).toInt = 1 := rfl
  rw [e1]
  exact Int.bmod_eq_of_le (by omega) (by omega)
theorem i32_add {x : Int32} (h0 : -1 ≤ x.toInt) (h1 : x.toInt ≤ 10000) : (x + 1).toInt = x.toInt + 1 := by
  rw [Int32.toInt_add]
  have e1 : (1 : Int32).toInt = 1 := rfl
  rw [e1]
  exact Int.bmod_eq_of_le (by omega) (by omega)
/-- one level up -/
theorem XrR.up {σ0 τ : RS} {s : SpC} {n : Nat} (h : XrR σ0 τ s n) (hn : n ≤ 21) : XrR σ0 (sI τ 17 (gI τ 17 - 1)) s (n + 1) := by
  refine ⟨h.1.kp rfl rfl rfl rfl rfl rfl, ⟨?_, by omega⟩, h.2.2.i rfl (by decide)⟩
  have q := h.2.1
  show (gI τ 17 - 1).toInt + _ = _
  rw [i32_sub (by omega) (by omega)]
  omega
