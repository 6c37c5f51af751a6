/-! what two readings of one text agree in -/
def rjI (md k : Nat) : Bool := k == 2 || k == 14 || k == 15 || k == 17 || k == 18 || k == 36 || k == 42 || k == 49 || (Nat.ble 1 md && k == 62) || (Nat.ble 2 md && k == 29)
def rjA (k : Nat) : Bool := k == 3 || k == 6 || k == 10 || k == 19 || k == 20 || k == 25 || k == 26 || k == 27 || k == 51 || k == 63 || k == 64
def Rj (md : Nat) (σ ρ : RS) : Prop := (∀ k, rjI md k = true → gI ρ k = gI σ k) ∧
  (∀ i, i < nT (gI σ 2) → aI ρ 3 i = aI σ 3 i ∧ aI ρ 6 i = aI σ 6 i ∧ (aI σ 3 i = 2 → aI ρ 10 i = aI σ 10 i)) ∧
  (2 ≤ md → ∀ i, i < nT (gI σ 29) → aI ρ 25 i = aI σ 25 i ∧ aI ρ 26 i = aI σ 26 i ∧ aI ρ 27 i = aI σ 27 i) ∧
  (1 ≤ md → ∀ i, i < nT (gI σ 62) → aI ρ 63 i = aI σ 63 i ∧ aI ρ 64 i = aI σ 64 i ∧ nT (aI σ 64 i) < nT (gI σ 49)) ∧
  (∀ i, i < nT (gI σ 49) → aI ρ 51 i = aI σ 51 i) ∧
  (∀ i, i < nT (gI σ 18) → aI ρ 19 i = aI σ 19 i ∧ ((aI σ 19 i = 38 ∨ aI σ 19 i = 39) → aI ρ 20 i = aI σ 20 i)) ∧
  (0 ≤ gI σ 14 ∧ gI σ 14 < gI σ 2) ∧ (∀ i, i < nT (gI σ 2) → ¬ aI σ 3 i = 0 → ¬ aI σ 3 i = 6 → i + 1 < nT (gI σ 2) ∨ 2500 ≤ i)
theorem Rj.e2 {md : Nat} {σ ρ : RS} (h : Rj md σ ρ) : gI ρ 2 = gI σ 2 := h.1 2 (by unfold rjI; simp)
theorem Rj.e14 {md : Nat} {σ ρ : RS} (h : Rj md σ ρ) : gI ρ 14 = gI σ 14 := h.1 14 (by unfold rjI; simp)
theorem Rj.e15 {md : Nat} {σ ρ : RS} (h : Rj md σ ρ) : gI ρ 15 = gI σ 15 := h.1 15 (by unfold rjI; simp)
theorem Rj.e17 {md : Nat} {σ ρ : RS} (h : Rj md σ ρ) : gI ρ 17 = gI σ 17 := h.1 17 (by unfold rjI; simp)
theorem Rj.e18 {md : Nat} {σ ρ : RS} (h : Rj md σ ρ) : gI ρ 18 = gI σ 18 := h.1 18 (by unfold rjI; simp)
theorem Rj.e29 {σ ρ : RS} (h : Rj 2 σ ρ) : gI ρ 29 = gI σ 29 := h.1 29 rfl
theorem Rj.e36 {md : Nat} {σ ρ : RS} (h : Rj md σ ρ) : gI ρ 36 = gI σ 36 := h.1 36 (by unfold rjI; simp)
theorem Rj.e42 {md : Nat} {σ ρ : RS} (h : Rj md σ ρ) : gI ρ 42 = gI σ 42 := h.1 42 (by unfold rjI; simp)
theorem Rj.e49 {md : Nat} {σ ρ : RS} (h : Rj md σ ρ) : gI ρ 49 = gI σ 49 := h.1 49 (by unfold rjI; simp)
theorem Rj.e62 {md : Nat} {σ ρ : RS} (h : Rj (md + 1) σ ρ) : gI ρ 62 = gI σ 62 := h.1 62 (by unfold rjI; simp)
theorem Rj.hp {md : Nat} {σ ρ : RS} (h : Rj md σ ρ) : (gI σ 14).toNatClampNeg < (gI σ 2).toNatClampNeg := nT_lt h.2.2.2.2.2.2.1.1 h.2.2.2.2.2.2.1.2
theorem Rj.a3 {md : Nat} {σ ρ : RS} (h : Rj md σ ρ) {x : Int32} (hx : x.toNatClampNeg < (gI σ 2).toNatClampNeg) : aI ρ 3 x.toNatClampNeg = aI σ 3 x.toNatClampNeg := (h.2.1 _ hx).1
theorem Rj.a6 {md : Nat} {σ ρ : RS} (h : Rj md σ ρ) {x : Int32} (hx : x.toNatClampNeg < (gI σ 2).toNatClampNeg) : aI ρ 6 x.toNatClampNeg = aI σ 6 x.toNatClampNeg := (h.2.1 _ hx).2.1
theorem Rj.a10 {md : Nat} {σ ρ : RS} (h : Rj md σ ρ) {x : Int32} (hx : x.toNatClampNeg < (gI σ 2).toNatClampNeg) (h2 : aI σ 3 x.toNatClampNeg = 2) : aI ρ 10 x.toNatClampNeg = aI σ 10 x.toNatClampNeg := (h.2.1 _ hx).2.2 h2
theorem Rj.a25 {σ ρ : RS} (h : Rj 2 σ ρ) {x : Int32} (hx : x.toNatClampNeg < (gI σ 29).toNatClampNeg) : aI ρ 25 x.toNatClampNeg = aI σ 25 x.toNatClampNeg := (h.2.2.1 (by decide) _ hx).1
theorem Rj.a26 {σ ρ : RS} (h : Rj 2 σ ρ) {x : Int32} (hx : x.toNatClampNeg < (gI σ 29).toNatClampNeg) : aI ρ 26 x.toNatClampNeg = aI σ 26 x.toNatClampNeg := (h.2.2.1 (by decide) _ hx).2.1
theorem Rj.a27 {σ ρ : RS} (h : Rj 2 σ ρ) {x : Int32} (hx : x.toNatClampNeg < (gI σ 29).toNatClampNeg) : aI ρ 27 x.toNatClampNeg = aI σ 27 x.toNatClampNeg := (h.2.2.1 (by decide) _ hx).2.2
theorem Rj.a63 {md : Nat} {σ ρ : RS} (h : Rj (md + 1) σ ρ) {x : Int32} (hx : x.toNatClampNeg < (gI σ 62).toNatClampNeg) : aI ρ 63 x.toNatClampNeg = aI σ 63 x.toNatClampNeg := (h.2.2.2.1 (by omega) _ hx).1
theorem Rj.a64 {md : Nat} {σ ρ : RS} (h : Rj (md + 1) σ ρ) {x : Int32} (hx : x.toNatClampNeg < (gI σ 62).toNatClampNeg) : aI ρ 64 x.toNatClampNeg = aI σ 64 x.toNatClampNeg := (h.2.2.2.1 (by omega) _ hx).2.1
theorem Rj.t64 {md : Nat} {σ ρ : RS} (h : Rj (md + 1) σ ρ) {x : Int32} (hx : x.toNatClampNeg < (gI σ 62).toNatClampNeg) : (aI σ 64 x.toNatClampNeg).toNatClampNeg < (gI σ 49).toNatClampNeg := (h.2.2.2.1 (by omega) _ hx).2.2
theorem Rj.a51 {md : Nat} {σ ρ : RS} (h : Rj md σ ρ) {x : Int32} (hx : x.toNatClampNeg < (gI σ 49).toNatClampNeg) : aI ρ 51 x.toNatClampNeg = aI σ 51 x.toNatClampNeg := h.2.2.2.2.1 _ hx
theorem Rj.a19 {md : Nat} {σ ρ : RS} (h : Rj md σ ρ) {x : Int32} (hx : x.toNatClampNeg < (gI σ 18).toNatClampNeg) : aI ρ 19 x.toNatClampNeg = aI σ 19 x.toNatClampNeg := (h.2.2.2.2.2.1 _ hx).1
theorem Rj.a20 {md : Nat} {σ ρ : RS} (h : Rj md σ ρ) {x : Int32} (hx : x.toNatClampNeg < (gI σ 18).toNatClampNeg) (ho : aI σ 19 x.toNatClampNeg = 38 ∨ aI σ 19 x.toNatClampNeg = 39) : aI ρ 20 x.toNatClampNeg = aI σ 20 x.toNatClampNeg := (h.2.2.2.2.2.1 _ hx).2 ho
theorem rjI_2 {md k : Nat} (h : rjI md k = true) : rjI 2 k = true := by
  unfold rjI at h ⊢
  simp only [Bool.or_eq_true, Bool.and_eq_true, beq_iff_eq] at h ⊢
  rcases h with ((((((((h | h) | h) | h) | h) | h) | h) | h) | h) | h <;> simp [h]
theorem Rj.w {md : Nat} {σ ρ : RS} (h : Rj md σ ρ) : Rj 0 σ ρ := by
  obtain ⟨a, b, c, d, e, f, g, t⟩ := h
  refine ⟨fun k hk => a k ?_, b, fun q => absurd q (by decide), fun q => absurd q (by decide), e, f, g, t⟩
  unfold rjI at hk ⊢
  simp only [Bool.or_eq_true, Bool.and_eq_true, beq_iff_eq] at hk ⊢
  rcases hk with ((((((((h | h) | h) | h) | h) | h) | h) | h) | h) | h
  all_goals first | (simp [h]; done) | exact absurd h.1 (by decide)
theorem Rj.w1 {σ ρ : RS} (h : Rj 2 σ ρ) : Rj 1 σ ρ := by
  obtain ⟨a, b, c, d, e, f, g, t⟩ := h
  refine ⟨fun k hk => a k (rjI_2 hk), b, fun q => absurd q (by decide), fun _ => d (by decide), e, f, g, t⟩
/-- what doesn't count -/
def Ir (σ τ : RS) : Prop := (∀ k, rjI 2 k = true → gI τ k = gI σ k) ∧ ∀ k, rjA k = true → aI τ k = aI σ k
theorem Rj.ir {md : Nat} {σ ρ τ τ' : RS} (h : Rj md σ ρ) (h1 : Ir σ τ) (h2 : Ir ρ τ') : Rj md τ τ' := by
  obtain ⟨a, b, c, d, e, f, g, t⟩ := h
  unfold Rj
  rw [h1.1 2 rfl, h1.1 14 rfl, h1.1 18 rfl, h1.1 29 rfl, h1.1 49 rfl, h1.1 62 rfl, h1.2 3 rfl, h1.2 6 rfl, h1.2 10 rfl, h1.2 19 rfl, h1.2 20 rfl, h1.2 25 rfl, h1.2 26 rfl, h1.2 27 rfl, h1.2 51 rfl, h1.2 63 rfl, h1.2 64 rfl, h2.2 3 rfl, h2.2 6 rfl, h2.2 10 rfl, h2.2 19 rfl, h2.2 20 rfl, h2.2 25 rfl, h2.2 26 rfl, h2.2 27 rfl, h2.2 51 rfl, h2.2 63 rfl, h2.2 64 rfl]
  exact ⟨fun k hk => by rw [h1.1 k (rjI_2 hk), h2.1 k (rjI_2 hk)]; exact a k hk, b, c, d, e, f, g, t⟩
theorem Rj.i {md : Nat} {σ ρ : RS} (h : Rj md σ ρ) {k : Nat} {v v' : Int32} (hk : rjI 2 k = false) : Rj md (sI σ k v) (sI ρ k v') := by
  refine h.ir ⟨fun j hj => ?_, fun _ _ => rfl⟩ ⟨fun j hj => ?_, fun _ _ => rfl⟩ <;> rw [gI_sI, nb_ne (fun q => by subst q; rw [hk] at hj; cases hj)]
theorem Rj.a {md : Nat} {σ ρ : RS} (h : Rj md σ ρ) {k : Nat} {f f' : Nat → Int32} (hk : rjA k = false) : Rj md (sA σ k f) (sA ρ k f') := by
  refine h.ir ⟨fun _ _ => rfl, fun j hj => ?_⟩ ⟨fun _ _ => rfl, fun j hj => ?_⟩ <;> rw [aI_sA, nb_ne (fun q => by subst q; rw [hk] at hj; cases hj)]
theorem Rj.m {md : Nat} {σ ρ : RS} (h : Rj md σ ρ) {k : Nat} {f f' : Nat → Int64} : Rj md (sM σ k f) (sM ρ k f') := h.ir ⟨fun _ _ => rfl, fun _ _ => rfl⟩ ⟨fun _ _ => rfl, fun _ _ => rfl⟩
/-- all numbers the same but one -/
def S1 (k : Nat) (σ τ : RS) : Prop := (∀ j, j ≠ k → gI τ j = gI σ j) ∧ ∀ j, aI τ j = aI σ j
theorem S1.s {k : Nat} {σ : RS} {v : Int32} : S1 k σ (sI σ k v) := ⟨fun j hj => by rw [gI_sI, nb_ne hj], fun _ => rfl⟩
theorem Rj.v {md : Nat} {σ ρ τ τ' : RS} (h : Rj md σ ρ) {k : Nat} (hk : k = 15 ∨ k = 17 ∨ k = 34 ∨ k = 35 ∨ k = 36 ∨ k = 42) (h1 : S1 k σ τ) (h2 : S1 k ρ τ') (he : gI τ' k = gI τ k) : Rj md τ τ' := by
  obtain ⟨a, b, c, d, e, f, g, t⟩ := h
  unfold Rj
  rw [h1.1 2 (by omega), h1.1 14 (by omega), h1.1 18 (by omega), h1.1 29 (by omega), h1.1 49 (by omega), h1.1 62 (by omega), h1.2, h1.2, h1.2, h1.2, h1.2, h1.2, h1.2, h1.2, h1.2, h1.2, h1.2, h2.2, h2.2, h2.2, h2.2, h2.2, h2.2, h2.2, h2.2, h2.2, h2.2, h2.2]
  refine ⟨fun j hj => ?_, b, c, d, e, f, g, t⟩
  by_cases q : j = k
  · subst q; exact he
  · rw [h1.1 j q, h2.1 j q]; exact a j hj
theorem Rj.s {md : Nat} {σ ρ : RS} (h : Rj md σ ρ) {k : Nat} {v : Int32} (hk : k = 15 ∨ k = 17 ∨ k = 34 ∨ k = 35 ∨ k = 36 ∨ k = 42) : Rj md (sI σ k v) (sI ρ k v) := h.v hk S1.s S1.s (by rw [gI_sI, gI_sI, show Nat.beq k k = true from Nat.beq_refl k])
theorem Rj.o {md : Nat} {σ ρ τ τ' : RS} (h : Rj md σ ρ) (h1 : S1 29 σ τ) (h2 : S1 29 ρ τ') (he : gI τ' 29 = gI τ 29) (hv : nT (gI τ 29) ≤ nT (gI σ 29)) : Rj md τ τ' := by
  obtain ⟨a, b, c, d, e, f, g, t⟩ := h
  unfold Rj
  rw [h1.1 2 (by omega), h1.1 14 (by omega), h1.1 18 (by omega), h1.1 49 (by omega), h1.1 62 (by omega), h1.2, h1.2, h1.2, h1.2, h1.2, h1.2, h1.2, h1.2, h1.2, h1.2, h1.2, h2.2, h2.2, h2.2, h2.2, h2.2, h2.2, h2.2, h2.2, h2.2, h2.2, h2.2]
  refine ⟨fun j hj => ?_, b, fun q i hi => c q i (by omega), d, e, f, g, t⟩
  by_cases q : j = 29
  · subst q; exact he
  · rw [h1.1 j q, h2.1 j q]; exact a j hj
theorem Rj.f {md : Nat} {σ ρ τ τ' : RS} (h : Rj md σ ρ) (h1 : S1 62 σ τ) (h2 : S1 62 ρ τ') (he : gI τ' 62 = gI τ 62) (hv : nT (gI τ 62) ≤ nT (gI σ 62)) : Rj md τ τ' := by
  obtain ⟨a, b, c, d, e, f, g, t⟩ := h
  unfold Rj
  rw [h1.1 2 (by omega), h1.1 14 (by omega), h1.1 18 (by omega), h1.1 29 (by omega), h1.1 49 (by omega), h1.2, h1.2, h1.2, h1.2, h1.2, h1.2, h1.2, h1.2, h1.2, h1.2, h1.2, h2.2, h2.2, h2.2, h2.2, h2.2, h2.2, h2.2, h2.2, h2.2, h2.2, h2.2]
  refine ⟨fun j hj => ?_, b, c, fun q i hi => d q i (by omega), e, f, g, t⟩
  by_cases q : j = 62
  · subst q; exact he
  · rw [h1.1 j q, h2.1 j q]; exact a j hj
theorem nT_pred {x : Int32} (h : 0 < x) : nT (x - 1) ≤ nT x := by have := nT_sub h; omega
theorem Rj.o1 {md : Nat} {σ ρ : RS} (h : Rj md σ ρ) (h0 : 0 < gI σ 29) : Rj md (sI σ 29 (gI σ 29 - 1)) (sI ρ 29 (gI σ 29 - 1)) := h.o S1.s S1.s (by rw [gI_sI, gI_sI]) (by rw [gI_sI]; exact nT_pred h0)
theorem Rj.o0 {md : Nat} {σ ρ : RS} (h : Rj md σ ρ) : Rj md (sI σ 29 0) (sI ρ 29 0) := h.o S1.s S1.s (by rw [gI_sI, gI_sI]) (by rw [gI_sI]; exact Nat.zero_le _)
theorem Rj.f1 {md : Nat} {σ ρ : RS} (h : Rj md σ ρ) (h0 : 0 < gI σ 62) : Rj md (sI σ 62 (gI σ 62 - 1)) (sI ρ 62 (gI σ 62 - 1)) := h.f S1.s S1.s (by rw [gI_sI, gI_sI]) (by rw [gI_sI]; exact nT_pred h0)
theorem Rj.f0 {md : Nat} {σ ρ : RS} (h : Rj md σ ρ) : Rj md (sI σ 62 0) (sI ρ 62 0) := h.f S1.s S1.s (by rw [gI_sI, gI_sI]) (by rw [gI_sI]; exact Nat.zero_le _)
theorem Rj.o2 {σ ρ : RS} (h : Rj 1 σ ρ) : Rj 2 (sI σ 29 0) (sI ρ 29 0) := by
  obtain ⟨a, b, c, d, e, f, g, t⟩ := h
  refine ⟨fun k hk => ?_, b, fun _ i hi => absurd hi (Nat.not_lt_zero _), fun _ => d (by decide), e, f, g, t⟩
  by_cases q : k = 29
  · subst q; rfl
  · rw [gI_sI, gI_sI, nb_ne q]
    refine a k ?_
    unfold rjI at hk ⊢
    simp only [Bool.or_eq_true, Bool.and_eq_true, beq_iff_eq] at hk ⊢
    rcases hk with ((((((((h | h) | h) | h) | h) | h) | h) | h) | h) | h <;> first | (simp [h]; done) | exact absurd h.2 q
theorem Rj.f2 {σ ρ : RS} (h : Rj 0 σ ρ) : Rj 1 (sI σ 62 0) (sI ρ 62 0) := by
  obtain ⟨a, b, c, d, e, f, g, t⟩ := h
  refine ⟨fun k hk => ?_, b, fun q => absurd q (by decide), fun _ i hi => absurd hi (Nat.not_lt_zero _), e, f, g, t⟩
  by_cases q : k = 62
  · subst q; rfl
  · rw [gI_sI, gI_sI, nb_ne q]
    refine a k ?_
    unfold rjI at hk ⊢
    simp only [Bool.or_eq_true, Bool.and_eq_true, beq_iff_eq] at hk ⊢
    rcases hk with ((((((((h | h) | h) | h) | h) | h) | h) | h) | h) | h <;> first | (simp [h]; done) | exact absurd h.2 q | exact absurd h.1 (by decide)
/-- one token further -/
theorem Rj.p {md : Nat} {σ ρ τ τ' : RS} (h : Rj md σ ρ) (h1 : S1 14 σ τ) (h2 : S1 14 ρ τ') (e1 : gI τ 14 = gI σ 14 + 1) (e2 : gI τ' 14 = gI σ 14 + 1) (hl : gI σ 14 < 500) (ht : ¬ aI σ 3 (gI σ 14).toNatClampNeg = 0 ∧ ¬ aI σ 3 (gI σ 14).toNatClampNeg = 6) : Rj md τ τ' := by
  have hp := h.hp
  obtain ⟨a, b, c, d, e, f, g, t⟩ := h
  have g0 := g.1
  have ea := nT_add g.1 (show gI σ 14 < 2147483647 by lia)
  have hb : nT (gI σ 14) < 500 := nT_lt (y := 500) g.1 hl
  have hc : nT (gI σ 14) + 1 < nT (gI σ 2) := by
    rcases t _ hp ht.1 ht.2 with q | q
    · exact q
    · have q : 2500 ≤ nT (gI σ 14) := q
      omega
  have g2 : gI σ 14 + 1 < gI σ 2 := by
    have q0 : 0 ≤ gI σ 14 + 1 := by lia
    have q1 : 0 ≤ gI σ 2 := by lia
    refine Int32.not_le.mp (fun q => ?_)
    have := nT_le q1 q
    omega
  unfold Rj
  rw [h1.1 2 (by omega), h1.1 18 (by omega), h1.1 29 (by omega), h1.1 49 (by omega), h1.1 62 (by omega), h1.2, h1.2, h1.2, h1.2, h1.2, h1.2, h1.2, h1.2, h1.2, h1.2, h1.2, h2.2, h2.2, h2.2, h2.2, h2.2, h2.2, h2.2, h2.2, h2.2, h2.2, h2.2, e1]
  refine ⟨fun j hj => ?_, b, c, d, e, f, ⟨by lia, g2⟩, t⟩
  by_cases q : j = 14
  · subst q; rw [e1, e2]
  · rw [h1.1 j q, h2.1 j q]; exact a j hj
/-- one code more -/
def Em (σ : RS) (op a : Int32) (τ : RS) : Prop := (∀ k, k ≠ 18 → gI τ k = gI σ k) ∧ gI τ 18 = gI σ 18 + 1 ∧ aI τ 19 = upd (aI σ 19) (nT (gI σ 18)) op ∧ aI τ 20 = upd (aI σ 20) (nT (gI σ 18)) a ∧ (∀ k, k < 19 ∨ 24 < k → aI τ k = aI σ k) ∧ (0 ≤ gI σ 18 ∧ gI σ 18 < 4000)
theorem Rj.em {md : Nat} {σ ρ τ τ' : RS} {op a a' : Int32} (h : Rj md σ ρ) (h1 : Em σ op a τ) (h2 : Em ρ op a' τ') (ha : (op = 38 ∨ op = 39) → a' = a) : Rj md τ τ' := by
  have e18 := h.e18
  obtain ⟨a0, b, c, d, e, f, g, t⟩ := h
  obtain ⟨p1, p2, p3, p4, p5, p6, p7⟩ := h1
  obtain ⟨q1, q2, q3, q4, q5, -⟩ := h2
  have en := nT_add p6 (show gI σ 18 < 2147483647 by lia)
  unfold Rj
  rw [p1 2 (by omega), p1 14 (by omega), p1 29 (by omega), p1 49 (by omega), p1 62 (by omega), p2, p3, p4, p5 3 (by omega), p5 6 (by omega), p5 10 (by omega), p5 25 (by omega), p5 26 (by omega), p5 27 (by omega), p5 51 (by omega), p5 63 (by omega), p5 64 (by omega), q3, q4, q5 3 (by omega), q5 6 (by omega), q5 10 (by omega), q5 25 (by omega), q5 26 (by omega), q5 27 (by omega), q5 51 (by omega), q5 63 (by omega), q5 64 (by omega), en, e18]
  refine ⟨fun j hj => ?_, b, c, d, e, fun i hi => ?_, g, t⟩
  · by_cases q : j = 18
    · subst q; rw [p2, q2, e18]
    · rw [p1 j q, q1 j q]; exact a0 j hj
  · by_cases q : i = nT (gI σ 18)
    · subst q
      rw [upd_eq, upd_eq, upd_eq, upd_eq]
      exact ⟨rfl, ha⟩
    · rw [upd_ne q, upd_ne q, upd_ne q, upd_ne q]
      exact f i (by omega)
/-- one operator more -/
def Pu (σ : RS) (s g t : Int32) (τ : RS) : Prop := (∀ k, k ≠ 29 → gI τ k = gI σ k) ∧ gI τ 29 = gI σ 29 + 1 ∧ (aI τ 25 = upd (aI σ 25) (nT (gI σ 29)) s ∧ aI τ 26 = upd (aI σ 26) (nT (gI σ 29)) g ∧ aI τ 27 = upd (aI σ 27) (nT (gI σ 29)) t) ∧ (∀ k, k < 25 ∨ 28 < k → aI τ k = aI σ k) ∧ (0 ≤ gI σ 29 ∧ gI σ 29 < 600)
theorem Rj.pu {σ ρ τ τ' : RS} {s g t : Int32} (h : Rj 2 σ ρ) (h1 : Pu σ s g t τ) (h2 : Pu ρ s g t τ') : Rj 2 τ τ' := by
  have e18 := h.e29
  obtain ⟨a0, b, c, d, e, f, g, t⟩ := h
  have c := c (by decide)
  obtain ⟨p1, p2, ⟨p3, p4, p5⟩, p6, p7, p8⟩ := h1
  obtain ⟨q1, q2, ⟨q3, q4, q5⟩, q6, -⟩ := h2
  have en := nT_add p7 (show gI σ 29 < 2147483647 by lia)
  unfold Rj
  rw [p1 2 (by omega), p1 14 (by omega), p1 18 (by omega), p1 49 (by omega), p1 62 (by omega), p2, p3, p4, p5, p6 3 (by omega), p6 6 (by omega), p6 10 (by omega), p6 19 (by omega), p6 20 (by omega), p6 51 (by omega), p6 63 (by omega), p6 64 (by omega), q3, q4, q5, q6 3 (by omega), q6 6 (by omega), q6 10 (by omega), q6 19 (by omega), q6 20 (by omega), q6 51 (by omega), q6 63 (by omega), q6 64 (by omega), en, e18]
  refine ⟨fun j hj => ?_, b, fun _ i hi => ?_, d, e, f, g, t⟩
  · by_cases q : j = 29
    · subst q; rw [p2, q2, e18]
    · rw [p1 j q, q1 j q]; exact a0 j hj
  · by_cases q : i = nT (gI σ 29)
    · subst q
      rw [upd_eq, upd_eq, upd_eq, upd_eq, upd_eq, upd_eq]
      exact ⟨rfl, rfl, rfl⟩
    · rw [upd_ne q, upd_ne q, upd_ne q, upd_ne q, upd_ne q, upd_ne q]
      exact c i (by omega)
/-- one thing more -/
def Th (σ τ : RS) : Prop := (∀ k, k ≠ 49 → gI τ k = gI σ k) ∧ gI τ 49 = gI σ 49 + 1 ∧ aI τ 51 = upd (aI σ 51) (nT (gI σ 49)) (gI σ 18) ∧ (∀ k, k < 50 ∨ 61 < k → aI τ k = aI σ k) ∧ (0 ≤ gI σ 49 ∧ gI σ 49 < 600)
theorem Th.lt {σ τ : RS} (h : Th σ τ) : (gI σ 49).toNatClampNeg < (gI τ 49).toNatClampNeg := by
  have en := nT_add h.2.2.2.2.1 (show gI σ 49 < 2147483647 by have := h.2.2.2.2.2; lia)
  rw [h.2.1]
  show nT _ < nT _
  omega
theorem Rj.th {md : Nat} {σ ρ τ τ' : RS} (h : Rj md σ ρ) (h1 : Th σ τ) (h2 : Th ρ τ') : Rj md τ τ' := by
  have e18 := h.e49
  have ec := h.e18
  obtain ⟨a0, b, c, d, e, f, g, t⟩ := h
  obtain ⟨p1, p2, p3, p4, p5, p6⟩ := h1
  obtain ⟨q1, q2, q3, q4, -⟩ := h2
  have en := nT_add p5 (show gI σ 49 < 2147483647 by lia)
  unfold Rj
  rw [p1 2 (by omega), p1 14 (by omega), p1 18 (by omega), p1 29 (by omega), p1 62 (by omega), p2, p3, p4 3 (by omega), p4 6 (by omega), p4 10 (by omega), p4 19 (by omega), p4 20 (by omega), p4 25 (by omega), p4 26 (by omega), p4 27 (by omega), p4 63 (by omega), p4 64 (by omega), q3, q4 3 (by omega), q4 6 (by omega), q4 10 (by omega), q4 19 (by omega), q4 20 (by omega), q4 25 (by omega), q4 26 (by omega), q4 27 (by omega), q4 63 (by omega), q4 64 (by omega), en, e18, ec]
  refine ⟨fun j hj => ?_, b, c, fun q i hi => ⟨(d q i hi).1, (d q i hi).2.1, by have := (d q i hi).2.2; omega⟩, fun i hi => ?_, f, g, t⟩
  · by_cases q : j = 49
    · subst q; rw [p2, q2, e18]
    · rw [p1 j q, q1 j q]; exact a0 j hj
  · by_cases q : i = nT (gI σ 49)
    · subst q
      rw [upd_eq, upd_eq]
    · rw [upd_ne q, upd_ne q]
      exact e i (by omega)
/-- one frame more -/
def Fmq (σ : RS) (s k : Int32) (τ : RS) : Prop := (∀ k, k ≠ 62 → gI τ k = gI σ k) ∧ gI τ 62 = gI σ 62 + 1 ∧ (aI τ 63 = upd (aI σ 63) (nT (gI σ 62)) s ∧ aI τ 64 = upd (aI σ 64) (nT (gI σ 62)) k) ∧ (∀ k, k < 63 ∨ 65 < k → aI τ k = aI σ k) ∧ (0 ≤ gI σ 62 ∧ gI σ 62 < 80)
theorem Rj.fm {σ ρ τ τ' : RS} {s k : Int32} (h : Rj 1 σ ρ) (h1 : Fmq σ s k τ) (h2 : Fmq ρ s k τ') (hk : k.toNatClampNeg < (gI σ 49).toNatClampNeg) : Rj 1 τ τ' := by
  have e18 := h.e62
  obtain ⟨a0, b, c, d, e, f, g, t⟩ := h
  have d := d (by decide)
  obtain ⟨p1, p2, ⟨p3, p4⟩, p5, p6, p7⟩ := h1
  obtain ⟨q1, q2, ⟨q3, q4⟩, q5, -⟩ := h2
  have en := nT_add p6 (show gI σ 62 < 2147483647 by lia)
  unfold Rj
  rw [p1 2 (by omega), p1 14 (by omega), p1 18 (by omega), p1 29 (by omega), p1 49 (by omega), p2, p3, p4, p5 3 (by omega), p5 6 (by omega), p5 10 (by omega), p5 19 (by omega), p5 20 (by omega), p5 25 (by omega), p5 26 (by omega), p5 27 (by omega), p5 51 (by omega), q3, q4, q5 3 (by omega), q5 6 (by omega), q5 10 (by omega), q5 19 (by omega), q5 20 (by omega), q5 25 (by omega), q5 26 (by omega), q5 27 (by omega), q5 51 (by omega), en, e18]
  refine ⟨fun j hj => ?_, b, fun q => absurd q (by decide), fun _ i hi => ?_, e, f, g, t⟩
  · by_cases q : j = 62
    · subst q; rw [p2, q2, e18]
    · rw [p1 j q, q1 j q]; exact a0 j hj
  · by_cases q : i = nT (gI σ 62)
    · subst q
      rw [upd_eq, upd_eq, upd_eq, upd_eq]
      exact ⟨rfl, rfl, hk⟩
    · rw [upd_ne q, upd_ne q, upd_ne q, upd_ne q]
      exact d i (by omega)
theorem Rj.fs {md : Nat} {σ ρ : RS} {i : Nat} {v : Int32} (h : Rj md σ ρ) : Rj md (sA σ 63 (upd (aI σ 63) i v)) (sA ρ 63 (upd (aI ρ 63) i v)) := by
  obtain ⟨a0, b, c, d, e, f, g, t⟩ := h
  refine ⟨a0, b, c, fun q1 j hj => ?_, e, f, g, t⟩
  have q := d q1 j hj
  refine ⟨?_, q.2.1, q.2.2⟩
  show upd (aI ρ 63) i v j = upd (aI σ 63) i v j
  unfold upd
  split
  · rfl
  · exact q.1
/-- what an exp keeps -/
def kxI (k : Nat) : Bool := k == 2 || k == 36 || k == 49 || k == 62
def kxA (k : Nat) : Bool := k == 3 || k == 6 || k == 39 || k == 51 || k == 63 || k == 64
def Kx (σ τ : RS) : Prop := (∀ k, kxI k = true → gI τ k = gI σ k) ∧ ∀ k, kxA k = true → aI τ k = aI σ k
theorem Kx.rf {σ : RS} : Kx σ σ := ⟨fun _ _ => rfl, fun _ _ => rfl⟩
theorem Kx.tr {σ τ υ : RS} (h1 : Kx σ τ) (h2 : Kx τ υ) : Kx σ υ := ⟨fun k hk => (h2.1 k hk).trans (h1.1 k hk), fun k hk => (h2.2 k hk).trans (h1.2 k hk)⟩
theorem Kx.i {σ τ : RS} (h : Kx σ τ) {k : Nat} {v : Int32} (hk : kxI k = false) : Kx σ (sI τ k v) := ⟨fun j hj => by rw [gI_sI, nb_ne (fun q => by subst q; rw [hk] at hj; cases hj)]; exact h.1 j hj, h.2⟩
theorem Kx.a {σ τ : RS} (h : Kx σ τ) {k : Nat} {f : Nat → Int32} (hk : kxA k = false) : Kx σ (sA τ k f) := ⟨h.1, fun j hj => by rw [aI_sA, nb_ne (fun q => by subst q; rw [hk] at hj; cases hj)]; exact h.2 j hj⟩
theorem Kx.m {σ τ : RS} (h : Kx σ τ) {k : Nat} {f : Nat → Int64} : Kx σ (sM τ k f) := h
theorem S1.kx {k : Nat} {σ τ : RS} (h : S1 k σ τ) (hk : kxI k = false) : Kx σ τ := ⟨fun j hj => h.1 j (fun q => by subst q; rw [hk] at hj; cases hj), fun j _ => h.2 j⟩
theorem Em.kx {σ τ : RS} {op a : Int32} (h : Em σ op a τ) : Kx σ τ := by
  refine ⟨fun j hj => h.1 j (fun q => by subst q; cases hj), fun j hj => h.2.2.2.2.1 j ?_⟩
  unfold kxA at hj
  simp only [Bool.or_eq_true, beq_iff_eq] at hj
  omega
theorem Pu.kx {σ τ : RS} {s g t : Int32} (h : Pu σ s g t τ) : Kx σ τ := by
  refine ⟨fun j hj => h.1 j (fun q => by subst q; cases hj), fun j hj => h.2.2.2.1 j ?_⟩
  unfold kxA at hj
  simp only [Bool.or_eq_true, beq_iff_eq] at hj
  omega
theorem Rj.ca {md : Nat} {σ ρ : RS} {c : Nat} {v v' : Int32} (h : Rj md σ ρ) (ho : ¬ (aI σ 19 c = 38 ∨ aI σ 19 c = 39)) : Rj md (sA σ 20 (upd (aI σ 20) c v)) (sA ρ 20 (upd (aI ρ 20) c v')) := by
  obtain ⟨a0, b, c0, d, e, f, g, t⟩ := h
  refine ⟨a0, b, c0, d, e, fun j hj => ?_, g, t⟩
  have q := f j hj
  refine ⟨q.1, fun o => ?_⟩
  by_cases e : j = c
  · subst e; exact absurd o ho
  · show upd (aI ρ 20) c v' j = upd (aI σ 20) c v j
    rw [upd_ne e, upd_ne e]
    exact q.2 o
theorem lt_pred {x : Int32} (h : 0 < x) : (x - 1).toNatClampNeg < x.toNatClampNeg := by
  have := nT_sub h
  show nT _ < nT _
  omega
theorem Em.at {σ τ : RS} {op a : Int32} (h : Em σ op a τ) : aI τ 19 (gI σ 18).toNatClampNeg = op := by
  rw [h.2.2.1]
  exact upd_eq
