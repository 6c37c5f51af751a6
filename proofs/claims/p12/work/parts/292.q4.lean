/-! loose exps -/
theorem opX_o {k sg : Int} {z : ZS} {n : Nat} : oprX (opX k sg z) n := by
  unfold oprX opX ofX recZ
  dsimp only
  omega
theorem LsX.up {N : Int → Int} {A : Nat → Nat} {n0 : Nat} {σ τ : CsC} {z : ZS} {X : LoT} {o : Nat} {x x' : XrZ} {nx nx' : Option Nat} (h : LsX N A n0 σ z ((o, x, nx) :: X)) (f : ∀ a, a ≠ o → ∀ k, fIC τ a k = fIC σ a k ∧ fLC τ a k = fLC σ a k ∧ fRC τ a k = fRC σ a k) (hc : cnC τ = cnC σ) (hx : oprX x' (xnM z)) (hb : XbC A τ x' o) (hi : XiC N τ x' o) (hn : fRC τ o 75 = nx') : LsX N A n0 τ z ((o, x', nx') :: X) := by
  obtain ⟨⟨⟨a1, a2, -, a3⟩, -, -, -⟩, b, c⟩ := h.hd
  exact (b.xf (fun q hq => f q.1 (c q hq)) (Nat.le_of_eq hc.symm)).cn ⟨⟨a1, by rw [hc]; exact a2, hx, a3⟩, hb, hi, hn⟩ c
theorem ZC.lo {N : Int → Int} {E A B V : Nat → Nat} {n0 : Nat} {σ τ : CsC} {z : ZS} {X : LoT} {o : Nat} {x : XrZ} {nx : Option Nat} (h : ZC N E A B V σ z) (L : LsX N A n0 σ z ((o, x, nx) :: X)) (f : XfE σ τ) (hf : ∀ a, a ≠ o → ∀ k, fIC τ a k = fIC σ a k ∧ fLC τ a k = fLC σ a k ∧ fRC τ a k = fRC σ a k) : ZC N E A B V τ z := h.xf f (fun i hi k => hf _ (L.hd.1.1.2.2.2 i hi) k)
theorem FzC.lo {n m n0 : Nat} {N : Int → Int} {E A B V : Nat → Nat} {σ τ : CsC} {z : ZS} {X : LoT} {o : Nat} {x : XrZ} {nx : Option Nat} (L : LsX N A n0 σ z ((o, x, nx) :: X)) (hn : n ≤ n0) (f : XfE σ τ) (hf : ∀ a, a ≠ o → ∀ k, fIC τ a k = fIC σ a k ∧ fLC τ a k = fLC σ a k ∧ fRC τ a k = fRC σ a k) : FzC n m E A A B B V V z z σ τ := ⟨Nat.le_of_eq f.2.2.symm, fun a ha k _ => hf a (by have := L.hd.1.1.1; dsimp only at this; omega) k, ⟨⟨Nat.le_refl _, fun _ _ => ⟨rfl, rfl⟩⟩, fun i h1 h2 => absurd h2 (Nat.not_lt.mpr h1)⟩, ⟨⟨Nat.le_refl _, fun _ _ => ⟨rfl, rfl, rfl⟩⟩, fun i h1 h2 => absurd h2 (Nat.not_lt.mpr h1)⟩, ⟨Nat.le_refl _, fun _ _ => ⟨rfl, rfl⟩⟩, Int.le_refl _, fun j _ => by rw [f.2.1.1]⟩
theorem rI_a {σ : CsC} {o k : Nat} {v : Int32} : ∀ a, a ≠ o → ∀ j, fIC (pIC σ o k v) a j = fIC σ a j ∧ fLC (pIC σ o k v) a j = fLC σ a j ∧ fRC (pIC σ o k v) a j = fRC σ a j := fun a ha j => ⟨u2C_na ha, rfl, rfl⟩
theorem rR_a {σ : CsC} {o k : Nat} {v : Option Nat} : ∀ a, a ≠ o → ∀ j, fIC (pRC σ o k v) a j = fIC σ a j ∧ fLC (pRC σ o k v) a j = fLC σ a j ∧ fRC (pRC σ o k v) a j = fRC σ a j := fun a ha j => ⟨rfl, rfl, u2C_na ha⟩
theorem pR_n {σ : CsC} {o k j : Nat} {v : Option Nat} (h : j ≠ k) : fRC (pRC σ o k v) o j = fRC σ o j := u2C_nk h
theorem pR_e {σ : CsC} {o k : Nat} {v : Option Nat} : fRC (pRC σ o k v) o k = v := u2C_eq
theorem pI_n {σ : CsC} {o k j : Nat} {v : Int32} (h : j ≠ k) : fIC (pIC σ o k v) o j = fIC σ o j := u2C_nk h
theorem pI_e {σ : CsC} {o k : Nat} {v : Int32} : fIC (pIC σ o k v) o k = v := u2C_eq
theorem LsX.s72 {N : Int → Int} {A : Nat → Nat} {n0 : Nat} {σ : CsC} {z : ZS} {X : LoT} {o : Nat} {nx : Option Nat} {k sg f l nm lk wk st a b c mk v : Int} {ar : List Int} {w : Option Nat} (h : LsX N A n0 σ z ((o, recZ k sg f l nm lk wk st a b c mk ar, nx) :: X)) (hw : w = opA A v) (hv : v < (xnM z : Int)) : LsX N A n0 (pRC σ o 72 w) z ((o, recZ k sg f l nm lk wk st v b c mk ar, nx) :: X) := by
  obtain ⟨⟨⟨-, -, a3, -⟩, a4, a5, a6⟩, -⟩ := h.hd
  exact h.up rR_a rfl ⟨hv, a3.2.1, a3.2.2.1, a3.2.2.2⟩ ⟨a4.1, a4.2.1, pR_e.trans hw, (pR_n (by decide)).trans a4.2.2.2.1, (pR_n (by decide)).trans a4.2.2.2.2.1, (pR_n (by decide)).trans a4.2.2.2.2.2⟩ a5 ((pR_n (by decide)).trans a6)
theorem LsX.s73 {N : Int → Int} {A : Nat → Nat} {n0 : Nat} {σ : CsC} {z : ZS} {X : LoT} {o : Nat} {nx : Option Nat} {k sg f l nm lk wk st a b c mk v : Int} {ar : List Int} {w : Option Nat} (h : LsX N A n0 σ z ((o, recZ k sg f l nm lk wk st a b c mk ar, nx) :: X)) (hw : w = opA A v) (hv : v < (xnM z : Int)) : LsX N A n0 (pRC σ o 73 w) z ((o, recZ k sg f l nm lk wk st a v c mk ar, nx) :: X) := by
  obtain ⟨⟨⟨-, -, a3, -⟩, a4, a5, a6⟩, -⟩ := h.hd
  exact h.up rR_a rfl ⟨a3.1, hv, a3.2.2.1, a3.2.2.2⟩ ⟨a4.1, a4.2.1, (pR_n (by decide)).trans a4.2.2.1, pR_e.trans hw, (pR_n (by decide)).trans a4.2.2.2.2.1, (pR_n (by decide)).trans a4.2.2.2.2.2⟩ a5 ((pR_n (by decide)).trans a6)
theorem LsX.s74 {N : Int → Int} {A : Nat → Nat} {n0 : Nat} {σ : CsC} {z : ZS} {X : LoT} {o : Nat} {nx : Option Nat} {k sg f l nm lk wk st a b c mk v : Int} {ar : List Int} {w : Option Nat} (h : LsX N A n0 σ z ((o, recZ k sg f l nm lk wk st a b c mk ar, nx) :: X)) (hw : w = opA A v) (hv : v < (xnM z : Int)) : LsX N A n0 (pRC σ o 74 w) z ((o, recZ k sg f l nm lk wk st a b v mk ar, nx) :: X) := by
  obtain ⟨⟨⟨-, -, a3, -⟩, a4, a5, a6⟩, -⟩ := h.hd
  exact h.up rR_a rfl ⟨a3.1, a3.2.1, hv, a3.2.2.2⟩ ⟨a4.1, a4.2.1, (pR_n (by decide)).trans a4.2.2.1, (pR_n (by decide)).trans a4.2.2.2.1, pR_e.trans hw, (pR_n (by decide)).trans a4.2.2.2.2.2⟩ a5 ((pR_n (by decide)).trans a6)
theorem LsX.s76 {N : Int → Int} {A : Nat → Nat} {n0 : Nat} {σ : CsC} {z : ZS} {X : LoT} {o : Nat} {nx : Option Nat} {k sg f l nm lk wk st a b c mk v : Int} {ar : List Int} {w : Option Nat} (h : LsX N A n0 σ z ((o, recZ k sg f l nm lk wk st a b c mk ar, nx) :: X)) (hw : w = opA A v) (hv : v < (xnM z : Int)) : LsX N A n0 (pRC σ o 76 w) z ((o, recZ k sg f l nm lk wk st a b c v ar, nx) :: X) := by
  obtain ⟨⟨⟨-, -, a3, -⟩, a4, a5, a6⟩, -⟩ := h.hd
  exact h.up rR_a rfl ⟨a3.1, a3.2.1, a3.2.2.1, hv⟩ ⟨a4.1, a4.2.1, (pR_n (by decide)).trans a4.2.2.1, (pR_n (by decide)).trans a4.2.2.2.1, (pR_n (by decide)).trans a4.2.2.2.2.1, pR_e.trans hw⟩ a5 ((pR_n (by decide)).trans a6)
theorem LsX.s75 {N : Int → Int} {A : Nat → Nat} {n0 : Nat} {σ : CsC} {z : ZS} {X : LoT} {o : Nat} {nx : Option Nat} {k sg f l nm lk wk st a b c mk : Int} {ar : List Int} {w : Option Nat} (h : LsX N A n0 σ z ((o, recZ k sg f l nm lk wk st a b c mk ar, nx) :: X)) : LsX N A n0 (pRC σ o 75 w) z ((o, recZ k sg f l nm lk wk st a b c mk ar, w) :: X) := by
  obtain ⟨⟨⟨-, -, a3, -⟩, a4, a5, a6⟩, -⟩ := h.hd
  exact h.up rR_a rfl a3 ⟨a4.1, a4.2.1, (pR_n (by decide)).trans a4.2.2.1, (pR_n (by decide)).trans a4.2.2.2.1, (pR_n (by decide)).trans a4.2.2.2.2.1, (pR_n (by decide)).trans a4.2.2.2.2.2⟩ a5 pR_e
theorem LsX.s66 {N : Int → Int} {A : Nat → Nat} {n0 : Nat} {σ : CsC} {z : ZS} {X : LoT} {o : Nat} {nx : Option Nat} {k sg f l nm lk wk st a b c mk v : Int} {ar : List Int} {w : Int32} (h : LsX N A n0 σ z ((o, recZ k sg f l nm lk wk st a b c mk ar, nx) :: X)) (hw : w.toInt = v) : LsX N A n0 (pIC σ o 66 w) z ((o, recZ k sg f l v lk wk st a b c mk ar, nx) :: X) := by
  obtain ⟨⟨⟨-, -, a3, -⟩, a4, a5, a6⟩, -⟩ := h.hd
  exact h.up rI_a rfl a3 ⟨⟨(by rw [pI_n (by decide)]; exact a4.1.1), (by rw [pI_n (by decide)]; exact a4.1.2.1), (by rw [pI_n (by decide)]; exact a4.1.2.2.1), (by rw [pI_n (by decide)]; exact a4.1.2.2.2)⟩, ⟨(by rw [pI_e]; exact hw), (by rw [pI_n (by decide)]; exact a4.2.1.2.1), (by rw [pI_n (by decide)]; exact a4.2.1.2.2)⟩, a4.2.2⟩ ⟨(by rw [pI_n (by decide)]; exact a5.1), (by rw [pI_n (by decide)]; exact a5.2.1), a5.2.2⟩ a6
theorem LsX.s67 {N : Int → Int} {A : Nat → Nat} {n0 : Nat} {σ : CsC} {z : ZS} {X : LoT} {o : Nat} {nx : Option Nat} {k sg f l nm lk wk st a b c mk v : Int} {ar : List Int} {w : Int32} (h : LsX N A n0 σ z ((o, recZ k sg f l nm lk wk st a b c mk ar, nx) :: X)) (hw : w.toInt = v) : LsX N A n0 (pIC σ o 67 w) z ((o, recZ k sg f l nm v wk st a b c mk ar, nx) :: X) := by
  obtain ⟨⟨⟨-, -, a3, -⟩, a4, a5, a6⟩, -⟩ := h.hd
  exact h.up rI_a rfl a3 ⟨⟨(by rw [pI_n (by decide)]; exact a4.1.1), (by rw [pI_n (by decide)]; exact a4.1.2.1), (by rw [pI_n (by decide)]; exact a4.1.2.2.1), (by rw [pI_n (by decide)]; exact a4.1.2.2.2)⟩, ⟨(by rw [pI_n (by decide)]; exact a4.2.1.1), (by rw [pI_e]; exact hw), (by rw [pI_n (by decide)]; exact a4.2.1.2.2)⟩, a4.2.2⟩ ⟨(by rw [pI_n (by decide)]; exact a5.1), (by rw [pI_n (by decide)]; exact a5.2.1), a5.2.2⟩ a6
theorem LsX.s69 {N : Int → Int} {A : Nat → Nat} {n0 : Nat} {σ : CsC} {z : ZS} {X : LoT} {o : Nat} {nx : Option Nat} {k sg f l nm lk wk st a b c mk v : Int} {ar : List Int} {w : Int32} (h : LsX N A n0 σ z ((o, recZ k sg f l nm lk wk st a b c mk ar, nx) :: X)) (hw : w.toInt = v) : LsX N A n0 (pIC σ o 69 w) z ((o, recZ k sg f l nm lk v st a b c mk ar, nx) :: X) := by
  obtain ⟨⟨⟨-, -, a3, -⟩, a4, a5, a6⟩, -⟩ := h.hd
  exact h.up rI_a rfl a3 ⟨⟨(by rw [pI_n (by decide)]; exact a4.1.1), (by rw [pI_n (by decide)]; exact a4.1.2.1), (by rw [pI_n (by decide)]; exact a4.1.2.2.1), (by rw [pI_n (by decide)]; exact a4.1.2.2.2)⟩, ⟨(by rw [pI_n (by decide)]; exact a4.2.1.1), (by rw [pI_n (by decide)]; exact a4.2.1.2.1), (by rw [pI_e]; exact hw)⟩, a4.2.2⟩ ⟨(by rw [pI_n (by decide)]; exact a5.1), (by rw [pI_n (by decide)]; exact a5.2.1), a5.2.2⟩ a6
/-- a mark -/
def mkX (k sg : Int) (z : ZS) : XrZ := recZ k sg (zAt z.1) (zAt z.1 - 1) (zAt z.1) (-1) 0 (xnM z) (-1) (-1) (-1) (-1) []
abbrev Pz_putMark : ((Int → Int) × (Nat → Nat) × (Nat → Nat) × (Nat → Nat) × (Nat → Nat) × ZS × Int × Int) → CpC := fun y As σ => match y with
  | (N, E, A, B, V, z, k, sg) => ∃ (p1 : Int32) (p2 : Int32), As = [.inr (.inr (some (E 0))), .inl p1, .inl p2] ∧ (ZC N E A B V σ z) ∧ (p1.toInt = k) ∧ (p2.toInt = sg) ∧ (¬ (k = 0 ∨ k = 1))
abbrev Qz_putMark : ((Int → Int) × (Nat → Nat) × (Nat → Nat) × (Nat → Nat) × (Nat → Nat) × ZS × Int × Int) → CqC := fun y As σ w τ => match y, As with
  | (N, E, A, B, V, z, k, sg), [_, .inl p1, .inl p2] => w = some (.inr (.inr (some (cnC σ)))) ∧ ZC N E (upA A (xnM z) (cnC σ)) B V τ (puM (mkX k sg z) z) ∧ FzC (cnC σ) (xnM z) E A (upA A (xnM z) (cnC σ)) B B V V z (puM (mkX k sg z) z) σ τ ∧ fRC τ (cnC σ) 75 = none
  | _, _ => True
abbrev Uz_putMark : CqC := fun As σ w τ => ∀ y, Pz_putMark y As σ → Qz_putMark y As σ w τ
set_option maxHeartbeats 4000000 in
theorem pz_putMark (y : (Int → Int) × (Nat → Nat) × (Nat → Nat) × (Nat → Nat) × (Nat → Nat) × ZS × Int × Int) : PbC KX7_putMark [(162, TrP, EqC 162), (161, TrP, EqC 161)] [(162, Uz_opened), (161, Uz_put)] (fun As σ => Pz_putMark y As σ ∧ cnC σ ≤ 1000000 ∧ ∃ w τ, uqC quL 163 As σ w τ) (Qz_putMark y) := by
  obtain ⟨N, E, A, B, V, z, k, sg⟩ := y
  rintro As σ ⟨⟨p1, p2, rfl, hZ, hp1, hp2, hk⟩, hcn, _, _, hQ⟩ K hB hW n_
  have hH : HI0 σ ∧ TyC σ (E 0) 8 := hQ
  have hat := hZ.at0 hH
  change K n_ 0 [(0, .inr (.inr (some (E 0)))), (1, .inl p1), (2, .inl p2)] [] σ
  refine hB _ _ _ _ _ (fun m51 hm51 => ?_)
  dsimp only [ucgo, ucwp, ucsC, uqC, uoC, ctC, rfd, KX7_putMark, KX7_putMark_0, lkC, s1C, s2C, dlC, kyC, Nat.beq, Nat.ble, rcd, rno, rsw, Nat.reduceAdd, Nat.reduceBEq, Nat.reduceDiv, List.drop, List.take, List.reverse, List.reverseAux, Int.toNat, Option.toList, List.append, List.cons_append, List.nil_append]
  intro w52 τ52 o52 q52
  obtain ⟨rfl, hZ52, hf52, hnw52⟩ := q52 (N, E, A, B, V, z, k, sg) ⟨_, _, rfl, hZ, by omega, by omega⟩
  have hF52 := FzC.tr (FzC.rf (n := cnC σ) (m := xnM z) (E := E) (A := A) (B := B) (V := V) (z := z) (σ := σ)) (FzC.mo hf52 (Nat.le_refl (cnC σ)) ((FzC.rf (n := cnC σ) (m := xnM z) (E := E) (A := A) (B := B) (V := V) (z := z) (σ := σ))).2.2.1.1.1)
  have hL52 := LsX.fz (LsX.nil (N := N) (A := A) (n0 := cnC σ) (σ := σ) (z := z)) hf52
  have hle52 : cnC σ ≤ cnC τ52 := Nat.le_trans (Nat.le_refl (cnC σ)) (hf52).1
  have hLn52 : LsX N A (cnC σ) τ52 z [((cnC σ), (recZ k sg (zAt z.1) 0 (zAt z.1) (-1) 0 (xnM z) (-1) (-1) (-1) (-1) []), none)] := LsX.nw hL52 (fun q hq => ((LsX.nil (N := N) (A := A) (n0 := cnC σ) (σ := σ) (z := z)).1 q hq).1.2.1) hnw52 (Nat.le_refl (cnC σ)) opX_o (by show ¬ ((k : Int) = 0 ∨ (k : Int) = 1); omega) (fun i hi => (hZ.2.2.2.1.1.2 i hi).2)
  try dsimp only [Option.toList, List.cons_append, List.nil_append, s1C, s2C, dlC, kyC, Nat.beq, lkC, rcd, rno, rsw]
  intro w53 τ53 o53 q53
  have hh53 := LsX.hd hLn52
  obtain ⟨rfl, hZ53, hpo53, hnx53⟩ := q53 (N, E, A, B, V, z, (recZ k sg (zAt z.1) (zAt z.1 - 1) (zAt z.1) (-1) 0 (xnM z) (-1) (-1) (-1) (-1) [])) ⟨_, rfl, hZ52, ⟨hh53.1.1.2, hh53.1.2.1, hh53.1.2.2.1⟩, rfl, ⟨fun a ha => absurd ha List.not_mem_nil, trivial⟩⟩
  have hnx53 := hnx53.trans hh53.1.2.2.2
  have hF53 := FzC.tr hF52 (FzC.pu (x := (recZ k sg (zAt z.1) (zAt z.1 - 1) (zAt z.1) (-1) 0 (xnM z) (-1) (-1) (-1) (-1) [])) hpo53 hh53.1.1.1 hle52 (Int.le_refl _) hZ52.1.2.2.2.2.2.1.2.1)
  have hL53 := LsX.pu (x := (recZ k sg (zAt z.1) (zAt z.1 - 1) (zAt z.1) (-1) 0 (xnM z) (-1) (-1) (-1) (-1) [])) hh53.2.1 hpo53 hh53.2.2
  have hle53 : cnC σ ≤ cnC τ53 := Nat.le_trans hle52 hpo53.1
  try dsimp only [Option.toList, List.cons_append, List.nil_append, s1C, s2C, dlC, kyC, Nat.beq, lkC, rcd, rno, rsw]
  try dsimp only [Qz_putMark]
  exact ⟨rfl, hZ53, hF53, hnx53⟩
theorem wz_putMark : ∀ (L : Nat) (As : List AvC) (σ : CsC) (w : Option AvC) (τ : CsC), EvF L 163 As σ w τ → Uz_putMark As σ w τ := by
  intro L
  cases L with
  | zero => exact fun _ _ _ _ h => h.elim
  | succ L => exact fun As σ w τ h y hy => EvF.us (cs := [162, 161]) (pz_putMark y) rfl (List.forall_mem_cons.2 ⟨wz_opened L, List.forall_mem_cons.2 ⟨wz_put L, fun _ h => absurd h List.not_mem_nil⟩⟩) h hy
