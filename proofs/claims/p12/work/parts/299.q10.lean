/-! calls -/
theorem pR_m {σ : CsC} {o a k j : Nat} {w : Option Nat} (h : a ≠ o) : fRC (pRC σ o k w) a j = fRC σ a j := u2C_na h
theorem pR_k {σ : CsC} {o a k j : Nat} {w : Option Nat} (h : j ≠ k) : fRC (pRC σ o k w) a j = fRC σ a j := u2C_nk h
theorem pL_e {σ : CsC} {o k : Nat} {w : Int64} : fLC (pLC σ o k w) o k = w := u2C_eq
/-- what is next of a listed exp, that is no argument yet -/
theorem ZC.nx {N : Int → Int} {E A B V : Nat → Nat} {σ : CsC} {z : ZS} {p : Nat} {w : Option Nat} (h : ZC N E A B V σ z) (hp : p < xnM z) (ha : ∀ i, i < xnM z → ∀ a ∈ (xth z i).2.2.2, a ≠ (p : Int)) : ZC N E A B V (pRC σ (A p) 75 w) z := by
  have inj := fun i hi e => h.inj (i := i) (j := p) hi hp e
  obtain ⟨h1, ⟨⟨h2, h3⟩, h4, h5, h6⟩, ⟨h7, h8⟩, ⟨l1, l2, l3, l4⟩, ⟨x1, x2⟩, ⟨s1, s2⟩, v1, v2, v3⟩ := h
  have fr : ∀ a k, k ≠ 75 → fRC (pRC σ (A p) 75 w) a k = fRC σ a k := fun a k hk => u2C_nk hk
  refine ⟨h1.cg (fun a k _ hk => fr a k (by omega)) (Nat.le_refl _), ⟨⟨h2, h3⟩, h4, (fr _ 246 (by decide)).trans h5, h6⟩, ⟨h7, h8⟩, ⟨l1.cg (fr _ 1 (by decide)) rfl rfl (Nat.le_refl _), l2.cg (fr _ 1 (by decide)) rfl rfl (Nat.le_refl _), l3.cg (fr _ 1 (by decide)) rfl rfl (Nat.le_refl _), l4.cg (fr _ 1 (by decide)) rfl rfl (Nat.le_refl _)⟩, ⟨fun i hi => ⟨?_, (x1 i hi).2⟩, fun i hi => ⟨(x2 i hi).1, ChC.cg (fun a hm => ?_) (x2 i hi).2⟩⟩, ⟨fun j hj => ⟨(s1 j hj).1.cg (fun k hk => ⟨rfl, rfl, fr _ k (by omega)⟩), (s1 j hj).2⟩, s2⟩, v1, v2, v3⟩
  · have q := (x1 i hi).1
    obtain ⟨⟨a, b, ⟨c1, c2, c3, c4⟩⟩, d, e1, e2⟩ := q
    exact ⟨⟨a, b, ⟨(fr _ 72 (by decide)).trans c1, (fr _ 73 (by decide)).trans c2, (fr _ 74 (by decide)).trans c3, (fr _ 76 (by decide)).trans c4⟩⟩, d, e1, e2⟩
  · have q := (x2 i hi).1 a hm
    exact pR_m (fun e => ha i hi a hm (by have := inj a.toNat (by omega) e; omega))
theorem FzC.ob {n m : Nat} {E A A' B B' V V' : Nat → Nat} {z z' : ZS} {σ τ υ : CsC} {o : Nat} (h : FzC n m E A A' B B' V V' z z' σ τ) (f : XfE τ υ) (ha : ∀ a, a ≠ o → ∀ k, fIC υ a k = fIC τ a k ∧ fLC υ a k = fLC τ a k ∧ fRC υ a k = fRC τ a k) (hn : n ≤ o) : FzC n m E A A' B B' V V' z z' σ υ := by
  obtain ⟨p1, p2, p3, p6, p7, p8, p9⟩ := h
  refine ⟨by rw [f.2.2]; exact p1, fun a h1 k hk => ?_, p3, p6, p7, p8, fun j hj => by rw [f.2.1.1]; exact p9 j hj⟩
  have q := p2 a h1 k hk
  have r := ha a (by omega) k
  exact ⟨r.1.trans q.1, r.2.1.trans q.2.1, r.2.2.trans q.2.2⟩
/-- one argument more -/
theorem ChC.ap {A : Nat → Nat} {σ : CsC} {p q : Int} : ∀ {l : List Int}, ChC A σ (l ++ [p]) → (∀ a ∈ l, A a.toNat ≠ A p.toNat) → A q.toNat ≠ A p.toNat → fRC σ (A q.toNat) 75 = none → ChC A (pRC σ (A p.toNat) 75 (some (A q.toNat))) (l ++ [p] ++ [q]) := by
  intro l
  induction l with
  | nil =>
    intro _ _ hq hn
    exact ⟨pR_e, (pR_m hq).trans hn, trivial⟩
  | cons a l ih =>
    intro h hl hq hn
    refine ⟨(pR_m (hl a List.mem_cons_self)).trans (h.1.trans ?_), ih h.2 (fun b hb => hl b (List.mem_cons_of_mem _ hb)) hq hn⟩
    cases l with
    | nil => rfl
    | cons b l => rfl
/-- what stands in a call's loop -/
def CaR (N : Int → Int) (E A B V : Nat → Nat) (z : ZS) (σ : CsC) (o : Nat) (υ : CsC) (Y : Nat → Nat) (v : ZS) (l : List Int) (lo : Nat) : Prop :=
  (ZC N E Y B V υ v ∧ FzC (cnC σ) (xnM z) E A Y B B V V z v σ υ ∧ LsX N Y (cnC σ) υ v [(o, recZ 10 0 (zAt z.1) 0 (zAt z.1) (-1) 0 (xnM z) ((l ++ [(xnM v : Int) - 1]).headD (-1)) (-1) (-1) (-1) [], none)]) ∧ (ChC Y υ (l ++ [(xnM v : Int) - 1]) ∧ ∀ a ∈ l, (xnM z : Int) ≤ a ∧ a < (xnM v : Int) - 1) ∧ (lo = Y (xnM v - 1) ∧ xnM z < xnM v) ∧ cnC σ ≤ cnC υ
theorem hd_ap {l : List Int} {p q d : Int} : (l ++ [p] ++ [q]).headD d = (l ++ [p]).headD d := by
  cases l with
  | nil => rfl
  | cons a l => rfl
/-- one argument more is read -/
theorem CaR.nx {N : Int → Int} {E A B V Y Y2 : Nat → Nat} {z v v2 : ZS} {σ υ τ τ2 : CsC} {o lo : Nat} {l : List Int} (h : CaR N E A B V z σ o υ Y v l lo) (f1 : FzC (cnC υ) (xnM v) E Y Y B B V V v (accM v) υ τ) (hZ2 : ZC N E Y2 B V τ2 v2) (f2 : FzC (cnC τ) (xnM (accM v)) E Y Y2 B B V V (accM v) v2 τ τ2) (ht : TpX τ2 (Y2 (xnM v2 - 1)) (accM v)) (hx : xnM v < xnM v2) : CaR N E A B V z σ o (pRC τ2 lo 75 (some (Y2 (xnM v2 - 1)))) Y2 v2 (l ++ [(xnM v : Int) - 1]) (Y2 (xnM v2 - 1)) := by
  obtain ⟨⟨h1, h2, h3⟩, ⟨h4, h5⟩, ⟨h6, h7⟩, h8⟩ := h
  have f : FzC (cnC υ) (xnM v) E Y Y2 B B V V v v2 υ τ2 := f1.tr (f2.mo f1.1 (Nat.le_refl (xnM v)))
  obtain ⟨g1, g2, ⟨⟨g3, g4⟩, g5⟩, -⟩ := id f
  have yp : Y2 (xnM v - 1) = lo := (g4 (xnM v - 1) (by omega)).1.trans h6.symm
  have lo0 : cnC σ ≤ lo := by
    rw [h6]
    exact (h2.2.2.1.2 (xnM v - 1) (by omega) (by omega)).1
  have hZ : ZC N E Y2 B V (pRC τ2 lo 75 (some (Y2 (xnM v2 - 1)))) v2 := by
    rw [← yp]
    refine hZ2.nx (by omega) (fun i hi a hm e => ?_)
    have q := (hZ2.2.2.2.2.1.2 i hi).1 a hm
    by_cases c : i < xnM v
    · omega
    · have q2 := (g5 i (by omega) hi).2
      omega
  have hF := FzC.ob (o := lo) (υ := pRC τ2 lo 75 (some (Y2 (xnM v2 - 1)))) (h2.tr (f.mo h8 (Nat.le_of_lt h7))) (XfE.pR (by decide)) rR_a lo0
  have hL := LsX.xf (τ := pRC τ2 lo 75 (some (Y2 (xnM v2 - 1)))) (LsX.fz h3 f) (fun q hq k => rR_a _ (fun e => ((LsX.fz h3 f).1 q hq).1.2.2.2 (xnM v - 1) (by omega) (yp.trans e.symm)) k) (Nat.le_refl _)
  have b : ∀ a ∈ l ++ [(xnM v : Int) - 1], (xnM z : Int) ≤ a ∧ 0 ≤ a ∧ a.toNat < xnM v ∧ a < (xnM v : Int) := fun a ha => (List.mem_append.mp ha).elim (fun m => by have := h5 a m; omega) (fun m => by have := List.mem_singleton.mp m; omega)
  have hc : ChC Y2 τ2 (l ++ [(xnM v : Int) - 1]) := ChC.ua (fun a ha => (g4 a.toNat (b a ha).2.2.1).1) (ChC.cg (fun a ha => (g2 _ (h1.2.2.2.1.1.2 _ (b a ha).2.2.1).2 75 rfl).2.2) h4)
  have e1 : ((xnM v : Int) - 1).toNat = xnM v - 1 := by omega
  have e2 : ((xnM v2 : Int) - 1).toNat = xnM v2 - 1 := by omega
  refine ⟨⟨hZ, hF, ?_⟩, ⟨?_, fun a ha => ?_⟩, ⟨rfl, by omega⟩, Nat.le_trans h8 g1⟩
  · rw [hd_ap]
    exact hL
  · have k := ChC.ap (A := Y2) (p := (xnM v : Int) - 1) (q := (xnM v2 : Int) - 1) hc (fun a ha e => by
      have i := hZ2.inj (by have := h5 a ha; omega) (by omega) e
      have := h5 a ha
      omega) (fun e => by
      have i := hZ2.inj (by omega) (by omega) e
      omega) (by rw [e2]; exact ht.2.2)
    rw [e1, e2, yp] at k
    exact k
  · have := b a ha
    omega
theorem XbC.c2 {A : Nat → Nat} {σ τ : CsC} {x : XrZ} {o : Nat} (h : XbC A σ x o) (f : ∀ k, 60 ≤ k ∧ k ≤ 77 → k ≠ 68 → k ≠ 70 → k ≠ 71 → fIC τ o k = fIC σ o k ∧ fRC τ o k = fRC σ o k) : XbC A τ x o := by
  unfold XbC at *
  rw [(f 60 (by decide) (by decide) (by decide) (by decide)).1, (f 61 (by decide) (by decide) (by decide) (by decide)).1, (f 62 (by decide) (by decide) (by decide) (by decide)).1, (f 63 (by decide) (by decide) (by decide) (by decide)).1, (f 66 (by decide) (by decide) (by decide) (by decide)).1, (f 67 (by decide) (by decide) (by decide) (by decide)).1, (f 69 (by decide) (by decide) (by decide) (by decide)).1, (f 72 (by decide) (by decide) (by decide) (by decide)).2, (f 73 (by decide) (by decide) (by decide) (by decide)).2, (f 74 (by decide) (by decide) (by decide) (by decide)).2, (f 76 (by decide) (by decide) (by decide) (by decide)).2]
  exact h
theorem rL_a {σ : CsC} {o k : Nat} {v : Int64} : ∀ a, a ≠ o → ∀ j, fIC (pLC σ o k v) a j = fIC σ a j ∧ fLC (pLC σ o k v) a j = fLC σ a j ∧ fRC (pLC σ o k v) a j = fRC σ a j := fun a ha j => ⟨rfl, u2C_na ha, rfl⟩
set_option maxHeartbeats 4000000 in
theorem pz_readLiteral (y : (Int → Int) × (Nat → Nat) × (Nat → Nat) × (Nat → Nat) × (Nat → Nat) × ZS) : PbC KX7_readLiteral [(125, TrP, EqC 125), (162, TrP, EqC 162), (128, TrP, EqC 128), (161, TrP, EqC 161)] [(125, Uz_code), (162, Uz_opened), (128, Uz_accept), (161, Uz_put)] (fun As σ => Pz_readLiteral y As σ ∧ cnC σ ≤ 1000000 ∧ ∃ w τ, uqC quL 177 As σ w τ) (Qz_readLiteral y) := by
  obtain ⟨N, E, A, B, V, z⟩ := y
  rintro As σ ⟨⟨rfl, hZ, hc, hft⟩, hcn, _, _, hQ⟩ K hB hW n_
  have hH : HI0 σ ∧ TyC σ (E 0) 8 := hQ
  have hat := hZ.at0 hH
  have hfa : zFt (accM z).1 = 0 := hft
  change K n_ 0 [(0, .inr (.inr (some (E 0))))] [] σ
  refine hB _ _ _ _ _ (fun m51 hm51 => ?_)
  dsimp only [ucgo, ucwp, ucsC, uqC, uoC, ctC, rfd, KX7_readLiteral, KX7_readLiteral_0, KX7_readLiteral_9, KX7_readLiteral_18, KX7_readLiteral_22, KX7_readLiteral_23, KX7_readLiteral_29, KX7_readLiteral_33, KX7_readLiteral_34, KX7_readLiteral_57, KX7_readLiteral_61, KX7_readLiteral_70, KX7_readLiteral_74, KX7_readLiteral_86, KX7_readLiteral_99, KX7_readLiteral_103, KX7_readLiteral_107, KX7_readLiteral_111, KX7_readLiteral_112, lkC, s1C, s2C, dlC, kyC, Nat.beq, Nat.ble, rcd, rno, rsw, Nat.reduceAdd, Nat.reduceBEq, Nat.reduceDiv, List.drop, List.take, List.reverse, List.reverseAux, Int.toNat, Option.toList, List.append, List.cons_append, List.nil_append, zg241, zg242, zg304]
  intro w52 τ52 o52 q52
  obtain ⟨c52, rfl, hc52, rfl⟩ := q52 (N, E, A, B, V, z) ⟨rfl, hZ⟩
  try dsimp only [Option.toList, List.cons_append, List.nil_append, s1C, s2C, dlC, kyC, Nat.beq, lkC, rcd, rno, rsw]
  have c53 : (Int32.ofInt 81).toInt = 81 := by decide
  refine ⟨fun h54 => ?_, fun h54 => ?_⟩
  · have g54 := (eqI (x := c52) (y := (Int32.ofInt 81)) h54 : (c52 : Int32).toInt = ((Int32.ofInt 81) : Int32).toInt)
    refine hB _ _ _ _ _ (fun m55 hm55 => ?_)
    dsimp only [ucgo, ucwp, ucsC, uqC, uoC, ctC, rfd, KX7_readLiteral, KX7_readLiteral_0, KX7_readLiteral_9, KX7_readLiteral_18, KX7_readLiteral_22, KX7_readLiteral_23, KX7_readLiteral_29, KX7_readLiteral_33, KX7_readLiteral_34, KX7_readLiteral_57, KX7_readLiteral_61, KX7_readLiteral_70, KX7_readLiteral_74, KX7_readLiteral_86, KX7_readLiteral_99, KX7_readLiteral_103, KX7_readLiteral_107, KX7_readLiteral_111, KX7_readLiteral_112, lkC, s1C, s2C, dlC, kyC, Nat.beq, Nat.ble, rcd, rno, rsw, Nat.reduceAdd, Nat.reduceBEq, Nat.reduceDiv, List.drop, List.take, List.reverse, List.reverseAux, Int.toNat, Option.toList, List.append, List.cons_append, List.nil_append, zg241, zg242, zg304]
    have c56 : (Int32.ofInt 1).toInt = 1 := by decide
    refine hB _ _ _ _ _ (fun m57 hm57 => ?_)
    dsimp only [ucgo, ucwp, ucsC, uqC, uoC, ctC, rfd, KX7_readLiteral, KX7_readLiteral_0, KX7_readLiteral_9, KX7_readLiteral_18, KX7_readLiteral_22, KX7_readLiteral_23, KX7_readLiteral_29, KX7_readLiteral_33, KX7_readLiteral_34, KX7_readLiteral_57, KX7_readLiteral_61, KX7_readLiteral_70, KX7_readLiteral_74, KX7_readLiteral_86, KX7_readLiteral_99, KX7_readLiteral_103, KX7_readLiteral_107, KX7_readLiteral_111, KX7_readLiteral_112, lkC, s1C, s2C, dlC, kyC, Nat.beq, Nat.ble, rcd, rno, rsw, Nat.reduceAdd, Nat.reduceBEq, Nat.reduceDiv, List.drop, List.take, List.reverse, List.reverseAux, Int.toNat, Option.toList, List.append, List.cons_append, List.nil_append, zg241, zg242, zg304]
    refine ⟨fun h58 => ?_, fun h58 => ?_⟩
    · exact absurd h58 (by decide)
    · have g58 := (neI (x := (Int32.ofInt 1)) (y := 0) h58 : ¬ ((Int32.ofInt 1) : Int32).toInt = (0 : Int32).toInt)
      have z0_ : (0 : Int32).toInt = 0 := rfl
      refine hB _ _ _ _ _ (fun m59 hm59 => ?_)
      dsimp only [ucgo, ucwp, ucsC, uqC, uoC, ctC, rfd, KX7_readLiteral, KX7_readLiteral_0, KX7_readLiteral_9, KX7_readLiteral_18, KX7_readLiteral_22, KX7_readLiteral_23, KX7_readLiteral_29, KX7_readLiteral_33, KX7_readLiteral_34, KX7_readLiteral_57, KX7_readLiteral_61, KX7_readLiteral_70, KX7_readLiteral_74, KX7_readLiteral_86, KX7_readLiteral_99, KX7_readLiteral_103, KX7_readLiteral_107, KX7_readLiteral_111, KX7_readLiteral_112, lkC, s1C, s2C, dlC, kyC, Nat.beq, Nat.ble, rcd, rno, rsw, Nat.reduceAdd, Nat.reduceBEq, Nat.reduceDiv, List.drop, List.take, List.reverse, List.reverseAux, Int.toNat, Option.toList, List.append, List.cons_append, List.nil_append, zg241, zg242, zg304]
      have c60 : (Int32.ofInt 0).toInt = 0 := by decide
      refine hB _ _ _ _ _ (fun m61 hm61 => ?_)
      dsimp only [ucgo, ucwp, ucsC, uqC, uoC, ctC, rfd, KX7_readLiteral, KX7_readLiteral_0, KX7_readLiteral_9, KX7_readLiteral_18, KX7_readLiteral_22, KX7_readLiteral_23, KX7_readLiteral_29, KX7_readLiteral_33, KX7_readLiteral_34, KX7_readLiteral_57, KX7_readLiteral_61, KX7_readLiteral_70, KX7_readLiteral_74, KX7_readLiteral_86, KX7_readLiteral_99, KX7_readLiteral_103, KX7_readLiteral_107, KX7_readLiteral_111, KX7_readLiteral_112, lkC, s1C, s2C, dlC, kyC, Nat.beq, Nat.ble, rcd, rno, rsw, Nat.reduceAdd, Nat.reduceBEq, Nat.reduceDiv, List.drop, List.take, List.reverse, List.reverseAux, Int.toNat, Option.toList, List.append, List.cons_append, List.nil_append, zg241, zg242, zg304]
      intro w62 τ62 o62 q62
      obtain ⟨c62, rfl, hc62, rfl⟩ := q62 (N, E, A, B, V, z) ⟨rfl, hZ⟩
      try dsimp only [Option.toList, List.cons_append, List.nil_append, s1C, s2C, dlC, kyC, Nat.beq, lkC, rcd, rno, rsw]
      intro w63 τ63 o63 q63
      obtain ⟨rfl, hZ63, hf63, hnw63⟩ := q63 (N, E, A, B, V, z, 0, (codY z.1)) ⟨_, _, rfl, hZ, by omega, by omega⟩
      have hF63 := FzC.tr (FzC.rf (n := cnC σ) (m := xnM z) (E := E) (A := A) (B := B) (V := V) (z := z) (σ := σ)) (FzC.mo hf63 (Nat.le_refl (cnC σ)) ((FzC.rf (n := cnC σ) (m := xnM z) (E := E) (A := A) (B := B) (V := V) (z := z) (σ := σ))).2.2.1.1.1)
      have hle63 : cnC σ ≤ cnC τ63 := Nat.le_trans (Nat.le_refl (cnC σ)) (hf63).1
      try dsimp only [Option.toList, List.cons_append, List.nil_append, s1C, s2C, dlC, kyC, Nat.beq, lkC, rcd, rno, rsw]
      have c64 : (Int32.ofInt 1).toInt = 1 := by decide
      intro a65 e65 ob65 fk65
      cases e65
      clear fk65 ob65
      generalize hs65 : pIC τ63 (cnC σ) 70 (Int32.ofInt 1) = s65
      have hx65 : XfE τ63 s65 := by rw [← hs65]; exact XfE.pI (by decide)
      have hra65 : ∀ a, a ≠ cnC σ → ∀ k, fIC s65 a k = fIC τ63 a k ∧ fLC s65 a k = fLC τ63 a k ∧ fRC s65 a k = fRC τ63 a k := by rw [← hs65]; exact rI_a
      have hZ65 := ZC.xf hZ63 hx65 (fun i hi k => hra65 _ (Nat.ne_of_lt (hZ.2.2.2.1.1.2 i hi).2) k)
      have hF65 := FzC.ob hF63 hx65 hra65 (Nat.le_refl _)
      have hle65 : cnC σ ≤ cnC s65 := by rw [hx65.2.2]; exact hle63
      intro w66 τ66 o66 q66
      obtain ⟨c66, rfl, hc66, rfl⟩ := q66 (N, E, A, B, V, z) ⟨rfl, hZ65⟩
      try dsimp only [Option.toList, List.cons_append, List.nil_append, s1C, s2C, dlC, kyC, Nat.beq, lkC, rcd, rno, rsw]
      have c67 : (Int32.ofInt 72).toInt = 72 := by decide
      refine ⟨fun h68 => ?_, fun h68 => ?_⟩
      · have g68 := (neI (x := c66) (y := (Int32.ofInt 72)) h68 : ¬ (c66 : Int32).toInt = ((Int32.ofInt 72) : Int32).toInt)
        refine hB _ _ _ _ _ (fun m69 hm69 => ?_)
        dsimp only [ucgo, ucwp, ucsC, uqC, uoC, ctC, rfd, KX7_readLiteral, KX7_readLiteral_0, KX7_readLiteral_9, KX7_readLiteral_18, KX7_readLiteral_22, KX7_readLiteral_23, KX7_readLiteral_29, KX7_readLiteral_33, KX7_readLiteral_34, KX7_readLiteral_57, KX7_readLiteral_61, KX7_readLiteral_70, KX7_readLiteral_74, KX7_readLiteral_86, KX7_readLiteral_99, KX7_readLiteral_103, KX7_readLiteral_107, KX7_readLiteral_111, KX7_readLiteral_112, lkC, s1C, s2C, dlC, kyC, Nat.beq, Nat.ble, rcd, rno, rsw, Nat.reduceAdd, Nat.reduceBEq, Nat.reduceDiv, List.drop, List.take, List.reverse, List.reverseAux, Int.toNat, Option.toList, List.append, List.cons_append, List.nil_append, zg241, zg242, zg304]
        intro w70 τ70 o70 q70
        obtain ⟨c70, rfl, hc70, rfl⟩ := q70 (N, E, A, B, V, z) ⟨rfl, hZ65⟩
        try dsimp only [Option.toList, List.cons_append, List.nil_append, s1C, s2C, dlC, kyC, Nat.beq, lkC, rcd, rno, rsw]
        have c71 : (Int32.ofInt 73).toInt = 73 := by decide
        refine ⟨fun h72 => ?_, fun h72 => ?_⟩
        · have g72 := (neI (x := c70) (y := (Int32.ofInt 73)) h72 : ¬ (c70 : Int32).toInt = ((Int32.ofInt 73) : Int32).toInt)
          refine hB _ _ _ _ _ (fun m73 hm73 => ?_)
          dsimp only [ucgo, ucwp, ucsC, uqC, uoC, ctC, rfd, KX7_readLiteral, KX7_readLiteral_0, KX7_readLiteral_9, KX7_readLiteral_18, KX7_readLiteral_22, KX7_readLiteral_23, KX7_readLiteral_29, KX7_readLiteral_33, KX7_readLiteral_34, KX7_readLiteral_57, KX7_readLiteral_61, KX7_readLiteral_70, KX7_readLiteral_74, KX7_readLiteral_86, KX7_readLiteral_99, KX7_readLiteral_103, KX7_readLiteral_107, KX7_readLiteral_111, KX7_readLiteral_112, lkC, s1C, s2C, dlC, kyC, Nat.beq, Nat.ble, rcd, rno, rsw, Nat.reduceAdd, Nat.reduceBEq, Nat.reduceDiv, List.drop, List.take, List.reverse, List.reverseAux, Int.toNat, Option.toList, List.append, List.cons_append, List.nil_append, zg241, zg242, zg304]
          intro a74 e74 ob74
          cases e74
          intro a75 e75 ob75
          obtain rfl : E 2 = a75 := Option.some.inj (hZ65.1.1.2.symm.trans e75)
          intro a76 e76 ob76
          cases e76
          have f77 : (fIC s65 (E 0) 242).toInt = zAt z.1 := hZ65.2.1.1.1
          intro a78 e78 t78 v78
          obtain rfl : E 304 = a78 := Option.some.inj (hZ65.1.2.2.1.2.2.symm.trans e78)
          refine hB _ _ _ _ _ (fun m79 hm79 => ?_)
          dsimp only [ucgo, ucwp, ucsC, uqC, uoC, ctC, rfd, KX7_readLiteral, KX7_readLiteral_0, KX7_readLiteral_9, KX7_readLiteral_18, KX7_readLiteral_22, KX7_readLiteral_23, KX7_readLiteral_29, KX7_readLiteral_33, KX7_readLiteral_34, KX7_readLiteral_57, KX7_readLiteral_61, KX7_readLiteral_70, KX7_readLiteral_74, KX7_readLiteral_86, KX7_readLiteral_99, KX7_readLiteral_103, KX7_readLiteral_107, KX7_readLiteral_111, KX7_readLiteral_112, lkC, s1C, s2C, dlC, kyC, Nat.beq, Nat.ble, rcd, rno, rsw, Nat.reduceAdd, Nat.reduceBEq, Nat.reduceDiv, List.drop, List.take, List.reverse, List.reverseAux, Int.toNat, Option.toList, List.append, List.cons_append, List.nil_append, zg241, zg242, zg304]
          intro a80 e80 ob80 fk80
          cases e80
          clear fk80 ob80
          generalize hs80 : pLC s65 (cnC σ) 71 (eLC s65 (E 304) (fIC s65 (E 0) 242).toNatClampNeg) = s80
          have hx80 : XfE s65 s80 := by rw [← hs80]; exact XfE.pL (by decide)
          have hra80 : ∀ a, a ≠ cnC σ → ∀ k, fIC s80 a k = fIC s65 a k ∧ fLC s80 a k = fLC s65 a k ∧ fRC s80 a k = fRC s65 a k := by rw [← hs80]; exact rL_a
          have hZ80 := ZC.xf hZ65 hx80 (fun i hi k => hra80 _ (Nat.ne_of_lt (hZ.2.2.2.1.1.2 i hi).2) k)
          have hF80 := FzC.ob hF65 hx80 hra80 (Nat.le_refl _)
          have hle80 : cnC σ ≤ cnC s80 := by rw [hx80.2.2]; exact hle65
          intro w81 τ81 o81 q81
          obtain ⟨c81, rfl, hc81, rfl⟩ := q81 (N, E, A, B, V, z) ⟨rfl, hZ80⟩
          try dsimp only [Option.toList, List.cons_append, List.nil_append, s1C, s2C, dlC, kyC, Nat.beq, lkC, rcd, rno, rsw]
          have c82 : (Int32.ofInt 83).toInt = 83 := by decide
          refine ⟨fun h83 => ?_, fun h83 => ?_⟩
          · have g83 := (neI (x := c81) (y := (Int32.ofInt 83)) h83 : ¬ (c81 : Int32).toInt = ((Int32.ofInt 83) : Int32).toInt)
            refine hB _ _ _ _ _ (fun m84 hm84 => ?_)
            dsimp only [ucgo, ucwp, ucsC, uqC, uoC, ctC, rfd, KX7_readLiteral, KX7_readLiteral_0, KX7_readLiteral_9, KX7_readLiteral_18, KX7_readLiteral_22, KX7_readLiteral_23, KX7_readLiteral_29, KX7_readLiteral_33, KX7_readLiteral_34, KX7_readLiteral_57, KX7_readLiteral_61, KX7_readLiteral_70, KX7_readLiteral_74, KX7_readLiteral_86, KX7_readLiteral_99, KX7_readLiteral_103, KX7_readLiteral_107, KX7_readLiteral_111, KX7_readLiteral_112, lkC, s1C, s2C, dlC, kyC, Nat.beq, Nat.ble, rcd, rno, rsw, Nat.reduceAdd, Nat.reduceBEq, Nat.reduceDiv, List.drop, List.take, List.reverse, List.reverseAux, Int.toNat, Option.toList, List.append, List.cons_append, List.nil_append, zg241, zg242, zg304]
            refine ⟨fun h85 => ?_, fun h85 => ?_⟩
            · exact absurd h85 (by decide)
            · have g85 := (neI (x := (Int32.ofInt 1)) (y := 0) h85 : ¬ ((Int32.ofInt 1) : Int32).toInt = (0 : Int32).toInt)
              have z0_ : (0 : Int32).toInt = 0 := rfl
              refine hB _ _ _ _ _ (fun m86 hm86 => ?_)
              dsimp only [ucgo, ucwp, ucsC, uqC, uoC, ctC, rfd, KX7_readLiteral, KX7_readLiteral_0, KX7_readLiteral_9, KX7_readLiteral_18, KX7_readLiteral_22, KX7_readLiteral_23, KX7_readLiteral_29, KX7_readLiteral_33, KX7_readLiteral_34, KX7_readLiteral_57, KX7_readLiteral_61, KX7_readLiteral_70, KX7_readLiteral_74, KX7_readLiteral_86, KX7_readLiteral_99, KX7_readLiteral_103, KX7_readLiteral_107, KX7_readLiteral_111, KX7_readLiteral_112, lkC, s1C, s2C, dlC, kyC, Nat.beq, Nat.ble, rcd, rno, rsw, Nat.reduceAdd, Nat.reduceBEq, Nat.reduceDiv, List.drop, List.take, List.reverse, List.reverseAux, Int.toNat, Option.toList, List.append, List.cons_append, List.nil_append, zg241, zg242, zg304]
              have c87 : (Int32.ofInt (-1)).toInt = -1 := by decide
              refine hB _ _ _ _ _ (fun m88 hm88 => ?_)
              dsimp only [ucgo, ucwp, ucsC, uqC, uoC, ctC, rfd, KX7_readLiteral, KX7_readLiteral_0, KX7_readLiteral_9, KX7_readLiteral_18, KX7_readLiteral_22, KX7_readLiteral_23, KX7_readLiteral_29, KX7_readLiteral_33, KX7_readLiteral_34, KX7_readLiteral_57, KX7_readLiteral_61, KX7_readLiteral_70, KX7_readLiteral_74, KX7_readLiteral_86, KX7_readLiteral_99, KX7_readLiteral_103, KX7_readLiteral_107, KX7_readLiteral_111, KX7_readLiteral_112, lkC, s1C, s2C, dlC, kyC, Nat.beq, Nat.ble, rcd, rno, rsw, Nat.reduceAdd, Nat.reduceBEq, Nat.reduceDiv, List.drop, List.take, List.reverse, List.reverseAux, Int.toNat, Option.toList, List.append, List.cons_append, List.nil_append, zg241, zg242, zg304]
              intro a89 e89 ob89 fk89
              cases e89
              clear fk89 ob89
              generalize hs89 : pIC s80 (cnC σ) 68 (Int32.ofInt (-1)) = s89
              have hx89 : XfE s80 s89 := by rw [← hs89]; exact XfE.pI (by decide)
              have hra89 : ∀ a, a ≠ cnC σ → ∀ k, fIC s89 a k = fIC s80 a k ∧ fLC s89 a k = fLC s80 a k ∧ fRC s89 a k = fRC s80 a k := by rw [← hs89]; exact rI_a
              have hZ89 := ZC.xf hZ80 hx89 (fun i hi k => hra89 _ (Nat.ne_of_lt (hZ.2.2.2.1.1.2 i hi).2) k)
              have hF89 := FzC.ob hF80 hx89 hra89 (Nat.le_refl _)
              have hle89 : cnC σ ≤ cnC s89 := by rw [hx89.2.2]; exact hle80
              have hL89 : LsX N A (cnC σ) s89 z [((cnC σ), (recZ 0 (codY z.1) (zAt z.1) 0 (zAt z.1) (-1) 0 (xnM z) (-1) (-1) (-1) (-1) []), none)] := by
                have g1 : cnC s89 = cnC σ + 1 := by rw [hx89.2.2, hx80.2.2, hx65.2.2]; exact hnw63.1.2
                refine LsX.cn LsX.nil ⟨⟨Nat.le_refl _, by show cnC σ < cnC s89; omega, opX_o, fun i hi => Nat.ne_of_lt (hZ.2.2.2.1.1.2 i hi).2⟩, ?_, ⟨?_, ?_, ?_⟩, ?_⟩ (fun q h => absurd h List.not_mem_nil)
                · refine XbC.c2 hnw63.2.1 (fun k hk q1 q2 q3 => ⟨?_, ?_⟩)
                  · show fIC s89 (cnC σ) k = _
                    rw [← hs89, pI_n q1, ← hs80]
                    show fIC s65 (cnC σ) k = _
                    rw [← hs65, pI_n q2]
                  · show fRC s89 (cnC σ) k = _
                    rw [← hs89, ← hs80, ← hs65]
                    rfl
                · show (fIC s89 (cnC σ) 68).toInt = _
                  rw [← hs89, pI_e]
                  unfold tyX recZ
                  dsimp only
                  repeat' split
                  all_goals omega
                · show (fIC s89 (cnC σ) 70).toInt = _
                  rw [← hs89, pI_n (by decide), ← hs80]
                  show (fIC s65 (cnC σ) 70).toInt = _
                  rw [← hs65, pI_e]
                  unfold coX recZ
                  dsimp only
                  rw [if_pos (by omega)]
                  omega
                · show (fLC s89 (cnC σ) 71).toInt = _
                  rw [← hs89]
                  show (fLC s80 (cnC σ) 71).toInt = _
                  rw [← hs80]
                  rw [pL_e]
                  unfold vaX recZ
                  dsimp only
                  rw [if_pos (by omega)]
                  rw [if_neg (by omega), if_neg (by omega), hZ65.2.2.1.2, nT_toNat]
                  exact congrArg N (by omega)
                · show fRC s89 (cnC σ) 75 = none
                  rw [← hs89, ← hs80, ← hs65]
                  exact hnw63.2.2.2
              intro w90 τ90 o90 q90
              obtain ⟨rfl, hZ90, hf90⟩ := q90 (N, E, A, B, V, z) ⟨rfl, hZ89, hfa⟩
              have hF90 := FzC.tr hF89 (FzC.mo hf90 hle89 (hF89).2.2.1.1.1)
              have hL90 := LsX.fz hL89 hf90
              have hle90 : cnC σ ≤ cnC τ90 := Nat.le_trans hle89 (hf90).1
              try dsimp only [Option.toList, List.cons_append, List.nil_append, s1C, s2C, dlC, kyC, Nat.beq, lkC, rcd, rno, rsw]
              intro w91 τ91 o91 q91
              have hh91 := LsX.hd hL90
              obtain ⟨rfl, hZ91, hpo91, hnx91⟩ := q91 (N, E, A, B, V, (accM z), (recZ 0 (codY z.1) (zAt z.1) (zAt z.1) (zAt z.1) (-1) 0 (xnM z) (-1) (-1) (-1) (-1) [])) ⟨_, rfl, hZ90, ⟨hh91.1.1.2, hh91.1.2.1, hh91.1.2.2.1⟩, (by show zAt z.1 = zAt (accY z.1) - 1; rw [(acc_n hfa).2.2]; show _ = zAt z.1 + 1 - 1; omega), ⟨fun a ha => absurd ha List.not_mem_nil, trivial⟩⟩
              have hnx91 := hnx91.trans hh91.1.2.2.2
              have hF91 := FzC.tr hF90 (FzC.pu (x := (recZ 0 (codY z.1) (zAt z.1) (zAt z.1) (zAt z.1) (-1) 0 (xnM z) (-1) (-1) (-1) (-1) [])) hpo91 hh91.1.1.1 hle90 (Int.le_refl _) hZ90.1.2.2.2.2.2.1.2.1)
              have hL91 := LsX.pu (x := (recZ 0 (codY z.1) (zAt z.1) (zAt z.1) (zAt z.1) (-1) 0 (xnM z) (-1) (-1) (-1) (-1) [])) hh91.2.1 hpo91 hh91.2.2
              have hle91 : cnC σ ≤ cnC τ91 := Nat.le_trans hle90 hpo91.1
              try dsimp only [Option.toList, List.cons_append, List.nil_append, s1C, s2C, dlC, kyC, Nat.beq, lkC, rcd, rno, rsw]
              try dsimp only [Qz_readLiteral]
              first
                | (exfalso; omega)
                | exact ExQ.pu (by show puM (litZ 0 (xnM z) z.1) (accM z) = _; unfold litZ; rw [if_pos (by omega), if_neg (fun q => absurd q.2 (by decide))]) hZ91 hF91 hnx91 rfl rfl (Nat.le_refl _)
          · have g83 := (eqI (x := c81) (y := (Int32.ofInt 83)) h83 : (c81 : Int32).toInt = ((Int32.ofInt 83) : Int32).toInt)
            refine hB _ _ _ _ _ (fun m92 hm92 => ?_)
            dsimp only [ucgo, ucwp, ucsC, uqC, uoC, ctC, rfd, KX7_readLiteral, KX7_readLiteral_0, KX7_readLiteral_9, KX7_readLiteral_18, KX7_readLiteral_22, KX7_readLiteral_23, KX7_readLiteral_29, KX7_readLiteral_33, KX7_readLiteral_34, KX7_readLiteral_57, KX7_readLiteral_61, KX7_readLiteral_70, KX7_readLiteral_74, KX7_readLiteral_86, KX7_readLiteral_99, KX7_readLiteral_103, KX7_readLiteral_107, KX7_readLiteral_111, KX7_readLiteral_112, lkC, s1C, s2C, dlC, kyC, Nat.beq, Nat.ble, rcd, rno, rsw, Nat.reduceAdd, Nat.reduceBEq, Nat.reduceDiv, List.drop, List.take, List.reverse, List.reverseAux, Int.toNat, Option.toList, List.append, List.cons_append, List.nil_append, zg241, zg242, zg304]
            have c93 : (Int32.ofInt 2).toInt = 2 := by decide
            refine hB _ _ _ _ _ (fun m94 hm94 => ?_)
            dsimp only [ucgo, ucwp, ucsC, uqC, uoC, ctC, rfd, KX7_readLiteral, KX7_readLiteral_0, KX7_readLiteral_9, KX7_readLiteral_18, KX7_readLiteral_22, KX7_readLiteral_23, KX7_readLiteral_29, KX7_readLiteral_33, KX7_readLiteral_34, KX7_readLiteral_57, KX7_readLiteral_61, KX7_readLiteral_70, KX7_readLiteral_74, KX7_readLiteral_86, KX7_readLiteral_99, KX7_readLiteral_103, KX7_readLiteral_107, KX7_readLiteral_111, KX7_readLiteral_112, lkC, s1C, s2C, dlC, kyC, Nat.beq, Nat.ble, rcd, rno, rsw, Nat.reduceAdd, Nat.reduceBEq, Nat.reduceDiv, List.drop, List.take, List.reverse, List.reverseAux, Int.toNat, Option.toList, List.append, List.cons_append, List.nil_append, zg241, zg242, zg304]
            intro a95 e95 ob95 fk95
            cases e95
            clear fk95 ob95
            generalize hs95 : pIC s80 (cnC σ) 68 (Int32.ofInt 2) = s95
            have hx95 : XfE s80 s95 := by rw [← hs95]; exact XfE.pI (by decide)
            have hra95 : ∀ a, a ≠ cnC σ → ∀ k, fIC s95 a k = fIC s80 a k ∧ fLC s95 a k = fLC s80 a k ∧ fRC s95 a k = fRC s80 a k := by rw [← hs95]; exact rI_a
            have hZ95 := ZC.xf hZ80 hx95 (fun i hi k => hra95 _ (Nat.ne_of_lt (hZ.2.2.2.1.1.2 i hi).2) k)
            have hF95 := FzC.ob hF80 hx95 hra95 (Nat.le_refl _)
            have hle95 : cnC σ ≤ cnC s95 := by rw [hx95.2.2]; exact hle80
            have hL95 : LsX N A (cnC σ) s95 z [((cnC σ), (recZ 0 (codY z.1) (zAt z.1) 0 (zAt z.1) (-1) 0 (xnM z) (-1) (-1) (-1) (-1) []), none)] := by
              have g1 : cnC s95 = cnC σ + 1 := by rw [hx95.2.2, hx80.2.2, hx65.2.2]; exact hnw63.1.2
              refine LsX.cn LsX.nil ⟨⟨Nat.le_refl _, by show cnC σ < cnC s95; omega, opX_o, fun i hi => Nat.ne_of_lt (hZ.2.2.2.1.1.2 i hi).2⟩, ?_, ⟨?_, ?_, ?_⟩, ?_⟩ (fun q h => absurd h List.not_mem_nil)
              · refine XbC.c2 hnw63.2.1 (fun k hk q1 q2 q3 => ⟨?_, ?_⟩)
                · show fIC s95 (cnC σ) k = _
                  rw [← hs95, pI_n q1, ← hs80]
                  show fIC s65 (cnC σ) k = _
                  rw [← hs65, pI_n q2]
                · show fRC s95 (cnC σ) k = _
                  rw [← hs95, ← hs80, ← hs65]
                  rfl
              · show (fIC s95 (cnC σ) 68).toInt = _
                rw [← hs95, pI_e]
                unfold tyX recZ
                dsimp only
                repeat' split
                all_goals omega
              · show (fIC s95 (cnC σ) 70).toInt = _
                rw [← hs95, pI_n (by decide), ← hs80]
                show (fIC s65 (cnC σ) 70).toInt = _
                rw [← hs65, pI_e]
                unfold coX recZ
                dsimp only
                rw [if_pos (by omega)]
                omega
              · show (fLC s95 (cnC σ) 71).toInt = _
                rw [← hs95]
                show (fLC s80 (cnC σ) 71).toInt = _
                rw [← hs80]
                rw [pL_e]
                unfold vaX recZ
                dsimp only
                rw [if_pos (by omega)]
                rw [if_neg (by omega), if_neg (by omega), hZ65.2.2.1.2, nT_toNat]
                exact congrArg N (by omega)
              · show fRC s95 (cnC σ) 75 = none
                rw [← hs95, ← hs80, ← hs65]
                exact hnw63.2.2.2
            intro w96 τ96 o96 q96
            obtain ⟨rfl, hZ96, hf96⟩ := q96 (N, E, A, B, V, z) ⟨rfl, hZ95, hfa⟩
            have hF96 := FzC.tr hF95 (FzC.mo hf96 hle95 (hF95).2.2.1.1.1)
            have hL96 := LsX.fz hL95 hf96
            have hle96 : cnC σ ≤ cnC τ96 := Nat.le_trans hle95 (hf96).1
            try dsimp only [Option.toList, List.cons_append, List.nil_append, s1C, s2C, dlC, kyC, Nat.beq, lkC, rcd, rno, rsw]
            intro w97 τ97 o97 q97
            have hh97 := LsX.hd hL96
            obtain ⟨rfl, hZ97, hpo97, hnx97⟩ := q97 (N, E, A, B, V, (accM z), (recZ 0 (codY z.1) (zAt z.1) (zAt z.1) (zAt z.1) (-1) 0 (xnM z) (-1) (-1) (-1) (-1) [])) ⟨_, rfl, hZ96, ⟨hh97.1.1.2, hh97.1.2.1, hh97.1.2.2.1⟩, (by show zAt z.1 = zAt (accY z.1) - 1; rw [(acc_n hfa).2.2]; show _ = zAt z.1 + 1 - 1; omega), ⟨fun a ha => absurd ha List.not_mem_nil, trivial⟩⟩
            have hnx97 := hnx97.trans hh97.1.2.2.2
            have hF97 := FzC.tr hF96 (FzC.pu (x := (recZ 0 (codY z.1) (zAt z.1) (zAt z.1) (zAt z.1) (-1) 0 (xnM z) (-1) (-1) (-1) (-1) [])) hpo97 hh97.1.1.1 hle96 (Int.le_refl _) hZ96.1.2.2.2.2.2.1.2.1)
            have hL97 := LsX.pu (x := (recZ 0 (codY z.1) (zAt z.1) (zAt z.1) (zAt z.1) (-1) 0 (xnM z) (-1) (-1) (-1) (-1) [])) hh97.2.1 hpo97 hh97.2.2
            have hle97 : cnC σ ≤ cnC τ97 := Nat.le_trans hle96 hpo97.1
            try dsimp only [Option.toList, List.cons_append, List.nil_append, s1C, s2C, dlC, kyC, Nat.beq, lkC, rcd, rno, rsw]
            try dsimp only [Qz_readLiteral]
            first
              | (exfalso; omega)
              | exact ExQ.pu (by show puM (litZ 0 (xnM z) z.1) (accM z) = _; unfold litZ; rw [if_pos (by omega), if_neg (fun q => absurd q.2 (by decide))]) hZ97 hF97 hnx97 rfl rfl (Nat.le_refl _)
        · have g72 := (eqI (x := c70) (y := (Int32.ofInt 73)) h72 : (c70 : Int32).toInt = ((Int32.ofInt 73) : Int32).toInt)
          refine hB _ _ _ _ _ (fun m98 hm98 => ?_)
          dsimp only [ucgo, ucwp, ucsC, uqC, uoC, ctC, rfd, KX7_readLiteral, KX7_readLiteral_0, KX7_readLiteral_9, KX7_readLiteral_18, KX7_readLiteral_22, KX7_readLiteral_23, KX7_readLiteral_29, KX7_readLiteral_33, KX7_readLiteral_34, KX7_readLiteral_57, KX7_readLiteral_61, KX7_readLiteral_70, KX7_readLiteral_74, KX7_readLiteral_86, KX7_readLiteral_99, KX7_readLiteral_103, KX7_readLiteral_107, KX7_readLiteral_111, KX7_readLiteral_112, lkC, s1C, s2C, dlC, kyC, Nat.beq, Nat.ble, rcd, rno, rsw, Nat.reduceAdd, Nat.reduceBEq, Nat.reduceDiv, List.drop, List.take, List.reverse, List.reverseAux, Int.toNat, Option.toList, List.append, List.cons_append, List.nil_append, zg241, zg242, zg304]
          refine hB _ _ _ _ _ (fun m99 hm99 => ?_)
          dsimp only [ucgo, ucwp, ucsC, uqC, uoC, ctC, rfd, KX7_readLiteral, KX7_readLiteral_0, KX7_readLiteral_9, KX7_readLiteral_18, KX7_readLiteral_22, KX7_readLiteral_23, KX7_readLiteral_29, KX7_readLiteral_33, KX7_readLiteral_34, KX7_readLiteral_57, KX7_readLiteral_61, KX7_readLiteral_70, KX7_readLiteral_74, KX7_readLiteral_86, KX7_readLiteral_99, KX7_readLiteral_103, KX7_readLiteral_107, KX7_readLiteral_111, KX7_readLiteral_112, lkC, s1C, s2C, dlC, kyC, Nat.beq, Nat.ble, rcd, rno, rsw, Nat.reduceAdd, Nat.reduceBEq, Nat.reduceDiv, List.drop, List.take, List.reverse, List.reverseAux, Int.toNat, Option.toList, List.append, List.cons_append, List.nil_append, zg241, zg242, zg304]
          intro a100 e100 ob100 fk100
          cases e100
          clear fk100 ob100
          generalize hs100 : pLC s65 (cnC σ) 71 (Int64.ofNat ((0 : Fin 2) : Nat)) = s100
          have hx100 : XfE s65 s100 := by rw [← hs100]; exact XfE.pL (by decide)
          have hra100 : ∀ a, a ≠ cnC σ → ∀ k, fIC s100 a k = fIC s65 a k ∧ fLC s100 a k = fLC s65 a k ∧ fRC s100 a k = fRC s65 a k := by rw [← hs100]; exact rL_a
          have hZ100 := ZC.xf hZ65 hx100 (fun i hi k => hra100 _ (Nat.ne_of_lt (hZ.2.2.2.1.1.2 i hi).2) k)
          have hF100 := FzC.ob hF65 hx100 hra100 (Nat.le_refl _)
          have hle100 : cnC σ ≤ cnC s100 := by rw [hx100.2.2]; exact hle65
          intro w101 τ101 o101 q101
          obtain ⟨c101, rfl, hc101, rfl⟩ := q101 (N, E, A, B, V, z) ⟨rfl, hZ100⟩
          try dsimp only [Option.toList, List.cons_append, List.nil_append, s1C, s2C, dlC, kyC, Nat.beq, lkC, rcd, rno, rsw]
          have c102 : (Int32.ofInt 83).toInt = 83 := by decide
          refine ⟨fun h103 => ?_, fun h103 => ?_⟩
          · have g103 := (neI (x := c101) (y := (Int32.ofInt 83)) h103 : ¬ (c101 : Int32).toInt = ((Int32.ofInt 83) : Int32).toInt)
            refine hB _ _ _ _ _ (fun m104 hm104 => ?_)
            dsimp only [ucgo, ucwp, ucsC, uqC, uoC, ctC, rfd, KX7_readLiteral, KX7_readLiteral_0, KX7_readLiteral_9, KX7_readLiteral_18, KX7_readLiteral_22, KX7_readLiteral_23, KX7_readLiteral_29, KX7_readLiteral_33, KX7_readLiteral_34, KX7_readLiteral_57, KX7_readLiteral_61, KX7_readLiteral_70, KX7_readLiteral_74, KX7_readLiteral_86, KX7_readLiteral_99, KX7_readLiteral_103, KX7_readLiteral_107, KX7_readLiteral_111, KX7_readLiteral_112, lkC, s1C, s2C, dlC, kyC, Nat.beq, Nat.ble, rcd, rno, rsw, Nat.reduceAdd, Nat.reduceBEq, Nat.reduceDiv, List.drop, List.take, List.reverse, List.reverseAux, Int.toNat, Option.toList, List.append, List.cons_append, List.nil_append, zg241, zg242, zg304]
            refine ⟨fun h105 => ?_, fun h105 => ?_⟩
            · exact absurd h105 (by decide)
            · have g105 := (neI (x := (Int32.ofInt 1)) (y := 0) h105 : ¬ ((Int32.ofInt 1) : Int32).toInt = (0 : Int32).toInt)
              have z0_ : (0 : Int32).toInt = 0 := rfl
              refine hB _ _ _ _ _ (fun m106 hm106 => ?_)
              dsimp only [ucgo, ucwp, ucsC, uqC, uoC, ctC, rfd, KX7_readLiteral, KX7_readLiteral_0, KX7_readLiteral_9, KX7_readLiteral_18, KX7_readLiteral_22, KX7_readLiteral_23, KX7_readLiteral_29, KX7_readLiteral_33, KX7_readLiteral_34, KX7_readLiteral_57, KX7_readLiteral_61, KX7_readLiteral_70, KX7_readLiteral_74, KX7_readLiteral_86, KX7_readLiteral_99, KX7_readLiteral_103, KX7_readLiteral_107, KX7_readLiteral_111, KX7_readLiteral_112, lkC, s1C, s2C, dlC, kyC, Nat.beq, Nat.ble, rcd, rno, rsw, Nat.reduceAdd, Nat.reduceBEq, Nat.reduceDiv, List.drop, List.take, List.reverse, List.reverseAux, Int.toNat, Option.toList, List.append, List.cons_append, List.nil_append, zg241, zg242, zg304]
              have c107 : (Int32.ofInt (-1)).toInt = -1 := by decide
              refine hB _ _ _ _ _ (fun m108 hm108 => ?_)
              dsimp only [ucgo, ucwp, ucsC, uqC, uoC, ctC, rfd, KX7_readLiteral, KX7_readLiteral_0, KX7_readLiteral_9, KX7_readLiteral_18, KX7_readLiteral_22, KX7_readLiteral_23, KX7_readLiteral_29, KX7_readLiteral_33, KX7_readLiteral_34, KX7_readLiteral_57, KX7_readLiteral_61, KX7_readLiteral_70, KX7_readLiteral_74, KX7_readLiteral_86, KX7_readLiteral_99, KX7_readLiteral_103, KX7_readLiteral_107, KX7_readLiteral_111, KX7_readLiteral_112, lkC, s1C, s2C, dlC, kyC, Nat.beq, Nat.ble, rcd, rno, rsw, Nat.reduceAdd, Nat.reduceBEq, Nat.reduceDiv, List.drop, List.take, List.reverse, List.reverseAux, Int.toNat, Option.toList, List.append, List.cons_append, List.nil_append, zg241, zg242, zg304]
              intro a109 e109 ob109 fk109
              cases e109
              clear fk109 ob109
              generalize hs109 : pIC s100 (cnC σ) 68 (Int32.ofInt (-1)) = s109
              have hx109 : XfE s100 s109 := by rw [← hs109]; exact XfE.pI (by decide)
              have hra109 : ∀ a, a ≠ cnC σ → ∀ k, fIC s109 a k = fIC s100 a k ∧ fLC s109 a k = fLC s100 a k ∧ fRC s109 a k = fRC s100 a k := by rw [← hs109]; exact rI_a
              have hZ109 := ZC.xf hZ100 hx109 (fun i hi k => hra109 _ (Nat.ne_of_lt (hZ.2.2.2.1.1.2 i hi).2) k)
              have hF109 := FzC.ob hF100 hx109 hra109 (Nat.le_refl _)
              have hle109 : cnC σ ≤ cnC s109 := by rw [hx109.2.2]; exact hle100
              have hL109 : LsX N A (cnC σ) s109 z [((cnC σ), (recZ 0 (codY z.1) (zAt z.1) 0 (zAt z.1) (-1) 0 (xnM z) (-1) (-1) (-1) (-1) []), none)] := by
                have g1 : cnC s109 = cnC σ + 1 := by rw [hx109.2.2, hx100.2.2, hx65.2.2]; exact hnw63.1.2
                refine LsX.cn LsX.nil ⟨⟨Nat.le_refl _, by show cnC σ < cnC s109; omega, opX_o, fun i hi => Nat.ne_of_lt (hZ.2.2.2.1.1.2 i hi).2⟩, ?_, ⟨?_, ?_, ?_⟩, ?_⟩ (fun q h => absurd h List.not_mem_nil)
                · refine XbC.c2 hnw63.2.1 (fun k hk q1 q2 q3 => ⟨?_, ?_⟩)
                  · show fIC s109 (cnC σ) k = _
                    rw [← hs109, pI_n q1, ← hs100]
                    show fIC s65 (cnC σ) k = _
                    rw [← hs65, pI_n q2]
                  · show fRC s109 (cnC σ) k = _
                    rw [← hs109, ← hs100, ← hs65]
                    rfl
                · show (fIC s109 (cnC σ) 68).toInt = _
                  rw [← hs109, pI_e]
                  unfold tyX recZ
                  dsimp only
                  repeat' split
                  all_goals omega
                · show (fIC s109 (cnC σ) 70).toInt = _
                  rw [← hs109, pI_n (by decide), ← hs100]
                  show (fIC s65 (cnC σ) 70).toInt = _
                  rw [← hs65, pI_e]
                  unfold coX recZ
                  dsimp only
                  rw [if_pos (by omega)]
                  omega
                · show (fLC s109 (cnC σ) 71).toInt = _
                  rw [← hs109]
                  show (fLC s100 (cnC σ) 71).toInt = _
                  rw [← hs100]
                  rw [pL_e]
                  unfold vaX recZ
                  dsimp only
                  rw [if_pos (by omega)]
                  rw [if_neg (by omega), if_pos (by omega)]
                  rfl
                · show fRC s109 (cnC σ) 75 = none
                  rw [← hs109, ← hs100, ← hs65]
                  exact hnw63.2.2.2
              intro w110 τ110 o110 q110
              obtain ⟨rfl, hZ110, hf110⟩ := q110 (N, E, A, B, V, z) ⟨rfl, hZ109, hfa⟩
              have hF110 := FzC.tr hF109 (FzC.mo hf110 hle109 (hF109).2.2.1.1.1)
              have hL110 := LsX.fz hL109 hf110
              have hle110 : cnC σ ≤ cnC τ110 := Nat.le_trans hle109 (hf110).1
              try dsimp only [Option.toList, List.cons_append, List.nil_append, s1C, s2C, dlC, kyC, Nat.beq, lkC, rcd, rno, rsw]
              intro w111 τ111 o111 q111
              have hh111 := LsX.hd hL110
              obtain ⟨rfl, hZ111, hpo111, hnx111⟩ := q111 (N, E, A, B, V, (accM z), (recZ 0 (codY z.1) (zAt z.1) (zAt z.1) (zAt z.1) (-1) 0 (xnM z) (-1) (-1) (-1) (-1) [])) ⟨_, rfl, hZ110, ⟨hh111.1.1.2, hh111.1.2.1, hh111.1.2.2.1⟩, (by show zAt z.1 = zAt (accY z.1) - 1; rw [(acc_n hfa).2.2]; show _ = zAt z.1 + 1 - 1; omega), ⟨fun a ha => absurd ha List.not_mem_nil, trivial⟩⟩
              have hnx111 := hnx111.trans hh111.1.2.2.2
              have hF111 := FzC.tr hF110 (FzC.pu (x := (recZ 0 (codY z.1) (zAt z.1) (zAt z.1) (zAt z.1) (-1) 0 (xnM z) (-1) (-1) (-1) (-1) [])) hpo111 hh111.1.1.1 hle110 (Int.le_refl _) hZ110.1.2.2.2.2.2.1.2.1)
              have hL111 := LsX.pu (x := (recZ 0 (codY z.1) (zAt z.1) (zAt z.1) (zAt z.1) (-1) 0 (xnM z) (-1) (-1) (-1) (-1) [])) hh111.2.1 hpo111 hh111.2.2
              have hle111 : cnC σ ≤ cnC τ111 := Nat.le_trans hle110 hpo111.1
              try dsimp only [Option.toList, List.cons_append, List.nil_append, s1C, s2C, dlC, kyC, Nat.beq, lkC, rcd, rno, rsw]
              try dsimp only [Qz_readLiteral]
              first
                | (exfalso; omega)
                | exact ExQ.pu (by show puM (litZ 0 (xnM z) z.1) (accM z) = _; unfold litZ; rw [if_pos (by omega), if_neg (fun q => absurd q.2 (by decide))]) hZ111 hF111 hnx111 rfl rfl (Nat.le_refl _)
          · have g103 := (eqI (x := c101) (y := (Int32.ofInt 83)) h103 : (c101 : Int32).toInt = ((Int32.ofInt 83) : Int32).toInt)
            refine hB _ _ _ _ _ (fun m112 hm112 => ?_)
            dsimp only [ucgo, ucwp, ucsC, uqC, uoC, ctC, rfd, KX7_readLiteral, KX7_readLiteral_0, KX7_readLiteral_9, KX7_readLiteral_18, KX7_readLiteral_22, KX7_readLiteral_23, KX7_readLiteral_29, KX7_readLiteral_33, KX7_readLiteral_34, KX7_readLiteral_57, KX7_readLiteral_61, KX7_readLiteral_70, KX7_readLiteral_74, KX7_readLiteral_86, KX7_readLiteral_99, KX7_readLiteral_103, KX7_readLiteral_107, KX7_readLiteral_111, KX7_readLiteral_112, lkC, s1C, s2C, dlC, kyC, Nat.beq, Nat.ble, rcd, rno, rsw, Nat.reduceAdd, Nat.reduceBEq, Nat.reduceDiv, List.drop, List.take, List.reverse, List.reverseAux, Int.toNat, Option.toList, List.append, List.cons_append, List.nil_append, zg241, zg242, zg304]
            have c113 : (Int32.ofInt 2).toInt = 2 := by decide
            refine hB _ _ _ _ _ (fun m114 hm114 => ?_)
            dsimp only [ucgo, ucwp, ucsC, uqC, uoC, ctC, rfd, KX7_readLiteral, KX7_readLiteral_0, KX7_readLiteral_9, KX7_readLiteral_18, KX7_readLiteral_22, KX7_readLiteral_23, KX7_readLiteral_29, KX7_readLiteral_33, KX7_readLiteral_34, KX7_readLiteral_57, KX7_readLiteral_61, KX7_readLiteral_70, KX7_readLiteral_74, KX7_readLiteral_86, KX7_readLiteral_99, KX7_readLiteral_103, KX7_readLiteral_107, KX7_readLiteral_111, KX7_readLiteral_112, lkC, s1C, s2C, dlC, kyC, Nat.beq, Nat.ble, rcd, rno, rsw, Nat.reduceAdd, Nat.reduceBEq, Nat.reduceDiv, List.drop, List.take, List.reverse, List.reverseAux, Int.toNat, Option.toList, List.append, List.cons_append, List.nil_append, zg241, zg242, zg304]
            intro a115 e115 ob115 fk115
            cases e115
            clear fk115 ob115
            generalize hs115 : pIC s100 (cnC σ) 68 (Int32.ofInt 2) = s115
            have hx115 : XfE s100 s115 := by rw [← hs115]; exact XfE.pI (by decide)
            have hra115 : ∀ a, a ≠ cnC σ → ∀ k, fIC s115 a k = fIC s100 a k ∧ fLC s115 a k = fLC s100 a k ∧ fRC s115 a k = fRC s100 a k := by rw [← hs115]; exact rI_a
            have hZ115 := ZC.xf hZ100 hx115 (fun i hi k => hra115 _ (Nat.ne_of_lt (hZ.2.2.2.1.1.2 i hi).2) k)
            have hF115 := FzC.ob hF100 hx115 hra115 (Nat.le_refl _)
            have hle115 : cnC σ ≤ cnC s115 := by rw [hx115.2.2]; exact hle100
            have hL115 : LsX N A (cnC σ) s115 z [((cnC σ), (recZ 0 (codY z.1) (zAt z.1) 0 (zAt z.1) (-1) 0 (xnM z) (-1) (-1) (-1) (-1) []), none)] := by
              have g1 : cnC s115 = cnC σ + 1 := by rw [hx115.2.2, hx100.2.2, hx65.2.2]; exact hnw63.1.2
              refine LsX.cn LsX.nil ⟨⟨Nat.le_refl _, by show cnC σ < cnC s115; omega, opX_o, fun i hi => Nat.ne_of_lt (hZ.2.2.2.1.1.2 i hi).2⟩, ?_, ⟨?_, ?_, ?_⟩, ?_⟩ (fun q h => absurd h List.not_mem_nil)
              · refine XbC.c2 hnw63.2.1 (fun k hk q1 q2 q3 => ⟨?_, ?_⟩)
                · show fIC s115 (cnC σ) k = _
                  rw [← hs115, pI_n q1, ← hs100]
                  show fIC s65 (cnC σ) k = _
                  rw [← hs65, pI_n q2]
                · show fRC s115 (cnC σ) k = _
                  rw [← hs115, ← hs100, ← hs65]
                  rfl
              · show (fIC s115 (cnC σ) 68).toInt = _
                rw [← hs115, pI_e]
                unfold tyX recZ
                dsimp only
                repeat' split
                all_goals omega
              · show (fIC s115 (cnC σ) 70).toInt = _
                rw [← hs115, pI_n (by decide), ← hs100]
                show (fIC s65 (cnC σ) 70).toInt = _
                rw [← hs65, pI_e]
                unfold coX recZ
                dsimp only
                rw [if_pos (by omega)]
                omega
              · show (fLC s115 (cnC σ) 71).toInt = _
                rw [← hs115]
                show (fLC s100 (cnC σ) 71).toInt = _
                rw [← hs100]
                rw [pL_e]
                unfold vaX recZ
                dsimp only
                rw [if_pos (by omega)]
                rw [if_neg (by omega), if_pos (by omega)]
                rfl
              · show fRC s115 (cnC σ) 75 = none
                rw [← hs115, ← hs100, ← hs65]
                exact hnw63.2.2.2
            intro w116 τ116 o116 q116
            obtain ⟨rfl, hZ116, hf116⟩ := q116 (N, E, A, B, V, z) ⟨rfl, hZ115, hfa⟩
            have hF116 := FzC.tr hF115 (FzC.mo hf116 hle115 (hF115).2.2.1.1.1)
            have hL116 := LsX.fz hL115 hf116
            have hle116 : cnC σ ≤ cnC τ116 := Nat.le_trans hle115 (hf116).1
            try dsimp only [Option.toList, List.cons_append, List.nil_append, s1C, s2C, dlC, kyC, Nat.beq, lkC, rcd, rno, rsw]
            intro w117 τ117 o117 q117
            have hh117 := LsX.hd hL116
            obtain ⟨rfl, hZ117, hpo117, hnx117⟩ := q117 (N, E, A, B, V, (accM z), (recZ 0 (codY z.1) (zAt z.1) (zAt z.1) (zAt z.1) (-1) 0 (xnM z) (-1) (-1) (-1) (-1) [])) ⟨_, rfl, hZ116, ⟨hh117.1.1.2, hh117.1.2.1, hh117.1.2.2.1⟩, (by show zAt z.1 = zAt (accY z.1) - 1; rw [(acc_n hfa).2.2]; show _ = zAt z.1 + 1 - 1; omega), ⟨fun a ha => absurd ha List.not_mem_nil, trivial⟩⟩
            have hnx117 := hnx117.trans hh117.1.2.2.2
            have hF117 := FzC.tr hF116 (FzC.pu (x := (recZ 0 (codY z.1) (zAt z.1) (zAt z.1) (zAt z.1) (-1) 0 (xnM z) (-1) (-1) (-1) (-1) [])) hpo117 hh117.1.1.1 hle116 (Int.le_refl _) hZ116.1.2.2.2.2.2.1.2.1)
            have hL117 := LsX.pu (x := (recZ 0 (codY z.1) (zAt z.1) (zAt z.1) (zAt z.1) (-1) 0 (xnM z) (-1) (-1) (-1) (-1) [])) hh117.2.1 hpo117 hh117.2.2
            have hle117 : cnC σ ≤ cnC τ117 := Nat.le_trans hle116 hpo117.1
            try dsimp only [Option.toList, List.cons_append, List.nil_append, s1C, s2C, dlC, kyC, Nat.beq, lkC, rcd, rno, rsw]
            try dsimp only [Qz_readLiteral]
            first
              | (exfalso; omega)
              | exact ExQ.pu (by show puM (litZ 0 (xnM z) z.1) (accM z) = _; unfold litZ; rw [if_pos (by omega), if_neg (fun q => absurd q.2 (by decide))]) hZ117 hF117 hnx117 rfl rfl (Nat.le_refl _)
      · have g68 := (eqI (x := c66) (y := (Int32.ofInt 72)) h68 : (c66 : Int32).toInt = ((Int32.ofInt 72) : Int32).toInt)
        refine hB _ _ _ _ _ (fun m118 hm118 => ?_)
        dsimp only [ucgo, ucwp, ucsC, uqC, uoC, ctC, rfd, KX7_readLiteral, KX7_readLiteral_0, KX7_readLiteral_9, KX7_readLiteral_18, KX7_readLiteral_22, KX7_readLiteral_23, KX7_readLiteral_29, KX7_readLiteral_33, KX7_readLiteral_34, KX7_readLiteral_57, KX7_readLiteral_61, KX7_readLiteral_70, KX7_readLiteral_74, KX7_readLiteral_86, KX7_readLiteral_99, KX7_readLiteral_103, KX7_readLiteral_107, KX7_readLiteral_111, KX7_readLiteral_112, lkC, s1C, s2C, dlC, kyC, Nat.beq, Nat.ble, rcd, rno, rsw, Nat.reduceAdd, Nat.reduceBEq, Nat.reduceDiv, List.drop, List.take, List.reverse, List.reverseAux, Int.toNat, Option.toList, List.append, List.cons_append, List.nil_append, zg241, zg242, zg304]
        refine hB _ _ _ _ _ (fun m119 hm119 => ?_)
        dsimp only [ucgo, ucwp, ucsC, uqC, uoC, ctC, rfd, KX7_readLiteral, KX7_readLiteral_0, KX7_readLiteral_9, KX7_readLiteral_18, KX7_readLiteral_22, KX7_readLiteral_23, KX7_readLiteral_29, KX7_readLiteral_33, KX7_readLiteral_34, KX7_readLiteral_57, KX7_readLiteral_61, KX7_readLiteral_70, KX7_readLiteral_74, KX7_readLiteral_86, KX7_readLiteral_99, KX7_readLiteral_103, KX7_readLiteral_107, KX7_readLiteral_111, KX7_readLiteral_112, lkC, s1C, s2C, dlC, kyC, Nat.beq, Nat.ble, rcd, rno, rsw, Nat.reduceAdd, Nat.reduceBEq, Nat.reduceDiv, List.drop, List.take, List.reverse, List.reverseAux, Int.toNat, Option.toList, List.append, List.cons_append, List.nil_append, zg241, zg242, zg304]
        intro a120 e120 ob120 fk120
        cases e120
        clear fk120 ob120
        generalize hs120 : pLC s65 (cnC σ) 71 (Int64.ofNat ((1 : Fin 2) : Nat)) = s120
        have hx120 : XfE s65 s120 := by rw [← hs120]; exact XfE.pL (by decide)
        have hra120 : ∀ a, a ≠ cnC σ → ∀ k, fIC s120 a k = fIC s65 a k ∧ fLC s120 a k = fLC s65 a k ∧ fRC s120 a k = fRC s65 a k := by rw [← hs120]; exact rL_a
        have hZ120 := ZC.xf hZ65 hx120 (fun i hi k => hra120 _ (Nat.ne_of_lt (hZ.2.2.2.1.1.2 i hi).2) k)
        have hF120 := FzC.ob hF65 hx120 hra120 (Nat.le_refl _)
        have hle120 : cnC σ ≤ cnC s120 := by rw [hx120.2.2]; exact hle65
        intro w121 τ121 o121 q121
        obtain ⟨c121, rfl, hc121, rfl⟩ := q121 (N, E, A, B, V, z) ⟨rfl, hZ120⟩
        try dsimp only [Option.toList, List.cons_append, List.nil_append, s1C, s2C, dlC, kyC, Nat.beq, lkC, rcd, rno, rsw]
        have c122 : (Int32.ofInt 83).toInt = 83 := by decide
        refine ⟨fun h123 => ?_, fun h123 => ?_⟩
        · have g123 := (neI (x := c121) (y := (Int32.ofInt 83)) h123 : ¬ (c121 : Int32).toInt = ((Int32.ofInt 83) : Int32).toInt)
          refine hB _ _ _ _ _ (fun m124 hm124 => ?_)
          dsimp only [ucgo, ucwp, ucsC, uqC, uoC, ctC, rfd, KX7_readLiteral, KX7_readLiteral_0, KX7_readLiteral_9, KX7_readLiteral_18, KX7_readLiteral_22, KX7_readLiteral_23, KX7_readLiteral_29, KX7_readLiteral_33, KX7_readLiteral_34, KX7_readLiteral_57, KX7_readLiteral_61, KX7_readLiteral_70, KX7_readLiteral_74, KX7_readLiteral_86, KX7_readLiteral_99, KX7_readLiteral_103, KX7_readLiteral_107, KX7_readLiteral_111, KX7_readLiteral_112, lkC, s1C, s2C, dlC, kyC, Nat.beq, Nat.ble, rcd, rno, rsw, Nat.reduceAdd, Nat.reduceBEq, Nat.reduceDiv, List.drop, List.take, List.reverse, List.reverseAux, Int.toNat, Option.toList, List.append, List.cons_append, List.nil_append, zg241, zg242, zg304]
          refine ⟨fun h125 => ?_, fun h125 => ?_⟩
          · exact absurd h125 (by decide)
          · have g125 := (neI (x := (Int32.ofInt 1)) (y := 0) h125 : ¬ ((Int32.ofInt 1) : Int32).toInt = (0 : Int32).toInt)
            have z0_ : (0 : Int32).toInt = 0 := rfl
            refine hB _ _ _ _ _ (fun m126 hm126 => ?_)
            dsimp only [ucgo, ucwp, ucsC, uqC, uoC, ctC, rfd, KX7_readLiteral, KX7_readLiteral_0, KX7_readLiteral_9, KX7_readLiteral_18, KX7_readLiteral_22, KX7_readLiteral_23, KX7_readLiteral_29, KX7_readLiteral_33, KX7_readLiteral_34, KX7_readLiteral_57, KX7_readLiteral_61, KX7_readLiteral_70, KX7_readLiteral_74, KX7_readLiteral_86, KX7_readLiteral_99, KX7_readLiteral_103, KX7_readLiteral_107, KX7_readLiteral_111, KX7_readLiteral_112, lkC, s1C, s2C, dlC, kyC, Nat.beq, Nat.ble, rcd, rno, rsw, Nat.reduceAdd, Nat.reduceBEq, Nat.reduceDiv, List.drop, List.take, List.reverse, List.reverseAux, Int.toNat, Option.toList, List.append, List.cons_append, List.nil_append, zg241, zg242, zg304]
            have c127 : (Int32.ofInt (-1)).toInt = -1 := by decide
            refine hB _ _ _ _ _ (fun m128 hm128 => ?_)
            dsimp only [ucgo, ucwp, ucsC, uqC, uoC, ctC, rfd, KX7_readLiteral, KX7_readLiteral_0, KX7_readLiteral_9, KX7_readLiteral_18, KX7_readLiteral_22, KX7_readLiteral_23, KX7_readLiteral_29, KX7_readLiteral_33, KX7_readLiteral_34, KX7_readLiteral_57, KX7_readLiteral_61, KX7_readLiteral_70, KX7_readLiteral_74, KX7_readLiteral_86, KX7_readLiteral_99, KX7_readLiteral_103, KX7_readLiteral_107, KX7_readLiteral_111, KX7_readLiteral_112, lkC, s1C, s2C, dlC, kyC, Nat.beq, Nat.ble, rcd, rno, rsw, Nat.reduceAdd, Nat.reduceBEq, Nat.reduceDiv, List.drop, List.take, List.reverse, List.reverseAux, Int.toNat, Option.toList, List.append, List.cons_append, List.nil_append, zg241, zg242, zg304]
            intro a129 e129 ob129 fk129
            cases e129
            clear fk129 ob129
            generalize hs129 : pIC s120 (cnC σ) 68 (Int32.ofInt (-1)) = s129
            have hx129 : XfE s120 s129 := by rw [← hs129]; exact XfE.pI (by decide)
            have hra129 : ∀ a, a ≠ cnC σ → ∀ k, fIC s129 a k = fIC s120 a k ∧ fLC s129 a k = fLC s120 a k ∧ fRC s129 a k = fRC s120 a k := by rw [← hs129]; exact rI_a
            have hZ129 := ZC.xf hZ120 hx129 (fun i hi k => hra129 _ (Nat.ne_of_lt (hZ.2.2.2.1.1.2 i hi).2) k)
            have hF129 := FzC.ob hF120 hx129 hra129 (Nat.le_refl _)
            have hle129 : cnC σ ≤ cnC s129 := by rw [hx129.2.2]; exact hle120
            have hL129 : LsX N A (cnC σ) s129 z [((cnC σ), (recZ 0 (codY z.1) (zAt z.1) 0 (zAt z.1) (-1) 0 (xnM z) (-1) (-1) (-1) (-1) []), none)] := by
              have g1 : cnC s129 = cnC σ + 1 := by rw [hx129.2.2, hx120.2.2, hx65.2.2]; exact hnw63.1.2
              refine LsX.cn LsX.nil ⟨⟨Nat.le_refl _, by show cnC σ < cnC s129; omega, opX_o, fun i hi => Nat.ne_of_lt (hZ.2.2.2.1.1.2 i hi).2⟩, ?_, ⟨?_, ?_, ?_⟩, ?_⟩ (fun q h => absurd h List.not_mem_nil)
              · refine XbC.c2 hnw63.2.1 (fun k hk q1 q2 q3 => ⟨?_, ?_⟩)
                · show fIC s129 (cnC σ) k = _
                  rw [← hs129, pI_n q1, ← hs120]
                  show fIC s65 (cnC σ) k = _
                  rw [← hs65, pI_n q2]
                · show fRC s129 (cnC σ) k = _
                  rw [← hs129, ← hs120, ← hs65]
                  rfl
              · show (fIC s129 (cnC σ) 68).toInt = _
                rw [← hs129, pI_e]
                unfold tyX recZ
                dsimp only
                repeat' split
                all_goals omega
              · show (fIC s129 (cnC σ) 70).toInt = _
                rw [← hs129, pI_n (by decide), ← hs120]
                show (fIC s65 (cnC σ) 70).toInt = _
                rw [← hs65, pI_e]
                unfold coX recZ
                dsimp only
                rw [if_pos (by omega)]
                omega
              · show (fLC s129 (cnC σ) 71).toInt = _
                rw [← hs129]
                show (fLC s120 (cnC σ) 71).toInt = _
                rw [← hs120]
                rw [pL_e]
                unfold vaX recZ
                dsimp only
                rw [if_pos (by omega)]
                rw [if_pos (by omega)]
                rfl
              · show fRC s129 (cnC σ) 75 = none
                rw [← hs129, ← hs120, ← hs65]
                exact hnw63.2.2.2
            intro w130 τ130 o130 q130
            obtain ⟨rfl, hZ130, hf130⟩ := q130 (N, E, A, B, V, z) ⟨rfl, hZ129, hfa⟩
            have hF130 := FzC.tr hF129 (FzC.mo hf130 hle129 (hF129).2.2.1.1.1)
            have hL130 := LsX.fz hL129 hf130
            have hle130 : cnC σ ≤ cnC τ130 := Nat.le_trans hle129 (hf130).1
            try dsimp only [Option.toList, List.cons_append, List.nil_append, s1C, s2C, dlC, kyC, Nat.beq, lkC, rcd, rno, rsw]
            intro w131 τ131 o131 q131
            have hh131 := LsX.hd hL130
            obtain ⟨rfl, hZ131, hpo131, hnx131⟩ := q131 (N, E, A, B, V, (accM z), (recZ 0 (codY z.1) (zAt z.1) (zAt z.1) (zAt z.1) (-1) 0 (xnM z) (-1) (-1) (-1) (-1) [])) ⟨_, rfl, hZ130, ⟨hh131.1.1.2, hh131.1.2.1, hh131.1.2.2.1⟩, (by show zAt z.1 = zAt (accY z.1) - 1; rw [(acc_n hfa).2.2]; show _ = zAt z.1 + 1 - 1; omega), ⟨fun a ha => absurd ha List.not_mem_nil, trivial⟩⟩
            have hnx131 := hnx131.trans hh131.1.2.2.2
            have hF131 := FzC.tr hF130 (FzC.pu (x := (recZ 0 (codY z.1) (zAt z.1) (zAt z.1) (zAt z.1) (-1) 0 (xnM z) (-1) (-1) (-1) (-1) [])) hpo131 hh131.1.1.1 hle130 (Int.le_refl _) hZ130.1.2.2.2.2.2.1.2.1)
            have hL131 := LsX.pu (x := (recZ 0 (codY z.1) (zAt z.1) (zAt z.1) (zAt z.1) (-1) 0 (xnM z) (-1) (-1) (-1) (-1) [])) hh131.2.1 hpo131 hh131.2.2
            have hle131 : cnC σ ≤ cnC τ131 := Nat.le_trans hle130 hpo131.1
            try dsimp only [Option.toList, List.cons_append, List.nil_append, s1C, s2C, dlC, kyC, Nat.beq, lkC, rcd, rno, rsw]
            try dsimp only [Qz_readLiteral]
            first
              | (exfalso; omega)
              | exact ExQ.pu (by show puM (litZ 0 (xnM z) z.1) (accM z) = _; unfold litZ; rw [if_pos (by omega), if_neg (fun q => absurd q.2 (by decide))]) hZ131 hF131 hnx131 rfl rfl (Nat.le_refl _)
        · have g123 := (eqI (x := c121) (y := (Int32.ofInt 83)) h123 : (c121 : Int32).toInt = ((Int32.ofInt 83) : Int32).toInt)
          refine hB _ _ _ _ _ (fun m132 hm132 => ?_)
          dsimp only [ucgo, ucwp, ucsC, uqC, uoC, ctC, rfd, KX7_readLiteral, KX7_readLiteral_0, KX7_readLiteral_9, KX7_readLiteral_18, KX7_readLiteral_22, KX7_readLiteral_23, KX7_readLiteral_29, KX7_readLiteral_33, KX7_readLiteral_34, KX7_readLiteral_57, KX7_readLiteral_61, KX7_readLiteral_70, KX7_readLiteral_74, KX7_readLiteral_86, KX7_readLiteral_99, KX7_readLiteral_103, KX7_readLiteral_107, KX7_readLiteral_111, KX7_readLiteral_112, lkC, s1C, s2C, dlC, kyC, Nat.beq, Nat.ble, rcd, rno, rsw, Nat.reduceAdd, Nat.reduceBEq, Nat.reduceDiv, List.drop, List.take, List.reverse, List.reverseAux, Int.toNat, Option.toList, List.append, List.cons_append, List.nil_append, zg241, zg242, zg304]
          have c133 : (Int32.ofInt 2).toInt = 2 := by decide
          refine hB _ _ _ _ _ (fun m134 hm134 => ?_)
          dsimp only [ucgo, ucwp, ucsC, uqC, uoC, ctC, rfd, KX7_readLiteral, KX7_readLiteral_0, KX7_readLiteral_9, KX7_readLiteral_18, KX7_readLiteral_22, KX7_readLiteral_23, KX7_readLiteral_29, KX7_readLiteral_33, KX7_readLiteral_34, KX7_readLiteral_57, KX7_readLiteral_61, KX7_readLiteral_70, KX7_readLiteral_74, KX7_readLiteral_86, KX7_readLiteral_99, KX7_readLiteral_103, KX7_readLiteral_107, KX7_readLiteral_111, KX7_readLiteral_112, lkC, s1C, s2C, dlC, kyC, Nat.beq, Nat.ble, rcd, rno, rsw, Nat.reduceAdd, Nat.reduceBEq, Nat.reduceDiv, List.drop, List.take, List.reverse, List.reverseAux, Int.toNat, Option.toList, List.append, List.cons_append, List.nil_append, zg241, zg242, zg304]
          intro a135 e135 ob135 fk135
          cases e135
          clear fk135 ob135
          generalize hs135 : pIC s120 (cnC σ) 68 (Int32.ofInt 2) = s135
          have hx135 : XfE s120 s135 := by rw [← hs135]; exact XfE.pI (by decide)
          have hra135 : ∀ a, a ≠ cnC σ → ∀ k, fIC s135 a k = fIC s120 a k ∧ fLC s135 a k = fLC s120 a k ∧ fRC s135 a k = fRC s120 a k := by rw [← hs135]; exact rI_a
          have hZ135 := ZC.xf hZ120 hx135 (fun i hi k => hra135 _ (Nat.ne_of_lt (hZ.2.2.2.1.1.2 i hi).2) k)
          have hF135 := FzC.ob hF120 hx135 hra135 (Nat.le_refl _)
          have hle135 : cnC σ ≤ cnC s135 := by rw [hx135.2.2]; exact hle120
          have hL135 : LsX N A (cnC σ) s135 z [((cnC σ), (recZ 0 (codY z.1) (zAt z.1) 0 (zAt z.1) (-1) 0 (xnM z) (-1) (-1) (-1) (-1) []), none)] := by
            have g1 : cnC s135 = cnC σ + 1 := by rw [hx135.2.2, hx120.2.2, hx65.2.2]; exact hnw63.1.2
            refine LsX.cn LsX.nil ⟨⟨Nat.le_refl _, by show cnC σ < cnC s135; omega, opX_o, fun i hi => Nat.ne_of_lt (hZ.2.2.2.1.1.2 i hi).2⟩, ?_, ⟨?_, ?_, ?_⟩, ?_⟩ (fun q h => absurd h List.not_mem_nil)
            · refine XbC.c2 hnw63.2.1 (fun k hk q1 q2 q3 => ⟨?_, ?_⟩)
              · show fIC s135 (cnC σ) k = _
                rw [← hs135, pI_n q1, ← hs120]
                show fIC s65 (cnC σ) k = _
                rw [← hs65, pI_n q2]
              · show fRC s135 (cnC σ) k = _
                rw [← hs135, ← hs120, ← hs65]
                rfl
            · show (fIC s135 (cnC σ) 68).toInt = _
              rw [← hs135, pI_e]
              unfold tyX recZ
              dsimp only
              repeat' split
              all_goals omega
            · show (fIC s135 (cnC σ) 70).toInt = _
              rw [← hs135, pI_n (by decide), ← hs120]
              show (fIC s65 (cnC σ) 70).toInt = _
              rw [← hs65, pI_e]
              unfold coX recZ
              dsimp only
              rw [if_pos (by omega)]
              omega
            · show (fLC s135 (cnC σ) 71).toInt = _
              rw [← hs135]
              show (fLC s120 (cnC σ) 71).toInt = _
              rw [← hs120]
              rw [pL_e]
              unfold vaX recZ
              dsimp only
              rw [if_pos (by omega)]
              rw [if_pos (by omega)]
              rfl
            · show fRC s135 (cnC σ) 75 = none
              rw [← hs135, ← hs120, ← hs65]
              exact hnw63.2.2.2
          intro w136 τ136 o136 q136
          obtain ⟨rfl, hZ136, hf136⟩ := q136 (N, E, A, B, V, z) ⟨rfl, hZ135, hfa⟩
          have hF136 := FzC.tr hF135 (FzC.mo hf136 hle135 (hF135).2.2.1.1.1)
          have hL136 := LsX.fz hL135 hf136
          have hle136 : cnC σ ≤ cnC τ136 := Nat.le_trans hle135 (hf136).1
          try dsimp only [Option.toList, List.cons_append, List.nil_append, s1C, s2C, dlC, kyC, Nat.beq, lkC, rcd, rno, rsw]
          intro w137 τ137 o137 q137
          have hh137 := LsX.hd hL136
          obtain ⟨rfl, hZ137, hpo137, hnx137⟩ := q137 (N, E, A, B, V, (accM z), (recZ 0 (codY z.1) (zAt z.1) (zAt z.1) (zAt z.1) (-1) 0 (xnM z) (-1) (-1) (-1) (-1) [])) ⟨_, rfl, hZ136, ⟨hh137.1.1.2, hh137.1.2.1, hh137.1.2.2.1⟩, (by show zAt z.1 = zAt (accY z.1) - 1; rw [(acc_n hfa).2.2]; show _ = zAt z.1 + 1 - 1; omega), ⟨fun a ha => absurd ha List.not_mem_nil, trivial⟩⟩
          have hnx137 := hnx137.trans hh137.1.2.2.2
          have hF137 := FzC.tr hF136 (FzC.pu (x := (recZ 0 (codY z.1) (zAt z.1) (zAt z.1) (zAt z.1) (-1) 0 (xnM z) (-1) (-1) (-1) (-1) [])) hpo137 hh137.1.1.1 hle136 (Int.le_refl _) hZ136.1.2.2.2.2.2.1.2.1)
          have hL137 := LsX.pu (x := (recZ 0 (codY z.1) (zAt z.1) (zAt z.1) (zAt z.1) (-1) 0 (xnM z) (-1) (-1) (-1) (-1) [])) hh137.2.1 hpo137 hh137.2.2
          have hle137 : cnC σ ≤ cnC τ137 := Nat.le_trans hle136 hpo137.1
          try dsimp only [Option.toList, List.cons_append, List.nil_append, s1C, s2C, dlC, kyC, Nat.beq, lkC, rcd, rno, rsw]
          try dsimp only [Qz_readLiteral]
          first
            | (exfalso; omega)
            | exact ExQ.pu (by show puM (litZ 0 (xnM z) z.1) (accM z) = _; unfold litZ; rw [if_pos (by omega), if_neg (fun q => absurd q.2 (by decide))]) hZ137 hF137 hnx137 rfl rfl (Nat.le_refl _)
  · have g54 := (neI (x := c52) (y := (Int32.ofInt 81)) h54 : ¬ (c52 : Int32).toInt = ((Int32.ofInt 81) : Int32).toInt)
    refine hB _ _ _ _ _ (fun m138 hm138 => ?_)
    dsimp only [ucgo, ucwp, ucsC, uqC, uoC, ctC, rfd, KX7_readLiteral, KX7_readLiteral_0, KX7_readLiteral_9, KX7_readLiteral_18, KX7_readLiteral_22, KX7_readLiteral_23, KX7_readLiteral_29, KX7_readLiteral_33, KX7_readLiteral_34, KX7_readLiteral_57, KX7_readLiteral_61, KX7_readLiteral_70, KX7_readLiteral_74, KX7_readLiteral_86, KX7_readLiteral_99, KX7_readLiteral_103, KX7_readLiteral_107, KX7_readLiteral_111, KX7_readLiteral_112, lkC, s1C, s2C, dlC, kyC, Nat.beq, Nat.ble, rcd, rno, rsw, Nat.reduceAdd, Nat.reduceBEq, Nat.reduceDiv, List.drop, List.take, List.reverse, List.reverseAux, Int.toNat, Option.toList, List.append, List.cons_append, List.nil_append, zg241, zg242, zg304]
    intro w139 τ139 o139 q139
    obtain ⟨c139, rfl, hc139, rfl⟩ := q139 (N, E, A, B, V, z) ⟨rfl, hZ⟩
    try dsimp only [Option.toList, List.cons_append, List.nil_append, s1C, s2C, dlC, kyC, Nat.beq, lkC, rcd, rno, rsw]
    have c140 : (Int32.ofInt 82).toInt = 82 := by decide
    refine ⟨fun h141 => ?_, fun h141 => ?_⟩
    · have g141 := (neI (x := c139) (y := (Int32.ofInt 82)) h141 : ¬ (c139 : Int32).toInt = ((Int32.ofInt 82) : Int32).toInt)
      refine hB _ _ _ _ _ (fun m142 hm142 => ?_)
      dsimp only [ucgo, ucwp, ucsC, uqC, uoC, ctC, rfd, KX7_readLiteral, KX7_readLiteral_0, KX7_readLiteral_9, KX7_readLiteral_18, KX7_readLiteral_22, KX7_readLiteral_23, KX7_readLiteral_29, KX7_readLiteral_33, KX7_readLiteral_34, KX7_readLiteral_57, KX7_readLiteral_61, KX7_readLiteral_70, KX7_readLiteral_74, KX7_readLiteral_86, KX7_readLiteral_99, KX7_readLiteral_103, KX7_readLiteral_107, KX7_readLiteral_111, KX7_readLiteral_112, lkC, s1C, s2C, dlC, kyC, Nat.beq, Nat.ble, rcd, rno, rsw, Nat.reduceAdd, Nat.reduceBEq, Nat.reduceDiv, List.drop, List.take, List.reverse, List.reverseAux, Int.toNat, Option.toList, List.append, List.cons_append, List.nil_append, zg241, zg242, zg304]
      have c143 : (Int32.ofInt 0).toInt = 0 := by decide
      refine hB _ _ _ _ _ (fun m144 hm144 => ?_)
      dsimp only [ucgo, ucwp, ucsC, uqC, uoC, ctC, rfd, KX7_readLiteral, KX7_readLiteral_0, KX7_readLiteral_9, KX7_readLiteral_18, KX7_readLiteral_22, KX7_readLiteral_23, KX7_readLiteral_29, KX7_readLiteral_33, KX7_readLiteral_34, KX7_readLiteral_57, KX7_readLiteral_61, KX7_readLiteral_70, KX7_readLiteral_74, KX7_readLiteral_86, KX7_readLiteral_99, KX7_readLiteral_103, KX7_readLiteral_107, KX7_readLiteral_111, KX7_readLiteral_112, lkC, s1C, s2C, dlC, kyC, Nat.beq, Nat.ble, rcd, rno, rsw, Nat.reduceAdd, Nat.reduceBEq, Nat.reduceDiv, List.drop, List.take, List.reverse, List.reverseAux, Int.toNat, Option.toList, List.append, List.cons_append, List.nil_append, zg241, zg242, zg304]
      refine ⟨fun h145 => ?_, fun h145 => ?_⟩
      · have g145 := (eqI (x := (Int32.ofInt 0)) (y := 0) h145 : ((Int32.ofInt 0) : Int32).toInt = (0 : Int32).toInt)
        have z0_ : (0 : Int32).toInt = 0 := rfl
        refine hB _ _ _ _ _ (fun m146 hm146 => ?_)
        dsimp only [ucgo, ucwp, ucsC, uqC, uoC, ctC, rfd, KX7_readLiteral, KX7_readLiteral_0, KX7_readLiteral_9, KX7_readLiteral_18, KX7_readLiteral_22, KX7_readLiteral_23, KX7_readLiteral_29, KX7_readLiteral_33, KX7_readLiteral_34, KX7_readLiteral_57, KX7_readLiteral_61, KX7_readLiteral_70, KX7_readLiteral_74, KX7_readLiteral_86, KX7_readLiteral_99, KX7_readLiteral_103, KX7_readLiteral_107, KX7_readLiteral_111, KX7_readLiteral_112, lkC, s1C, s2C, dlC, kyC, Nat.beq, Nat.ble, rcd, rno, rsw, Nat.reduceAdd, Nat.reduceBEq, Nat.reduceDiv, List.drop, List.take, List.reverse, List.reverseAux, Int.toNat, Option.toList, List.append, List.cons_append, List.nil_append, zg241, zg242, zg304]
        have c147 : (Int32.ofInt 1).toInt = 1 := by decide
        refine hB _ _ _ _ _ (fun m148 hm148 => ?_)
        dsimp only [ucgo, ucwp, ucsC, uqC, uoC, ctC, rfd, KX7_readLiteral, KX7_readLiteral_0, KX7_readLiteral_9, KX7_readLiteral_18, KX7_readLiteral_22, KX7_readLiteral_23, KX7_readLiteral_29, KX7_readLiteral_33, KX7_readLiteral_34, KX7_readLiteral_57, KX7_readLiteral_61, KX7_readLiteral_70, KX7_readLiteral_74, KX7_readLiteral_86, KX7_readLiteral_99, KX7_readLiteral_103, KX7_readLiteral_107, KX7_readLiteral_111, KX7_readLiteral_112, lkC, s1C, s2C, dlC, kyC, Nat.beq, Nat.ble, rcd, rno, rsw, Nat.reduceAdd, Nat.reduceBEq, Nat.reduceDiv, List.drop, List.take, List.reverse, List.reverseAux, Int.toNat, Option.toList, List.append, List.cons_append, List.nil_append, zg241, zg242, zg304]
        intro w149 τ149 o149 q149
        obtain ⟨c149, rfl, hc149, rfl⟩ := q149 (N, E, A, B, V, z) ⟨rfl, hZ⟩
        try dsimp only [Option.toList, List.cons_append, List.nil_append, s1C, s2C, dlC, kyC, Nat.beq, lkC, rcd, rno, rsw]
        intro w150 τ150 o150 q150
        obtain ⟨rfl, hZ150, hf150, hnw150⟩ := q150 (N, E, A, B, V, z, 1, (codY z.1)) ⟨_, _, rfl, hZ, by omega, by omega⟩
        have hF150 := FzC.tr (FzC.rf (n := cnC σ) (m := xnM z) (E := E) (A := A) (B := B) (V := V) (z := z) (σ := σ)) (FzC.mo hf150 (Nat.le_refl (cnC σ)) ((FzC.rf (n := cnC σ) (m := xnM z) (E := E) (A := A) (B := B) (V := V) (z := z) (σ := σ))).2.2.1.1.1)
        have hle150 : cnC σ ≤ cnC τ150 := Nat.le_trans (Nat.le_refl (cnC σ)) (hf150).1
        try dsimp only [Option.toList, List.cons_append, List.nil_append, s1C, s2C, dlC, kyC, Nat.beq, lkC, rcd, rno, rsw]
        have c151 : (Int32.ofInt 1).toInt = 1 := by decide
        intro a152 e152 ob152 fk152
        cases e152
        clear fk152 ob152
        generalize hs152 : pIC τ150 (cnC σ) 70 (Int32.ofInt 1) = s152
        have hx152 : XfE τ150 s152 := by rw [← hs152]; exact XfE.pI (by decide)
        have hra152 : ∀ a, a ≠ cnC σ → ∀ k, fIC s152 a k = fIC τ150 a k ∧ fLC s152 a k = fLC τ150 a k ∧ fRC s152 a k = fRC τ150 a k := by rw [← hs152]; exact rI_a
        have hZ152 := ZC.xf hZ150 hx152 (fun i hi k => hra152 _ (Nat.ne_of_lt (hZ.2.2.2.1.1.2 i hi).2) k)
        have hF152 := FzC.ob hF150 hx152 hra152 (Nat.le_refl _)
        have hle152 : cnC σ ≤ cnC s152 := by rw [hx152.2.2]; exact hle150
        intro w153 τ153 o153 q153
        obtain ⟨c153, rfl, hc153, rfl⟩ := q153 (N, E, A, B, V, z) ⟨rfl, hZ152⟩
        try dsimp only [Option.toList, List.cons_append, List.nil_append, s1C, s2C, dlC, kyC, Nat.beq, lkC, rcd, rno, rsw]
        have c154 : (Int32.ofInt 72).toInt = 72 := by decide
        refine ⟨fun h155 => ?_, fun h155 => ?_⟩
        · have g155 := (neI (x := c153) (y := (Int32.ofInt 72)) h155 : ¬ (c153 : Int32).toInt = ((Int32.ofInt 72) : Int32).toInt)
          refine hB _ _ _ _ _ (fun m156 hm156 => ?_)
          dsimp only [ucgo, ucwp, ucsC, uqC, uoC, ctC, rfd, KX7_readLiteral, KX7_readLiteral_0, KX7_readLiteral_9, KX7_readLiteral_18, KX7_readLiteral_22, KX7_readLiteral_23, KX7_readLiteral_29, KX7_readLiteral_33, KX7_readLiteral_34, KX7_readLiteral_57, KX7_readLiteral_61, KX7_readLiteral_70, KX7_readLiteral_74, KX7_readLiteral_86, KX7_readLiteral_99, KX7_readLiteral_103, KX7_readLiteral_107, KX7_readLiteral_111, KX7_readLiteral_112, lkC, s1C, s2C, dlC, kyC, Nat.beq, Nat.ble, rcd, rno, rsw, Nat.reduceAdd, Nat.reduceBEq, Nat.reduceDiv, List.drop, List.take, List.reverse, List.reverseAux, Int.toNat, Option.toList, List.append, List.cons_append, List.nil_append, zg241, zg242, zg304]
          intro w157 τ157 o157 q157
          obtain ⟨c157, rfl, hc157, rfl⟩ := q157 (N, E, A, B, V, z) ⟨rfl, hZ152⟩
          try dsimp only [Option.toList, List.cons_append, List.nil_append, s1C, s2C, dlC, kyC, Nat.beq, lkC, rcd, rno, rsw]
          have c158 : (Int32.ofInt 73).toInt = 73 := by decide
          refine ⟨fun h159 => ?_, fun h159 => ?_⟩
          · have g159 := (neI (x := c157) (y := (Int32.ofInt 73)) h159 : ¬ (c157 : Int32).toInt = ((Int32.ofInt 73) : Int32).toInt)
            refine hB _ _ _ _ _ (fun m160 hm160 => ?_)
            dsimp only [ucgo, ucwp, ucsC, uqC, uoC, ctC, rfd, KX7_readLiteral, KX7_readLiteral_0, KX7_readLiteral_9, KX7_readLiteral_18, KX7_readLiteral_22, KX7_readLiteral_23, KX7_readLiteral_29, KX7_readLiteral_33, KX7_readLiteral_34, KX7_readLiteral_57, KX7_readLiteral_61, KX7_readLiteral_70, KX7_readLiteral_74, KX7_readLiteral_86, KX7_readLiteral_99, KX7_readLiteral_103, KX7_readLiteral_107, KX7_readLiteral_111, KX7_readLiteral_112, lkC, s1C, s2C, dlC, kyC, Nat.beq, Nat.ble, rcd, rno, rsw, Nat.reduceAdd, Nat.reduceBEq, Nat.reduceDiv, List.drop, List.take, List.reverse, List.reverseAux, Int.toNat, Option.toList, List.append, List.cons_append, List.nil_append, zg241, zg242, zg304]
            intro a161 e161 ob161
            cases e161
            intro a162 e162 ob162
            obtain rfl : E 2 = a162 := Option.some.inj (hZ152.1.1.2.symm.trans e162)
            intro a163 e163 ob163
            cases e163
            have f164 : (fIC s152 (E 0) 242).toInt = zAt z.1 := hZ152.2.1.1.1
            intro a165 e165 t165 v165
            obtain rfl : E 304 = a165 := Option.some.inj (hZ152.1.2.2.1.2.2.symm.trans e165)
            refine hB _ _ _ _ _ (fun m166 hm166 => ?_)
            dsimp only [ucgo, ucwp, ucsC, uqC, uoC, ctC, rfd, KX7_readLiteral, KX7_readLiteral_0, KX7_readLiteral_9, KX7_readLiteral_18, KX7_readLiteral_22, KX7_readLiteral_23, KX7_readLiteral_29, KX7_readLiteral_33, KX7_readLiteral_34, KX7_readLiteral_57, KX7_readLiteral_61, KX7_readLiteral_70, KX7_readLiteral_74, KX7_readLiteral_86, KX7_readLiteral_99, KX7_readLiteral_103, KX7_readLiteral_107, KX7_readLiteral_111, KX7_readLiteral_112, lkC, s1C, s2C, dlC, kyC, Nat.beq, Nat.ble, rcd, rno, rsw, Nat.reduceAdd, Nat.reduceBEq, Nat.reduceDiv, List.drop, List.take, List.reverse, List.reverseAux, Int.toNat, Option.toList, List.append, List.cons_append, List.nil_append, zg241, zg242, zg304]
            intro a167 e167 ob167 fk167
            cases e167
            clear fk167 ob167
            generalize hs167 : pLC s152 (cnC σ) 71 (eLC s152 (E 304) (fIC s152 (E 0) 242).toNatClampNeg) = s167
            have hx167 : XfE s152 s167 := by rw [← hs167]; exact XfE.pL (by decide)
            have hra167 : ∀ a, a ≠ cnC σ → ∀ k, fIC s167 a k = fIC s152 a k ∧ fLC s167 a k = fLC s152 a k ∧ fRC s167 a k = fRC s152 a k := by rw [← hs167]; exact rL_a
            have hZ167 := ZC.xf hZ152 hx167 (fun i hi k => hra167 _ (Nat.ne_of_lt (hZ.2.2.2.1.1.2 i hi).2) k)
            have hF167 := FzC.ob hF152 hx167 hra167 (Nat.le_refl _)
            have hle167 : cnC σ ≤ cnC s167 := by rw [hx167.2.2]; exact hle152
            intro w168 τ168 o168 q168
            obtain ⟨c168, rfl, hc168, rfl⟩ := q168 (N, E, A, B, V, z) ⟨rfl, hZ167⟩
            try dsimp only [Option.toList, List.cons_append, List.nil_append, s1C, s2C, dlC, kyC, Nat.beq, lkC, rcd, rno, rsw]
            have c169 : (Int32.ofInt 83).toInt = 83 := by decide
            refine ⟨fun h170 => ?_, fun h170 => ?_⟩
            · have g170 := (neI (x := c168) (y := (Int32.ofInt 83)) h170 : ¬ (c168 : Int32).toInt = ((Int32.ofInt 83) : Int32).toInt)
              refine hB _ _ _ _ _ (fun m171 hm171 => ?_)
              dsimp only [ucgo, ucwp, ucsC, uqC, uoC, ctC, rfd, KX7_readLiteral, KX7_readLiteral_0, KX7_readLiteral_9, KX7_readLiteral_18, KX7_readLiteral_22, KX7_readLiteral_23, KX7_readLiteral_29, KX7_readLiteral_33, KX7_readLiteral_34, KX7_readLiteral_57, KX7_readLiteral_61, KX7_readLiteral_70, KX7_readLiteral_74, KX7_readLiteral_86, KX7_readLiteral_99, KX7_readLiteral_103, KX7_readLiteral_107, KX7_readLiteral_111, KX7_readLiteral_112, lkC, s1C, s2C, dlC, kyC, Nat.beq, Nat.ble, rcd, rno, rsw, Nat.reduceAdd, Nat.reduceBEq, Nat.reduceDiv, List.drop, List.take, List.reverse, List.reverseAux, Int.toNat, Option.toList, List.append, List.cons_append, List.nil_append, zg241, zg242, zg304]
              refine ⟨fun h172 => ?_, fun h172 => ?_⟩
              · have g172 := (eqI (x := (Int32.ofInt 0)) (y := 0) h172 : ((Int32.ofInt 0) : Int32).toInt = (0 : Int32).toInt)
                have z0_ : (0 : Int32).toInt = 0 := rfl
                refine hB _ _ _ _ _ (fun m173 hm173 => ?_)
                dsimp only [ucgo, ucwp, ucsC, uqC, uoC, ctC, rfd, KX7_readLiteral, KX7_readLiteral_0, KX7_readLiteral_9, KX7_readLiteral_18, KX7_readLiteral_22, KX7_readLiteral_23, KX7_readLiteral_29, KX7_readLiteral_33, KX7_readLiteral_34, KX7_readLiteral_57, KX7_readLiteral_61, KX7_readLiteral_70, KX7_readLiteral_74, KX7_readLiteral_86, KX7_readLiteral_99, KX7_readLiteral_103, KX7_readLiteral_107, KX7_readLiteral_111, KX7_readLiteral_112, lkC, s1C, s2C, dlC, kyC, Nat.beq, Nat.ble, rcd, rno, rsw, Nat.reduceAdd, Nat.reduceBEq, Nat.reduceDiv, List.drop, List.take, List.reverse, List.reverseAux, Int.toNat, Option.toList, List.append, List.cons_append, List.nil_append, zg241, zg242, zg304]
                have c174 : (Int32.ofInt 0).toInt = 0 := by decide
                refine hB _ _ _ _ _ (fun m175 hm175 => ?_)
                dsimp only [ucgo, ucwp, ucsC, uqC, uoC, ctC, rfd, KX7_readLiteral, KX7_readLiteral_0, KX7_readLiteral_9, KX7_readLiteral_18, KX7_readLiteral_22, KX7_readLiteral_23, KX7_readLiteral_29, KX7_readLiteral_33, KX7_readLiteral_34, KX7_readLiteral_57, KX7_readLiteral_61, KX7_readLiteral_70, KX7_readLiteral_74, KX7_readLiteral_86, KX7_readLiteral_99, KX7_readLiteral_103, KX7_readLiteral_107, KX7_readLiteral_111, KX7_readLiteral_112, lkC, s1C, s2C, dlC, kyC, Nat.beq, Nat.ble, rcd, rno, rsw, Nat.reduceAdd, Nat.reduceBEq, Nat.reduceDiv, List.drop, List.take, List.reverse, List.reverseAux, Int.toNat, Option.toList, List.append, List.cons_append, List.nil_append, zg241, zg242, zg304]
                intro a176 e176 ob176 fk176
                cases e176
                clear fk176 ob176
                generalize hs176 : pIC s167 (cnC σ) 68 (Int32.ofInt 0) = s176
                have hx176 : XfE s167 s176 := by rw [← hs176]; exact XfE.pI (by decide)
                have hra176 : ∀ a, a ≠ cnC σ → ∀ k, fIC s176 a k = fIC s167 a k ∧ fLC s176 a k = fLC s167 a k ∧ fRC s176 a k = fRC s167 a k := by rw [← hs176]; exact rI_a
                have hZ176 := ZC.xf hZ167 hx176 (fun i hi k => hra176 _ (Nat.ne_of_lt (hZ.2.2.2.1.1.2 i hi).2) k)
                have hF176 := FzC.ob hF167 hx176 hra176 (Nat.le_refl _)
                have hle176 : cnC σ ≤ cnC s176 := by rw [hx176.2.2]; exact hle167
                have hL176 : LsX N A (cnC σ) s176 z [((cnC σ), (recZ 1 (codY z.1) (zAt z.1) 0 (zAt z.1) (-1) 0 (xnM z) (-1) (-1) (-1) (-1) []), none)] := by
                  have g1 : cnC s176 = cnC σ + 1 := by rw [hx176.2.2, hx167.2.2, hx152.2.2]; exact hnw150.1.2
                  refine LsX.cn LsX.nil ⟨⟨Nat.le_refl _, by show cnC σ < cnC s176; omega, opX_o, fun i hi => Nat.ne_of_lt (hZ.2.2.2.1.1.2 i hi).2⟩, ?_, ⟨?_, ?_, ?_⟩, ?_⟩ (fun q h => absurd h List.not_mem_nil)
                  · refine XbC.c2 hnw150.2.1 (fun k hk q1 q2 q3 => ⟨?_, ?_⟩)
                    · show fIC s176 (cnC σ) k = _
                      rw [← hs176, pI_n q1, ← hs167]
                      show fIC s152 (cnC σ) k = _
                      rw [← hs152, pI_n q2]
                    · show fRC s176 (cnC σ) k = _
                      rw [← hs176, ← hs167, ← hs152]
                      rfl
                  · show (fIC s176 (cnC σ) 68).toInt = _
                    rw [← hs176, pI_e]
                    unfold tyX recZ
                    dsimp only
                    repeat' split
                    all_goals omega
                  · show (fIC s176 (cnC σ) 70).toInt = _
                    rw [← hs176, pI_n (by decide), ← hs167]
                    show (fIC s152 (cnC σ) 70).toInt = _
                    rw [← hs152, pI_e]
                    unfold coX recZ
                    dsimp only
                    rw [if_pos (by omega)]
                    omega
                  · show (fLC s176 (cnC σ) 71).toInt = _
                    rw [← hs176]
                    show (fLC s167 (cnC σ) 71).toInt = _
                    rw [← hs167]
                    rw [pL_e]
                    unfold vaX recZ
                    dsimp only
                    rw [if_pos (by omega)]
                    rw [if_neg (by omega), if_neg (by omega), hZ152.2.2.1.2, nT_toNat]
                    exact congrArg N (by omega)
                  · show fRC s176 (cnC σ) 75 = none
                    rw [← hs176, ← hs167, ← hs152]
                    exact hnw150.2.2.2
                intro w177 τ177 o177 q177
                obtain ⟨rfl, hZ177, hf177⟩ := q177 (N, E, A, B, V, z) ⟨rfl, hZ176, hfa⟩
                have hF177 := FzC.tr hF176 (FzC.mo hf177 hle176 (hF176).2.2.1.1.1)
                have hL177 := LsX.fz hL176 hf177
                have hle177 : cnC σ ≤ cnC τ177 := Nat.le_trans hle176 (hf177).1
                try dsimp only [Option.toList, List.cons_append, List.nil_append, s1C, s2C, dlC, kyC, Nat.beq, lkC, rcd, rno, rsw]
                intro w178 τ178 o178 q178
                have hh178 := LsX.hd hL177
                obtain ⟨rfl, hZ178, hpo178, hnx178⟩ := q178 (N, E, A, B, V, (accM z), (recZ 1 (codY z.1) (zAt z.1) (zAt z.1) (zAt z.1) (-1) 0 (xnM z) (-1) (-1) (-1) (-1) [])) ⟨_, rfl, hZ177, ⟨hh178.1.1.2, hh178.1.2.1, hh178.1.2.2.1⟩, (by show zAt z.1 = zAt (accY z.1) - 1; rw [(acc_n hfa).2.2]; show _ = zAt z.1 + 1 - 1; omega), ⟨fun a ha => absurd ha List.not_mem_nil, trivial⟩⟩
                have hnx178 := hnx178.trans hh178.1.2.2.2
                have hF178 := FzC.tr hF177 (FzC.pu (x := (recZ 1 (codY z.1) (zAt z.1) (zAt z.1) (zAt z.1) (-1) 0 (xnM z) (-1) (-1) (-1) (-1) [])) hpo178 hh178.1.1.1 hle177 (Int.le_refl _) hZ177.1.2.2.2.2.2.1.2.1)
                have hL178 := LsX.pu (x := (recZ 1 (codY z.1) (zAt z.1) (zAt z.1) (zAt z.1) (-1) 0 (xnM z) (-1) (-1) (-1) (-1) [])) hh178.2.1 hpo178 hh178.2.2
                have hle178 : cnC σ ≤ cnC τ178 := Nat.le_trans hle177 hpo178.1
                try dsimp only [Option.toList, List.cons_append, List.nil_append, s1C, s2C, dlC, kyC, Nat.beq, lkC, rcd, rno, rsw]
                try dsimp only [Qz_readLiteral]
                first
                  | (exfalso; omega)
                  | exact ExQ.pu (by show puM (litZ 0 (xnM z) z.1) (accM z) = _; unfold litZ; rw [if_neg (by omega), if_neg (fun q => absurd q.2 (by decide))]) hZ178 hF178 hnx178 rfl rfl (Nat.le_refl _)
              · exact absurd h172 (by decide)
            · have g170 := (eqI (x := c168) (y := (Int32.ofInt 83)) h170 : (c168 : Int32).toInt = ((Int32.ofInt 83) : Int32).toInt)
              refine hB _ _ _ _ _ (fun m179 hm179 => ?_)
              dsimp only [ucgo, ucwp, ucsC, uqC, uoC, ctC, rfd, KX7_readLiteral, KX7_readLiteral_0, KX7_readLiteral_9, KX7_readLiteral_18, KX7_readLiteral_22, KX7_readLiteral_23, KX7_readLiteral_29, KX7_readLiteral_33, KX7_readLiteral_34, KX7_readLiteral_57, KX7_readLiteral_61, KX7_readLiteral_70, KX7_readLiteral_74, KX7_readLiteral_86, KX7_readLiteral_99, KX7_readLiteral_103, KX7_readLiteral_107, KX7_readLiteral_111, KX7_readLiteral_112, lkC, s1C, s2C, dlC, kyC, Nat.beq, Nat.ble, rcd, rno, rsw, Nat.reduceAdd, Nat.reduceBEq, Nat.reduceDiv, List.drop, List.take, List.reverse, List.reverseAux, Int.toNat, Option.toList, List.append, List.cons_append, List.nil_append, zg241, zg242, zg304]
              have c180 : (Int32.ofInt 2).toInt = 2 := by decide
              refine hB _ _ _ _ _ (fun m181 hm181 => ?_)
              dsimp only [ucgo, ucwp, ucsC, uqC, uoC, ctC, rfd, KX7_readLiteral, KX7_readLiteral_0, KX7_readLiteral_9, KX7_readLiteral_18, KX7_readLiteral_22, KX7_readLiteral_23, KX7_readLiteral_29, KX7_readLiteral_33, KX7_readLiteral_34, KX7_readLiteral_57, KX7_readLiteral_61, KX7_readLiteral_70, KX7_readLiteral_74, KX7_readLiteral_86, KX7_readLiteral_99, KX7_readLiteral_103, KX7_readLiteral_107, KX7_readLiteral_111, KX7_readLiteral_112, lkC, s1C, s2C, dlC, kyC, Nat.beq, Nat.ble, rcd, rno, rsw, Nat.reduceAdd, Nat.reduceBEq, Nat.reduceDiv, List.drop, List.take, List.reverse, List.reverseAux, Int.toNat, Option.toList, List.append, List.cons_append, List.nil_append, zg241, zg242, zg304]
              intro a182 e182 ob182 fk182
              cases e182
              clear fk182 ob182
              generalize hs182 : pIC s167 (cnC σ) 68 (Int32.ofInt 2) = s182
              have hx182 : XfE s167 s182 := by rw [← hs182]; exact XfE.pI (by decide)
              have hra182 : ∀ a, a ≠ cnC σ → ∀ k, fIC s182 a k = fIC s167 a k ∧ fLC s182 a k = fLC s167 a k ∧ fRC s182 a k = fRC s167 a k := by rw [← hs182]; exact rI_a
              have hZ182 := ZC.xf hZ167 hx182 (fun i hi k => hra182 _ (Nat.ne_of_lt (hZ.2.2.2.1.1.2 i hi).2) k)
              have hF182 := FzC.ob hF167 hx182 hra182 (Nat.le_refl _)
              have hle182 : cnC σ ≤ cnC s182 := by rw [hx182.2.2]; exact hle167
              have hL182 : LsX N A (cnC σ) s182 z [((cnC σ), (recZ 1 (codY z.1) (zAt z.1) 0 (zAt z.1) (-1) 0 (xnM z) (-1) (-1) (-1) (-1) []), none)] := by
                have g1 : cnC s182 = cnC σ + 1 := by rw [hx182.2.2, hx167.2.2, hx152.2.2]; exact hnw150.1.2
                refine LsX.cn LsX.nil ⟨⟨Nat.le_refl _, by show cnC σ < cnC s182; omega, opX_o, fun i hi => Nat.ne_of_lt (hZ.2.2.2.1.1.2 i hi).2⟩, ?_, ⟨?_, ?_, ?_⟩, ?_⟩ (fun q h => absurd h List.not_mem_nil)
                · refine XbC.c2 hnw150.2.1 (fun k hk q1 q2 q3 => ⟨?_, ?_⟩)
                  · show fIC s182 (cnC σ) k = _
                    rw [← hs182, pI_n q1, ← hs167]
                    show fIC s152 (cnC σ) k = _
                    rw [← hs152, pI_n q2]
                  · show fRC s182 (cnC σ) k = _
                    rw [← hs182, ← hs167, ← hs152]
                    rfl
                · show (fIC s182 (cnC σ) 68).toInt = _
                  rw [← hs182, pI_e]
                  unfold tyX recZ
                  dsimp only
                  repeat' split
                  all_goals omega
                · show (fIC s182 (cnC σ) 70).toInt = _
                  rw [← hs182, pI_n (by decide), ← hs167]
                  show (fIC s152 (cnC σ) 70).toInt = _
                  rw [← hs152, pI_e]
                  unfold coX recZ
                  dsimp only
                  rw [if_pos (by omega)]
                  omega
                · show (fLC s182 (cnC σ) 71).toInt = _
                  rw [← hs182]
                  show (fLC s167 (cnC σ) 71).toInt = _
                  rw [← hs167]
                  rw [pL_e]
                  unfold vaX recZ
                  dsimp only
                  rw [if_pos (by omega)]
                  rw [if_neg (by omega), if_neg (by omega), hZ152.2.2.1.2, nT_toNat]
                  exact congrArg N (by omega)
                · show fRC s182 (cnC σ) 75 = none
                  rw [← hs182, ← hs167, ← hs152]
                  exact hnw150.2.2.2
              intro w183 τ183 o183 q183
              obtain ⟨rfl, hZ183, hf183⟩ := q183 (N, E, A, B, V, z) ⟨rfl, hZ182, hfa⟩
              have hF183 := FzC.tr hF182 (FzC.mo hf183 hle182 (hF182).2.2.1.1.1)
              have hL183 := LsX.fz hL182 hf183
              have hle183 : cnC σ ≤ cnC τ183 := Nat.le_trans hle182 (hf183).1
              try dsimp only [Option.toList, List.cons_append, List.nil_append, s1C, s2C, dlC, kyC, Nat.beq, lkC, rcd, rno, rsw]
              intro w184 τ184 o184 q184
              have hh184 := LsX.hd hL183
              obtain ⟨rfl, hZ184, hpo184, hnx184⟩ := q184 (N, E, A, B, V, (accM z), (recZ 1 (codY z.1) (zAt z.1) (zAt z.1) (zAt z.1) (-1) 0 (xnM z) (-1) (-1) (-1) (-1) [])) ⟨_, rfl, hZ183, ⟨hh184.1.1.2, hh184.1.2.1, hh184.1.2.2.1⟩, (by show zAt z.1 = zAt (accY z.1) - 1; rw [(acc_n hfa).2.2]; show _ = zAt z.1 + 1 - 1; omega), ⟨fun a ha => absurd ha List.not_mem_nil, trivial⟩⟩
              have hnx184 := hnx184.trans hh184.1.2.2.2
              have hF184 := FzC.tr hF183 (FzC.pu (x := (recZ 1 (codY z.1) (zAt z.1) (zAt z.1) (zAt z.1) (-1) 0 (xnM z) (-1) (-1) (-1) (-1) [])) hpo184 hh184.1.1.1 hle183 (Int.le_refl _) hZ183.1.2.2.2.2.2.1.2.1)
              have hL184 := LsX.pu (x := (recZ 1 (codY z.1) (zAt z.1) (zAt z.1) (zAt z.1) (-1) 0 (xnM z) (-1) (-1) (-1) (-1) [])) hh184.2.1 hpo184 hh184.2.2
              have hle184 : cnC σ ≤ cnC τ184 := Nat.le_trans hle183 hpo184.1
              try dsimp only [Option.toList, List.cons_append, List.nil_append, s1C, s2C, dlC, kyC, Nat.beq, lkC, rcd, rno, rsw]
              try dsimp only [Qz_readLiteral]
              first
                | (exfalso; omega)
                | exact ExQ.pu (by show puM (litZ 0 (xnM z) z.1) (accM z) = _; unfold litZ; rw [if_neg (by omega), if_neg (fun q => absurd q.2 (by decide))]) hZ184 hF184 hnx184 rfl rfl (Nat.le_refl _)
          · have g159 := (eqI (x := c157) (y := (Int32.ofInt 73)) h159 : (c157 : Int32).toInt = ((Int32.ofInt 73) : Int32).toInt)
            refine hB _ _ _ _ _ (fun m185 hm185 => ?_)
            dsimp only [ucgo, ucwp, ucsC, uqC, uoC, ctC, rfd, KX7_readLiteral, KX7_readLiteral_0, KX7_readLiteral_9, KX7_readLiteral_18, KX7_readLiteral_22, KX7_readLiteral_23, KX7_readLiteral_29, KX7_readLiteral_33, KX7_readLiteral_34, KX7_readLiteral_57, KX7_readLiteral_61, KX7_readLiteral_70, KX7_readLiteral_74, KX7_readLiteral_86, KX7_readLiteral_99, KX7_readLiteral_103, KX7_readLiteral_107, KX7_readLiteral_111, KX7_readLiteral_112, lkC, s1C, s2C, dlC, kyC, Nat.beq, Nat.ble, rcd, rno, rsw, Nat.reduceAdd, Nat.reduceBEq, Nat.reduceDiv, List.drop, List.take, List.reverse, List.reverseAux, Int.toNat, Option.toList, List.append, List.cons_append, List.nil_append, zg241, zg242, zg304]
            refine hB _ _ _ _ _ (fun m186 hm186 => ?_)
            dsimp only [ucgo, ucwp, ucsC, uqC, uoC, ctC, rfd, KX7_readLiteral, KX7_readLiteral_0, KX7_readLiteral_9, KX7_readLiteral_18, KX7_readLiteral_22, KX7_readLiteral_23, KX7_readLiteral_29, KX7_readLiteral_33, KX7_readLiteral_34, KX7_readLiteral_57, KX7_readLiteral_61, KX7_readLiteral_70, KX7_readLiteral_74, KX7_readLiteral_86, KX7_readLiteral_99, KX7_readLiteral_103, KX7_readLiteral_107, KX7_readLiteral_111, KX7_readLiteral_112, lkC, s1C, s2C, dlC, kyC, Nat.beq, Nat.ble, rcd, rno, rsw, Nat.reduceAdd, Nat.reduceBEq, Nat.reduceDiv, List.drop, List.take, List.reverse, List.reverseAux, Int.toNat, Option.toList, List.append, List.cons_append, List.nil_append, zg241, zg242, zg304]
            intro a187 e187 ob187 fk187
            cases e187
            clear fk187 ob187
            generalize hs187 : pLC s152 (cnC σ) 71 (Int64.ofNat ((0 : Fin 2) : Nat)) = s187
            have hx187 : XfE s152 s187 := by rw [← hs187]; exact XfE.pL (by decide)
            have hra187 : ∀ a, a ≠ cnC σ → ∀ k, fIC s187 a k = fIC s152 a k ∧ fLC s187 a k = fLC s152 a k ∧ fRC s187 a k = fRC s152 a k := by rw [← hs187]; exact rL_a
            have hZ187 := ZC.xf hZ152 hx187 (fun i hi k => hra187 _ (Nat.ne_of_lt (hZ.2.2.2.1.1.2 i hi).2) k)
            have hF187 := FzC.ob hF152 hx187 hra187 (Nat.le_refl _)
            have hle187 : cnC σ ≤ cnC s187 := by rw [hx187.2.2]; exact hle152
            intro w188 τ188 o188 q188
            obtain ⟨c188, rfl, hc188, rfl⟩ := q188 (N, E, A, B, V, z) ⟨rfl, hZ187⟩
            try dsimp only [Option.toList, List.cons_append, List.nil_append, s1C, s2C, dlC, kyC, Nat.beq, lkC, rcd, rno, rsw]
            have c189 : (Int32.ofInt 83).toInt = 83 := by decide
            refine ⟨fun h190 => ?_, fun h190 => ?_⟩
            · have g190 := (neI (x := c188) (y := (Int32.ofInt 83)) h190 : ¬ (c188 : Int32).toInt = ((Int32.ofInt 83) : Int32).toInt)
              refine hB _ _ _ _ _ (fun m191 hm191 => ?_)
              dsimp only [ucgo, ucwp, ucsC, uqC, uoC, ctC, rfd, KX7_readLiteral, KX7_readLiteral_0, KX7_readLiteral_9, KX7_readLiteral_18, KX7_readLiteral_22, KX7_readLiteral_23, KX7_readLiteral_29, KX7_readLiteral_33, KX7_readLiteral_34, KX7_readLiteral_57, KX7_readLiteral_61, KX7_readLiteral_70, KX7_readLiteral_74, KX7_readLiteral_86, KX7_readLiteral_99, KX7_readLiteral_103, KX7_readLiteral_107, KX7_readLiteral_111, KX7_readLiteral_112, lkC, s1C, s2C, dlC, kyC, Nat.beq, Nat.ble, rcd, rno, rsw, Nat.reduceAdd, Nat.reduceBEq, Nat.reduceDiv, List.drop, List.take, List.reverse, List.reverseAux, Int.toNat, Option.toList, List.append, List.cons_append, List.nil_append, zg241, zg242, zg304]
              refine ⟨fun h192 => ?_, fun h192 => ?_⟩
              · have g192 := (eqI (x := (Int32.ofInt 0)) (y := 0) h192 : ((Int32.ofInt 0) : Int32).toInt = (0 : Int32).toInt)
                have z0_ : (0 : Int32).toInt = 0 := rfl
                refine hB _ _ _ _ _ (fun m193 hm193 => ?_)
                dsimp only [ucgo, ucwp, ucsC, uqC, uoC, ctC, rfd, KX7_readLiteral, KX7_readLiteral_0, KX7_readLiteral_9, KX7_readLiteral_18, KX7_readLiteral_22, KX7_readLiteral_23, KX7_readLiteral_29, KX7_readLiteral_33, KX7_readLiteral_34, KX7_readLiteral_57, KX7_readLiteral_61, KX7_readLiteral_70, KX7_readLiteral_74, KX7_readLiteral_86, KX7_readLiteral_99, KX7_readLiteral_103, KX7_readLiteral_107, KX7_readLiteral_111, KX7_readLiteral_112, lkC, s1C, s2C, dlC, kyC, Nat.beq, Nat.ble, rcd, rno, rsw, Nat.reduceAdd, Nat.reduceBEq, Nat.reduceDiv, List.drop, List.take, List.reverse, List.reverseAux, Int.toNat, Option.toList, List.append, List.cons_append, List.nil_append, zg241, zg242, zg304]
                have c194 : (Int32.ofInt 0).toInt = 0 := by decide
                refine hB _ _ _ _ _ (fun m195 hm195 => ?_)
                dsimp only [ucgo, ucwp, ucsC, uqC, uoC, ctC, rfd, KX7_readLiteral, KX7_readLiteral_0, KX7_readLiteral_9, KX7_readLiteral_18, KX7_readLiteral_22, KX7_readLiteral_23, KX7_readLiteral_29, KX7_readLiteral_33, KX7_readLiteral_34, KX7_readLiteral_57, KX7_readLiteral_61, KX7_readLiteral_70, KX7_readLiteral_74, KX7_readLiteral_86, KX7_readLiteral_99, KX7_readLiteral_103, KX7_readLiteral_107, KX7_readLiteral_111, KX7_readLiteral_112, lkC, s1C, s2C, dlC, kyC, Nat.beq, Nat.ble, rcd, rno, rsw, Nat.reduceAdd, Nat.reduceBEq, Nat.reduceDiv, List.drop, List.take, List.reverse, List.reverseAux, Int.toNat, Option.toList, List.append, List.cons_append, List.nil_append, zg241, zg242, zg304]
                intro a196 e196 ob196 fk196
                cases e196
                clear fk196 ob196
                generalize hs196 : pIC s187 (cnC σ) 68 (Int32.ofInt 0) = s196
                have hx196 : XfE s187 s196 := by rw [← hs196]; exact XfE.pI (by decide)
                have hra196 : ∀ a, a ≠ cnC σ → ∀ k, fIC s196 a k = fIC s187 a k ∧ fLC s196 a k = fLC s187 a k ∧ fRC s196 a k = fRC s187 a k := by rw [← hs196]; exact rI_a
                have hZ196 := ZC.xf hZ187 hx196 (fun i hi k => hra196 _ (Nat.ne_of_lt (hZ.2.2.2.1.1.2 i hi).2) k)
                have hF196 := FzC.ob hF187 hx196 hra196 (Nat.le_refl _)
                have hle196 : cnC σ ≤ cnC s196 := by rw [hx196.2.2]; exact hle187
                have hL196 : LsX N A (cnC σ) s196 z [((cnC σ), (recZ 1 (codY z.1) (zAt z.1) 0 (zAt z.1) (-1) 0 (xnM z) (-1) (-1) (-1) (-1) []), none)] := by
                  have g1 : cnC s196 = cnC σ + 1 := by rw [hx196.2.2, hx187.2.2, hx152.2.2]; exact hnw150.1.2
                  refine LsX.cn LsX.nil ⟨⟨Nat.le_refl _, by show cnC σ < cnC s196; omega, opX_o, fun i hi => Nat.ne_of_lt (hZ.2.2.2.1.1.2 i hi).2⟩, ?_, ⟨?_, ?_, ?_⟩, ?_⟩ (fun q h => absurd h List.not_mem_nil)
                  · refine XbC.c2 hnw150.2.1 (fun k hk q1 q2 q3 => ⟨?_, ?_⟩)
                    · show fIC s196 (cnC σ) k = _
                      rw [← hs196, pI_n q1, ← hs187]
                      show fIC s152 (cnC σ) k = _
                      rw [← hs152, pI_n q2]
                    · show fRC s196 (cnC σ) k = _
                      rw [← hs196, ← hs187, ← hs152]
                      rfl
                  · show (fIC s196 (cnC σ) 68).toInt = _
                    rw [← hs196, pI_e]
                    unfold tyX recZ
                    dsimp only
                    repeat' split
                    all_goals omega
                  · show (fIC s196 (cnC σ) 70).toInt = _
                    rw [← hs196, pI_n (by decide), ← hs187]
                    show (fIC s152 (cnC σ) 70).toInt = _
                    rw [← hs152, pI_e]
                    unfold coX recZ
                    dsimp only
                    rw [if_pos (by omega)]
                    omega
                  · show (fLC s196 (cnC σ) 71).toInt = _
                    rw [← hs196]
                    show (fLC s187 (cnC σ) 71).toInt = _
                    rw [← hs187]
                    rw [pL_e]
                    unfold vaX recZ
                    dsimp only
                    rw [if_pos (by omega)]
                    rw [if_neg (by omega), if_pos (by omega)]
                    rfl
                  · show fRC s196 (cnC σ) 75 = none
                    rw [← hs196, ← hs187, ← hs152]
                    exact hnw150.2.2.2
                intro w197 τ197 o197 q197
                obtain ⟨rfl, hZ197, hf197⟩ := q197 (N, E, A, B, V, z) ⟨rfl, hZ196, hfa⟩
                have hF197 := FzC.tr hF196 (FzC.mo hf197 hle196 (hF196).2.2.1.1.1)
                have hL197 := LsX.fz hL196 hf197
                have hle197 : cnC σ ≤ cnC τ197 := Nat.le_trans hle196 (hf197).1
                try dsimp only [Option.toList, List.cons_append, List.nil_append, s1C, s2C, dlC, kyC, Nat.beq, lkC, rcd, rno, rsw]
                intro w198 τ198 o198 q198
                have hh198 := LsX.hd hL197
                obtain ⟨rfl, hZ198, hpo198, hnx198⟩ := q198 (N, E, A, B, V, (accM z), (recZ 1 (codY z.1) (zAt z.1) (zAt z.1) (zAt z.1) (-1) 0 (xnM z) (-1) (-1) (-1) (-1) [])) ⟨_, rfl, hZ197, ⟨hh198.1.1.2, hh198.1.2.1, hh198.1.2.2.1⟩, (by show zAt z.1 = zAt (accY z.1) - 1; rw [(acc_n hfa).2.2]; show _ = zAt z.1 + 1 - 1; omega), ⟨fun a ha => absurd ha List.not_mem_nil, trivial⟩⟩
                have hnx198 := hnx198.trans hh198.1.2.2.2
                have hF198 := FzC.tr hF197 (FzC.pu (x := (recZ 1 (codY z.1) (zAt z.1) (zAt z.1) (zAt z.1) (-1) 0 (xnM z) (-1) (-1) (-1) (-1) [])) hpo198 hh198.1.1.1 hle197 (Int.le_refl _) hZ197.1.2.2.2.2.2.1.2.1)
                have hL198 := LsX.pu (x := (recZ 1 (codY z.1) (zAt z.1) (zAt z.1) (zAt z.1) (-1) 0 (xnM z) (-1) (-1) (-1) (-1) [])) hh198.2.1 hpo198 hh198.2.2
                have hle198 : cnC σ ≤ cnC τ198 := Nat.le_trans hle197 hpo198.1
                try dsimp only [Option.toList, List.cons_append, List.nil_append, s1C, s2C, dlC, kyC, Nat.beq, lkC, rcd, rno, rsw]
                try dsimp only [Qz_readLiteral]
                first
                  | (exfalso; omega)
                  | exact ExQ.pu (by show puM (litZ 0 (xnM z) z.1) (accM z) = _; unfold litZ; rw [if_neg (by omega), if_neg (fun q => absurd q.2 (by decide))]) hZ198 hF198 hnx198 rfl rfl (Nat.le_refl _)
              · exact absurd h192 (by decide)
            · have g190 := (eqI (x := c188) (y := (Int32.ofInt 83)) h190 : (c188 : Int32).toInt = ((Int32.ofInt 83) : Int32).toInt)
              refine hB _ _ _ _ _ (fun m199 hm199 => ?_)
              dsimp only [ucgo, ucwp, ucsC, uqC, uoC, ctC, rfd, KX7_readLiteral, KX7_readLiteral_0, KX7_readLiteral_9, KX7_readLiteral_18, KX7_readLiteral_22, KX7_readLiteral_23, KX7_readLiteral_29, KX7_readLiteral_33, KX7_readLiteral_34, KX7_readLiteral_57, KX7_readLiteral_61, KX7_readLiteral_70, KX7_readLiteral_74, KX7_readLiteral_86, KX7_readLiteral_99, KX7_readLiteral_103, KX7_readLiteral_107, KX7_readLiteral_111, KX7_readLiteral_112, lkC, s1C, s2C, dlC, kyC, Nat.beq, Nat.ble, rcd, rno, rsw, Nat.reduceAdd, Nat.reduceBEq, Nat.reduceDiv, List.drop, List.take, List.reverse, List.reverseAux, Int.toNat, Option.toList, List.append, List.cons_append, List.nil_append, zg241, zg242, zg304]
              have c200 : (Int32.ofInt 2).toInt = 2 := by decide
              refine hB _ _ _ _ _ (fun m201 hm201 => ?_)
              dsimp only [ucgo, ucwp, ucsC, uqC, uoC, ctC, rfd, KX7_readLiteral, KX7_readLiteral_0, KX7_readLiteral_9, KX7_readLiteral_18, KX7_readLiteral_22, KX7_readLiteral_23, KX7_readLiteral_29, KX7_readLiteral_33, KX7_readLiteral_34, KX7_readLiteral_57, KX7_readLiteral_61, KX7_readLiteral_70, KX7_readLiteral_74, KX7_readLiteral_86, KX7_readLiteral_99, KX7_readLiteral_103, KX7_readLiteral_107, KX7_readLiteral_111, KX7_readLiteral_112, lkC, s1C, s2C, dlC, kyC, Nat.beq, Nat.ble, rcd, rno, rsw, Nat.reduceAdd, Nat.reduceBEq, Nat.reduceDiv, List.drop, List.take, List.reverse, List.reverseAux, Int.toNat, Option.toList, List.append, List.cons_append, List.nil_append, zg241, zg242, zg304]
              intro a202 e202 ob202 fk202
              cases e202
              clear fk202 ob202
              generalize hs202 : pIC s187 (cnC σ) 68 (Int32.ofInt 2) = s202
              have hx202 : XfE s187 s202 := by rw [← hs202]; exact XfE.pI (by decide)
              have hra202 : ∀ a, a ≠ cnC σ → ∀ k, fIC s202 a k = fIC s187 a k ∧ fLC s202 a k = fLC s187 a k ∧ fRC s202 a k = fRC s187 a k := by rw [← hs202]; exact rI_a
              have hZ202 := ZC.xf hZ187 hx202 (fun i hi k => hra202 _ (Nat.ne_of_lt (hZ.2.2.2.1.1.2 i hi).2) k)
              have hF202 := FzC.ob hF187 hx202 hra202 (Nat.le_refl _)
              have hle202 : cnC σ ≤ cnC s202 := by rw [hx202.2.2]; exact hle187
              have hL202 : LsX N A (cnC σ) s202 z [((cnC σ), (recZ 1 (codY z.1) (zAt z.1) 0 (zAt z.1) (-1) 0 (xnM z) (-1) (-1) (-1) (-1) []), none)] := by
                have g1 : cnC s202 = cnC σ + 1 := by rw [hx202.2.2, hx187.2.2, hx152.2.2]; exact hnw150.1.2
                refine LsX.cn LsX.nil ⟨⟨Nat.le_refl _, by show cnC σ < cnC s202; omega, opX_o, fun i hi => Nat.ne_of_lt (hZ.2.2.2.1.1.2 i hi).2⟩, ?_, ⟨?_, ?_, ?_⟩, ?_⟩ (fun q h => absurd h List.not_mem_nil)
                · refine XbC.c2 hnw150.2.1 (fun k hk q1 q2 q3 => ⟨?_, ?_⟩)
                  · show fIC s202 (cnC σ) k = _
                    rw [← hs202, pI_n q1, ← hs187]
                    show fIC s152 (cnC σ) k = _
                    rw [← hs152, pI_n q2]
                  · show fRC s202 (cnC σ) k = _
                    rw [← hs202, ← hs187, ← hs152]
                    rfl
                · show (fIC s202 (cnC σ) 68).toInt = _
                  rw [← hs202, pI_e]
                  unfold tyX recZ
                  dsimp only
                  repeat' split
                  all_goals omega
                · show (fIC s202 (cnC σ) 70).toInt = _
                  rw [← hs202, pI_n (by decide), ← hs187]
                  show (fIC s152 (cnC σ) 70).toInt = _
                  rw [← hs152, pI_e]
                  unfold coX recZ
                  dsimp only
                  rw [if_pos (by omega)]
                  omega
                · show (fLC s202 (cnC σ) 71).toInt = _
                  rw [← hs202]
                  show (fLC s187 (cnC σ) 71).toInt = _
                  rw [← hs187]
                  rw [pL_e]
                  unfold vaX recZ
                  dsimp only
                  rw [if_pos (by omega)]
                  rw [if_neg (by omega), if_pos (by omega)]
                  rfl
                · show fRC s202 (cnC σ) 75 = none
                  rw [← hs202, ← hs187, ← hs152]
                  exact hnw150.2.2.2
              intro w203 τ203 o203 q203
              obtain ⟨rfl, hZ203, hf203⟩ := q203 (N, E, A, B, V, z) ⟨rfl, hZ202, hfa⟩
              have hF203 := FzC.tr hF202 (FzC.mo hf203 hle202 (hF202).2.2.1.1.1)
              have hL203 := LsX.fz hL202 hf203
              have hle203 : cnC σ ≤ cnC τ203 := Nat.le_trans hle202 (hf203).1
              try dsimp only [Option.toList, List.cons_append, List.nil_append, s1C, s2C, dlC, kyC, Nat.beq, lkC, rcd, rno, rsw]
              intro w204 τ204 o204 q204
              have hh204 := LsX.hd hL203
              obtain ⟨rfl, hZ204, hpo204, hnx204⟩ := q204 (N, E, A, B, V, (accM z), (recZ 1 (codY z.1) (zAt z.1) (zAt z.1) (zAt z.1) (-1) 0 (xnM z) (-1) (-1) (-1) (-1) [])) ⟨_, rfl, hZ203, ⟨hh204.1.1.2, hh204.1.2.1, hh204.1.2.2.1⟩, (by show zAt z.1 = zAt (accY z.1) - 1; rw [(acc_n hfa).2.2]; show _ = zAt z.1 + 1 - 1; omega), ⟨fun a ha => absurd ha List.not_mem_nil, trivial⟩⟩
              have hnx204 := hnx204.trans hh204.1.2.2.2
              have hF204 := FzC.tr hF203 (FzC.pu (x := (recZ 1 (codY z.1) (zAt z.1) (zAt z.1) (zAt z.1) (-1) 0 (xnM z) (-1) (-1) (-1) (-1) [])) hpo204 hh204.1.1.1 hle203 (Int.le_refl _) hZ203.1.2.2.2.2.2.1.2.1)
              have hL204 := LsX.pu (x := (recZ 1 (codY z.1) (zAt z.1) (zAt z.1) (zAt z.1) (-1) 0 (xnM z) (-1) (-1) (-1) (-1) [])) hh204.2.1 hpo204 hh204.2.2
              have hle204 : cnC σ ≤ cnC τ204 := Nat.le_trans hle203 hpo204.1
              try dsimp only [Option.toList, List.cons_append, List.nil_append, s1C, s2C, dlC, kyC, Nat.beq, lkC, rcd, rno, rsw]
              try dsimp only [Qz_readLiteral]
              first
                | (exfalso; omega)
                | exact ExQ.pu (by show puM (litZ 0 (xnM z) z.1) (accM z) = _; unfold litZ; rw [if_neg (by omega), if_neg (fun q => absurd q.2 (by decide))]) hZ204 hF204 hnx204 rfl rfl (Nat.le_refl _)
        · have g155 := (eqI (x := c153) (y := (Int32.ofInt 72)) h155 : (c153 : Int32).toInt = ((Int32.ofInt 72) : Int32).toInt)
          refine hB _ _ _ _ _ (fun m205 hm205 => ?_)
          dsimp only [ucgo, ucwp, ucsC, uqC, uoC, ctC, rfd, KX7_readLiteral, KX7_readLiteral_0, KX7_readLiteral_9, KX7_readLiteral_18, KX7_readLiteral_22, KX7_readLiteral_23, KX7_readLiteral_29, KX7_readLiteral_33, KX7_readLiteral_34, KX7_readLiteral_57, KX7_readLiteral_61, KX7_readLiteral_70, KX7_readLiteral_74, KX7_readLiteral_86, KX7_readLiteral_99, KX7_readLiteral_103, KX7_readLiteral_107, KX7_readLiteral_111, KX7_readLiteral_112, lkC, s1C, s2C, dlC, kyC, Nat.beq, Nat.ble, rcd, rno, rsw, Nat.reduceAdd, Nat.reduceBEq, Nat.reduceDiv, List.drop, List.take, List.reverse, List.reverseAux, Int.toNat, Option.toList, List.append, List.cons_append, List.nil_append, zg241, zg242, zg304]
          refine hB _ _ _ _ _ (fun m206 hm206 => ?_)
          dsimp only [ucgo, ucwp, ucsC, uqC, uoC, ctC, rfd, KX7_readLiteral, KX7_readLiteral_0, KX7_readLiteral_9, KX7_readLiteral_18, KX7_readLiteral_22, KX7_readLiteral_23, KX7_readLiteral_29, KX7_readLiteral_33, KX7_readLiteral_34, KX7_readLiteral_57, KX7_readLiteral_61, KX7_readLiteral_70, KX7_readLiteral_74, KX7_readLiteral_86, KX7_readLiteral_99, KX7_readLiteral_103, KX7_readLiteral_107, KX7_readLiteral_111, KX7_readLiteral_112, lkC, s1C, s2C, dlC, kyC, Nat.beq, Nat.ble, rcd, rno, rsw, Nat.reduceAdd, Nat.reduceBEq, Nat.reduceDiv, List.drop, List.take, List.reverse, List.reverseAux, Int.toNat, Option.toList, List.append, List.cons_append, List.nil_append, zg241, zg242, zg304]
          intro a207 e207 ob207 fk207
          cases e207
          clear fk207 ob207
          generalize hs207 : pLC s152 (cnC σ) 71 (Int64.ofNat ((1 : Fin 2) : Nat)) = s207
          have hx207 : XfE s152 s207 := by rw [← hs207]; exact XfE.pL (by decide)
          have hra207 : ∀ a, a ≠ cnC σ → ∀ k, fIC s207 a k = fIC s152 a k ∧ fLC s207 a k = fLC s152 a k ∧ fRC s207 a k = fRC s152 a k := by rw [← hs207]; exact rL_a
          have hZ207 := ZC.xf hZ152 hx207 (fun i hi k => hra207 _ (Nat.ne_of_lt (hZ.2.2.2.1.1.2 i hi).2) k)
          have hF207 := FzC.ob hF152 hx207 hra207 (Nat.le_refl _)
          have hle207 : cnC σ ≤ cnC s207 := by rw [hx207.2.2]; exact hle152
          intro w208 τ208 o208 q208
          obtain ⟨c208, rfl, hc208, rfl⟩ := q208 (N, E, A, B, V, z) ⟨rfl, hZ207⟩
          try dsimp only [Option.toList, List.cons_append, List.nil_append, s1C, s2C, dlC, kyC, Nat.beq, lkC, rcd, rno, rsw]
          have c209 : (Int32.ofInt 83).toInt = 83 := by decide
          refine ⟨fun h210 => ?_, fun h210 => ?_⟩
          · have g210 := (neI (x := c208) (y := (Int32.ofInt 83)) h210 : ¬ (c208 : Int32).toInt = ((Int32.ofInt 83) : Int32).toInt)
            refine hB _ _ _ _ _ (fun m211 hm211 => ?_)
            dsimp only [ucgo, ucwp, ucsC, uqC, uoC, ctC, rfd, KX7_readLiteral, KX7_readLiteral_0, KX7_readLiteral_9, KX7_readLiteral_18, KX7_readLiteral_22, KX7_readLiteral_23, KX7_readLiteral_29, KX7_readLiteral_33, KX7_readLiteral_34, KX7_readLiteral_57, KX7_readLiteral_61, KX7_readLiteral_70, KX7_readLiteral_74, KX7_readLiteral_86, KX7_readLiteral_99, KX7_readLiteral_103, KX7_readLiteral_107, KX7_readLiteral_111, KX7_readLiteral_112, lkC, s1C, s2C, dlC, kyC, Nat.beq, Nat.ble, rcd, rno, rsw, Nat.reduceAdd, Nat.reduceBEq, Nat.reduceDiv, List.drop, List.take, List.reverse, List.reverseAux, Int.toNat, Option.toList, List.append, List.cons_append, List.nil_append, zg241, zg242, zg304]
            refine ⟨fun h212 => ?_, fun h212 => ?_⟩
            · have g212 := (eqI (x := (Int32.ofInt 0)) (y := 0) h212 : ((Int32.ofInt 0) : Int32).toInt = (0 : Int32).toInt)
              have z0_ : (0 : Int32).toInt = 0 := rfl
              refine hB _ _ _ _ _ (fun m213 hm213 => ?_)
              dsimp only [ucgo, ucwp, ucsC, uqC, uoC, ctC, rfd, KX7_readLiteral, KX7_readLiteral_0, KX7_readLiteral_9, KX7_readLiteral_18, KX7_readLiteral_22, KX7_readLiteral_23, KX7_readLiteral_29, KX7_readLiteral_33, KX7_readLiteral_34, KX7_readLiteral_57, KX7_readLiteral_61, KX7_readLiteral_70, KX7_readLiteral_74, KX7_readLiteral_86, KX7_readLiteral_99, KX7_readLiteral_103, KX7_readLiteral_107, KX7_readLiteral_111, KX7_readLiteral_112, lkC, s1C, s2C, dlC, kyC, Nat.beq, Nat.ble, rcd, rno, rsw, Nat.reduceAdd, Nat.reduceBEq, Nat.reduceDiv, List.drop, List.take, List.reverse, List.reverseAux, Int.toNat, Option.toList, List.append, List.cons_append, List.nil_append, zg241, zg242, zg304]
              have c214 : (Int32.ofInt 0).toInt = 0 := by decide
              refine hB _ _ _ _ _ (fun m215 hm215 => ?_)
              dsimp only [ucgo, ucwp, ucsC, uqC, uoC, ctC, rfd, KX7_readLiteral, KX7_readLiteral_0, KX7_readLiteral_9, KX7_readLiteral_18, KX7_readLiteral_22, KX7_readLiteral_23, KX7_readLiteral_29, KX7_readLiteral_33, KX7_readLiteral_34, KX7_readLiteral_57, KX7_readLiteral_61, KX7_readLiteral_70, KX7_readLiteral_74, KX7_readLiteral_86, KX7_readLiteral_99, KX7_readLiteral_103, KX7_readLiteral_107, KX7_readLiteral_111, KX7_readLiteral_112, lkC, s1C, s2C, dlC, kyC, Nat.beq, Nat.ble, rcd, rno, rsw, Nat.reduceAdd, Nat.reduceBEq, Nat.reduceDiv, List.drop, List.take, List.reverse, List.reverseAux, Int.toNat, Option.toList, List.append, List.cons_append, List.nil_append, zg241, zg242, zg304]
              intro a216 e216 ob216 fk216
              cases e216
              clear fk216 ob216
              generalize hs216 : pIC s207 (cnC σ) 68 (Int32.ofInt 0) = s216
              have hx216 : XfE s207 s216 := by rw [← hs216]; exact XfE.pI (by decide)
              have hra216 : ∀ a, a ≠ cnC σ → ∀ k, fIC s216 a k = fIC s207 a k ∧ fLC s216 a k = fLC s207 a k ∧ fRC s216 a k = fRC s207 a k := by rw [← hs216]; exact rI_a
              have hZ216 := ZC.xf hZ207 hx216 (fun i hi k => hra216 _ (Nat.ne_of_lt (hZ.2.2.2.1.1.2 i hi).2) k)
              have hF216 := FzC.ob hF207 hx216 hra216 (Nat.le_refl _)
              have hle216 : cnC σ ≤ cnC s216 := by rw [hx216.2.2]; exact hle207
              have hL216 : LsX N A (cnC σ) s216 z [((cnC σ), (recZ 1 (codY z.1) (zAt z.1) 0 (zAt z.1) (-1) 0 (xnM z) (-1) (-1) (-1) (-1) []), none)] := by
                have g1 : cnC s216 = cnC σ + 1 := by rw [hx216.2.2, hx207.2.2, hx152.2.2]; exact hnw150.1.2
                refine LsX.cn LsX.nil ⟨⟨Nat.le_refl _, by show cnC σ < cnC s216; omega, opX_o, fun i hi => Nat.ne_of_lt (hZ.2.2.2.1.1.2 i hi).2⟩, ?_, ⟨?_, ?_, ?_⟩, ?_⟩ (fun q h => absurd h List.not_mem_nil)
                · refine XbC.c2 hnw150.2.1 (fun k hk q1 q2 q3 => ⟨?_, ?_⟩)
                  · show fIC s216 (cnC σ) k = _
                    rw [← hs216, pI_n q1, ← hs207]
                    show fIC s152 (cnC σ) k = _
                    rw [← hs152, pI_n q2]
                  · show fRC s216 (cnC σ) k = _
                    rw [← hs216, ← hs207, ← hs152]
                    rfl
                · show (fIC s216 (cnC σ) 68).toInt = _
                  rw [← hs216, pI_e]
                  unfold tyX recZ
                  dsimp only
                  repeat' split
                  all_goals omega
                · show (fIC s216 (cnC σ) 70).toInt = _
                  rw [← hs216, pI_n (by decide), ← hs207]
                  show (fIC s152 (cnC σ) 70).toInt = _
                  rw [← hs152, pI_e]
                  unfold coX recZ
                  dsimp only
                  rw [if_pos (by omega)]
                  omega
                · show (fLC s216 (cnC σ) 71).toInt = _
                  rw [← hs216]
                  show (fLC s207 (cnC σ) 71).toInt = _
                  rw [← hs207]
                  rw [pL_e]
                  unfold vaX recZ
                  dsimp only
                  rw [if_pos (by omega)]
                  rw [if_pos (by omega)]
                  rfl
                · show fRC s216 (cnC σ) 75 = none
                  rw [← hs216, ← hs207, ← hs152]
                  exact hnw150.2.2.2
              intro w217 τ217 o217 q217
              obtain ⟨rfl, hZ217, hf217⟩ := q217 (N, E, A, B, V, z) ⟨rfl, hZ216, hfa⟩
              have hF217 := FzC.tr hF216 (FzC.mo hf217 hle216 (hF216).2.2.1.1.1)
              have hL217 := LsX.fz hL216 hf217
              have hle217 : cnC σ ≤ cnC τ217 := Nat.le_trans hle216 (hf217).1
              try dsimp only [Option.toList, List.cons_append, List.nil_append, s1C, s2C, dlC, kyC, Nat.beq, lkC, rcd, rno, rsw]
              intro w218 τ218 o218 q218
              have hh218 := LsX.hd hL217
              obtain ⟨rfl, hZ218, hpo218, hnx218⟩ := q218 (N, E, A, B, V, (accM z), (recZ 1 (codY z.1) (zAt z.1) (zAt z.1) (zAt z.1) (-1) 0 (xnM z) (-1) (-1) (-1) (-1) [])) ⟨_, rfl, hZ217, ⟨hh218.1.1.2, hh218.1.2.1, hh218.1.2.2.1⟩, (by show zAt z.1 = zAt (accY z.1) - 1; rw [(acc_n hfa).2.2]; show _ = zAt z.1 + 1 - 1; omega), ⟨fun a ha => absurd ha List.not_mem_nil, trivial⟩⟩
              have hnx218 := hnx218.trans hh218.1.2.2.2
              have hF218 := FzC.tr hF217 (FzC.pu (x := (recZ 1 (codY z.1) (zAt z.1) (zAt z.1) (zAt z.1) (-1) 0 (xnM z) (-1) (-1) (-1) (-1) [])) hpo218 hh218.1.1.1 hle217 (Int.le_refl _) hZ217.1.2.2.2.2.2.1.2.1)
              have hL218 := LsX.pu (x := (recZ 1 (codY z.1) (zAt z.1) (zAt z.1) (zAt z.1) (-1) 0 (xnM z) (-1) (-1) (-1) (-1) [])) hh218.2.1 hpo218 hh218.2.2
              have hle218 : cnC σ ≤ cnC τ218 := Nat.le_trans hle217 hpo218.1
              try dsimp only [Option.toList, List.cons_append, List.nil_append, s1C, s2C, dlC, kyC, Nat.beq, lkC, rcd, rno, rsw]
              try dsimp only [Qz_readLiteral]
              first
                | (exfalso; omega)
                | exact ExQ.pu (by show puM (litZ 0 (xnM z) z.1) (accM z) = _; unfold litZ; rw [if_neg (by omega), if_neg (fun q => absurd q.2 (by decide))]) hZ218 hF218 hnx218 rfl rfl (Nat.le_refl _)
            · exact absurd h212 (by decide)
          · have g210 := (eqI (x := c208) (y := (Int32.ofInt 83)) h210 : (c208 : Int32).toInt = ((Int32.ofInt 83) : Int32).toInt)
            refine hB _ _ _ _ _ (fun m219 hm219 => ?_)
            dsimp only [ucgo, ucwp, ucsC, uqC, uoC, ctC, rfd, KX7_readLiteral, KX7_readLiteral_0, KX7_readLiteral_9, KX7_readLiteral_18, KX7_readLiteral_22, KX7_readLiteral_23, KX7_readLiteral_29, KX7_readLiteral_33, KX7_readLiteral_34, KX7_readLiteral_57, KX7_readLiteral_61, KX7_readLiteral_70, KX7_readLiteral_74, KX7_readLiteral_86, KX7_readLiteral_99, KX7_readLiteral_103, KX7_readLiteral_107, KX7_readLiteral_111, KX7_readLiteral_112, lkC, s1C, s2C, dlC, kyC, Nat.beq, Nat.ble, rcd, rno, rsw, Nat.reduceAdd, Nat.reduceBEq, Nat.reduceDiv, List.drop, List.take, List.reverse, List.reverseAux, Int.toNat, Option.toList, List.append, List.cons_append, List.nil_append, zg241, zg242, zg304]
            have c220 : (Int32.ofInt 2).toInt = 2 := by decide
            refine hB _ _ _ _ _ (fun m221 hm221 => ?_)
            dsimp only [ucgo, ucwp, ucsC, uqC, uoC, ctC, rfd, KX7_readLiteral, KX7_readLiteral_0, KX7_readLiteral_9, KX7_readLiteral_18, KX7_readLiteral_22, KX7_readLiteral_23, KX7_readLiteral_29, KX7_readLiteral_33, KX7_readLiteral_34, KX7_readLiteral_57, KX7_readLiteral_61, KX7_readLiteral_70, KX7_readLiteral_74, KX7_readLiteral_86, KX7_readLiteral_99, KX7_readLiteral_103, KX7_readLiteral_107, KX7_readLiteral_111, KX7_readLiteral_112, lkC, s1C, s2C, dlC, kyC, Nat.beq, Nat.ble, rcd, rno, rsw, Nat.reduceAdd, Nat.reduceBEq, Nat.reduceDiv, List.drop, List.take, List.reverse, List.reverseAux, Int.toNat, Option.toList, List.append, List.cons_append, List.nil_append, zg241, zg242, zg304]
            intro a222 e222 ob222 fk222
            cases e222
            clear fk222 ob222
            generalize hs222 : pIC s207 (cnC σ) 68 (Int32.ofInt 2) = s222
            have hx222 : XfE s207 s222 := by rw [← hs222]; exact XfE.pI (by decide)
            have hra222 : ∀ a, a ≠ cnC σ → ∀ k, fIC s222 a k = fIC s207 a k ∧ fLC s222 a k = fLC s207 a k ∧ fRC s222 a k = fRC s207 a k := by rw [← hs222]; exact rI_a
            have hZ222 := ZC.xf hZ207 hx222 (fun i hi k => hra222 _ (Nat.ne_of_lt (hZ.2.2.2.1.1.2 i hi).2) k)
            have hF222 := FzC.ob hF207 hx222 hra222 (Nat.le_refl _)
            have hle222 : cnC σ ≤ cnC s222 := by rw [hx222.2.2]; exact hle207
            have hL222 : LsX N A (cnC σ) s222 z [((cnC σ), (recZ 1 (codY z.1) (zAt z.1) 0 (zAt z.1) (-1) 0 (xnM z) (-1) (-1) (-1) (-1) []), none)] := by
              have g1 : cnC s222 = cnC σ + 1 := by rw [hx222.2.2, hx207.2.2, hx152.2.2]; exact hnw150.1.2
              refine LsX.cn LsX.nil ⟨⟨Nat.le_refl _, by show cnC σ < cnC s222; omega, opX_o, fun i hi => Nat.ne_of_lt (hZ.2.2.2.1.1.2 i hi).2⟩, ?_, ⟨?_, ?_, ?_⟩, ?_⟩ (fun q h => absurd h List.not_mem_nil)
              · refine XbC.c2 hnw150.2.1 (fun k hk q1 q2 q3 => ⟨?_, ?_⟩)
                · show fIC s222 (cnC σ) k = _
                  rw [← hs222, pI_n q1, ← hs207]
                  show fIC s152 (cnC σ) k = _
                  rw [← hs152, pI_n q2]
                · show fRC s222 (cnC σ) k = _
                  rw [← hs222, ← hs207, ← hs152]
                  rfl
              · show (fIC s222 (cnC σ) 68).toInt = _
                rw [← hs222, pI_e]
                unfold tyX recZ
                dsimp only
                repeat' split
                all_goals omega
              · show (fIC s222 (cnC σ) 70).toInt = _
                rw [← hs222, pI_n (by decide), ← hs207]
                show (fIC s152 (cnC σ) 70).toInt = _
                rw [← hs152, pI_e]
                unfold coX recZ
                dsimp only
                rw [if_pos (by omega)]
                omega
              · show (fLC s222 (cnC σ) 71).toInt = _
                rw [← hs222]
                show (fLC s207 (cnC σ) 71).toInt = _
                rw [← hs207]
                rw [pL_e]
                unfold vaX recZ
                dsimp only
                rw [if_pos (by omega)]
                rw [if_pos (by omega)]
                rfl
              · show fRC s222 (cnC σ) 75 = none
                rw [← hs222, ← hs207, ← hs152]
                exact hnw150.2.2.2
            intro w223 τ223 o223 q223
            obtain ⟨rfl, hZ223, hf223⟩ := q223 (N, E, A, B, V, z) ⟨rfl, hZ222, hfa⟩
            have hF223 := FzC.tr hF222 (FzC.mo hf223 hle222 (hF222).2.2.1.1.1)
            have hL223 := LsX.fz hL222 hf223
            have hle223 : cnC σ ≤ cnC τ223 := Nat.le_trans hle222 (hf223).1
            try dsimp only [Option.toList, List.cons_append, List.nil_append, s1C, s2C, dlC, kyC, Nat.beq, lkC, rcd, rno, rsw]
            intro w224 τ224 o224 q224
            have hh224 := LsX.hd hL223
            obtain ⟨rfl, hZ224, hpo224, hnx224⟩ := q224 (N, E, A, B, V, (accM z), (recZ 1 (codY z.1) (zAt z.1) (zAt z.1) (zAt z.1) (-1) 0 (xnM z) (-1) (-1) (-1) (-1) [])) ⟨_, rfl, hZ223, ⟨hh224.1.1.2, hh224.1.2.1, hh224.1.2.2.1⟩, (by show zAt z.1 = zAt (accY z.1) - 1; rw [(acc_n hfa).2.2]; show _ = zAt z.1 + 1 - 1; omega), ⟨fun a ha => absurd ha List.not_mem_nil, trivial⟩⟩
            have hnx224 := hnx224.trans hh224.1.2.2.2
            have hF224 := FzC.tr hF223 (FzC.pu (x := (recZ 1 (codY z.1) (zAt z.1) (zAt z.1) (zAt z.1) (-1) 0 (xnM z) (-1) (-1) (-1) (-1) [])) hpo224 hh224.1.1.1 hle223 (Int.le_refl _) hZ223.1.2.2.2.2.2.1.2.1)
            have hL224 := LsX.pu (x := (recZ 1 (codY z.1) (zAt z.1) (zAt z.1) (zAt z.1) (-1) 0 (xnM z) (-1) (-1) (-1) (-1) [])) hh224.2.1 hpo224 hh224.2.2
            have hle224 : cnC σ ≤ cnC τ224 := Nat.le_trans hle223 hpo224.1
            try dsimp only [Option.toList, List.cons_append, List.nil_append, s1C, s2C, dlC, kyC, Nat.beq, lkC, rcd, rno, rsw]
            try dsimp only [Qz_readLiteral]
            first
              | (exfalso; omega)
              | exact ExQ.pu (by show puM (litZ 0 (xnM z) z.1) (accM z) = _; unfold litZ; rw [if_neg (by omega), if_neg (fun q => absurd q.2 (by decide))]) hZ224 hF224 hnx224 rfl rfl (Nat.le_refl _)
      · exact absurd h145 (by decide)
    · have g141 := (eqI (x := c139) (y := (Int32.ofInt 82)) h141 : (c139 : Int32).toInt = ((Int32.ofInt 82) : Int32).toInt)
      refine hB _ _ _ _ _ (fun m225 hm225 => ?_)
      dsimp only [ucgo, ucwp, ucsC, uqC, uoC, ctC, rfd, KX7_readLiteral, KX7_readLiteral_0, KX7_readLiteral_9, KX7_readLiteral_18, KX7_readLiteral_22, KX7_readLiteral_23, KX7_readLiteral_29, KX7_readLiteral_33, KX7_readLiteral_34, KX7_readLiteral_57, KX7_readLiteral_61, KX7_readLiteral_70, KX7_readLiteral_74, KX7_readLiteral_86, KX7_readLiteral_99, KX7_readLiteral_103, KX7_readLiteral_107, KX7_readLiteral_111, KX7_readLiteral_112, lkC, s1C, s2C, dlC, kyC, Nat.beq, Nat.ble, rcd, rno, rsw, Nat.reduceAdd, Nat.reduceBEq, Nat.reduceDiv, List.drop, List.take, List.reverse, List.reverseAux, Int.toNat, Option.toList, List.append, List.cons_append, List.nil_append, zg241, zg242, zg304]
      have c226 : (Int32.ofInt 1).toInt = 1 := by decide
      refine hB _ _ _ _ _ (fun m227 hm227 => ?_)
      dsimp only [ucgo, ucwp, ucsC, uqC, uoC, ctC, rfd, KX7_readLiteral, KX7_readLiteral_0, KX7_readLiteral_9, KX7_readLiteral_18, KX7_readLiteral_22, KX7_readLiteral_23, KX7_readLiteral_29, KX7_readLiteral_33, KX7_readLiteral_34, KX7_readLiteral_57, KX7_readLiteral_61, KX7_readLiteral_70, KX7_readLiteral_74, KX7_readLiteral_86, KX7_readLiteral_99, KX7_readLiteral_103, KX7_readLiteral_107, KX7_readLiteral_111, KX7_readLiteral_112, lkC, s1C, s2C, dlC, kyC, Nat.beq, Nat.ble, rcd, rno, rsw, Nat.reduceAdd, Nat.reduceBEq, Nat.reduceDiv, List.drop, List.take, List.reverse, List.reverseAux, Int.toNat, Option.toList, List.append, List.cons_append, List.nil_append, zg241, zg242, zg304]
      refine ⟨fun h228 => ?_, fun h228 => ?_⟩
      · exact absurd h228 (by decide)
      · have g228 := (neI (x := (Int32.ofInt 1)) (y := 0) h228 : ¬ ((Int32.ofInt 1) : Int32).toInt = (0 : Int32).toInt)
        have z0_ : (0 : Int32).toInt = 0 := rfl
        refine hB _ _ _ _ _ (fun m229 hm229 => ?_)
        dsimp only [ucgo, ucwp, ucsC, uqC, uoC, ctC, rfd, KX7_readLiteral, KX7_readLiteral_0, KX7_readLiteral_9, KX7_readLiteral_18, KX7_readLiteral_22, KX7_readLiteral_23, KX7_readLiteral_29, KX7_readLiteral_33, KX7_readLiteral_34, KX7_readLiteral_57, KX7_readLiteral_61, KX7_readLiteral_70, KX7_readLiteral_74, KX7_readLiteral_86, KX7_readLiteral_99, KX7_readLiteral_103, KX7_readLiteral_107, KX7_readLiteral_111, KX7_readLiteral_112, lkC, s1C, s2C, dlC, kyC, Nat.beq, Nat.ble, rcd, rno, rsw, Nat.reduceAdd, Nat.reduceBEq, Nat.reduceDiv, List.drop, List.take, List.reverse, List.reverseAux, Int.toNat, Option.toList, List.append, List.cons_append, List.nil_append, zg241, zg242, zg304]
        have c230 : (Int32.ofInt 0).toInt = 0 := by decide
        refine hB _ _ _ _ _ (fun m231 hm231 => ?_)
        dsimp only [ucgo, ucwp, ucsC, uqC, uoC, ctC, rfd, KX7_readLiteral, KX7_readLiteral_0, KX7_readLiteral_9, KX7_readLiteral_18, KX7_readLiteral_22, KX7_readLiteral_23, KX7_readLiteral_29, KX7_readLiteral_33, KX7_readLiteral_34, KX7_readLiteral_57, KX7_readLiteral_61, KX7_readLiteral_70, KX7_readLiteral_74, KX7_readLiteral_86, KX7_readLiteral_99, KX7_readLiteral_103, KX7_readLiteral_107, KX7_readLiteral_111, KX7_readLiteral_112, lkC, s1C, s2C, dlC, kyC, Nat.beq, Nat.ble, rcd, rno, rsw, Nat.reduceAdd, Nat.reduceBEq, Nat.reduceDiv, List.drop, List.take, List.reverse, List.reverseAux, Int.toNat, Option.toList, List.append, List.cons_append, List.nil_append, zg241, zg242, zg304]
        intro w232 τ232 o232 q232
        obtain ⟨c232, rfl, hc232, rfl⟩ := q232 (N, E, A, B, V, z) ⟨rfl, hZ⟩
        try dsimp only [Option.toList, List.cons_append, List.nil_append, s1C, s2C, dlC, kyC, Nat.beq, lkC, rcd, rno, rsw]
        intro w233 τ233 o233 q233
        obtain ⟨rfl, hZ233, hf233, hnw233⟩ := q233 (N, E, A, B, V, z, 0, (codY z.1)) ⟨_, _, rfl, hZ, by omega, by omega⟩
        have hF233 := FzC.tr (FzC.rf (n := cnC σ) (m := xnM z) (E := E) (A := A) (B := B) (V := V) (z := z) (σ := σ)) (FzC.mo hf233 (Nat.le_refl (cnC σ)) ((FzC.rf (n := cnC σ) (m := xnM z) (E := E) (A := A) (B := B) (V := V) (z := z) (σ := σ))).2.2.1.1.1)
        have hle233 : cnC σ ≤ cnC τ233 := Nat.le_trans (Nat.le_refl (cnC σ)) (hf233).1
        try dsimp only [Option.toList, List.cons_append, List.nil_append, s1C, s2C, dlC, kyC, Nat.beq, lkC, rcd, rno, rsw]
        have c234 : (Int32.ofInt 1).toInt = 1 := by decide
        intro a235 e235 ob235 fk235
        cases e235
        clear fk235 ob235
        generalize hs235 : pIC τ233 (cnC σ) 70 (Int32.ofInt 1) = s235
        have hx235 : XfE τ233 s235 := by rw [← hs235]; exact XfE.pI (by decide)
        have hra235 : ∀ a, a ≠ cnC σ → ∀ k, fIC s235 a k = fIC τ233 a k ∧ fLC s235 a k = fLC τ233 a k ∧ fRC s235 a k = fRC τ233 a k := by rw [← hs235]; exact rI_a
        have hZ235 := ZC.xf hZ233 hx235 (fun i hi k => hra235 _ (Nat.ne_of_lt (hZ.2.2.2.1.1.2 i hi).2) k)
        have hF235 := FzC.ob hF233 hx235 hra235 (Nat.le_refl _)
        have hle235 : cnC σ ≤ cnC s235 := by rw [hx235.2.2]; exact hle233
        intro w236 τ236 o236 q236
        obtain ⟨c236, rfl, hc236, rfl⟩ := q236 (N, E, A, B, V, z) ⟨rfl, hZ235⟩
        try dsimp only [Option.toList, List.cons_append, List.nil_append, s1C, s2C, dlC, kyC, Nat.beq, lkC, rcd, rno, rsw]
        have c237 : (Int32.ofInt 72).toInt = 72 := by decide
        refine ⟨fun h238 => ?_, fun h238 => ?_⟩
        · have g238 := (neI (x := c236) (y := (Int32.ofInt 72)) h238 : ¬ (c236 : Int32).toInt = ((Int32.ofInt 72) : Int32).toInt)
          refine hB _ _ _ _ _ (fun m239 hm239 => ?_)
          dsimp only [ucgo, ucwp, ucsC, uqC, uoC, ctC, rfd, KX7_readLiteral, KX7_readLiteral_0, KX7_readLiteral_9, KX7_readLiteral_18, KX7_readLiteral_22, KX7_readLiteral_23, KX7_readLiteral_29, KX7_readLiteral_33, KX7_readLiteral_34, KX7_readLiteral_57, KX7_readLiteral_61, KX7_readLiteral_70, KX7_readLiteral_74, KX7_readLiteral_86, KX7_readLiteral_99, KX7_readLiteral_103, KX7_readLiteral_107, KX7_readLiteral_111, KX7_readLiteral_112, lkC, s1C, s2C, dlC, kyC, Nat.beq, Nat.ble, rcd, rno, rsw, Nat.reduceAdd, Nat.reduceBEq, Nat.reduceDiv, List.drop, List.take, List.reverse, List.reverseAux, Int.toNat, Option.toList, List.append, List.cons_append, List.nil_append, zg241, zg242, zg304]
          intro w240 τ240 o240 q240
          obtain ⟨c240, rfl, hc240, rfl⟩ := q240 (N, E, A, B, V, z) ⟨rfl, hZ235⟩
          try dsimp only [Option.toList, List.cons_append, List.nil_append, s1C, s2C, dlC, kyC, Nat.beq, lkC, rcd, rno, rsw]
          have c241 : (Int32.ofInt 73).toInt = 73 := by decide
          refine ⟨fun h242 => ?_, fun h242 => ?_⟩
          · have g242 := (neI (x := c240) (y := (Int32.ofInt 73)) h242 : ¬ (c240 : Int32).toInt = ((Int32.ofInt 73) : Int32).toInt)
            refine hB _ _ _ _ _ (fun m243 hm243 => ?_)
            dsimp only [ucgo, ucwp, ucsC, uqC, uoC, ctC, rfd, KX7_readLiteral, KX7_readLiteral_0, KX7_readLiteral_9, KX7_readLiteral_18, KX7_readLiteral_22, KX7_readLiteral_23, KX7_readLiteral_29, KX7_readLiteral_33, KX7_readLiteral_34, KX7_readLiteral_57, KX7_readLiteral_61, KX7_readLiteral_70, KX7_readLiteral_74, KX7_readLiteral_86, KX7_readLiteral_99, KX7_readLiteral_103, KX7_readLiteral_107, KX7_readLiteral_111, KX7_readLiteral_112, lkC, s1C, s2C, dlC, kyC, Nat.beq, Nat.ble, rcd, rno, rsw, Nat.reduceAdd, Nat.reduceBEq, Nat.reduceDiv, List.drop, List.take, List.reverse, List.reverseAux, Int.toNat, Option.toList, List.append, List.cons_append, List.nil_append, zg241, zg242, zg304]
            intro a244 e244 ob244
            cases e244
            intro a245 e245 ob245
            obtain rfl : E 2 = a245 := Option.some.inj (hZ235.1.1.2.symm.trans e245)
            intro a246 e246 ob246
            cases e246
            have f247 : (fIC s235 (E 0) 242).toInt = zAt z.1 := hZ235.2.1.1.1
            intro a248 e248 t248 v248
            obtain rfl : E 304 = a248 := Option.some.inj (hZ235.1.2.2.1.2.2.symm.trans e248)
            refine hB _ _ _ _ _ (fun m249 hm249 => ?_)
            dsimp only [ucgo, ucwp, ucsC, uqC, uoC, ctC, rfd, KX7_readLiteral, KX7_readLiteral_0, KX7_readLiteral_9, KX7_readLiteral_18, KX7_readLiteral_22, KX7_readLiteral_23, KX7_readLiteral_29, KX7_readLiteral_33, KX7_readLiteral_34, KX7_readLiteral_57, KX7_readLiteral_61, KX7_readLiteral_70, KX7_readLiteral_74, KX7_readLiteral_86, KX7_readLiteral_99, KX7_readLiteral_103, KX7_readLiteral_107, KX7_readLiteral_111, KX7_readLiteral_112, lkC, s1C, s2C, dlC, kyC, Nat.beq, Nat.ble, rcd, rno, rsw, Nat.reduceAdd, Nat.reduceBEq, Nat.reduceDiv, List.drop, List.take, List.reverse, List.reverseAux, Int.toNat, Option.toList, List.append, List.cons_append, List.nil_append, zg241, zg242, zg304]
            intro a250 e250 ob250 fk250
            cases e250
            clear fk250 ob250
            generalize hs250 : pLC s235 (cnC σ) 71 (eLC s235 (E 304) (fIC s235 (E 0) 242).toNatClampNeg) = s250
            have hx250 : XfE s235 s250 := by rw [← hs250]; exact XfE.pL (by decide)
            have hra250 : ∀ a, a ≠ cnC σ → ∀ k, fIC s250 a k = fIC s235 a k ∧ fLC s250 a k = fLC s235 a k ∧ fRC s250 a k = fRC s235 a k := by rw [← hs250]; exact rL_a
            have hZ250 := ZC.xf hZ235 hx250 (fun i hi k => hra250 _ (Nat.ne_of_lt (hZ.2.2.2.1.1.2 i hi).2) k)
            have hF250 := FzC.ob hF235 hx250 hra250 (Nat.le_refl _)
            have hle250 : cnC σ ≤ cnC s250 := by rw [hx250.2.2]; exact hle235
            intro w251 τ251 o251 q251
            obtain ⟨c251, rfl, hc251, rfl⟩ := q251 (N, E, A, B, V, z) ⟨rfl, hZ250⟩
            try dsimp only [Option.toList, List.cons_append, List.nil_append, s1C, s2C, dlC, kyC, Nat.beq, lkC, rcd, rno, rsw]
            have c252 : (Int32.ofInt 83).toInt = 83 := by decide
            refine ⟨fun h253 => ?_, fun h253 => ?_⟩
            · have g253 := (neI (x := c251) (y := (Int32.ofInt 83)) h253 : ¬ (c251 : Int32).toInt = ((Int32.ofInt 83) : Int32).toInt)
              refine hB _ _ _ _ _ (fun m254 hm254 => ?_)
              dsimp only [ucgo, ucwp, ucsC, uqC, uoC, ctC, rfd, KX7_readLiteral, KX7_readLiteral_0, KX7_readLiteral_9, KX7_readLiteral_18, KX7_readLiteral_22, KX7_readLiteral_23, KX7_readLiteral_29, KX7_readLiteral_33, KX7_readLiteral_34, KX7_readLiteral_57, KX7_readLiteral_61, KX7_readLiteral_70, KX7_readLiteral_74, KX7_readLiteral_86, KX7_readLiteral_99, KX7_readLiteral_103, KX7_readLiteral_107, KX7_readLiteral_111, KX7_readLiteral_112, lkC, s1C, s2C, dlC, kyC, Nat.beq, Nat.ble, rcd, rno, rsw, Nat.reduceAdd, Nat.reduceBEq, Nat.reduceDiv, List.drop, List.take, List.reverse, List.reverseAux, Int.toNat, Option.toList, List.append, List.cons_append, List.nil_append, zg241, zg242, zg304]
              refine ⟨fun h255 => ?_, fun h255 => ?_⟩
              · exact absurd h255 (by decide)
              · have g255 := (neI (x := (Int32.ofInt 1)) (y := 0) h255 : ¬ ((Int32.ofInt 1) : Int32).toInt = (0 : Int32).toInt)
                have z0_ : (0 : Int32).toInt = 0 := rfl
                refine hB _ _ _ _ _ (fun m256 hm256 => ?_)
                dsimp only [ucgo, ucwp, ucsC, uqC, uoC, ctC, rfd, KX7_readLiteral, KX7_readLiteral_0, KX7_readLiteral_9, KX7_readLiteral_18, KX7_readLiteral_22, KX7_readLiteral_23, KX7_readLiteral_29, KX7_readLiteral_33, KX7_readLiteral_34, KX7_readLiteral_57, KX7_readLiteral_61, KX7_readLiteral_70, KX7_readLiteral_74, KX7_readLiteral_86, KX7_readLiteral_99, KX7_readLiteral_103, KX7_readLiteral_107, KX7_readLiteral_111, KX7_readLiteral_112, lkC, s1C, s2C, dlC, kyC, Nat.beq, Nat.ble, rcd, rno, rsw, Nat.reduceAdd, Nat.reduceBEq, Nat.reduceDiv, List.drop, List.take, List.reverse, List.reverseAux, Int.toNat, Option.toList, List.append, List.cons_append, List.nil_append, zg241, zg242, zg304]
                have c257 : (Int32.ofInt (-1)).toInt = -1 := by decide
                refine hB _ _ _ _ _ (fun m258 hm258 => ?_)
                dsimp only [ucgo, ucwp, ucsC, uqC, uoC, ctC, rfd, KX7_readLiteral, KX7_readLiteral_0, KX7_readLiteral_9, KX7_readLiteral_18, KX7_readLiteral_22, KX7_readLiteral_23, KX7_readLiteral_29, KX7_readLiteral_33, KX7_readLiteral_34, KX7_readLiteral_57, KX7_readLiteral_61, KX7_readLiteral_70, KX7_readLiteral_74, KX7_readLiteral_86, KX7_readLiteral_99, KX7_readLiteral_103, KX7_readLiteral_107, KX7_readLiteral_111, KX7_readLiteral_112, lkC, s1C, s2C, dlC, kyC, Nat.beq, Nat.ble, rcd, rno, rsw, Nat.reduceAdd, Nat.reduceBEq, Nat.reduceDiv, List.drop, List.take, List.reverse, List.reverseAux, Int.toNat, Option.toList, List.append, List.cons_append, List.nil_append, zg241, zg242, zg304]
                intro a259 e259 ob259 fk259
                cases e259
                clear fk259 ob259
                generalize hs259 : pIC s250 (cnC σ) 68 (Int32.ofInt (-1)) = s259
                have hx259 : XfE s250 s259 := by rw [← hs259]; exact XfE.pI (by decide)
                have hra259 : ∀ a, a ≠ cnC σ → ∀ k, fIC s259 a k = fIC s250 a k ∧ fLC s259 a k = fLC s250 a k ∧ fRC s259 a k = fRC s250 a k := by rw [← hs259]; exact rI_a
                have hZ259 := ZC.xf hZ250 hx259 (fun i hi k => hra259 _ (Nat.ne_of_lt (hZ.2.2.2.1.1.2 i hi).2) k)
                have hF259 := FzC.ob hF250 hx259 hra259 (Nat.le_refl _)
                have hle259 : cnC σ ≤ cnC s259 := by rw [hx259.2.2]; exact hle250
                have hL259 : LsX N A (cnC σ) s259 z [((cnC σ), (recZ 0 (codY z.1) (zAt z.1) 0 (zAt z.1) (-1) 0 (xnM z) (-1) (-1) (-1) (-1) []), none)] := by
                  have g1 : cnC s259 = cnC σ + 1 := by rw [hx259.2.2, hx250.2.2, hx235.2.2]; exact hnw233.1.2
                  refine LsX.cn LsX.nil ⟨⟨Nat.le_refl _, by show cnC σ < cnC s259; omega, opX_o, fun i hi => Nat.ne_of_lt (hZ.2.2.2.1.1.2 i hi).2⟩, ?_, ⟨?_, ?_, ?_⟩, ?_⟩ (fun q h => absurd h List.not_mem_nil)
                  · refine XbC.c2 hnw233.2.1 (fun k hk q1 q2 q3 => ⟨?_, ?_⟩)
                    · show fIC s259 (cnC σ) k = _
                      rw [← hs259, pI_n q1, ← hs250]
                      show fIC s235 (cnC σ) k = _
                      rw [← hs235, pI_n q2]
                    · show fRC s259 (cnC σ) k = _
                      rw [← hs259, ← hs250, ← hs235]
                      rfl
                  · show (fIC s259 (cnC σ) 68).toInt = _
                    rw [← hs259, pI_e]
                    unfold tyX recZ
                    dsimp only
                    repeat' split
                    all_goals omega
                  · show (fIC s259 (cnC σ) 70).toInt = _
                    rw [← hs259, pI_n (by decide), ← hs250]
                    show (fIC s235 (cnC σ) 70).toInt = _
                    rw [← hs235, pI_e]
                    unfold coX recZ
                    dsimp only
                    rw [if_pos (by omega)]
                    omega
                  · show (fLC s259 (cnC σ) 71).toInt = _
                    rw [← hs259]
                    show (fLC s250 (cnC σ) 71).toInt = _
                    rw [← hs250]
                    rw [pL_e]
                    unfold vaX recZ
                    dsimp only
                    rw [if_pos (by omega)]
                    rw [if_neg (by omega), if_neg (by omega), hZ235.2.2.1.2, nT_toNat]
                    exact congrArg N (by omega)
                  · show fRC s259 (cnC σ) 75 = none
                    rw [← hs259, ← hs250, ← hs235]
                    exact hnw233.2.2.2
                intro w260 τ260 o260 q260
                obtain ⟨rfl, hZ260, hf260⟩ := q260 (N, E, A, B, V, z) ⟨rfl, hZ259, hfa⟩
                have hF260 := FzC.tr hF259 (FzC.mo hf260 hle259 (hF259).2.2.1.1.1)
                have hL260 := LsX.fz hL259 hf260
                have hle260 : cnC σ ≤ cnC τ260 := Nat.le_trans hle259 (hf260).1
                try dsimp only [Option.toList, List.cons_append, List.nil_append, s1C, s2C, dlC, kyC, Nat.beq, lkC, rcd, rno, rsw]
                intro w261 τ261 o261 q261
                have hh261 := LsX.hd hL260
                obtain ⟨rfl, hZ261, hpo261, hnx261⟩ := q261 (N, E, A, B, V, (accM z), (recZ 0 (codY z.1) (zAt z.1) (zAt z.1) (zAt z.1) (-1) 0 (xnM z) (-1) (-1) (-1) (-1) [])) ⟨_, rfl, hZ260, ⟨hh261.1.1.2, hh261.1.2.1, hh261.1.2.2.1⟩, (by show zAt z.1 = zAt (accY z.1) - 1; rw [(acc_n hfa).2.2]; show _ = zAt z.1 + 1 - 1; omega), ⟨fun a ha => absurd ha List.not_mem_nil, trivial⟩⟩
                have hnx261 := hnx261.trans hh261.1.2.2.2
                have hF261 := FzC.tr hF260 (FzC.pu (x := (recZ 0 (codY z.1) (zAt z.1) (zAt z.1) (zAt z.1) (-1) 0 (xnM z) (-1) (-1) (-1) (-1) [])) hpo261 hh261.1.1.1 hle260 (Int.le_refl _) hZ260.1.2.2.2.2.2.1.2.1)
                have hL261 := LsX.pu (x := (recZ 0 (codY z.1) (zAt z.1) (zAt z.1) (zAt z.1) (-1) 0 (xnM z) (-1) (-1) (-1) (-1) [])) hh261.2.1 hpo261 hh261.2.2
                have hle261 : cnC σ ≤ cnC τ261 := Nat.le_trans hle260 hpo261.1
                try dsimp only [Option.toList, List.cons_append, List.nil_append, s1C, s2C, dlC, kyC, Nat.beq, lkC, rcd, rno, rsw]
                try dsimp only [Qz_readLiteral]
                first
                  | (exfalso; omega)
                  | exact ExQ.pu (by show puM (litZ 0 (xnM z) z.1) (accM z) = _; unfold litZ; rw [if_pos (by omega), if_neg (fun q => absurd q.2 (by decide))]) hZ261 hF261 hnx261 rfl rfl (Nat.le_refl _)
            · have g253 := (eqI (x := c251) (y := (Int32.ofInt 83)) h253 : (c251 : Int32).toInt = ((Int32.ofInt 83) : Int32).toInt)
              refine hB _ _ _ _ _ (fun m262 hm262 => ?_)
              dsimp only [ucgo, ucwp, ucsC, uqC, uoC, ctC, rfd, KX7_readLiteral, KX7_readLiteral_0, KX7_readLiteral_9, KX7_readLiteral_18, KX7_readLiteral_22, KX7_readLiteral_23, KX7_readLiteral_29, KX7_readLiteral_33, KX7_readLiteral_34, KX7_readLiteral_57, KX7_readLiteral_61, KX7_readLiteral_70, KX7_readLiteral_74, KX7_readLiteral_86, KX7_readLiteral_99, KX7_readLiteral_103, KX7_readLiteral_107, KX7_readLiteral_111, KX7_readLiteral_112, lkC, s1C, s2C, dlC, kyC, Nat.beq, Nat.ble, rcd, rno, rsw, Nat.reduceAdd, Nat.reduceBEq, Nat.reduceDiv, List.drop, List.take, List.reverse, List.reverseAux, Int.toNat, Option.toList, List.append, List.cons_append, List.nil_append, zg241, zg242, zg304]
              have c263 : (Int32.ofInt 2).toInt = 2 := by decide
              refine hB _ _ _ _ _ (fun m264 hm264 => ?_)
              dsimp only [ucgo, ucwp, ucsC, uqC, uoC, ctC, rfd, KX7_readLiteral, KX7_readLiteral_0, KX7_readLiteral_9, KX7_readLiteral_18, KX7_readLiteral_22, KX7_readLiteral_23, KX7_readLiteral_29, KX7_readLiteral_33, KX7_readLiteral_34, KX7_readLiteral_57, KX7_readLiteral_61, KX7_readLiteral_70, KX7_readLiteral_74, KX7_readLiteral_86, KX7_readLiteral_99, KX7_readLiteral_103, KX7_readLiteral_107, KX7_readLiteral_111, KX7_readLiteral_112, lkC, s1C, s2C, dlC, kyC, Nat.beq, Nat.ble, rcd, rno, rsw, Nat.reduceAdd, Nat.reduceBEq, Nat.reduceDiv, List.drop, List.take, List.reverse, List.reverseAux, Int.toNat, Option.toList, List.append, List.cons_append, List.nil_append, zg241, zg242, zg304]
              intro a265 e265 ob265 fk265
              cases e265
              clear fk265 ob265
              generalize hs265 : pIC s250 (cnC σ) 68 (Int32.ofInt 2) = s265
              have hx265 : XfE s250 s265 := by rw [← hs265]; exact XfE.pI (by decide)
              have hra265 : ∀ a, a ≠ cnC σ → ∀ k, fIC s265 a k = fIC s250 a k ∧ fLC s265 a k = fLC s250 a k ∧ fRC s265 a k = fRC s250 a k := by rw [← hs265]; exact rI_a
              have hZ265 := ZC.xf hZ250 hx265 (fun i hi k => hra265 _ (Nat.ne_of_lt (hZ.2.2.2.1.1.2 i hi).2) k)
              have hF265 := FzC.ob hF250 hx265 hra265 (Nat.le_refl _)
              have hle265 : cnC σ ≤ cnC s265 := by rw [hx265.2.2]; exact hle250
              have hL265 : LsX N A (cnC σ) s265 z [((cnC σ), (recZ 0 (codY z.1) (zAt z.1) 0 (zAt z.1) (-1) 0 (xnM z) (-1) (-1) (-1) (-1) []), none)] := by
                have g1 : cnC s265 = cnC σ + 1 := by rw [hx265.2.2, hx250.2.2, hx235.2.2]; exact hnw233.1.2
                refine LsX.cn LsX.nil ⟨⟨Nat.le_refl _, by show cnC σ < cnC s265; omega, opX_o, fun i hi => Nat.ne_of_lt (hZ.2.2.2.1.1.2 i hi).2⟩, ?_, ⟨?_, ?_, ?_⟩, ?_⟩ (fun q h => absurd h List.not_mem_nil)
                · refine XbC.c2 hnw233.2.1 (fun k hk q1 q2 q3 => ⟨?_, ?_⟩)
                  · show fIC s265 (cnC σ) k = _
                    rw [← hs265, pI_n q1, ← hs250]
                    show fIC s235 (cnC σ) k = _
                    rw [← hs235, pI_n q2]
                  · show fRC s265 (cnC σ) k = _
                    rw [← hs265, ← hs250, ← hs235]
                    rfl
                · show (fIC s265 (cnC σ) 68).toInt = _
                  rw [← hs265, pI_e]
                  unfold tyX recZ
                  dsimp only
                  repeat' split
                  all_goals omega
                · show (fIC s265 (cnC σ) 70).toInt = _
                  rw [← hs265, pI_n (by decide), ← hs250]
                  show (fIC s235 (cnC σ) 70).toInt = _
                  rw [← hs235, pI_e]
                  unfold coX recZ
                  dsimp only
                  rw [if_pos (by omega)]
                  omega
                · show (fLC s265 (cnC σ) 71).toInt = _
                  rw [← hs265]
                  show (fLC s250 (cnC σ) 71).toInt = _
                  rw [← hs250]
                  rw [pL_e]
                  unfold vaX recZ
                  dsimp only
                  rw [if_pos (by omega)]
                  rw [if_neg (by omega), if_neg (by omega), hZ235.2.2.1.2, nT_toNat]
                  exact congrArg N (by omega)
                · show fRC s265 (cnC σ) 75 = none
                  rw [← hs265, ← hs250, ← hs235]
                  exact hnw233.2.2.2
              intro w266 τ266 o266 q266
              obtain ⟨rfl, hZ266, hf266⟩ := q266 (N, E, A, B, V, z) ⟨rfl, hZ265, hfa⟩
              have hF266 := FzC.tr hF265 (FzC.mo hf266 hle265 (hF265).2.2.1.1.1)
              have hL266 := LsX.fz hL265 hf266
              have hle266 : cnC σ ≤ cnC τ266 := Nat.le_trans hle265 (hf266).1
              try dsimp only [Option.toList, List.cons_append, List.nil_append, s1C, s2C, dlC, kyC, Nat.beq, lkC, rcd, rno, rsw]
              intro w267 τ267 o267 q267
              have hh267 := LsX.hd hL266
              obtain ⟨rfl, hZ267, hpo267, hnx267⟩ := q267 (N, E, A, B, V, (accM z), (recZ 0 (codY z.1) (zAt z.1) (zAt z.1) (zAt z.1) (-1) 0 (xnM z) (-1) (-1) (-1) (-1) [])) ⟨_, rfl, hZ266, ⟨hh267.1.1.2, hh267.1.2.1, hh267.1.2.2.1⟩, (by show zAt z.1 = zAt (accY z.1) - 1; rw [(acc_n hfa).2.2]; show _ = zAt z.1 + 1 - 1; omega), ⟨fun a ha => absurd ha List.not_mem_nil, trivial⟩⟩
              have hnx267 := hnx267.trans hh267.1.2.2.2
              have hF267 := FzC.tr hF266 (FzC.pu (x := (recZ 0 (codY z.1) (zAt z.1) (zAt z.1) (zAt z.1) (-1) 0 (xnM z) (-1) (-1) (-1) (-1) [])) hpo267 hh267.1.1.1 hle266 (Int.le_refl _) hZ266.1.2.2.2.2.2.1.2.1)
              have hL267 := LsX.pu (x := (recZ 0 (codY z.1) (zAt z.1) (zAt z.1) (zAt z.1) (-1) 0 (xnM z) (-1) (-1) (-1) (-1) [])) hh267.2.1 hpo267 hh267.2.2
              have hle267 : cnC σ ≤ cnC τ267 := Nat.le_trans hle266 hpo267.1
              try dsimp only [Option.toList, List.cons_append, List.nil_append, s1C, s2C, dlC, kyC, Nat.beq, lkC, rcd, rno, rsw]
              try dsimp only [Qz_readLiteral]
              first
                | (exfalso; omega)
                | exact ExQ.pu (by show puM (litZ 0 (xnM z) z.1) (accM z) = _; unfold litZ; rw [if_pos (by omega), if_neg (fun q => absurd q.2 (by decide))]) hZ267 hF267 hnx267 rfl rfl (Nat.le_refl _)
          · have g242 := (eqI (x := c240) (y := (Int32.ofInt 73)) h242 : (c240 : Int32).toInt = ((Int32.ofInt 73) : Int32).toInt)
            refine hB _ _ _ _ _ (fun m268 hm268 => ?_)
            dsimp only [ucgo, ucwp, ucsC, uqC, uoC, ctC, rfd, KX7_readLiteral, KX7_readLiteral_0, KX7_readLiteral_9, KX7_readLiteral_18, KX7_readLiteral_22, KX7_readLiteral_23, KX7_readLiteral_29, KX7_readLiteral_33, KX7_readLiteral_34, KX7_readLiteral_57, KX7_readLiteral_61, KX7_readLiteral_70, KX7_readLiteral_74, KX7_readLiteral_86, KX7_readLiteral_99, KX7_readLiteral_103, KX7_readLiteral_107, KX7_readLiteral_111, KX7_readLiteral_112, lkC, s1C, s2C, dlC, kyC, Nat.beq, Nat.ble, rcd, rno, rsw, Nat.reduceAdd, Nat.reduceBEq, Nat.reduceDiv, List.drop, List.take, List.reverse, List.reverseAux, Int.toNat, Option.toList, List.append, List.cons_append, List.nil_append, zg241, zg242, zg304]
            refine hB _ _ _ _ _ (fun m269 hm269 => ?_)
            dsimp only [ucgo, ucwp, ucsC, uqC, uoC, ctC, rfd, KX7_readLiteral, KX7_readLiteral_0, KX7_readLiteral_9, KX7_readLiteral_18, KX7_readLiteral_22, KX7_readLiteral_23, KX7_readLiteral_29, KX7_readLiteral_33, KX7_readLiteral_34, KX7_readLiteral_57, KX7_readLiteral_61, KX7_readLiteral_70, KX7_readLiteral_74, KX7_readLiteral_86, KX7_readLiteral_99, KX7_readLiteral_103, KX7_readLiteral_107, KX7_readLiteral_111, KX7_readLiteral_112, lkC, s1C, s2C, dlC, kyC, Nat.beq, Nat.ble, rcd, rno, rsw, Nat.reduceAdd, Nat.reduceBEq, Nat.reduceDiv, List.drop, List.take, List.reverse, List.reverseAux, Int.toNat, Option.toList, List.append, List.cons_append, List.nil_append, zg241, zg242, zg304]
            intro a270 e270 ob270 fk270
            cases e270
            clear fk270 ob270
            generalize hs270 : pLC s235 (cnC σ) 71 (Int64.ofNat ((0 : Fin 2) : Nat)) = s270
            have hx270 : XfE s235 s270 := by rw [← hs270]; exact XfE.pL (by decide)
            have hra270 : ∀ a, a ≠ cnC σ → ∀ k, fIC s270 a k = fIC s235 a k ∧ fLC s270 a k = fLC s235 a k ∧ fRC s270 a k = fRC s235 a k := by rw [← hs270]; exact rL_a
            have hZ270 := ZC.xf hZ235 hx270 (fun i hi k => hra270 _ (Nat.ne_of_lt (hZ.2.2.2.1.1.2 i hi).2) k)
            have hF270 := FzC.ob hF235 hx270 hra270 (Nat.le_refl _)
            have hle270 : cnC σ ≤ cnC s270 := by rw [hx270.2.2]; exact hle235
            intro w271 τ271 o271 q271
            obtain ⟨c271, rfl, hc271, rfl⟩ := q271 (N, E, A, B, V, z) ⟨rfl, hZ270⟩
            try dsimp only [Option.toList, List.cons_append, List.nil_append, s1C, s2C, dlC, kyC, Nat.beq, lkC, rcd, rno, rsw]
            have c272 : (Int32.ofInt 83).toInt = 83 := by decide
            refine ⟨fun h273 => ?_, fun h273 => ?_⟩
            · have g273 := (neI (x := c271) (y := (Int32.ofInt 83)) h273 : ¬ (c271 : Int32).toInt = ((Int32.ofInt 83) : Int32).toInt)
              refine hB _ _ _ _ _ (fun m274 hm274 => ?_)
              dsimp only [ucgo, ucwp, ucsC, uqC, uoC, ctC, rfd, KX7_readLiteral, KX7_readLiteral_0, KX7_readLiteral_9, KX7_readLiteral_18, KX7_readLiteral_22, KX7_readLiteral_23, KX7_readLiteral_29, KX7_readLiteral_33, KX7_readLiteral_34, KX7_readLiteral_57, KX7_readLiteral_61, KX7_readLiteral_70, KX7_readLiteral_74, KX7_readLiteral_86, KX7_readLiteral_99, KX7_readLiteral_103, KX7_readLiteral_107, KX7_readLiteral_111, KX7_readLiteral_112, lkC, s1C, s2C, dlC, kyC, Nat.beq, Nat.ble, rcd, rno, rsw, Nat.reduceAdd, Nat.reduceBEq, Nat.reduceDiv, List.drop, List.take, List.reverse, List.reverseAux, Int.toNat, Option.toList, List.append, List.cons_append, List.nil_append, zg241, zg242, zg304]
              refine ⟨fun h275 => ?_, fun h275 => ?_⟩
              · exact absurd h275 (by decide)
              · have g275 := (neI (x := (Int32.ofInt 1)) (y := 0) h275 : ¬ ((Int32.ofInt 1) : Int32).toInt = (0 : Int32).toInt)
                have z0_ : (0 : Int32).toInt = 0 := rfl
                refine hB _ _ _ _ _ (fun m276 hm276 => ?_)
                dsimp only [ucgo, ucwp, ucsC, uqC, uoC, ctC, rfd, KX7_readLiteral, KX7_readLiteral_0, KX7_readLiteral_9, KX7_readLiteral_18, KX7_readLiteral_22, KX7_readLiteral_23, KX7_readLiteral_29, KX7_readLiteral_33, KX7_readLiteral_34, KX7_readLiteral_57, KX7_readLiteral_61, KX7_readLiteral_70, KX7_readLiteral_74, KX7_readLiteral_86, KX7_readLiteral_99, KX7_readLiteral_103, KX7_readLiteral_107, KX7_readLiteral_111, KX7_readLiteral_112, lkC, s1C, s2C, dlC, kyC, Nat.beq, Nat.ble, rcd, rno, rsw, Nat.reduceAdd, Nat.reduceBEq, Nat.reduceDiv, List.drop, List.take, List.reverse, List.reverseAux, Int.toNat, Option.toList, List.append, List.cons_append, List.nil_append, zg241, zg242, zg304]
                have c277 : (Int32.ofInt (-1)).toInt = -1 := by decide
                refine hB _ _ _ _ _ (fun m278 hm278 => ?_)
                dsimp only [ucgo, ucwp, ucsC, uqC, uoC, ctC, rfd, KX7_readLiteral, KX7_readLiteral_0, KX7_readLiteral_9, KX7_readLiteral_18, KX7_readLiteral_22, KX7_readLiteral_23, KX7_readLiteral_29, KX7_readLiteral_33, KX7_readLiteral_34, KX7_readLiteral_57, KX7_readLiteral_61, KX7_readLiteral_70, KX7_readLiteral_74, KX7_readLiteral_86, KX7_readLiteral_99, KX7_readLiteral_103, KX7_readLiteral_107, KX7_readLiteral_111, KX7_readLiteral_112, lkC, s1C, s2C, dlC, kyC, Nat.beq, Nat.ble, rcd, rno, rsw, Nat.reduceAdd, Nat.reduceBEq, Nat.reduceDiv, List.drop, List.take, List.reverse, List.reverseAux, Int.toNat, Option.toList, List.append, List.cons_append, List.nil_append, zg241, zg242, zg304]
                intro a279 e279 ob279 fk279
                cases e279
                clear fk279 ob279
                generalize hs279 : pIC s270 (cnC σ) 68 (Int32.ofInt (-1)) = s279
                have hx279 : XfE s270 s279 := by rw [← hs279]; exact XfE.pI (by decide)
                have hra279 : ∀ a, a ≠ cnC σ → ∀ k, fIC s279 a k = fIC s270 a k ∧ fLC s279 a k = fLC s270 a k ∧ fRC s279 a k = fRC s270 a k := by rw [← hs279]; exact rI_a
                have hZ279 := ZC.xf hZ270 hx279 (fun i hi k => hra279 _ (Nat.ne_of_lt (hZ.2.2.2.1.1.2 i hi).2) k)
                have hF279 := FzC.ob hF270 hx279 hra279 (Nat.le_refl _)
                have hle279 : cnC σ ≤ cnC s279 := by rw [hx279.2.2]; exact hle270
                have hL279 : LsX N A (cnC σ) s279 z [((cnC σ), (recZ 0 (codY z.1) (zAt z.1) 0 (zAt z.1) (-1) 0 (xnM z) (-1) (-1) (-1) (-1) []), none)] := by
                  have g1 : cnC s279 = cnC σ + 1 := by rw [hx279.2.2, hx270.2.2, hx235.2.2]; exact hnw233.1.2
                  refine LsX.cn LsX.nil ⟨⟨Nat.le_refl _, by show cnC σ < cnC s279; omega, opX_o, fun i hi => Nat.ne_of_lt (hZ.2.2.2.1.1.2 i hi).2⟩, ?_, ⟨?_, ?_, ?_⟩, ?_⟩ (fun q h => absurd h List.not_mem_nil)
                  · refine XbC.c2 hnw233.2.1 (fun k hk q1 q2 q3 => ⟨?_, ?_⟩)
                    · show fIC s279 (cnC σ) k = _
                      rw [← hs279, pI_n q1, ← hs270]
                      show fIC s235 (cnC σ) k = _
                      rw [← hs235, pI_n q2]
                    · show fRC s279 (cnC σ) k = _
                      rw [← hs279, ← hs270, ← hs235]
                      rfl
                  · show (fIC s279 (cnC σ) 68).toInt = _
                    rw [← hs279, pI_e]
                    unfold tyX recZ
                    dsimp only
                    repeat' split
                    all_goals omega
                  · show (fIC s279 (cnC σ) 70).toInt = _
                    rw [← hs279, pI_n (by decide), ← hs270]
                    show (fIC s235 (cnC σ) 70).toInt = _
                    rw [← hs235, pI_e]
                    unfold coX recZ
                    dsimp only
                    rw [if_pos (by omega)]
                    omega
                  · show (fLC s279 (cnC σ) 71).toInt = _
                    rw [← hs279]
                    show (fLC s270 (cnC σ) 71).toInt = _
                    rw [← hs270]
                    rw [pL_e]
                    unfold vaX recZ
                    dsimp only
                    rw [if_pos (by omega)]
                    rw [if_neg (by omega), if_pos (by omega)]
                    rfl
                  · show fRC s279 (cnC σ) 75 = none
                    rw [← hs279, ← hs270, ← hs235]
                    exact hnw233.2.2.2
                intro w280 τ280 o280 q280
                obtain ⟨rfl, hZ280, hf280⟩ := q280 (N, E, A, B, V, z) ⟨rfl, hZ279, hfa⟩
                have hF280 := FzC.tr hF279 (FzC.mo hf280 hle279 (hF279).2.2.1.1.1)
                have hL280 := LsX.fz hL279 hf280
                have hle280 : cnC σ ≤ cnC τ280 := Nat.le_trans hle279 (hf280).1
                try dsimp only [Option.toList, List.cons_append, List.nil_append, s1C, s2C, dlC, kyC, Nat.beq, lkC, rcd, rno, rsw]
                intro w281 τ281 o281 q281
                have hh281 := LsX.hd hL280
                obtain ⟨rfl, hZ281, hpo281, hnx281⟩ := q281 (N, E, A, B, V, (accM z), (recZ 0 (codY z.1) (zAt z.1) (zAt z.1) (zAt z.1) (-1) 0 (xnM z) (-1) (-1) (-1) (-1) [])) ⟨_, rfl, hZ280, ⟨hh281.1.1.2, hh281.1.2.1, hh281.1.2.2.1⟩, (by show zAt z.1 = zAt (accY z.1) - 1; rw [(acc_n hfa).2.2]; show _ = zAt z.1 + 1 - 1; omega), ⟨fun a ha => absurd ha List.not_mem_nil, trivial⟩⟩
                have hnx281 := hnx281.trans hh281.1.2.2.2
                have hF281 := FzC.tr hF280 (FzC.pu (x := (recZ 0 (codY z.1) (zAt z.1) (zAt z.1) (zAt z.1) (-1) 0 (xnM z) (-1) (-1) (-1) (-1) [])) hpo281 hh281.1.1.1 hle280 (Int.le_refl _) hZ280.1.2.2.2.2.2.1.2.1)
                have hL281 := LsX.pu (x := (recZ 0 (codY z.1) (zAt z.1) (zAt z.1) (zAt z.1) (-1) 0 (xnM z) (-1) (-1) (-1) (-1) [])) hh281.2.1 hpo281 hh281.2.2
                have hle281 : cnC σ ≤ cnC τ281 := Nat.le_trans hle280 hpo281.1
                try dsimp only [Option.toList, List.cons_append, List.nil_append, s1C, s2C, dlC, kyC, Nat.beq, lkC, rcd, rno, rsw]
                try dsimp only [Qz_readLiteral]
                first
                  | (exfalso; omega)
                  | exact ExQ.pu (by show puM (litZ 0 (xnM z) z.1) (accM z) = _; unfold litZ; rw [if_pos (by omega), if_neg (fun q => absurd q.2 (by decide))]) hZ281 hF281 hnx281 rfl rfl (Nat.le_refl _)
            · have g273 := (eqI (x := c271) (y := (Int32.ofInt 83)) h273 : (c271 : Int32).toInt = ((Int32.ofInt 83) : Int32).toInt)
              refine hB _ _ _ _ _ (fun m282 hm282 => ?_)
              dsimp only [ucgo, ucwp, ucsC, uqC, uoC, ctC, rfd, KX7_readLiteral, KX7_readLiteral_0, KX7_readLiteral_9, KX7_readLiteral_18, KX7_readLiteral_22, KX7_readLiteral_23, KX7_readLiteral_29, KX7_readLiteral_33, KX7_readLiteral_34, KX7_readLiteral_57, KX7_readLiteral_61, KX7_readLiteral_70, KX7_readLiteral_74, KX7_readLiteral_86, KX7_readLiteral_99, KX7_readLiteral_103, KX7_readLiteral_107, KX7_readLiteral_111, KX7_readLiteral_112, lkC, s1C, s2C, dlC, kyC, Nat.beq, Nat.ble, rcd, rno, rsw, Nat.reduceAdd, Nat.reduceBEq, Nat.reduceDiv, List.drop, List.take, List.reverse, List.reverseAux, Int.toNat, Option.toList, List.append, List.cons_append, List.nil_append, zg241, zg242, zg304]
              have c283 : (Int32.ofInt 2).toInt = 2 := by decide
              refine hB _ _ _ _ _ (fun m284 hm284 => ?_)
              dsimp only [ucgo, ucwp, ucsC, uqC, uoC, ctC, rfd, KX7_readLiteral, KX7_readLiteral_0, KX7_readLiteral_9, KX7_readLiteral_18, KX7_readLiteral_22, KX7_readLiteral_23, KX7_readLiteral_29, KX7_readLiteral_33, KX7_readLiteral_34, KX7_readLiteral_57, KX7_readLiteral_61, KX7_readLiteral_70, KX7_readLiteral_74, KX7_readLiteral_86, KX7_readLiteral_99, KX7_readLiteral_103, KX7_readLiteral_107, KX7_readLiteral_111, KX7_readLiteral_112, lkC, s1C, s2C, dlC, kyC, Nat.beq, Nat.ble, rcd, rno, rsw, Nat.reduceAdd, Nat.reduceBEq, Nat.reduceDiv, List.drop, List.take, List.reverse, List.reverseAux, Int.toNat, Option.toList, List.append, List.cons_append, List.nil_append, zg241, zg242, zg304]
              intro a285 e285 ob285 fk285
              cases e285
              clear fk285 ob285
              generalize hs285 : pIC s270 (cnC σ) 68 (Int32.ofInt 2) = s285
              have hx285 : XfE s270 s285 := by rw [← hs285]; exact XfE.pI (by decide)
              have hra285 : ∀ a, a ≠ cnC σ → ∀ k, fIC s285 a k = fIC s270 a k ∧ fLC s285 a k = fLC s270 a k ∧ fRC s285 a k = fRC s270 a k := by rw [← hs285]; exact rI_a
              have hZ285 := ZC.xf hZ270 hx285 (fun i hi k => hra285 _ (Nat.ne_of_lt (hZ.2.2.2.1.1.2 i hi).2) k)
              have hF285 := FzC.ob hF270 hx285 hra285 (Nat.le_refl _)
              have hle285 : cnC σ ≤ cnC s285 := by rw [hx285.2.2]; exact hle270
              have hL285 : LsX N A (cnC σ) s285 z [((cnC σ), (recZ 0 (codY z.1) (zAt z.1) 0 (zAt z.1) (-1) 0 (xnM z) (-1) (-1) (-1) (-1) []), none)] := by
                have g1 : cnC s285 = cnC σ + 1 := by rw [hx285.2.2, hx270.2.2, hx235.2.2]; exact hnw233.1.2
                refine LsX.cn LsX.nil ⟨⟨Nat.le_refl _, by show cnC σ < cnC s285; omega, opX_o, fun i hi => Nat.ne_of_lt (hZ.2.2.2.1.1.2 i hi).2⟩, ?_, ⟨?_, ?_, ?_⟩, ?_⟩ (fun q h => absurd h List.not_mem_nil)
                · refine XbC.c2 hnw233.2.1 (fun k hk q1 q2 q3 => ⟨?_, ?_⟩)
                  · show fIC s285 (cnC σ) k = _
                    rw [← hs285, pI_n q1, ← hs270]
                    show fIC s235 (cnC σ) k = _
                    rw [← hs235, pI_n q2]
                  · show fRC s285 (cnC σ) k = _
                    rw [← hs285, ← hs270, ← hs235]
                    rfl
                · show (fIC s285 (cnC σ) 68).toInt = _
                  rw [← hs285, pI_e]
                  unfold tyX recZ
                  dsimp only
                  repeat' split
                  all_goals omega
                · show (fIC s285 (cnC σ) 70).toInt = _
                  rw [← hs285, pI_n (by decide), ← hs270]
                  show (fIC s235 (cnC σ) 70).toInt = _
                  rw [← hs235, pI_e]
                  unfold coX recZ
                  dsimp only
                  rw [if_pos (by omega)]
                  omega
                · show (fLC s285 (cnC σ) 71).toInt = _
                  rw [← hs285]
                  show (fLC s270 (cnC σ) 71).toInt = _
                  rw [← hs270]
                  rw [pL_e]
                  unfold vaX recZ
                  dsimp only
                  rw [if_pos (by omega)]
                  rw [if_neg (by omega), if_pos (by omega)]
                  rfl
                · show fRC s285 (cnC σ) 75 = none
                  rw [← hs285, ← hs270, ← hs235]
                  exact hnw233.2.2.2
              intro w286 τ286 o286 q286
              obtain ⟨rfl, hZ286, hf286⟩ := q286 (N, E, A, B, V, z) ⟨rfl, hZ285, hfa⟩
              have hF286 := FzC.tr hF285 (FzC.mo hf286 hle285 (hF285).2.2.1.1.1)
              have hL286 := LsX.fz hL285 hf286
              have hle286 : cnC σ ≤ cnC τ286 := Nat.le_trans hle285 (hf286).1
              try dsimp only [Option.toList, List.cons_append, List.nil_append, s1C, s2C, dlC, kyC, Nat.beq, lkC, rcd, rno, rsw]
              intro w287 τ287 o287 q287
              have hh287 := LsX.hd hL286
              obtain ⟨rfl, hZ287, hpo287, hnx287⟩ := q287 (N, E, A, B, V, (accM z), (recZ 0 (codY z.1) (zAt z.1) (zAt z.1) (zAt z.1) (-1) 0 (xnM z) (-1) (-1) (-1) (-1) [])) ⟨_, rfl, hZ286, ⟨hh287.1.1.2, hh287.1.2.1, hh287.1.2.2.1⟩, (by show zAt z.1 = zAt (accY z.1) - 1; rw [(acc_n hfa).2.2]; show _ = zAt z.1 + 1 - 1; omega), ⟨fun a ha => absurd ha List.not_mem_nil, trivial⟩⟩
              have hnx287 := hnx287.trans hh287.1.2.2.2
              have hF287 := FzC.tr hF286 (FzC.pu (x := (recZ 0 (codY z.1) (zAt z.1) (zAt z.1) (zAt z.1) (-1) 0 (xnM z) (-1) (-1) (-1) (-1) [])) hpo287 hh287.1.1.1 hle286 (Int.le_refl _) hZ286.1.2.2.2.2.2.1.2.1)
              have hL287 := LsX.pu (x := (recZ 0 (codY z.1) (zAt z.1) (zAt z.1) (zAt z.1) (-1) 0 (xnM z) (-1) (-1) (-1) (-1) [])) hh287.2.1 hpo287 hh287.2.2
              have hle287 : cnC σ ≤ cnC τ287 := Nat.le_trans hle286 hpo287.1
              try dsimp only [Option.toList, List.cons_append, List.nil_append, s1C, s2C, dlC, kyC, Nat.beq, lkC, rcd, rno, rsw]
              try dsimp only [Qz_readLiteral]
              first
                | (exfalso; omega)
                | exact ExQ.pu (by show puM (litZ 0 (xnM z) z.1) (accM z) = _; unfold litZ; rw [if_pos (by omega), if_neg (fun q => absurd q.2 (by decide))]) hZ287 hF287 hnx287 rfl rfl (Nat.le_refl _)
        · have g238 := (eqI (x := c236) (y := (Int32.ofInt 72)) h238 : (c236 : Int32).toInt = ((Int32.ofInt 72) : Int32).toInt)
          refine hB _ _ _ _ _ (fun m288 hm288 => ?_)
          dsimp only [ucgo, ucwp, ucsC, uqC, uoC, ctC, rfd, KX7_readLiteral, KX7_readLiteral_0, KX7_readLiteral_9, KX7_readLiteral_18, KX7_readLiteral_22, KX7_readLiteral_23, KX7_readLiteral_29, KX7_readLiteral_33, KX7_readLiteral_34, KX7_readLiteral_57, KX7_readLiteral_61, KX7_readLiteral_70, KX7_readLiteral_74, KX7_readLiteral_86, KX7_readLiteral_99, KX7_readLiteral_103, KX7_readLiteral_107, KX7_readLiteral_111, KX7_readLiteral_112, lkC, s1C, s2C, dlC, kyC, Nat.beq, Nat.ble, rcd, rno, rsw, Nat.reduceAdd, Nat.reduceBEq, Nat.reduceDiv, List.drop, List.take, List.reverse, List.reverseAux, Int.toNat, Option.toList, List.append, List.cons_append, List.nil_append, zg241, zg242, zg304]
          refine hB _ _ _ _ _ (fun m289 hm289 => ?_)
          dsimp only [ucgo, ucwp, ucsC, uqC, uoC, ctC, rfd, KX7_readLiteral, KX7_readLiteral_0, KX7_readLiteral_9, KX7_readLiteral_18, KX7_readLiteral_22, KX7_readLiteral_23, KX7_readLiteral_29, KX7_readLiteral_33, KX7_readLiteral_34, KX7_readLiteral_57, KX7_readLiteral_61, KX7_readLiteral_70, KX7_readLiteral_74, KX7_readLiteral_86, KX7_readLiteral_99, KX7_readLiteral_103, KX7_readLiteral_107, KX7_readLiteral_111, KX7_readLiteral_112, lkC, s1C, s2C, dlC, kyC, Nat.beq, Nat.ble, rcd, rno, rsw, Nat.reduceAdd, Nat.reduceBEq, Nat.reduceDiv, List.drop, List.take, List.reverse, List.reverseAux, Int.toNat, Option.toList, List.append, List.cons_append, List.nil_append, zg241, zg242, zg304]
          intro a290 e290 ob290 fk290
          cases e290
          clear fk290 ob290
          generalize hs290 : pLC s235 (cnC σ) 71 (Int64.ofNat ((1 : Fin 2) : Nat)) = s290
          have hx290 : XfE s235 s290 := by rw [← hs290]; exact XfE.pL (by decide)
          have hra290 : ∀ a, a ≠ cnC σ → ∀ k, fIC s290 a k = fIC s235 a k ∧ fLC s290 a k = fLC s235 a k ∧ fRC s290 a k = fRC s235 a k := by rw [← hs290]; exact rL_a
          have hZ290 := ZC.xf hZ235 hx290 (fun i hi k => hra290 _ (Nat.ne_of_lt (hZ.2.2.2.1.1.2 i hi).2) k)
          have hF290 := FzC.ob hF235 hx290 hra290 (Nat.le_refl _)
          have hle290 : cnC σ ≤ cnC s290 := by rw [hx290.2.2]; exact hle235
          intro w291 τ291 o291 q291
          obtain ⟨c291, rfl, hc291, rfl⟩ := q291 (N, E, A, B, V, z) ⟨rfl, hZ290⟩
          try dsimp only [Option.toList, List.cons_append, List.nil_append, s1C, s2C, dlC, kyC, Nat.beq, lkC, rcd, rno, rsw]
          have c292 : (Int32.ofInt 83).toInt = 83 := by decide
          refine ⟨fun h293 => ?_, fun h293 => ?_⟩
          · have g293 := (neI (x := c291) (y := (Int32.ofInt 83)) h293 : ¬ (c291 : Int32).toInt = ((Int32.ofInt 83) : Int32).toInt)
            refine hB _ _ _ _ _ (fun m294 hm294 => ?_)
            dsimp only [ucgo, ucwp, ucsC, uqC, uoC, ctC, rfd, KX7_readLiteral, KX7_readLiteral_0, KX7_readLiteral_9, KX7_readLiteral_18, KX7_readLiteral_22, KX7_readLiteral_23, KX7_readLiteral_29, KX7_readLiteral_33, KX7_readLiteral_34, KX7_readLiteral_57, KX7_readLiteral_61, KX7_readLiteral_70, KX7_readLiteral_74, KX7_readLiteral_86, KX7_readLiteral_99, KX7_readLiteral_103, KX7_readLiteral_107, KX7_readLiteral_111, KX7_readLiteral_112, lkC, s1C, s2C, dlC, kyC, Nat.beq, Nat.ble, rcd, rno, rsw, Nat.reduceAdd, Nat.reduceBEq, Nat.reduceDiv, List.drop, List.take, List.reverse, List.reverseAux, Int.toNat, Option.toList, List.append, List.cons_append, List.nil_append, zg241, zg242, zg304]
            refine ⟨fun h295 => ?_, fun h295 => ?_⟩
            · exact absurd h295 (by decide)
            · have g295 := (neI (x := (Int32.ofInt 1)) (y := 0) h295 : ¬ ((Int32.ofInt 1) : Int32).toInt = (0 : Int32).toInt)
              have z0_ : (0 : Int32).toInt = 0 := rfl
              refine hB _ _ _ _ _ (fun m296 hm296 => ?_)
              dsimp only [ucgo, ucwp, ucsC, uqC, uoC, ctC, rfd, KX7_readLiteral, KX7_readLiteral_0, KX7_readLiteral_9, KX7_readLiteral_18, KX7_readLiteral_22, KX7_readLiteral_23, KX7_readLiteral_29, KX7_readLiteral_33, KX7_readLiteral_34, KX7_readLiteral_57, KX7_readLiteral_61, KX7_readLiteral_70, KX7_readLiteral_74, KX7_readLiteral_86, KX7_readLiteral_99, KX7_readLiteral_103, KX7_readLiteral_107, KX7_readLiteral_111, KX7_readLiteral_112, lkC, s1C, s2C, dlC, kyC, Nat.beq, Nat.ble, rcd, rno, rsw, Nat.reduceAdd, Nat.reduceBEq, Nat.reduceDiv, List.drop, List.take, List.reverse, List.reverseAux, Int.toNat, Option.toList, List.append, List.cons_append, List.nil_append, zg241, zg242, zg304]
              have c297 : (Int32.ofInt (-1)).toInt = -1 := by decide
              refine hB _ _ _ _ _ (fun m298 hm298 => ?_)
              dsimp only [ucgo, ucwp, ucsC, uqC, uoC, ctC, rfd, KX7_readLiteral, KX7_readLiteral_0, KX7_readLiteral_9, KX7_readLiteral_18, KX7_readLiteral_22, KX7_readLiteral_23, KX7_readLiteral_29, KX7_readLiteral_33, KX7_readLiteral_34, KX7_readLiteral_57, KX7_readLiteral_61, KX7_readLiteral_70, KX7_readLiteral_74, KX7_readLiteral_86, KX7_readLiteral_99, KX7_readLiteral_103, KX7_readLiteral_107, KX7_readLiteral_111, KX7_readLiteral_112, lkC, s1C, s2C, dlC, kyC, Nat.beq, Nat.ble, rcd, rno, rsw, Nat.reduceAdd, Nat.reduceBEq, Nat.reduceDiv, List.drop, List.take, List.reverse, List.reverseAux, Int.toNat, Option.toList, List.append, List.cons_append, List.nil_append, zg241, zg242, zg304]
              intro a299 e299 ob299 fk299
              cases e299
              clear fk299 ob299
              generalize hs299 : pIC s290 (cnC σ) 68 (Int32.ofInt (-1)) = s299
              have hx299 : XfE s290 s299 := by rw [← hs299]; exact XfE.pI (by decide)
              have hra299 : ∀ a, a ≠ cnC σ → ∀ k, fIC s299 a k = fIC s290 a k ∧ fLC s299 a k = fLC s290 a k ∧ fRC s299 a k = fRC s290 a k := by rw [← hs299]; exact rI_a
              have hZ299 := ZC.xf hZ290 hx299 (fun i hi k => hra299 _ (Nat.ne_of_lt (hZ.2.2.2.1.1.2 i hi).2) k)
              have hF299 := FzC.ob hF290 hx299 hra299 (Nat.le_refl _)
              have hle299 : cnC σ ≤ cnC s299 := by rw [hx299.2.2]; exact hle290
              have hL299 : LsX N A (cnC σ) s299 z [((cnC σ), (recZ 0 (codY z.1) (zAt z.1) 0 (zAt z.1) (-1) 0 (xnM z) (-1) (-1) (-1) (-1) []), none)] := by
                have g1 : cnC s299 = cnC σ + 1 := by rw [hx299.2.2, hx290.2.2, hx235.2.2]; exact hnw233.1.2
                refine LsX.cn LsX.nil ⟨⟨Nat.le_refl _, by show cnC σ < cnC s299; omega, opX_o, fun i hi => Nat.ne_of_lt (hZ.2.2.2.1.1.2 i hi).2⟩, ?_, ⟨?_, ?_, ?_⟩, ?_⟩ (fun q h => absurd h List.not_mem_nil)
                · refine XbC.c2 hnw233.2.1 (fun k hk q1 q2 q3 => ⟨?_, ?_⟩)
                  · show fIC s299 (cnC σ) k = _
                    rw [← hs299, pI_n q1, ← hs290]
                    show fIC s235 (cnC σ) k = _
                    rw [← hs235, pI_n q2]
                  · show fRC s299 (cnC σ) k = _
                    rw [← hs299, ← hs290, ← hs235]
                    rfl
                · show (fIC s299 (cnC σ) 68).toInt = _
                  rw [← hs299, pI_e]
                  unfold tyX recZ
                  dsimp only
                  repeat' split
                  all_goals omega
                · show (fIC s299 (cnC σ) 70).toInt = _
                  rw [← hs299, pI_n (by decide), ← hs290]
                  show (fIC s235 (cnC σ) 70).toInt = _
                  rw [← hs235, pI_e]
                  unfold coX recZ
                  dsimp only
                  rw [if_pos (by omega)]
                  omega
                · show (fLC s299 (cnC σ) 71).toInt = _
                  rw [← hs299]
                  show (fLC s290 (cnC σ) 71).toInt = _
                  rw [← hs290]
                  rw [pL_e]
                  unfold vaX recZ
                  dsimp only
                  rw [if_pos (by omega)]
                  rw [if_pos (by omega)]
                  rfl
                · show fRC s299 (cnC σ) 75 = none
                  rw [← hs299, ← hs290, ← hs235]
                  exact hnw233.2.2.2
              intro w300 τ300 o300 q300
              obtain ⟨rfl, hZ300, hf300⟩ := q300 (N, E, A, B, V, z) ⟨rfl, hZ299, hfa⟩
              have hF300 := FzC.tr hF299 (FzC.mo hf300 hle299 (hF299).2.2.1.1.1)
              have hL300 := LsX.fz hL299 hf300
              have hle300 : cnC σ ≤ cnC τ300 := Nat.le_trans hle299 (hf300).1
              try dsimp only [Option.toList, List.cons_append, List.nil_append, s1C, s2C, dlC, kyC, Nat.beq, lkC, rcd, rno, rsw]
              intro w301 τ301 o301 q301
              have hh301 := LsX.hd hL300
              obtain ⟨rfl, hZ301, hpo301, hnx301⟩ := q301 (N, E, A, B, V, (accM z), (recZ 0 (codY z.1) (zAt z.1) (zAt z.1) (zAt z.1) (-1) 0 (xnM z) (-1) (-1) (-1) (-1) [])) ⟨_, rfl, hZ300, ⟨hh301.1.1.2, hh301.1.2.1, hh301.1.2.2.1⟩, (by show zAt z.1 = zAt (accY z.1) - 1; rw [(acc_n hfa).2.2]; show _ = zAt z.1 + 1 - 1; omega), ⟨fun a ha => absurd ha List.not_mem_nil, trivial⟩⟩
              have hnx301 := hnx301.trans hh301.1.2.2.2
              have hF301 := FzC.tr hF300 (FzC.pu (x := (recZ 0 (codY z.1) (zAt z.1) (zAt z.1) (zAt z.1) (-1) 0 (xnM z) (-1) (-1) (-1) (-1) [])) hpo301 hh301.1.1.1 hle300 (Int.le_refl _) hZ300.1.2.2.2.2.2.1.2.1)
              have hL301 := LsX.pu (x := (recZ 0 (codY z.1) (zAt z.1) (zAt z.1) (zAt z.1) (-1) 0 (xnM z) (-1) (-1) (-1) (-1) [])) hh301.2.1 hpo301 hh301.2.2
              have hle301 : cnC σ ≤ cnC τ301 := Nat.le_trans hle300 hpo301.1
              try dsimp only [Option.toList, List.cons_append, List.nil_append, s1C, s2C, dlC, kyC, Nat.beq, lkC, rcd, rno, rsw]
              try dsimp only [Qz_readLiteral]
              first
                | (exfalso; omega)
                | exact ExQ.pu (by show puM (litZ 0 (xnM z) z.1) (accM z) = _; unfold litZ; rw [if_pos (by omega), if_neg (fun q => absurd q.2 (by decide))]) hZ301 hF301 hnx301 rfl rfl (Nat.le_refl _)
          · have g293 := (eqI (x := c291) (y := (Int32.ofInt 83)) h293 : (c291 : Int32).toInt = ((Int32.ofInt 83) : Int32).toInt)
            refine hB _ _ _ _ _ (fun m302 hm302 => ?_)
            dsimp only [ucgo, ucwp, ucsC, uqC, uoC, ctC, rfd, KX7_readLiteral, KX7_readLiteral_0, KX7_readLiteral_9, KX7_readLiteral_18, KX7_readLiteral_22, KX7_readLiteral_23, KX7_readLiteral_29, KX7_readLiteral_33, KX7_readLiteral_34, KX7_readLiteral_57, KX7_readLiteral_61, KX7_readLiteral_70, KX7_readLiteral_74, KX7_readLiteral_86, KX7_readLiteral_99, KX7_readLiteral_103, KX7_readLiteral_107, KX7_readLiteral_111, KX7_readLiteral_112, lkC, s1C, s2C, dlC, kyC, Nat.beq, Nat.ble, rcd, rno, rsw, Nat.reduceAdd, Nat.reduceBEq, Nat.reduceDiv, List.drop, List.take, List.reverse, List.reverseAux, Int.toNat, Option.toList, List.append, List.cons_append, List.nil_append, zg241, zg242, zg304]
            have c303 : (Int32.ofInt 2).toInt = 2 := by decide
            refine hB _ _ _ _ _ (fun m304 hm304 => ?_)
            dsimp only [ucgo, ucwp, ucsC, uqC, uoC, ctC, rfd, KX7_readLiteral, KX7_readLiteral_0, KX7_readLiteral_9, KX7_readLiteral_18, KX7_readLiteral_22, KX7_readLiteral_23, KX7_readLiteral_29, KX7_readLiteral_33, KX7_readLiteral_34, KX7_readLiteral_57, KX7_readLiteral_61, KX7_readLiteral_70, KX7_readLiteral_74, KX7_readLiteral_86, KX7_readLiteral_99, KX7_readLiteral_103, KX7_readLiteral_107, KX7_readLiteral_111, KX7_readLiteral_112, lkC, s1C, s2C, dlC, kyC, Nat.beq, Nat.ble, rcd, rno, rsw, Nat.reduceAdd, Nat.reduceBEq, Nat.reduceDiv, List.drop, List.take, List.reverse, List.reverseAux, Int.toNat, Option.toList, List.append, List.cons_append, List.nil_append, zg241, zg242, zg304]
            intro a305 e305 ob305 fk305
            cases e305
            clear fk305 ob305
            generalize hs305 : pIC s290 (cnC σ) 68 (Int32.ofInt 2) = s305
            have hx305 : XfE s290 s305 := by rw [← hs305]; exact XfE.pI (by decide)
            have hra305 : ∀ a, a ≠ cnC σ → ∀ k, fIC s305 a k = fIC s290 a k ∧ fLC s305 a k = fLC s290 a k ∧ fRC s305 a k = fRC s290 a k := by rw [← hs305]; exact rI_a
            have hZ305 := ZC.xf hZ290 hx305 (fun i hi k => hra305 _ (Nat.ne_of_lt (hZ.2.2.2.1.1.2 i hi).2) k)
            have hF305 := FzC.ob hF290 hx305 hra305 (Nat.le_refl _)
            have hle305 : cnC σ ≤ cnC s305 := by rw [hx305.2.2]; exact hle290
            have hL305 : LsX N A (cnC σ) s305 z [((cnC σ), (recZ 0 (codY z.1) (zAt z.1) 0 (zAt z.1) (-1) 0 (xnM z) (-1) (-1) (-1) (-1) []), none)] := by
              have g1 : cnC s305 = cnC σ + 1 := by rw [hx305.2.2, hx290.2.2, hx235.2.2]; exact hnw233.1.2
              refine LsX.cn LsX.nil ⟨⟨Nat.le_refl _, by show cnC σ < cnC s305; omega, opX_o, fun i hi => Nat.ne_of_lt (hZ.2.2.2.1.1.2 i hi).2⟩, ?_, ⟨?_, ?_, ?_⟩, ?_⟩ (fun q h => absurd h List.not_mem_nil)
              · refine XbC.c2 hnw233.2.1 (fun k hk q1 q2 q3 => ⟨?_, ?_⟩)
                · show fIC s305 (cnC σ) k = _
                  rw [← hs305, pI_n q1, ← hs290]
                  show fIC s235 (cnC σ) k = _
                  rw [← hs235, pI_n q2]
                · show fRC s305 (cnC σ) k = _
                  rw [← hs305, ← hs290, ← hs235]
                  rfl
              · show (fIC s305 (cnC σ) 68).toInt = _
                rw [← hs305, pI_e]
                unfold tyX recZ
                dsimp only
                repeat' split
                all_goals omega
              · show (fIC s305 (cnC σ) 70).toInt = _
                rw [← hs305, pI_n (by decide), ← hs290]
                show (fIC s235 (cnC σ) 70).toInt = _
                rw [← hs235, pI_e]
                unfold coX recZ
                dsimp only
                rw [if_pos (by omega)]
                omega
              · show (fLC s305 (cnC σ) 71).toInt = _
                rw [← hs305]
                show (fLC s290 (cnC σ) 71).toInt = _
                rw [← hs290]
                rw [pL_e]
                unfold vaX recZ
                dsimp only
                rw [if_pos (by omega)]
                rw [if_pos (by omega)]
                rfl
              · show fRC s305 (cnC σ) 75 = none
                rw [← hs305, ← hs290, ← hs235]
                exact hnw233.2.2.2
            intro w306 τ306 o306 q306
            obtain ⟨rfl, hZ306, hf306⟩ := q306 (N, E, A, B, V, z) ⟨rfl, hZ305, hfa⟩
            have hF306 := FzC.tr hF305 (FzC.mo hf306 hle305 (hF305).2.2.1.1.1)
            have hL306 := LsX.fz hL305 hf306
            have hle306 : cnC σ ≤ cnC τ306 := Nat.le_trans hle305 (hf306).1
            try dsimp only [Option.toList, List.cons_append, List.nil_append, s1C, s2C, dlC, kyC, Nat.beq, lkC, rcd, rno, rsw]
            intro w307 τ307 o307 q307
            have hh307 := LsX.hd hL306
            obtain ⟨rfl, hZ307, hpo307, hnx307⟩ := q307 (N, E, A, B, V, (accM z), (recZ 0 (codY z.1) (zAt z.1) (zAt z.1) (zAt z.1) (-1) 0 (xnM z) (-1) (-1) (-1) (-1) [])) ⟨_, rfl, hZ306, ⟨hh307.1.1.2, hh307.1.2.1, hh307.1.2.2.1⟩, (by show zAt z.1 = zAt (accY z.1) - 1; rw [(acc_n hfa).2.2]; show _ = zAt z.1 + 1 - 1; omega), ⟨fun a ha => absurd ha List.not_mem_nil, trivial⟩⟩
            have hnx307 := hnx307.trans hh307.1.2.2.2
            have hF307 := FzC.tr hF306 (FzC.pu (x := (recZ 0 (codY z.1) (zAt z.1) (zAt z.1) (zAt z.1) (-1) 0 (xnM z) (-1) (-1) (-1) (-1) [])) hpo307 hh307.1.1.1 hle306 (Int.le_refl _) hZ306.1.2.2.2.2.2.1.2.1)
            have hL307 := LsX.pu (x := (recZ 0 (codY z.1) (zAt z.1) (zAt z.1) (zAt z.1) (-1) 0 (xnM z) (-1) (-1) (-1) (-1) [])) hh307.2.1 hpo307 hh307.2.2
            have hle307 : cnC σ ≤ cnC τ307 := Nat.le_trans hle306 hpo307.1
            try dsimp only [Option.toList, List.cons_append, List.nil_append, s1C, s2C, dlC, kyC, Nat.beq, lkC, rcd, rno, rsw]
            try dsimp only [Qz_readLiteral]
            first
              | (exfalso; omega)
              | exact ExQ.pu (by show puM (litZ 0 (xnM z) z.1) (accM z) = _; unfold litZ; rw [if_pos (by omega), if_neg (fun q => absurd q.2 (by decide))]) hZ307 hF307 hnx307 rfl rfl (Nat.le_refl _)
theorem wz_readLiteral : ∀ (L : Nat) (As : List AvC) (σ : CsC) (w : Option AvC) (τ : CsC), EvF L 177 As σ w τ → Uz_readLiteral As σ w τ := by
  intro L
  cases L with
  | zero => exact fun _ _ _ _ h => h.elim
  | succ L => exact fun As σ w τ h y hy => EvF.us (cs := [125, 162, 128, 161]) (pz_readLiteral y) rfl (List.forall_mem_cons.2 ⟨wz_code L, List.forall_mem_cons.2 ⟨wz_opened L, List.forall_mem_cons.2 ⟨wz_accept L, List.forall_mem_cons.2 ⟨wz_put L, fun _ h => absurd h List.not_mem_nil⟩⟩⟩⟩) h hy
set_option maxHeartbeats 4000000 in
theorem pz_readCall (y : (Int → Int) × (Nat → Nat) × (Nat → Nat) × (Nat → Nat) × (Nat → Nat) × ZS × Nat) : PbC KX7_readCall [(162, TrP, EqC 162), (128, TrP, EqC 128), (131, TrP, EqC 131), (125, TrP, EqC 125), (129, TrP, EqC 129), (161, TrP, EqC 161), (164, TrP, EqC 164), (130, TrP, EqC 130)] [(162, Uz_opened), (128, Uz_accept), (131, Uz_isTooDeep), (125, Uz_code), (129, Uz_expect), (161, Uz_put), (164, Uz_readExp), (130, Uz_takes)] (fun As σ => Pz_readCall y As σ ∧ cnC σ ≤ 1000000 ∧ ∃ w τ, uqC quL 176 As σ w τ) (Qz_readCall y) := by
  obtain ⟨N, E, A, B, V, z, n⟩ := y
  rintro As σ ⟨⟨p1, rfl, hZ, hd, hn, hc80, hft⟩, hcn, _, _, hQ⟩ K hB hW n_
  have hH : HI0 σ ∧ TyC σ (E 0) 8 := hQ
  have hat := hZ.at0 hH
  obtain ⟨m, rfl⟩ : ∃ m, n = m + 1 := ⟨n - 1, by omega⟩
  have hft : zFt (ca2M m (eM N m) (rbM z) (accM (accM z))).1 = 0 := hft
  have hm1 : 1 ≤ m := Classical.byContradiction (fun q => by
    have e9 : m = 0 := by omega
    have h9 := hft
    unfold ca2M at h9
    rw [if_pos e9] at h9
    exact absurd ((gd_xp (c := 1) _).z h9) (raiY_z (by decide)))
  have a1 : codY (accM (accM z)).1 = 1 → ca2M m (eM N m) (rbM z) (accM (accM z)) = cleM (rbM z) [] (accM (accM z)) := fun q => by unfold ca2M; rw [if_neg (by omega), if_pos q]
  have a2 : ¬ codY (accM (accM z)).1 = 1 → ca2M m (eM N m) (rbM z) (accM (accM z)) = clpM (eM N m) (rbM z) 501 [(xnM (eM N m (accM (accM z))) : Int) - 1] (eM N m (accM (accM z))) := fun q => by unfold ca2M; rw [if_neg (by omega), if_neg q]
  have hf0 : zFt (accY (accY z.1)) = 0 := by
    by_cases q : codY (accM (accM z)).1 = 1
    · rw [a1 q] at hft
      exact (gd_xp (c := 1) _).z hft
    · rw [a2 q, lf_clp lf_e] at hft
      have h8 := (gd_clp gd_e _ _).z ((gd_xp (c := 1) _).z hft)
      rw [lf_e] at h8
      exact (gd_e _).z h8
  have hf1 : zFt (accY z.1) = 0 := (gd_acc _).z hf0
  have a3 : ¬ codY (accM (accM z)).1 = 1 → zFt (eM N m (accM (accM z))).1 = 0 := fun q => by
    rw [a2 q, lf_clp lf_e] at hft
    exact (gd_clp gd_e _ _).z ((gd_xp (c := 1) _).z hft)
  have L53 : ∀ (k : Nat) (υ : CsC) (Y : Nat → Nat) (v : ZS) (l : List Int) (lo : Nat) (i : Int32), CaR N E A B V z σ (cnC σ) υ Y v l lo → 0 ≤ i.toInt → i.toInt ≤ 501 → clpM (eM N m) (rbM z) (501 - i.toInt).toNat (l ++ [(xnM v : Int) - 1]) v = (ca2M m (eM N m) (rbM z) (accM (accM z))) → K k 53 [(0, .inr (.inr (some (E 0)))), (1, .inl p1), (2, .inr (.inr (some (cnC σ)))), (3, .inr (.inr (some lo))), (4, .inl i)] [] υ := by
    intro k
    induction k using Nat.strongRecOn with
    | _ k ih =>
      intro υ Y v l lo i hR hi0 hi1 hP
      refine hB _ _ _ _ _ (fun m51 hm51 => ?_)
      dsimp only [ucgo, ucwp, ucsC, uqC, uoC, ctC, rfd, KX7_readCall, KX7_readCall_0, KX7_readCall_26, KX7_readCall_34, KX7_readCall_53, KX7_readCall_61, KX7_readCall_69, KX7_readCall_91, lkC, s1C, s2C, dlC, kyC, Nat.beq, Nat.ble, rcd, rno, rsw, Nat.reduceAdd, Nat.reduceBEq, Nat.reduceDiv, List.drop, List.take, List.reverse, List.reverseAux, Int.toNat, Option.toList, List.append, List.cons_append, List.nil_append, zg72, zg75]
      have c52 : (Int32.ofInt 500).toInt = 500 := by decide
      refine ⟨fun h53 => ?_, fun h53 => ?_⟩
      · have g53 := ltI (x := (Int32.ofInt 500)) (y := i) h53
        have hE : cleM (rbM z) (l ++ [(xnM v : Int) - 1]) v = (ca2M m (eM N m) (rbM z) (accM (accM z))) := by rw [show (501 - i.toInt).toNat = 0 by omega] at hP; exact hP
        have hx1 : zFt (xpY 1 v.1) = 0 := by
          have h9 := hft
          rw [← hE] at h9
          exact h9
        have hx2 : zFt (accY v.1) = 0 := by rw [← (xp_nz hx1).2]; exact hx1
        refine hB _ _ _ _ _ (fun m54 hm54 => ?_)
        dsimp only [ucgo, ucwp, ucsC, uqC, uoC, ctC, rfd, KX7_readCall, KX7_readCall_0, KX7_readCall_26, KX7_readCall_34, KX7_readCall_53, KX7_readCall_61, KX7_readCall_69, KX7_readCall_91, lkC, s1C, s2C, dlC, kyC, Nat.beq, Nat.ble, rcd, rno, rsw, Nat.reduceAdd, Nat.reduceBEq, Nat.reduceDiv, List.drop, List.take, List.reverse, List.reverseAux, Int.toNat, Option.toList, List.append, List.cons_append, List.nil_append, zg72, zg75]
        have c55 : (Int32.ofInt 1).toInt = 1 := by decide
        intro w56 τ56 o56 q56
        obtain ⟨rfl, hZ56, hf56⟩ := q56 (N, E, Y, B, V, v, 1) ⟨_, rfl, hR.1.1, by omega, (show zFt (xpY 1 v.1) = 0 from hx1)⟩
        have hF56 := FzC.tr hR.1.2.1 (FzC.mo hf56 hR.2.2.2 (hR.1.2.1).2.2.1.1.1)
        have hL56 := LsX.fz hR.1.2.2 hf56
        have hle56 : cnC σ ≤ cnC τ56 := Nat.le_trans hR.2.2.2 (hf56).1
        try dsimp only [Option.toList, List.cons_append, List.nil_append, s1C, s2C, dlC, kyC, Nat.beq, lkC, rcd, rno, rsw]
        intro w57 τ57 o57 q57
        have hh57 := LsX.hd hL56
        obtain ⟨rfl, hZ57, hpo57, hnx57⟩ := q57 (N, E, Y, B, V, (xpM 1 v), (recZ 10 0 (zAt z.1) (zAt v.1) (zAt z.1) (-1) 0 (xnM z) ((l ++ [(xnM v : Int) - 1]).headD (-1)) (-1) (-1) (-1) (l ++ [(xnM v : Int) - 1]))) ⟨_, rfl, hZ56, ⟨hh57.1.1.2, hh57.1.2.1, hh57.1.2.2.1⟩, (by show zAt v.1 = zAt (xpY 1 v.1) - 1; rw [(xp_nz hx1).2, (acc_n hx2).2.2]; show _ = zAt v.1 + 1 - 1; omega), ⟨fun a ha => (List.mem_append.mp ha).elim (fun q => by have e8 : xnM (xpM 1 v) = xnM v := rfl; have := hR.2.1.2 a q; show (xnM z : Int) ≤ a ∧ _; omega) (fun q => by have e8 : xnM (xpM 1 v) = xnM v := rfl; have := List.mem_singleton.mp q; have := hR.2.2.1.2; show (xnM z : Int) ≤ a ∧ _; omega), ChC.cg (fun a ha => (hf56.2.1 _ (hR.1.1.2.2.2.1.1.2 _ ((List.mem_append.mp ha).elim (fun q => by have := hR.2.1.2 a q; omega) (fun q => by have := List.mem_singleton.mp q; have := hR.2.2.1.2; omega))).2 75 rfl).2.2) hR.2.1.1⟩⟩
        have hnx57 := hnx57.trans hh57.1.2.2.2
        have hF57 := FzC.tr hF56 (FzC.pu (x := (recZ 10 0 (zAt z.1) (zAt v.1) (zAt z.1) (-1) 0 (xnM z) ((l ++ [(xnM v : Int) - 1]).headD (-1)) (-1) (-1) (-1) (l ++ [(xnM v : Int) - 1]))) hpo57 hh57.1.1.1 hle56 (Int.le_refl _) hZ56.1.2.2.2.2.2.1.2.1)
        have hL57 := LsX.pu (x := (recZ 10 0 (zAt z.1) (zAt v.1) (zAt z.1) (-1) 0 (xnM z) ((l ++ [(xnM v : Int) - 1]).headD (-1)) (-1) (-1) (-1) (l ++ [(xnM v : Int) - 1]))) hh57.2.1 hpo57 hh57.2.2
        have hle57 : cnC σ ≤ cnC τ57 := Nat.le_trans hle56 hpo57.1
        try dsimp only [Option.toList, List.cons_append, List.nil_append, s1C, s2C, dlC, kyC, Nat.beq, lkC, rcd, rno, rsw]
        try dsimp only [Qz_readCall]
        exact ExQ.pu (hE.symm.trans rfl) hZ57 hF57 hnx57 rfl rfl (Nat.le_of_lt hR.2.2.1.2)
      · have g53 := nltI (x := (Int32.ofInt 500)) (y := i) h53
        refine hB _ _ _ _ _ (fun m58 hm58 => ?_)
        dsimp only [ucgo, ucwp, ucsC, uqC, uoC, ctC, rfd, KX7_readCall, KX7_readCall_0, KX7_readCall_26, KX7_readCall_34, KX7_readCall_53, KX7_readCall_61, KX7_readCall_69, KX7_readCall_91, lkC, s1C, s2C, dlC, kyC, Nat.beq, Nat.ble, rcd, rno, rsw, Nat.reduceAdd, Nat.reduceBEq, Nat.reduceDiv, List.drop, List.take, List.reverse, List.reverseAux, Int.toNat, Option.toList, List.append, List.cons_append, List.nil_append, zg72, zg75]
        have c59 : (Int32.ofInt 5).toInt = 5 := by decide
        intro w60 τ60 o60 q60
        have hP5 : codY v.1 = 5 → clpM (eM N m) (rbM z) (500 - i.toInt).toNat ((l ++ [(xnM v : Int) - 1]) ++ [(xnM (eM N m (accM v)) : Int) - 1]) (eM N m (accM v)) = (ca2M m (eM N m) (rbM z) (accM (accM z))) := fun q9 => by
          rw [show (501 - i.toInt).toNat = (500 - i.toInt).toNat + 1 by omega, clpM, if_pos q9] at hP
          exact hP
        have hPn : ¬ codY v.1 = 5 → cleM (rbM z) (l ++ [(xnM v : Int) - 1]) v = (ca2M m (eM N m) (rbM z) (accM (accM z))) := fun q9 => by
          rw [show (501 - i.toInt).toNat = (500 - i.toInt).toNat + 1 by omega, clpM, if_neg q9] at hP
          exact hP
        have he5 : codY v.1 = 5 → zFt (eM N m (accM v)).1 = 0 := fun q9 => by
          have h9 := hft
          rw [← hP5 q9, lf_clp lf_e] at h9
          exact (gd_clp gd_e _ _).z ((gd_xp (c := 1) _).z h9)
        have ha5 : codY v.1 = 5 → zFt (accM v).1 = 0 := fun q9 => by
          have h9 := he5 q9
          rw [lf_e] at h9
          exact (gd_e _).z h9
        obtain ⟨r60, rfl, D60⟩ : ∃ r, w60 = some (.inl r) ∧ ((r.toInt = 1 ∧ codY v.1 = 5 ∧ ZC N E Y B V τ60 (accM v) ∧ FzC (cnC υ) (xnM v) E Y Y B B V V v (accM v) υ τ60) ∨ (r.toInt = 0 ∧ ¬ codY v.1 = 5 ∧ υ = τ60)) := by
          rcases q60 (N, E, Y, B, V, v, 5) ⟨_, rfl, hR.1.1, by omega, ha5⟩ with ⟨r, h1, h2⟩ | ⟨r, h1, h2⟩
          · exact ⟨r, h1, Or.inl h2⟩
          · exact ⟨r, h1, Or.inr h2⟩
        try dsimp only [Option.toList, List.cons_append, List.nil_append, s1C, s2C, dlC, kyC, Nat.beq, lkC, rcd, rno, rsw]
        refine ⟨fun h61 => ?_, fun h61 => ?_⟩
        · have g61 := (eqI (x := r60) (y := 0) h61 : (r60 : Int32).toInt = (0 : Int32).toInt)
          have z0_ : (0 : Int32).toInt = 0 := rfl
          obtain ⟨d2, rfl⟩ : ¬ codY v.1 = 5 ∧ υ = τ60 := by
            rcases D60 with ⟨d1, -⟩ | ⟨-, d2⟩
            · exact absurd d1 (by omega)
            · exact d2
          have hE := hPn d2
          have hx1 : zFt (xpY 1 v.1) = 0 := by
            have h9 := hft
            rw [← hE] at h9
            exact h9
          have hx2 : zFt (accY v.1) = 0 := by rw [← (xp_nz hx1).2]; exact hx1
          refine hB _ _ _ _ _ (fun m62 hm62 => ?_)
          dsimp only [ucgo, ucwp, ucsC, uqC, uoC, ctC, rfd, KX7_readCall, KX7_readCall_0, KX7_readCall_26, KX7_readCall_34, KX7_readCall_53, KX7_readCall_61, KX7_readCall_69, KX7_readCall_91, lkC, s1C, s2C, dlC, kyC, Nat.beq, Nat.ble, rcd, rno, rsw, Nat.reduceAdd, Nat.reduceBEq, Nat.reduceDiv, List.drop, List.take, List.reverse, List.reverseAux, Int.toNat, Option.toList, List.append, List.cons_append, List.nil_append, zg72, zg75]
          have c63 : (Int32.ofInt 1).toInt = 1 := by decide
          intro w64 τ64 o64 q64
          obtain ⟨rfl, hZ64, hf64⟩ := q64 (N, E, Y, B, V, v, 1) ⟨_, rfl, hR.1.1, by omega, (show zFt (xpY 1 v.1) = 0 from hx1)⟩
          have hF64 := FzC.tr hR.1.2.1 (FzC.mo hf64 hR.2.2.2 (hR.1.2.1).2.2.1.1.1)
          have hL64 := LsX.fz hR.1.2.2 hf64
          have hle64 : cnC σ ≤ cnC τ64 := Nat.le_trans hR.2.2.2 (hf64).1
          try dsimp only [Option.toList, List.cons_append, List.nil_append, s1C, s2C, dlC, kyC, Nat.beq, lkC, rcd, rno, rsw]
          intro w65 τ65 o65 q65
          have hh65 := LsX.hd hL64
          obtain ⟨rfl, hZ65, hpo65, hnx65⟩ := q65 (N, E, Y, B, V, (xpM 1 v), (recZ 10 0 (zAt z.1) (zAt v.1) (zAt z.1) (-1) 0 (xnM z) ((l ++ [(xnM v : Int) - 1]).headD (-1)) (-1) (-1) (-1) (l ++ [(xnM v : Int) - 1]))) ⟨_, rfl, hZ64, ⟨hh65.1.1.2, hh65.1.2.1, hh65.1.2.2.1⟩, (by show zAt v.1 = zAt (xpY 1 v.1) - 1; rw [(xp_nz hx1).2, (acc_n hx2).2.2]; show _ = zAt v.1 + 1 - 1; omega), ⟨fun a ha => (List.mem_append.mp ha).elim (fun q => by have e8 : xnM (xpM 1 v) = xnM v := rfl; have := hR.2.1.2 a q; show (xnM z : Int) ≤ a ∧ _; omega) (fun q => by have e8 : xnM (xpM 1 v) = xnM v := rfl; have := List.mem_singleton.mp q; have := hR.2.2.1.2; show (xnM z : Int) ≤ a ∧ _; omega), ChC.cg (fun a ha => (hf64.2.1 _ (hR.1.1.2.2.2.1.1.2 _ ((List.mem_append.mp ha).elim (fun q => by have := hR.2.1.2 a q; omega) (fun q => by have := List.mem_singleton.mp q; have := hR.2.2.1.2; omega))).2 75 rfl).2.2) hR.2.1.1⟩⟩
          have hnx65 := hnx65.trans hh65.1.2.2.2
          have hF65 := FzC.tr hF64 (FzC.pu (x := (recZ 10 0 (zAt z.1) (zAt v.1) (zAt z.1) (-1) 0 (xnM z) ((l ++ [(xnM v : Int) - 1]).headD (-1)) (-1) (-1) (-1) (l ++ [(xnM v : Int) - 1]))) hpo65 hh65.1.1.1 hle64 (Int.le_refl _) hZ64.1.2.2.2.2.2.1.2.1)
          have hL65 := LsX.pu (x := (recZ 10 0 (zAt z.1) (zAt v.1) (zAt z.1) (-1) 0 (xnM z) ((l ++ [(xnM v : Int) - 1]).headD (-1)) (-1) (-1) (-1) (l ++ [(xnM v : Int) - 1]))) hh65.2.1 hpo65 hh65.2.2
          have hle65 : cnC σ ≤ cnC τ65 := Nat.le_trans hle64 hpo65.1
          try dsimp only [Option.toList, List.cons_append, List.nil_append, s1C, s2C, dlC, kyC, Nat.beq, lkC, rcd, rno, rsw]
          try dsimp only [Qz_readCall]
          exact ExQ.pu (hE.symm.trans rfl) hZ65 hF65 hnx65 rfl rfl (Nat.le_of_lt hR.2.2.1.2)
        · have g61 := (neI (x := r60) (y := 0) h61 : ¬ (r60 : Int32).toInt = (0 : Int32).toInt)
          have z0_ : (0 : Int32).toInt = 0 := rfl
          obtain ⟨d2, hZ60, hf60⟩ : codY v.1 = 5 ∧ ZC N E Y B V τ60 (accM v) ∧ FzC (cnC υ) (xnM v) E Y Y B B V V v (accM v) υ τ60 := by
            rcases D60 with ⟨-, d2⟩ | ⟨d1, -⟩
            · exact d2
            · exact absurd d1 (by omega)
          have hF60 := FzC.tr hR.1.2.1 (FzC.mo hf60 hR.2.2.2 (hR.1.2.1).2.2.1.1.1)
          have hL60 := LsX.fz hR.1.2.2 hf60
          have hle60 : cnC σ ≤ cnC τ60 := Nat.le_trans hR.2.2.2 (hf60).1
          refine hB _ _ _ _ _ (fun m66 hm66 => ?_)
          dsimp only [ucgo, ucwp, ucsC, uqC, uoC, ctC, rfd, KX7_readCall, KX7_readCall_0, KX7_readCall_26, KX7_readCall_34, KX7_readCall_53, KX7_readCall_61, KX7_readCall_69, KX7_readCall_91, lkC, s1C, s2C, dlC, kyC, Nat.beq, Nat.ble, rcd, rno, rsw, Nat.reduceAdd, Nat.reduceBEq, Nat.reduceDiv, List.drop, List.take, List.reverse, List.reverseAux, Int.toNat, Option.toList, List.append, List.cons_append, List.nil_append, zg72, zg75]
          have c67 : (Int32.ofInt 1).toInt = 1 := by decide
          have u68 := tiC p1
          have a68 : (p1 + (Int32.ofInt 1)).toInt = p1.toInt + 1 := addC (by omega) (by omega) (by omega)
          intro w69 τ69 o69 q69
          obtain ⟨A69, rfl, hZ69, hf69, ht69, hx69⟩ : ExQ N E Y B V (accM v) (eM N m (accM v)) τ60 w69 τ69 := q69 (N, E, Y, B, V, (accM v), m) ⟨_, rfl, hZ60, by omega, (he5 d2)⟩
          have hF69 := FzC.tr hF60 (FzC.mo hf69 hle60 (hF60).2.2.1.1.1)
          have hL69 := LsX.fz hL60 hf69
          have hle69 : cnC σ ≤ cnC τ69 := Nat.le_trans hle60 (hf69).1
          try dsimp only [Option.toList, List.cons_append, List.nil_append, s1C, s2C, dlC, kyC, Nat.beq, lkC, rcd, rno, rsw]
          intro a70 e70 ob70 fk70
          cases e70
          clear fk70 ob70
          generalize hs70 : pRC τ69 lo 75 (some (A69 (xnM (eM N m (accM v)) - 1))) = s70
          have hR70 : CaR N E A B V z σ (cnC σ) s70 A69 (eM N m (accM v)) (l ++ [(xnM v : Int) - 1]) (A69 (xnM (eM N m (accM v)) - 1)) := by
            rw [← hs70]
            exact CaR.nx hR hf60 hZ69 hf69 ht69 hx69
          intro a71 e71 ob71
          cases e71
          have f72 : (fRC s70 lo 75) = some (A69 (xnM (eM N m (accM v)) - 1)) := by rw [← hs70]; exact pR_e
          rw [f72]
          have c73 : (Int32.ofInt 1).toInt = 1 := by decide
          have u74 := tiC i
          have a74 : (i + (Int32.ofInt 1)).toInt = i.toInt + 1 := addC (by omega) (by omega) (by omega)
          exact hW _ 53 [(0, .inr (.inr (some (E 0)))), (1, .inl p1), (2, .inr (.inr (some (cnC σ)))), (3, .inr (.inr (some (A69 (xnM (eM N m (accM v)) - 1))))), (4, .inl (i + (Int32.ofInt 1)))] _ _ _ (List.forall_mem_cons.2 ⟨List.Mem.tail _ (List.Mem.tail _ (List.Mem.head _)), List.forall_mem_cons.2 ⟨List.Mem.tail _ (List.Mem.tail _ (List.Mem.tail _ (List.Mem.head _))), List.forall_mem_cons.2 ⟨List.Mem.tail _ (List.Mem.tail _ (List.Mem.tail _ (List.Mem.tail _ (List.Mem.head _)))), List.forall_mem_cons.2 ⟨List.Mem.tail _ (List.Mem.head _), List.forall_mem_cons.2 ⟨List.Mem.head _, fun _ h => absurd h List.not_mem_nil⟩⟩⟩⟩⟩) (ih _ (by omega) _ _ _ _ _ _ hR70 (by omega) (by omega) (by rw [show (501 - (i + (Int32.ofInt 1)).toInt).toNat = (500 - i.toInt).toNat by omega]; exact hP5 d2))
  change K n_ 0 [(0, .inr (.inr (some (E 0)))), (1, .inl p1)] [] σ
  refine hB _ _ _ _ _ (fun m51 hm51 => ?_)
  dsimp only [ucgo, ucwp, ucsC, uqC, uoC, ctC, rfd, KX7_readCall, KX7_readCall_0, KX7_readCall_26, KX7_readCall_34, KX7_readCall_53, KX7_readCall_61, KX7_readCall_69, KX7_readCall_91, lkC, s1C, s2C, dlC, kyC, Nat.beq, Nat.ble, rcd, rno, rsw, Nat.reduceAdd, Nat.reduceBEq, Nat.reduceDiv, List.drop, List.take, List.reverse, List.reverseAux, Int.toNat, Option.toList, List.append, List.cons_append, List.nil_append, zg72, zg75]
  have c52 : (Int32.ofInt 10).toInt = 10 := by decide
  have c53 : (Int32.ofInt 0).toInt = 0 := by decide
  intro w54 τ54 o54 q54
  obtain ⟨rfl, hZ54, hf54, hnw54⟩ := q54 (N, E, A, B, V, z, 10, 0) ⟨_, _, rfl, hZ, by omega, by omega⟩
  have hF54 := FzC.tr (FzC.rf (n := cnC σ) (m := xnM z) (E := E) (A := A) (B := B) (V := V) (z := z) (σ := σ)) (FzC.mo hf54 (Nat.le_refl (cnC σ)) ((FzC.rf (n := cnC σ) (m := xnM z) (E := E) (A := A) (B := B) (V := V) (z := z) (σ := σ))).2.2.1.1.1)
  have hL54 := LsX.fz (LsX.nil (N := N) (A := A) (n0 := cnC σ) (σ := σ) (z := z)) hf54
  have hle54 : cnC σ ≤ cnC τ54 := Nat.le_trans (Nat.le_refl (cnC σ)) (hf54).1
  have hLn54 : LsX N A (cnC σ) τ54 z [((cnC σ), (recZ 10 0 (zAt z.1) 0 (zAt z.1) (-1) 0 (xnM z) (-1) (-1) (-1) (-1) []), none)] := LsX.nw hL54 (fun q hq => ((LsX.nil (N := N) (A := A) (n0 := cnC σ) (σ := σ) (z := z)).1 q hq).1.2.1) hnw54 (Nat.le_refl (cnC σ)) opX_o (by show ¬ ((10 : Int) = 0 ∨ (10 : Int) = 1); omega) (fun i hi => (hZ.2.2.2.1.1.2 i hi).2)
  try dsimp only [Option.toList, List.cons_append, List.nil_append, s1C, s2C, dlC, kyC, Nat.beq, lkC, rcd, rno, rsw]
  intro w55 τ55 o55 q55
  obtain ⟨rfl, hZ55, hf55⟩ := q55 (N, E, A, B, V, z) ⟨rfl, hZ54, (show zFt (accY z.1) = 0 from hf1)⟩
  have hF55 := FzC.tr hF54 (FzC.mo hf55 hle54 (hF54).2.2.1.1.1)
  have hL55 := LsX.fz hLn54 hf55
  have hle55 : cnC σ ≤ cnC τ55 := Nat.le_trans hle54 (hf55).1
  try dsimp only [Option.toList, List.cons_append, List.nil_append, s1C, s2C, dlC, kyC, Nat.beq, lkC, rcd, rno, rsw]
  intro w56 τ56 o56 q56
  obtain ⟨rfl, hZ56, hf56⟩ := q56 (N, E, A, B, V, (accM z)) ⟨rfl, hZ55, (show zFt (accY (accY z.1)) = 0 from hf0)⟩
  have hF56 := FzC.tr hF55 (FzC.mo hf56 hle55 (hF55).2.2.1.1.1)
  have hL56 := LsX.fz hL55 hf56
  have hle56 : cnC σ ≤ cnC τ56 := Nat.le_trans hle55 (hf56).1
  try dsimp only [Option.toList, List.cons_append, List.nil_append, s1C, s2C, dlC, kyC, Nat.beq, lkC, rcd, rno, rsw]
  have c57 : (Int32.ofInt 1).toInt = 1 := by decide
  have u58 := tiC p1
  have a58 : (p1 + (Int32.ofInt 1)).toInt = p1.toInt + 1 := addC (by omega) (by omega) (by omega)
  intro w59 τ59 o59 q59
  obtain ⟨r59, rfl, hr59, rfl⟩ := q59 (N, E, A, B, V, (accM (accM z))) ⟨_, rfl, hZ56, by omega⟩
  try dsimp only [Option.toList, List.cons_append, List.nil_append, s1C, s2C, dlC, kyC, Nat.beq, lkC, rcd, rno, rsw]
  refine ⟨fun h60 => ?_, fun h60 => ?_⟩
  · have g60 := (neI (x := r59) (y := 0) h60 : ¬ (r59 : Int32).toInt = (0 : Int32).toInt)
    have z0_ : (0 : Int32).toInt = 0 := rfl
    exfalso
    omega
  · have g60 := (eqI (x := r59) (y := 0) h60 : (r59 : Int32).toInt = (0 : Int32).toInt)
    have z0_ : (0 : Int32).toInt = 0 := rfl
    refine hB _ _ _ _ _ (fun m61 hm61 => ?_)
    dsimp only [ucgo, ucwp, ucsC, uqC, uoC, ctC, rfd, KX7_readCall, KX7_readCall_0, KX7_readCall_26, KX7_readCall_34, KX7_readCall_53, KX7_readCall_61, KX7_readCall_69, KX7_readCall_91, lkC, s1C, s2C, dlC, kyC, Nat.beq, Nat.ble, rcd, rno, rsw, Nat.reduceAdd, Nat.reduceBEq, Nat.reduceDiv, List.drop, List.take, List.reverse, List.reverseAux, Int.toNat, Option.toList, List.append, List.cons_append, List.nil_append, zg72, zg75]
    intro w62 τ62 o62 q62
    obtain ⟨c62, rfl, hc62, rfl⟩ := q62 (N, E, A, B, V, (accM (accM z))) ⟨rfl, hZ56⟩
    try dsimp only [Option.toList, List.cons_append, List.nil_append, s1C, s2C, dlC, kyC, Nat.beq, lkC, rcd, rno, rsw]
    have c63 : (Int32.ofInt 1).toInt = 1 := by decide
    refine ⟨fun h64 => ?_, fun h64 => ?_⟩
    · have g64 := (eqI (x := c62) (y := (Int32.ofInt 1)) h64 : (c62 : Int32).toInt = ((Int32.ofInt 1) : Int32).toInt)
      have hE : cleM (rbM z) [] (accM (accM z)) = (ca2M m (eM N m) (rbM z) (accM (accM z))) := (a1 (by omega)).symm
      have hx1 : zFt (xpY 1 (accM (accM z)).1) = 0 := by
        have h9 := hft
        rw [← hE] at h9
        exact h9
      have hx2 : zFt (accY (accM (accM z)).1) = 0 := by rw [← (xp_nz hx1).2]; exact hx1
      refine hB _ _ _ _ _ (fun m65 hm65 => ?_)
      dsimp only [ucgo, ucwp, ucsC, uqC, uoC, ctC, rfd, KX7_readCall, KX7_readCall_0, KX7_readCall_26, KX7_readCall_34, KX7_readCall_53, KX7_readCall_61, KX7_readCall_69, KX7_readCall_91, lkC, s1C, s2C, dlC, kyC, Nat.beq, Nat.ble, rcd, rno, rsw, Nat.reduceAdd, Nat.reduceBEq, Nat.reduceDiv, List.drop, List.take, List.reverse, List.reverseAux, Int.toNat, Option.toList, List.append, List.cons_append, List.nil_append, zg72, zg75]
      have c66 : (Int32.ofInt 1).toInt = 1 := by decide
      intro w67 τ67 o67 q67
      obtain ⟨rfl, hZ67, hf67⟩ := q67 (N, E, A, B, V, (accM (accM z)), 1) ⟨_, rfl, hZ56, by omega, (show zFt (xpY 1 (accM (accM z)).1) = 0 from hx1)⟩
      have hF67 := FzC.tr hF56 (FzC.mo hf67 hle56 (hF56).2.2.1.1.1)
      have hL67 := LsX.fz hL56 hf67
      have hle67 : cnC σ ≤ cnC τ67 := Nat.le_trans hle56 (hf67).1
      try dsimp only [Option.toList, List.cons_append, List.nil_append, s1C, s2C, dlC, kyC, Nat.beq, lkC, rcd, rno, rsw]
      intro w68 τ68 o68 q68
      have hh68 := LsX.hd hL67
      obtain ⟨rfl, hZ68, hpo68, hnx68⟩ := q68 (N, E, A, B, V, (xpM 1 (accM (accM z))), (recZ 10 0 (zAt z.1) (zAt (accM (accM z)).1) (zAt z.1) (-1) 0 (xnM z) (-1) (-1) (-1) (-1) [])) ⟨_, rfl, hZ67, ⟨hh68.1.1.2, hh68.1.2.1, hh68.1.2.2.1⟩, (by show zAt (accM (accM z)).1 = zAt (xpY 1 (accM (accM z)).1) - 1; rw [(xp_nz hx1).2, (acc_n hx2).2.2]; show _ = zAt (accM (accM z)).1 + 1 - 1; omega), ⟨fun a ha => absurd ha List.not_mem_nil, trivial⟩⟩
      have hnx68 := hnx68.trans hh68.1.2.2.2
      have hF68 := FzC.tr hF67 (FzC.pu (x := (recZ 10 0 (zAt z.1) (zAt (accM (accM z)).1) (zAt z.1) (-1) 0 (xnM z) (-1) (-1) (-1) (-1) [])) hpo68 hh68.1.1.1 hle67 (Int.le_refl _) hZ67.1.2.2.2.2.2.1.2.1)
      have hL68 := LsX.pu (x := (recZ 10 0 (zAt z.1) (zAt (accM (accM z)).1) (zAt z.1) (-1) 0 (xnM z) (-1) (-1) (-1) (-1) [])) hh68.2.1 hpo68 hh68.2.2
      have hle68 : cnC σ ≤ cnC τ68 := Nat.le_trans hle67 hpo68.1
      try dsimp only [Option.toList, List.cons_append, List.nil_append, s1C, s2C, dlC, kyC, Nat.beq, lkC, rcd, rno, rsw]
      try dsimp only [Qz_readCall]
      exact ExQ.pu (hE.symm.trans rfl) hZ68 hF68 hnx68 rfl rfl (Nat.le_refl _)
    · have g64 := (neI (x := c62) (y := (Int32.ofInt 1)) h64 : ¬ (c62 : Int32).toInt = ((Int32.ofInt 1) : Int32).toInt)
      refine hB _ _ _ _ _ (fun m69 hm69 => ?_)
      dsimp only [ucgo, ucwp, ucsC, uqC, uoC, ctC, rfd, KX7_readCall, KX7_readCall_0, KX7_readCall_26, KX7_readCall_34, KX7_readCall_53, KX7_readCall_61, KX7_readCall_69, KX7_readCall_91, lkC, s1C, s2C, dlC, kyC, Nat.beq, Nat.ble, rcd, rno, rsw, Nat.reduceAdd, Nat.reduceBEq, Nat.reduceDiv, List.drop, List.take, List.reverse, List.reverseAux, Int.toNat, Option.toList, List.append, List.cons_append, List.nil_append, zg72, zg75]
      have c70 : (Int32.ofInt 1).toInt = 1 := by decide
      have u71 := tiC p1
      have a71 : (p1 + (Int32.ofInt 1)).toInt = p1.toInt + 1 := addC (by omega) (by omega) (by omega)
      intro w72 τ72 o72 q72
      obtain ⟨A72, rfl, hZ72, hf72, ht72, hx72⟩ : ExQ N E A B V (accM (accM z)) (eM N m (accM (accM z))) τ56 w72 τ72 := q72 (N, E, A, B, V, (accM (accM z)), m) ⟨_, rfl, hZ56, by omega, (a3 (by omega))⟩
      have hF72 := FzC.tr hF56 (FzC.mo hf72 hle56 (hF56).2.2.1.1.1)
      have hL72 := LsX.fz hL56 hf72
      have hle72 : cnC σ ≤ cnC τ72 := Nat.le_trans hle56 (hf72).1
      try dsimp only [Option.toList, List.cons_append, List.nil_append, s1C, s2C, dlC, kyC, Nat.beq, lkC, rcd, rno, rsw]
      intro a73 e73 ob73 fk73
      cases e73
      clear fk73 ob73
      generalize hs73 : pRC τ72 (cnC σ) 72 (some (A72 (xnM (eM N m (accM (accM z))) - 1))) = s73
      have hx73 : XfE τ72 s73 := by rw [← hs73]; exact XfE.pR (by decide)
      have hra73 : ∀ a, a ≠ (cnC σ) → ∀ k, fIC s73 a k = fIC τ72 a k ∧ fLC s73 a k = fLC τ72 a k ∧ fRC s73 a k = fRC τ72 a k := by rw [← hs73]; exact rR_a
      have hZ73 := ZC.lo hZ72 hL72 hx73 hra73
      have hF73 := FzC.tr hF72 (FzC.lo (n := cnC σ) (m := xnM z) (E := E) (B := B) (V := V) hL72 (Nat.le_refl _) hx73 hra73)
      have hL73 : LsX N A72 (cnC σ) s73 (eM N m (accM (accM z))) [((cnC σ), (recZ 10 0 (zAt z.1) 0 (zAt z.1) (-1) 0 (xnM z) ((xnM (eM N m (accM (accM z))) : Int) - 1) (-1) (-1) (-1) []), none)] := by rw [← hs73]; exact LsX.s72 hL72 (opA_p (by omega)).symm (by omega)
      have hle73 : cnC σ ≤ cnC s73 := by rw [hx73.2.2]; exact hle72
      intro a74 e74 ob74
      cases e74
      have f75 : (fRC s73 (cnC σ) 72) = some (A72 (xnM (eM N m (accM (accM z))) - 1)) := (LsX.hd hL73).1.2.1.2.2.1.trans (opA_p (by omega))
      rw [f75]
      have c76 : (Int32.ofInt 0).toInt = 0 := by decide
      exact hW _ 53 [(0, .inr (.inr (some (E 0)))), (1, .inl p1), (2, .inr (.inr (some (cnC σ)))), (3, .inr (.inr (some (A72 (xnM (eM N m (accM (accM z))) - 1))))), (4, .inl (Int32.ofInt 0))] _ _ _ (List.forall_mem_cons.2 ⟨List.Mem.tail _ (List.Mem.tail _ (List.Mem.tail _ (List.Mem.head _))), List.forall_mem_cons.2 ⟨List.Mem.tail _ (List.Mem.tail _ (List.Mem.tail _ (List.Mem.tail _ (List.Mem.head _)))), List.forall_mem_cons.2 ⟨List.Mem.tail _ (List.Mem.tail _ (List.Mem.head _)), List.forall_mem_cons.2 ⟨List.Mem.tail _ (List.Mem.head _), List.forall_mem_cons.2 ⟨List.Mem.head _, fun _ h => absurd h List.not_mem_nil⟩⟩⟩⟩⟩) (L53 _ _ _ _ [] _ _ ⟨⟨hZ73, hF73, hL73⟩, ⟨⟨by rw [show ((xnM (eM N m (accM (accM z))) : Int) - 1).toNat = xnM (eM N m (accM (accM z))) - 1 by omega, ← hs73]; exact (pR_k (show (75 : Nat) ≠ 72 by decide)).trans ht72.2.2, trivial⟩, fun a ha => absurd ha List.not_mem_nil⟩, ⟨rfl, hx72⟩, hle73⟩ (by omega) (by omega) (by rw [show (501 - (Int32.ofInt 0).toInt).toNat = 501 by omega]; exact (a2 (by omega)).symm))
theorem recX : ∀ L : Nat, (∀ (As : List AvC) (σ : CsC) (w : Option AvC) (τ : CsC), EvF L 164 As σ w τ → Uz_readExp As σ w τ) ∧ (∀ (As : List AvC) (σ : CsC) (w : Option AvC) (τ : CsC), EvF L 166 As σ w τ → Uz_readChoice As σ w τ) ∧ (∀ (As : List AvC) (σ : CsC) (w : Option AvC) (τ : CsC), EvF L 165 As σ w τ → Uz_readAssignment As σ w τ) ∧ (∀ (As : List AvC) (σ : CsC) (w : Option AvC) (τ : CsC), EvF L 167 As σ w τ → Uz_readChain As σ w τ) ∧ (∀ (As : List AvC) (σ : CsC) (w : Option AvC) (τ : CsC), EvF L 170 As σ w τ → Uz_readOperand As σ w τ) ∧ (∀ (As : List AvC) (σ : CsC) (w : Option AvC) (τ : CsC), EvF L 171 As σ w τ → Uz_readInnerOperand As σ w τ) ∧ (∀ (As : List AvC) (σ : CsC) (w : Option AvC) (τ : CsC), EvF L 172 As σ w τ → Uz_readAlone As σ w τ) ∧ (∀ (As : List AvC) (σ : CsC) (w : Option AvC) (τ : CsC), EvF L 174 As σ w τ → Uz_readBehindOpen As σ w τ) ∧ (∀ (As : List AvC) (σ : CsC) (w : Option AvC) (τ : CsC), EvF L 175 As σ w τ → Uz_readName As σ w τ) ∧ (∀ (As : List AvC) (σ : CsC) (w : Option AvC) (τ : CsC), EvF L 176 As σ w τ → Uz_readCall As σ w τ) := by
  intro L
  induction L with
  | zero => exact ⟨fun _ _ _ _ h => h.elim, fun _ _ _ _ h => h.elim, fun _ _ _ _ h => h.elim, fun _ _ _ _ h => h.elim, fun _ _ _ _ h => h.elim, fun _ _ _ _ h => h.elim, fun _ _ _ _ h => h.elim, fun _ _ _ _ h => h.elim, fun _ _ _ _ h => h.elim, fun _ _ _ _ h => h.elim⟩
  | succ L ih =>
    obtain ⟨i_readExp, i_readChoice, i_readAssignment, i_readChain, i_readOperand, i_readInnerOperand, i_readAlone, i_readBehindOpen, i_readName, i_readCall⟩ := ih
    exact ⟨fun As σ w τ h y hy => EvF.us (cs := [131, 125, 166, 126, 133, 165, 162]) (pz_readExp y) rfl (List.forall_mem_cons.2 ⟨wz_isTooDeep L, List.forall_mem_cons.2 ⟨wz_code L, List.forall_mem_cons.2 ⟨i_readChoice, List.forall_mem_cons.2 ⟨wz_codeBehind L, List.forall_mem_cons.2 ⟨wz_isAssign L, List.forall_mem_cons.2 ⟨i_readAssignment, List.forall_mem_cons.2 ⟨wz_opened L, fun _ h => absurd h List.not_mem_nil⟩⟩⟩⟩⟩⟩⟩) h hy, fun As σ w τ h y hy => EvF.us (cs := [234, 167, 125, 17, 163, 128, 164, 129, 131, 166, 161, 162]) (pz_readChoice y) rfl (List.forall_mem_cons.2 ⟨fun _ _ _ _ _ => trivial, List.forall_mem_cons.2 ⟨i_readChain, List.forall_mem_cons.2 ⟨wz_code L, List.forall_mem_cons.2 ⟨wz_Exp L, List.forall_mem_cons.2 ⟨wz_putMark L, List.forall_mem_cons.2 ⟨wz_accept L, List.forall_mem_cons.2 ⟨i_readExp, List.forall_mem_cons.2 ⟨wz_expect L, List.forall_mem_cons.2 ⟨wz_isTooDeep L, List.forall_mem_cons.2 ⟨i_readChoice, List.forall_mem_cons.2 ⟨wz_put L, List.forall_mem_cons.2 ⟨wz_opened L, fun _ h => absurd h List.not_mem_nil⟩⟩⟩⟩⟩⟩⟩⟩⟩⟩⟩⟩) h hy, fun As σ w τ h y hy => EvF.us (cs := [126, 226, 162, 140, 128, 164, 161, 163]) (pz_readAssignment y) rfl (List.forall_mem_cons.2 ⟨wz_codeBehind L, List.forall_mem_cons.2 ⟨wz_operatorOf L, List.forall_mem_cons.2 ⟨wz_opened L, List.forall_mem_cons.2 ⟨wz_meant L, List.forall_mem_cons.2 ⟨wz_accept L, List.forall_mem_cons.2 ⟨i_readExp, List.forall_mem_cons.2 ⟨wz_put L, List.forall_mem_cons.2 ⟨wz_putMark L, fun _ h => absurd h List.not_mem_nil⟩⟩⟩⟩⟩⟩⟩⟩) h hy, fun As σ w τ h y hy => EvF.us (cs := [170, 125, 225, 168, 128, 169]) (pz_readChain y) rfl (List.forall_mem_cons.2 ⟨i_readOperand, List.forall_mem_cons.2 ⟨wz_code L, List.forall_mem_cons.2 ⟨wz_strength L, List.forall_mem_cons.2 ⟨wz_waitingFor L, List.forall_mem_cons.2 ⟨wz_accept L, List.forall_mem_cons.2 ⟨wz_closed L, fun _ h => absurd h List.not_mem_nil⟩⟩⟩⟩⟩⟩) h hy, fun As σ w τ h y hy => EvF.us (cs := [125, 174, 172, 173, 177, 175, 127, 162]) (pz_readOperand y) rfl (List.forall_mem_cons.2 ⟨wz_code L, List.forall_mem_cons.2 ⟨i_readBehindOpen, List.forall_mem_cons.2 ⟨i_readAlone, List.forall_mem_cons.2 ⟨wz_readCountAhead L, List.forall_mem_cons.2 ⟨wz_readLiteral L, List.forall_mem_cons.2 ⟨i_readName, List.forall_mem_cons.2 ⟨fun _ _ _ _ _ => trivial, List.forall_mem_cons.2 ⟨wz_opened L, fun _ h => absurd h List.not_mem_nil⟩⟩⟩⟩⟩⟩⟩⟩) h hy, fun As σ w τ h y hy => EvF.us (cs := [131, 170, 162]) (pz_readInnerOperand y) rfl (List.forall_mem_cons.2 ⟨wz_isTooDeep L, List.forall_mem_cons.2 ⟨i_readOperand, List.forall_mem_cons.2 ⟨wz_opened L, fun _ h => absurd h List.not_mem_nil⟩⟩⟩) h hy, fun As σ w τ h y hy => EvF.us (cs := [125, 162, 128, 171, 161]) (pz_readAlone y) rfl (List.forall_mem_cons.2 ⟨wz_code L, List.forall_mem_cons.2 ⟨wz_opened L, List.forall_mem_cons.2 ⟨wz_accept L, List.forall_mem_cons.2 ⟨i_readInnerOperand, List.forall_mem_cons.2 ⟨wz_put L, fun _ h => absurd h List.not_mem_nil⟩⟩⟩⟩⟩) h hy, fun As σ w τ h y hy => EvF.us (cs := [234, 128, 125, 132, 17, 164, 129, 161, 136, 171]) (pz_readBehindOpen y) rfl (List.forall_mem_cons.2 ⟨fun _ _ _ _ _ => trivial, List.forall_mem_cons.2 ⟨wz_accept L, List.forall_mem_cons.2 ⟨wz_code L, List.forall_mem_cons.2 ⟨wz_isType L, List.forall_mem_cons.2 ⟨wz_Exp L, List.forall_mem_cons.2 ⟨i_readExp, List.forall_mem_cons.2 ⟨wz_expect L, List.forall_mem_cons.2 ⟨wz_put L, List.forall_mem_cons.2 ⟨wz_readType L, List.forall_mem_cons.2 ⟨i_readInnerOperand, fun _ h => absurd h List.not_mem_nil⟩⟩⟩⟩⟩⟩⟩⟩⟩⟩) h hy, fun As σ w τ h y hy => EvF.us (cs := [126, 162, 140, 128, 161, 176]) (pz_readName y) rfl (List.forall_mem_cons.2 ⟨wz_codeBehind L, List.forall_mem_cons.2 ⟨wz_opened L, List.forall_mem_cons.2 ⟨wz_meant L, List.forall_mem_cons.2 ⟨wz_accept L, List.forall_mem_cons.2 ⟨wz_put L, List.forall_mem_cons.2 ⟨i_readCall, fun _ h => absurd h List.not_mem_nil⟩⟩⟩⟩⟩⟩) h hy, fun As σ w τ h y hy => EvF.us (cs := [162, 128, 131, 125, 129, 161, 164, 130]) (pz_readCall y) rfl (List.forall_mem_cons.2 ⟨wz_opened L, List.forall_mem_cons.2 ⟨wz_accept L, List.forall_mem_cons.2 ⟨wz_isTooDeep L, List.forall_mem_cons.2 ⟨wz_code L, List.forall_mem_cons.2 ⟨wz_expect L, List.forall_mem_cons.2 ⟨wz_put L, List.forall_mem_cons.2 ⟨i_readExp, List.forall_mem_cons.2 ⟨wz_takes L, fun _ h => absurd h List.not_mem_nil⟩⟩⟩⟩⟩⟩⟩⟩) h hy⟩
theorem wz_readExp (L : Nat) : ∀ (As : List AvC) (σ : CsC) (w : Option AvC) (τ : CsC), EvF L 164 As σ w τ → Uz_readExp As σ w τ := (recX L).1
theorem wz_readChoice (L : Nat) : ∀ (As : List AvC) (σ : CsC) (w : Option AvC) (τ : CsC), EvF L 166 As σ w τ → Uz_readChoice As σ w τ := (recX L).2.1
theorem wz_readAssignment (L : Nat) : ∀ (As : List AvC) (σ : CsC) (w : Option AvC) (τ : CsC), EvF L 165 As σ w τ → Uz_readAssignment As σ w τ := (recX L).2.2.1
theorem wz_readChain (L : Nat) : ∀ (As : List AvC) (σ : CsC) (w : Option AvC) (τ : CsC), EvF L 167 As σ w τ → Uz_readChain As σ w τ := (recX L).2.2.2.1
theorem wz_readOperand (L : Nat) : ∀ (As : List AvC) (σ : CsC) (w : Option AvC) (τ : CsC), EvF L 170 As σ w τ → Uz_readOperand As σ w τ := (recX L).2.2.2.2.1
theorem wz_readInnerOperand (L : Nat) : ∀ (As : List AvC) (σ : CsC) (w : Option AvC) (τ : CsC), EvF L 171 As σ w τ → Uz_readInnerOperand As σ w τ := (recX L).2.2.2.2.2.1
theorem wz_readAlone (L : Nat) : ∀ (As : List AvC) (σ : CsC) (w : Option AvC) (τ : CsC), EvF L 172 As σ w τ → Uz_readAlone As σ w τ := (recX L).2.2.2.2.2.2.1
theorem wz_readBehindOpen (L : Nat) : ∀ (As : List AvC) (σ : CsC) (w : Option AvC) (τ : CsC), EvF L 174 As σ w τ → Uz_readBehindOpen As σ w τ := (recX L).2.2.2.2.2.2.2.1
theorem wz_readName (L : Nat) : ∀ (As : List AvC) (σ : CsC) (w : Option AvC) (τ : CsC), EvF L 175 As σ w τ → Uz_readName As σ w τ := (recX L).2.2.2.2.2.2.2.2.1
theorem wz_readCall (L : Nat) : ∀ (As : List AvC) (σ : CsC) (w : Option AvC) (τ : CsC), EvF L 176 As σ w τ → Uz_readCall As σ w τ := (recX L).2.2.2.2.2.2.2.2.2
