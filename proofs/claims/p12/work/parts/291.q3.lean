/-! the class's reader: exps made and put -/
/-- an exp is new -/
def InX (p0 : Nat) (k sg f st : Int32) (σ τ : CsC) : Prop := (∀ a j, a ≠ p0 → fIC τ a j = fIC σ a j) ∧ (fLC τ = fLC σ ∧ fRC τ = fRC σ) ∧ (eIC τ = eIC σ ∧ eLC τ = eLC σ ∧ eRC τ = eRC σ) ∧ cnC τ = cnC σ ∧ (fIC τ p0 60 = k ∧ fIC τ p0 61 = sg ∧ fIC τ p0 62 = f ∧ fIC τ p0 63 = st ∧ fIC τ p0 66 = f ∧ (fIC τ p0 67).toInt = -1 ∧ (fIC τ p0 68).toInt = -1) ∧ ∀ j, ¬ (60 ≤ j ∧ j ≤ 63) → ¬ (66 ≤ j ∧ j ≤ 68) → fIC τ p0 j = fIC σ p0 j
/-- an exp as it is made -/
def ofX (k sg f st : Int) : XrZ := recZ k sg f 0 f (-1) 0 st (-1) (-1) (-1) (-1) []
def opX (k sg : Int) (z : ZS) : XrZ := ofX k sg (zAt z.1) (xnM z)
/-- a new exp, in no list -/
def NwX (A : Nat → Nat) (x : XrZ) (σ τ : CsC) (o : Nat) : Prop := (o = cnC σ ∧ cnC τ = cnC σ + 1) ∧ XbC A τ x o ∧ ((fIC τ o 68).toInt = -1 ∧ (fIC τ o 70).toInt = 0 ∧ (fLC τ o 71).toInt = 0) ∧ fRC τ o 75 = none
theorem nO_v {σ : CsC} {t M g k : Nat} : fIC (nOC σ t M g) (cnC σ) k = 0 ∧ fLC (nOC σ t M g) (cnC σ) k = 0 ∧ fRC (nOC σ t M g) (cnC σ) k = none := by
  refine ⟨?_, ?_, ?_⟩
  · show u1C σ.2.2.1.1 (cnC σ) (fun _ => 0) (cnC σ) k = 0
    rw [u1C_eq]
  · show u1C σ.2.2.1.2.1 (cnC σ) (fun _ => 0) (cnC σ) k = 0
    rw [u1C_eq]
  · show u1C σ.2.2.1.2.2 (cnC σ) (fun _ => none) (cnC σ) k = none
    rw [u1C_eq]
theorem nO_a {σ : CsC} {t M g a k : Nat} (h : a ≠ cnC σ) : fIC (nOC σ t M g) a k = fIC σ a k ∧ fLC (nOC σ t M g) a k = fLC σ a k ∧ fRC (nOC σ t M g) a k = fRC σ a k := by
  refine ⟨?_, ?_, ?_⟩
  · show u1C σ.2.2.1.1 (cnC σ) (fun _ => 0) a k = _
    rw [u1C_ne h]
    rfl
  · show u1C σ.2.2.1.2.1 (cnC σ) (fun _ => 0) a k = _
    rw [u1C_ne h]
    rfl
  · show u1C σ.2.2.1.2.2 (cnC σ) (fun _ => none) a k = _
    rw [u1C_ne h]
    rfl
/-- new, and its constructor behind it -/
theorem NwX.mk {A : Nat → Nat} {kk ss ff tt : Int} {σ s τ : CsC} {t M g : Nat} {k sg f st : Int32} (hs : nOC σ t M g = s) (h : InX (cnC σ) k sg f st s τ) (ek : k.toInt = kk) (eg : sg.toInt = ss) (ef : f.toInt = ff) (es : st.toInt = tt) : NwX A (ofX kk ss ff tt) σ τ (cnC σ) ∧ (∀ a, a < cnC σ → ∀ j, fIC τ a j = fIC σ a j ∧ fLC τ a j = fLC σ a j ∧ fRC τ a j = fRC σ a j) ∧ (eIC τ = eIC σ ∧ eLC τ = eLC σ ∧ eRC τ = eRC σ) := by
  subst hs
  obtain ⟨h1, ⟨h2, h3⟩, ⟨h4, h5, h6⟩, h7, ⟨v1, v2, v3, v4, v5, v6, v7⟩, h8⟩ := h
  have o := fun j => nO_v (σ := σ) (t := t) (M := M) (g := g) (k := j)
  refine ⟨⟨⟨rfl, h7⟩, ⟨⟨by rw [v1]; exact ek, by rw [v2]; exact eg, by rw [v3]; exact ef, by rw [v4]; exact es⟩, ⟨by rw [v5]; exact ef, v6, by rw [h8 69 (by omega) (by omega), (o 69).1]; rfl⟩, ⟨by rw [h3, (o 72).2.2]; rfl, by rw [h3, (o 73).2.2]; rfl, by rw [h3, (o 74).2.2]; rfl, by rw [h3, (o 76).2.2]; rfl⟩⟩, ⟨v7, by rw [h8 70 (by omega) (by omega), (o 70).1]; rfl, by rw [h2, (o 71).2.1]; rfl⟩, by rw [h3, (o 75).2.2]⟩, fun a ha j => ?_, h4, h5, h6⟩
  have n := nO_a (σ := σ) (t := t) (M := M) (g := g) (k := j) (Nat.ne_of_lt ha)
  exact ⟨(h1 a j (Nat.ne_of_lt ha)).trans n.1, by rw [h2]; exact n.2.1, by rw [h3]; exact n.2.2⟩
theorem FzC.nw {n m : Nat} {E A B V : Nat → Nat} {z : ZS} {σ τ : CsC} (f1 : ∀ a, a < cnC σ → ∀ k, fIC τ a k = fIC σ a k ∧ fLC τ a k = fLC σ a k ∧ fRC τ a k = fRC σ a k) (f2 : eIC τ = eIC σ) (hc : cnC σ ≤ cnC τ) (hn : n ≤ cnC σ) : FzC n m E A A B B V V z z σ τ := ⟨hc, fun o ho k _ => f1 o (by omega) k, ⟨⟨Nat.le_refl _, fun _ _ => ⟨rfl, rfl⟩⟩, fun i h1 h2 => absurd h2 (Nat.not_lt.mpr h1)⟩, ⟨⟨Nat.le_refl _, fun _ _ => ⟨rfl, rfl, rfl⟩⟩, fun i h1 h2 => absurd h2 (Nat.not_lt.mpr h1)⟩, ⟨Nat.le_refl _, fun _ _ => ⟨rfl, rfl⟩⟩, Int.le_refl _, fun j _ => by rw [f2]⟩
/-- a new one among those that are loose -/
theorem LsX.nw {N : Int → Int} {A : Nat → Nat} {n0 : Nat} {σ τ : CsC} {z : ZS} {x : XrZ} {o : Nat} {X : LoT} (h : LsX N A n0 τ z X) (hX : ∀ q ∈ X, q.1 < cnC σ) (f : NwX A x σ τ o) (hn : n0 ≤ cnC σ) (hx : oprX x (xnM z)) (hk : ¬ (x.1.1 = 0 ∨ x.1.1 = 1)) (hA : ∀ i, i < xnM z → A i < cnC σ) : LsX N A n0 τ z ((o, x, none) :: X) := by
  obtain ⟨⟨rfl, e⟩, h1, ⟨h2, h3, h4⟩, h5⟩ := f
  refine h.cn ⟨⟨hn, by show cnC σ < cnC τ; omega, hx, fun i hi => Nat.ne_of_lt (hA i hi)⟩, h1, ⟨?_, ?_, ?_⟩, h5⟩ (fun q hq => Nat.ne_of_lt (hX q hq))
  · rw [h2]; unfold tyX; rw [if_neg (fun q => hk (Or.inr q))]
  · rw [h3]; unfold coX; rw [if_neg hk]
  · rw [h4]; unfold vaX; rw [if_neg hk]
abbrev Pz_Exp : ((Int → Int) × (Nat → Nat) × (Nat → Nat) × (Nat → Nat) × (Nat → Nat) × ZS) → CpC := fun y As σ => match y with
  | (N, E, A, B, V, z) => ∃ (p0 : Nat) (p1 : Int32) (p2 : Int32) (p3 : Int32) (p4 : Int32), As = [.inr (.inr (some p0)), .inl p1, .inl p2, .inl p3, .inl p4]
abbrev Qz_Exp : ((Int → Int) × (Nat → Nat) × (Nat → Nat) × (Nat → Nat) × (Nat → Nat) × ZS) → CqC := fun y As σ w τ => match y, As with
  | (N, E, A, B, V, z), [.inr (.inr (some p0)), .inl p1, .inl p2, .inl p3, .inl p4] => w = none ∧ InX p0 p1 p2 p3 p4 σ τ
  | _, _ => True
abbrev Uz_Exp : CqC := fun As σ w τ => ∀ y, Pz_Exp y As σ → Qz_Exp y As σ w τ
set_option maxHeartbeats 4000000 in
theorem pz_Exp (y : (Int → Int) × (Nat → Nat) × (Nat → Nat) × (Nat → Nat) × (Nat → Nat) × ZS) : PbC KX1_init [] [] (fun As σ => Pz_Exp y As σ ∧ cnC σ ≤ 1000000 ∧ ∃ w τ, uqC quL 17 As σ w τ) (Qz_Exp y) := by
  obtain ⟨N, E, A, B, V, z⟩ := y
  rintro As σ ⟨⟨p0, p1, p2, p3, p4, rfl⟩, hcn, _, _, hQ⟩ K hB hW n_
  change K n_ 0 [(0, .inr (.inr (some p0))), (1, .inl p1), (2, .inl p2), (3, .inl p3), (4, .inl p4)] [] σ
  refine hB _ _ _ _ _ (fun m51 hm51 => ?_)
  dsimp only [ucgo, ucwp, ucsC, uqC, uoC, ctC, rfd, KX1_init, KX1_init_0, lkC, s1C, s2C, dlC, kyC, Nat.beq, Nat.ble, rcd, rno, rsw, Nat.reduceAdd, Nat.reduceBEq, Nat.reduceDiv, List.drop, List.take, List.reverse, List.reverseAux, Int.toNat, Option.toList, List.append, List.cons_append, List.nil_append]
  have c52 : (Int32.ofInt (-1)).toInt = -1 := by decide
  intro a53 e53 ob53 fk53
  cases e53
  clear fk53 ob53
  have c54 : (Int32.ofInt (-1)).toInt = -1 := by decide
  intro a55 e55 ob55 fk55
  cases e55
  clear fk55 ob55
  intro a56 e56 ob56 fk56
  cases e56
  clear fk56 ob56
  intro a57 e57 ob57 fk57
  cases e57
  clear fk57 ob57
  intro a58 e58 ob58 fk58
  cases e58
  clear fk58 ob58
  intro a59 e59 ob59 fk59
  cases e59
  clear fk59 ob59
  intro a60 e60 ob60 fk60
  cases e60
  clear fk60 ob60
  try dsimp only [Qz_Exp]
  intro τ hwe
  exact ⟨rfl, fun a j ha => by rw [we_i hwe, fI_pI (Or.inr ha), fI_pI (Or.inr ha), fI_pI (Or.inr ha), fI_pI (Or.inr ha), fI_pI (Or.inr ha), fI_pI (Or.inr ha), fI_pI (Or.inr ha)], ⟨by rw [we_l hwe]; rfl, by rw [we_r hwe]; rfl⟩, ⟨by rw [we_ei hwe]; rfl, by rw [we_el hwe]; rfl, by rw [we_er hwe]; rfl⟩, by rw [we_c hwe]; rfl, ⟨by rw [we_i hwe, fI_pI (Or.inl (by decide)), fI_pI (Or.inl (by decide)), fI_pI (Or.inl (by decide)), fI_pI (Or.inl (by decide)), fI_pIs], by rw [we_i hwe, fI_pI (Or.inl (by decide)), fI_pI (Or.inl (by decide)), fI_pI (Or.inl (by decide)), fI_pIs], by rw [we_i hwe, fI_pI (Or.inl (by decide)), fI_pI (Or.inl (by decide)), fI_pIs], by rw [we_i hwe, fI_pI (Or.inl (by decide)), fI_pIs], by rw [we_i hwe, fI_pIs], by rw [we_i hwe, fI_pI (Or.inl (by decide)), fI_pI (Or.inl (by decide)), fI_pI (Or.inl (by decide)), fI_pI (Or.inl (by decide)), fI_pI (Or.inl (by decide)), fI_pI (Or.inl (by decide)), fI_pIs]; decide, by rw [we_i hwe, fI_pI (Or.inl (by decide)), fI_pI (Or.inl (by decide)), fI_pI (Or.inl (by decide)), fI_pI (Or.inl (by decide)), fI_pI (Or.inl (by decide)), fI_pIs]; decide⟩, fun j h1 h2 => by rw [we_i hwe, fI_pI (Or.inl (by omega)), fI_pI (Or.inl (by omega)), fI_pI (Or.inl (by omega)), fI_pI (Or.inl (by omega)), fI_pI (Or.inl (by omega)), fI_pI (Or.inl (by omega)), fI_pI (Or.inl (by omega))]⟩
theorem wz_Exp : ∀ (L : Nat) (As : List AvC) (σ : CsC) (w : Option AvC) (τ : CsC), EvF L 17 As σ w τ → Uz_Exp As σ w τ := by
  intro L
  cases L with
  | zero => exact fun _ _ _ _ h => h.elim
  | succ L => exact fun As σ w τ h y hy => EvF.us (cs := []) (pz_Exp y) rfl (fun _ h => absurd h List.not_mem_nil) h hy
abbrev Pz_opened : ((Int → Int) × (Nat → Nat) × (Nat → Nat) × (Nat → Nat) × (Nat → Nat) × ZS × Int × Int) → CpC := fun y As σ => match y with
  | (N, E, A, B, V, z, k, sg) => ∃ (p1 : Int32) (p2 : Int32), As = [.inr (.inr (some (E 0))), .inl p1, .inl p2] ∧ (ZC N E A B V σ z) ∧ (p1.toInt = k) ∧ (p2.toInt = sg)
abbrev Qz_opened : ((Int → Int) × (Nat → Nat) × (Nat → Nat) × (Nat → Nat) × (Nat → Nat) × ZS × Int × Int) → CqC := fun y As σ w τ => match y, As with
  | (N, E, A, B, V, z, k, sg), [_, .inl p1, .inl p2] => w = some (.inr (.inr (some (cnC σ)))) ∧ ZC N E A B V τ z ∧ FzC (cnC σ) (xnM z) E A A B B V V z z σ τ ∧ NwX A (opX k sg z) σ τ (cnC σ)
  | _, _ => True
abbrev Uz_opened : CqC := fun As σ w τ => ∀ y, Pz_opened y As σ → Qz_opened y As σ w τ
set_option maxHeartbeats 4000000 in
theorem pz_opened (y : (Int → Int) × (Nat → Nat) × (Nat → Nat) × (Nat → Nat) × (Nat → Nat) × ZS × Int × Int) : PbC KX7_opened [(234, TrP, EqC 234), (17, TrP, EqC 17)] [(17, Uz_Exp)] (fun As σ => Pz_opened y As σ ∧ cnC σ ≤ 1000000 ∧ ∃ w τ, uqC quL 162 As σ w τ) (Qz_opened y) := by
  obtain ⟨N, E, A, B, V, z, k, sg⟩ := y
  rintro As σ ⟨⟨p1, p2, rfl, hZ, hp1, hp2⟩, hcn, _, _, hQ⟩ K hB hW n_
  have hH : HI0 σ ∧ TyC σ (E 0) 8 := hQ
  have hat := hZ.at0 hH
  change K n_ 0 [(0, .inr (.inr (some (E 0)))), (1, .inl p1), (2, .inl p2)] [] σ
  refine hB _ _ _ _ _ (fun m51 hm51 => ?_)
  dsimp only [ucgo, ucwp, ucsC, uqC, uoC, ctC, rfd, KX7_opened, KX7_opened_0, lkC, s1C, s2C, dlC, kyC, Nat.beq, Nat.ble, rcd, rno, rsw, Nat.reduceAdd, Nat.reduceBEq, Nat.reduceDiv, List.drop, List.take, List.reverse, List.reverseAux, Int.toNat, Option.toList, List.append, List.cons_append, List.nil_append, zg213, zg240, zg242]
  generalize hs52 : nOC σ 52 (nfC 2) 0 = s52
  have hZ52 : ZC N E A B V s52 z := hZ.nw (fun a ha k => by rw [← hs52]; exact nO_a (Nat.ne_of_lt ha)) (by rw [← hs52]; exact ⟨rfl, rfl, rfl⟩) (by rw [← hs52]; exact Nat.le_succ _)
  intro a53 e53 ob53
  cases e53
  have f54 : (fIC s52 (E 0) 242).toInt = zAt z.1 := hZ52.2.1.1.1
  intro a55 e55 ob55
  cases e55
  intro a56 e56 ob56
  obtain rfl : E 1 = a56 := Option.some.inj (hZ52.1.1.1.symm.trans e56)
  rw [hZ52.1.2.1.2.2.1]
  try dsimp only
  intro w57 τ57 o57 q57
  obtain ⟨r57, rfl, rfl, hr57a, hr57b, hr57, -⟩ := (show Q_Jx4a65c_size_8abf5 [.inr (.inr (some (E 213)))] s52 w57 τ57 from o57.1.1)
  have hv57 : r57.toInt = (xnM z : Int) := by rw [← hr57]; exact hZ52.2.2.2.1.1.1
  try dsimp only [Option.toList, List.cons_append, List.nil_append, s1C, s2C, dlC, kyC, Nat.beq, lkC, rcd, rno, rsw]
  intro w58 τ58 o58 q58
  obtain ⟨rfl, hi58⟩ := q58 (N, E, A, B, V, z) ⟨_, _, _, _, _, rfl⟩
  obtain ⟨hn58, hg58, hg2_58⟩ := NwX.mk (A := A) (kk := k) (ss := sg) (ff := zAt z.1) (tt := (xnM z : Int)) hs52 hi58 (by omega) (by omega) (by omega) (by omega)
  try dsimp only [Option.toList, List.cons_append, List.nil_append, s1C, s2C, dlC, kyC, Nat.beq, lkC, rcd, rno, rsw]
  try dsimp only [Qz_opened]
  exact ⟨rfl, hZ.nw hg58 hg2_58 (by rw [hn58.1.2]; exact Nat.le_succ _), FzC.nw hg58 hg2_58.1 (by rw [hn58.1.2]; exact Nat.le_succ _) (Nat.le_refl _), hn58⟩
theorem wz_opened : ∀ (L : Nat) (As : List AvC) (σ : CsC) (w : Option AvC) (τ : CsC), EvF L 162 As σ w τ → Uz_opened As σ w τ := by
  intro L
  cases L with
  | zero => exact fun _ _ _ _ h => h.elim
  | succ L => exact fun As σ w τ h y hy => EvF.us (cs := [234, 17]) (pz_opened y) rfl (List.forall_mem_cons.2 ⟨fun _ _ _ _ _ => trivial, List.forall_mem_cons.2 ⟨wz_Exp L, fun _ h => absurd h List.not_mem_nil⟩⟩) h hy
abbrev Pz_put : ((Int → Int) × (Nat → Nat) × (Nat → Nat) × (Nat → Nat) × (Nat → Nat) × ZS × XrZ) → CpC := fun y As σ => match y with
  | (N, E, A, B, V, z, x) => ∃ (p1 : Nat), As = [.inr (.inr (some (E 0))), .inr (.inr (some p1))] ∧ (ZC N E A B V σ z) ∧ ((p1 < cnC σ ∧ oprX x (xnM z) ∧ ∀ i, i < xnM z → A i ≠ p1) ∧ XbC A σ x p1 ∧ XiC N σ x p1) ∧ (x.1.2.2.2 = zAt z.1 - 1) ∧ ((∀ a ∈ x.2.2.2, x.2.2.1.1 ≤ a ∧ 0 ≤ a ∧ a < (xnM z : Int)) ∧ ChC A σ x.2.2.2)
abbrev Qz_put : ((Int → Int) × (Nat → Nat) × (Nat → Nat) × (Nat → Nat) × (Nat → Nat) × ZS × XrZ) → CqC := fun y As σ w τ => match y, As with
  | (N, E, A, B, V, z, x), [_, .inr (.inr (some p1))] => w = some (.inr (.inr (some p1))) ∧ ZC N E (upA A (xnM z) p1) B V τ (puM x z) ∧ PoX p1 σ τ ∧ fRC τ p1 75 = fRC σ p1 75
  | _, _ => True
abbrev Uz_put : CqC := fun As σ w τ => ∀ y, Pz_put y As σ → Qz_put y As σ w τ
set_option maxHeartbeats 4000000 in
theorem pz_put (y : (Int → Int) × (Nat → Nat) × (Nat → Nat) × (Nat → Nat) × (Nat → Nat) × ZS × XrZ) : PbC KX7_put [(234, TrP, EqC 234), (236, TrP, EqC 236)] [] (fun As σ => Pz_put y As σ ∧ cnC σ ≤ 1000000 ∧ ∃ w τ, uqC quL 161 As σ w τ) (Qz_put y) := by
  obtain ⟨N, E, A, B, V, z, x⟩ := y
  rintro As σ ⟨⟨p1, rfl, hZ, hl, hla, har⟩, hcn, _, _, hQ⟩ K hB hW n_
  have hH : HI0 σ ∧ TyC σ (E 0) 8 := hQ
  have hat := hZ.at0 hH
  change K n_ 0 [(0, .inr (.inr (some (E 0)))), (1, .inr (.inr (some p1)))] [] σ
  refine hB _ _ _ _ _ (fun m51 hm51 => ?_)
  dsimp only [ucgo, ucwp, ucsC, uqC, uoC, ctC, rfd, KX7_put, KX7_put_0, lkC, s1C, s2C, dlC, kyC, Nat.beq, Nat.ble, rcd, rno, rsw, Nat.reduceAdd, Nat.reduceBEq, Nat.reduceDiv, List.drop, List.take, List.reverse, List.reverseAux, Int.toNat, Option.toList, List.append, List.cons_append, List.nil_append, zg213, zg240, zg242]
  intro a52 e52 ob52
  cases e52
  intro a53 e53 ob53
  obtain rfl : E 1 = a53 := Option.some.inj (hZ.1.1.1.symm.trans e53)
  rw [hZ.1.2.1.2.2.1]
  try dsimp only
  intro w54 τ54 o54 q54
  obtain ⟨r54, rfl, rfl, hr54a, hr54b, hr54, -⟩ := (show Q_Jx4a65c_size_8abf5 [.inr (.inr (some (E 213)))] σ w54 τ54 from o54.1.1)
  have hv54 : r54.toInt = (xnM z : Int) := by rw [← hr54]; exact hZ.2.2.2.1.1.1
  try dsimp only [Option.toList, List.cons_append, List.nil_append, s1C, s2C, dlC, kyC, Nat.beq, lkC, rcd, rno, rsw]
  intro a55 e55 ob55 fk55
  cases e55
  clear fk55 ob55
  generalize hs55 : pIC σ p1 65 r54 = s55
  have hZ55 : ZC N E A B V s55 z := ZC.xf hZ (by rw [← hs55]; exact XfE.pI (by decide)) (fun i hi k => by rw [← hs55]; exact ⟨fI_pI (Or.inr (hl.1.2.2 i hi)), rfl, rfl⟩)
  intro a56 e56 ob56
  cases e56
  have f57 : (fIC s55 (E 0) 242).toInt = zAt z.1 := hZ55.2.1.1.1
  have c58 : (Int32.ofInt 1).toInt = 1 := by decide
  have u59 := tiC (fIC s55 (E 0) 242)
  have a59 : ((fIC s55 (E 0) 242) - (Int32.ofInt 1)).toInt = zAt z.1 - 1 := subC (by omega) (by omega) (by omega)
  intro a60 e60 ob60 fk60
  cases e60
  clear fk60 ob60
  generalize hs60 : pIC s55 p1 64 ((fIC s55 (E 0) 242) - (Int32.ofInt 1)) = s60
  have hZ60 : ZC N E A B V s60 z := ZC.xf hZ55 (by rw [← hs60]; exact XfE.pI (by decide)) (fun i hi k => by rw [← hs60]; exact ⟨fI_pI (Or.inr (hl.1.2.2 i hi)), rfl, rfl⟩)
  intro a61 e61 ob61
  cases e61
  intro a62 e62 ob62
  obtain rfl : E 1 = a62 := Option.some.inj (hZ60.1.1.1.symm.trans e62)
  rw [hZ60.1.2.1.2.2.1]
  try dsimp only
  intro w63 τ63 o63 q63
  have hq63 : AdQ2 [.inr (.inr (some (E 213))), .inr (.inr (some p1))] s60 w63 τ63 := o63.1.1
  obtain ⟨⟨r63, rfl⟩, ⟨hH2, ht2⟩, ha1, ha2, ha3⟩ := hq63
  have hfr : FrE [0, 1, 2, 902] s60 τ63 := o63.2
  have c2 : cnC s60 = cnC σ := by rw [← hs60, ← hs55]; rfl
  have t8 : TyC s60 (E 0) 8 := by
    refine ⟨by rw [c2]; exact hH.2.1, ?_, fun q => by cases q⟩
    rw [← hs60, ← hs55]
    exact hH.2.2.1
  have hls := EnC.ls hZ60.1 hH2 t8
  have hi2 : ∀ a k, (a ≠ p1 ∨ (k ≠ 64 ∧ k ≠ 65)) → fIC s60 a k = fIC σ a k := fun a k hk => by
    rw [← hs60, ← hs55, fI_pI (hk.elim (fun q => Or.inr q) (fun q => Or.inl q.1)), fI_pI (hk.elim (fun q => Or.inr q) (fun q => Or.inl q.2))]
  have hl2 : fLC s60 = fLC σ := by rw [← hs60, ← hs55]; rfl
  have hr2 : fRC s60 = fRC σ := by rw [← hs60, ← hs55]; rfl
  have he2 : eIC s60 = eIC σ ∧ eLC s60 = eLC σ := by rw [← hs60, ← hs55]; exact ⟨rfl, rfl⟩
  have f2 := hfr.2 rfl
  have hpu : PuX E p1 σ τ63 := ⟨by rw [← c2]; exact hfr.1, fun a ha k hk h0 => by
    have q := (f2 a (by rw [c2]; exact ha)).1 k (by
      cases h9 : ([0, 1, 2, 902] : List Nat).elem k with
      | false => rfl
      | true =>
        have h8 := List.elem_iff.mp h9
        simp only [List.mem_cons, List.not_mem_nil, or_false] at h8
        omega)
    exact ⟨q.1.trans (hi2 a k hk), by rw [q.2.1, hl2], by rw [q.2.2, hr2]⟩, fun a ha => by
    have q := f2 a (by rw [c2]; exact ha)
    exact ⟨(q.2.1 rfl).trans (by rw [he2.1]), (q.2.2.1 rfl).trans (by rw [he2.2])⟩⟩
  try dsimp only [Option.toList, List.cons_append, List.nil_append, s1C, s2C, dlC, kyC, Nat.beq, lkC, rcd, rno, rsw]
  try dsimp only [Qz_put]
  have f64 : (fIC τ63 p1 64).toInt = x.1.2.2.2 := by
    rw [((f2 p1 (by rw [c2]; exact hl.1.1)).1 64 rfl).1, ← hs60, fI_pIs]
    omega
  have f65 : (fIC τ63 p1 65).toInt = (xnM z : Int) := by
    rw [((f2 p1 (by rw [c2]; exact hl.1.1)).1 65 rfl).1, ← hs60, fI_pI (Or.inl (by decide)), ← hs55, fI_pIs]
    omega
  obtain ⟨k1, k2, k3, k4⟩ := hZ60.2.2.2.1
  have lt := hZ60.1.2.2.2.2.1
  refine ⟨rfl, ZC.pu hZ hpu hl f64 f65 ⟨by rw [ha1, k1.1]; rfl, fun i hi => ?_⟩ ⟨by rw [ha2 _ (fun q => hls.2.2.2 q.symm)]; exact k2.1, fun i hi => ⟨(ha3.1 _ lt.2.2.2 hls.1.2.2.2 (fun q => hls.2.2.2 q.symm) i (by rw [k2.1]; omega)).trans (k2.2 i hi).1, Nat.lt_of_lt_of_le (k2.2 i hi).2 hfr.1⟩⟩ ⟨by rw [ha2 _ hls.2.2.1.1]; exact k3.1, fun i hi => ⟨(ha3.1 _ lt.2.1 hls.1.2.1 hls.2.2.1.1 i (by rw [k3.1]; omega)).trans (k3.2 i hi).1, Nat.lt_of_lt_of_le (k3.2 i hi).2 hfr.1⟩⟩ ⟨by rw [ha2 _ hls.2.1.2.1]; exact k4.1, fun i hi => ⟨(ha3.1 _ lt.1 hls.1.1 hls.2.1.2.1 i (by rw [k4.1]; omega)).trans (k4.2 i hi).1, Nat.lt_of_lt_of_le (k4.2 i hi).2 hfr.1⟩⟩ har, hpu.po, (hpu.2.1 p1 hl.1.1 75 (Or.inr (by decide)) (by decide)).2.2⟩
  by_cases c : i = xnM z
  · rw [c, upA_e]
    have e9 : (fIC s60 (E 213) 2).toNatClampNeg = xnM z := by rw [nT_toNat, k1.1]; exact Int.toNat_natCast _
    refine ⟨by rw [← e9]; exact ha3.2.2, Nat.lt_of_lt_of_le hl.1.1 hpu.1⟩
  · rw [upA_n c]
    have hi' : i < xnM z := by omega
    exact ⟨(ha3.2.1 i (by rw [k1.1]; omega)).trans (k1.2 i hi').1, Nat.lt_of_lt_of_le (k1.2 i hi').2 hfr.1⟩
theorem wz_put : ∀ (L : Nat) (As : List AvC) (σ : CsC) (w : Option AvC) (τ : CsC), EvF L 161 As σ w τ → Uz_put As σ w τ := by
  intro L
  cases L with
  | zero => exact fun _ _ _ _ h => h.elim
  | succ L => exact fun As σ w τ h y hy => EvF.us (cs := [234, 236]) (pz_put y) rfl (List.forall_mem_cons.2 ⟨fun _ _ _ _ _ => trivial, List.forall_mem_cons.2 ⟨fun _ _ _ _ _ => trivial, fun _ h => absurd h List.not_mem_nil⟩⟩) h hy
