/-! S's -/
theorem fI_pL {σ : CsC} {o k : Nat} {v : Int64} : fIC (pLC σ o k v) = fIC σ := rfl
theorem fI_pR {σ : CsC} {o k : Nat} {v : Option Nat} : fIC (pRC σ o k v) = fIC σ := rfl
theorem fL_pI {σ : CsC} {o k : Nat} {v : Int32} : fLC (pIC σ o k v) = fLC σ := rfl
theorem fL_pR {σ : CsC} {o k : Nat} {v : Option Nat} : fLC (pRC σ o k v) = fLC σ := rfl
theorem fR_pI {σ : CsC} {o k : Nat} {v : Int32} : fRC (pIC σ o k v) = fRC σ := rfl
theorem fR_pL {σ : CsC} {o k : Nat} {v : Int64} : fRC (pLC σ o k v) = fRC σ := rfl
theorem fL_pL {σ : CsC} {o k a j : Nat} {v : Int64} (h : j ≠ k ∨ a ≠ o) : fLC (pLC σ o k v) a j = fLC σ a j := h.elim (fun q => u2C_nk q) (fun q => u2C_na q)
theorem fL_pLs {σ : CsC} {o k : Nat} {v : Int64} : fLC (pLC σ o k v) o k = v := u2C_eq
theorem tg_nO {σ : CsC} {t M g a : Nat} (h : a ≠ cnC σ) : tgC (nOC σ t M g) a = tgC σ a := by
  show (u1C σ.2.1 (cnC σ) (t, 0, g) a).1 = _
  rw [u1C_ne h]
  rfl
/-- an S is new -/
def InS (p0 : Nat) (k f lv : Int32) (pa : Option Nat) (kn : Int64) (σ τ : CsC) : Prop := (∀ a, a ≠ p0 → ∀ j, fIC τ a j = fIC σ a j ∧ fLC τ a j = fLC σ a j ∧ fRC τ a j = fRC σ a j) ∧ (eIC τ = eIC σ ∧ eLC τ = eLC σ ∧ eRC τ = eRC σ) ∧ cnC τ = cnC σ ∧ (fIC τ p0 270 = k ∧ fIC τ p0 271 = f ∧ fIC τ p0 272 = lv ∧ fRC τ p0 273 = pa ∧ fLC τ p0 274 = kn) ∧ ((fIC τ p0 280).toInt = -1 ∧ fLC τ p0 287 = -1 ∧ fLC τ p0 288 = -1) ∧ (∀ j, j ≠ 273 → fRC τ p0 j = fRC σ p0 j) ∧ ∀ j, 281 ≤ j → fIC τ p0 j = fIC σ p0 j
/-- a variable is new -/
def InV (p0 : Nat) (t ty f m : Int32) (σ τ : CsC) : Prop := (∀ a, a ≠ p0 → ∀ j, fIC τ a j = fIC σ a j) ∧ (fLC τ = fLC σ ∧ fRC τ = fRC σ) ∧ (eIC τ = eIC σ ∧ eLC τ = eLC σ ∧ eRC τ = eRC σ) ∧ cnC τ = cnC σ ∧ (fIC τ p0 330 = t ∧ fIC τ p0 331 = ty ∧ fIC τ p0 332 = f ∧ fIC τ p0 333 = m ∧ fIC τ p0 335 = fIC σ p0 335)
abbrev Pz_Statement : ((Int → Int) × (Nat → Nat) × (Nat → Nat) × (Nat → Nat) × (Nat → Nat) × ZS) → CpC := fun y As σ => match y with
  | (N, E, A, B, V, z) => ∃ (p0 : Nat) (p1 : Int32) (p2 : Int32) (p3 : Int32) (p4 : Option Nat) (p5 : Int64), As = [.inr (.inr (some p0)), .inl p1, .inl p2, .inl p3, .inr (.inr p4), .inr (.inl p5)]
abbrev Qz_Statement : ((Int → Int) × (Nat → Nat) × (Nat → Nat) × (Nat → Nat) × (Nat → Nat) × ZS) → CqC := fun y As σ w τ => match y, As with
  | (N, E, A, B, V, z), [.inr (.inr (some p0)), .inl p1, .inl p2, .inl p3, .inr (.inr p4), .inr (.inl p5)] => w = none ∧ InS p0 p1 p2 p3 p4 p5 σ τ
  | _, _ => True
abbrev Uz_Statement : CqC := fun As σ w τ => ∀ y, Pz_Statement y As σ → Qz_Statement y As σ w τ
set_option maxHeartbeats 4000000 in
theorem pz_Statement (y : (Int → Int) × (Nat → Nat) × (Nat → Nat) × (Nat → Nat) × (Nat → Nat) × ZS) : PbC KX8_init [] [] (fun As σ => Pz_Statement y As σ ∧ cnC σ ≤ 1000000 ∧ ∃ w τ, uqC quL 178 As σ w τ) (Qz_Statement y) := by
  obtain ⟨N, E, A, B, V, z⟩ := y
  rintro As σ ⟨⟨p0, p1, p2, p3, p4, p5, rfl⟩, hcn, _, _, hQ⟩ K hB hW n_
  change K n_ 0 [(0, .inr (.inr (some p0))), (1, .inl p1), (2, .inl p2), (3, .inl p3), (4, .inr (.inr p4)), (5, .inr (.inl p5))] [] σ
  refine hB _ _ _ _ _ (fun m51 hm51 => ?_)
  dsimp only [ucgo, ucwp, ucsC, uqC, uoC, ctC, rfd, KX8_init, KX8_init_0, lkC, s1C, s2C, dlC, kyC, Nat.beq, Nat.ble, rcd, rno, rsw, Nat.reduceAdd, Nat.reduceBEq, Nat.reduceDiv, List.drop, List.take, List.reverse, List.reverseAux, Int.toNat, Option.toList, List.append, List.cons_append, List.nil_append]
  have c52 : (Int32.ofInt (-1)).toInt = -1 := by decide
  intro a53 e53 ob53 fk53
  cases e53
  clear fk53 ob53
  intro a54 e54 ob54 fk54
  cases e54
  clear fk54 ob54
  intro a55 e55 ob55 fk55
  cases e55
  clear fk55 ob55
  intro a56 e56 ob56 fk56
  cases e56
  clear fk56 ob56
  intro a57 e57 ob57 fk57
  cases e57
  clear fk57 ob57
  intro a58 e58 ob58 fk58
  cases e58
  clear fk58 ob58
  intro a59 e59 ob59 fk59
  cases e59
  clear fk59 ob59
  intro a60 e60 ob60 fk60
  cases e60
  clear fk60 ob60
  try dsimp only [Qz_Statement]
  intro τ hwe
  exact ⟨rfl, fun a ha j => ⟨(by rw [we_i hwe, fI_pL, fI_pR, fI_pI (Or.inr ha), fI_pI (Or.inr ha), fI_pI (Or.inr ha), fI_pL, fI_pL, fI_pI (Or.inr ha)]), (by rw [we_l hwe, fL_pL (Or.inr ha), fL_pR, fL_pI, fL_pI, fL_pI, fL_pL (Or.inr ha), fL_pL (Or.inr ha), fL_pI]), (by rw [we_r hwe, fR_pL, fR_pR (Or.inr ha), fR_pI, fR_pI, fR_pI, fR_pL, fR_pL, fR_pI])⟩, ⟨by rw [we_ei hwe]; rfl, by rw [we_el hwe]; rfl, by rw [we_er hwe]; rfl⟩, by rw [we_c hwe]; rfl, ⟨(by rw [we_i hwe, fI_pL, fI_pR, fI_pI (Or.inl (by decide)), fI_pI (Or.inl (by decide)), fI_pIs]), (by rw [we_i hwe, fI_pL, fI_pR, fI_pI (Or.inl (by decide)), fI_pIs]), (by rw [we_i hwe, fI_pL, fI_pR, fI_pIs]), (by rw [we_r hwe, fR_pL, fR_pRs]), (by rw [we_l hwe, fL_pLs])⟩, ⟨(by rw [we_i hwe, fI_pL, fI_pR, fI_pI (Or.inl (by decide)), fI_pI (Or.inl (by decide)), fI_pI (Or.inl (by decide)), fI_pL, fI_pL, fI_pIs]; decide), (by rw [we_l hwe, fL_pL (Or.inl (by decide)), fL_pR, fL_pI, fL_pI, fL_pI, fL_pL (Or.inl (by decide)), fL_pLs]; decide), (by rw [we_l hwe, fL_pL (Or.inl (by decide)), fL_pR, fL_pI, fL_pI, fL_pI, fL_pLs]; decide)⟩, fun j h1 => (by rw [we_r hwe, fR_pL, fR_pR (Or.inl h1), fR_pI, fR_pI, fR_pI, fR_pL, fR_pL, fR_pI]), fun j h1 => (by rw [we_i hwe, fI_pL, fI_pR, fI_pI (Or.inl (by omega)), fI_pI (Or.inl (by omega)), fI_pI (Or.inl (by omega)), fI_pL, fI_pL, fI_pI (Or.inl (by omega))])⟩
theorem wz_Statement : ∀ (L : Nat) (As : List AvC) (σ : CsC) (w : Option AvC) (τ : CsC), EvF L 178 As σ w τ → Uz_Statement As σ w τ := by
  intro L
  cases L with
  | zero => exact fun _ _ _ _ h => h.elim
  | succ L => exact fun As σ w τ h y hy => EvF.us (cs := []) (pz_Statement y) rfl (fun _ h => absurd h List.not_mem_nil) h hy
abbrev Pz_Variable : ((Int → Int) × (Nat → Nat) × (Nat → Nat) × (Nat → Nat) × (Nat → Nat) × ZS) → CpC := fun y As σ => match y with
  | (N, E, A, B, V, z) => ∃ (p0 : Nat) (p1 : Int32) (p2 : Int32) (p3 : Int32) (p4 : Int32), As = [.inr (.inr (some p0)), .inl p1, .inl p2, .inl p3, .inl p4]
abbrev Qz_Variable : ((Int → Int) × (Nat → Nat) × (Nat → Nat) × (Nat → Nat) × (Nat → Nat) × ZS) → CqC := fun y As σ w τ => match y, As with
  | (N, E, A, B, V, z), [.inr (.inr (some p0)), .inl p1, .inl p2, .inl p3, .inl p4] => w = none ∧ InV p0 p1 p2 p3 p4 σ τ
  | _, _ => True
abbrev Uz_Variable : CqC := fun As σ w τ => ∀ y, Pz_Variable y As σ → Qz_Variable y As σ w τ
set_option maxHeartbeats 4000000 in
theorem pz_Variable (y : (Int → Int) × (Nat → Nat) × (Nat → Nat) × (Nat → Nat) × (Nat → Nat) × ZS) : PbC KX10_init [] [] (fun As σ => Pz_Variable y As σ ∧ cnC σ ≤ 1000000 ∧ ∃ w τ, uqC quL 199 As σ w τ) (Qz_Variable y) := by
  obtain ⟨N, E, A, B, V, z⟩ := y
  rintro As σ ⟨⟨p0, p1, p2, p3, p4, rfl⟩, hcn, _, _, hQ⟩ K hB hW n_
  change K n_ 0 [(0, .inr (.inr (some p0))), (1, .inl p1), (2, .inl p2), (3, .inl p3), (4, .inl p4)] [] σ
  refine hB _ _ _ _ _ (fun m51 hm51 => ?_)
  dsimp only [ucgo, ucwp, ucsC, uqC, uoC, ctC, rfd, KX10_init, KX10_init_0, lkC, s1C, s2C, dlC, kyC, Nat.beq, Nat.ble, rcd, rno, rsw, Nat.reduceAdd, Nat.reduceBEq, Nat.reduceDiv, List.drop, List.take, List.reverse, List.reverseAux, Int.toNat, Option.toList, List.append, List.cons_append, List.nil_append]
  intro a52 e52 ob52 fk52
  cases e52
  clear fk52 ob52
  intro a53 e53 ob53 fk53
  cases e53
  clear fk53 ob53
  intro a54 e54 ob54 fk54
  cases e54
  clear fk54 ob54
  intro a55 e55 ob55 fk55
  cases e55
  clear fk55 ob55
  try dsimp only [Qz_Variable]
  intro τ hwe
  exact ⟨rfl, fun a ha j => (by rw [we_i hwe, fI_pI (Or.inr ha), fI_pI (Or.inr ha), fI_pI (Or.inr ha), fI_pI (Or.inr ha)]), ⟨by rw [we_l hwe]; rfl, by rw [we_r hwe]; rfl⟩, ⟨by rw [we_ei hwe]; rfl, by rw [we_el hwe]; rfl, by rw [we_er hwe]; rfl⟩, by rw [we_c hwe]; rfl, ⟨(by rw [we_i hwe, fI_pI (Or.inl (by decide)), fI_pI (Or.inl (by decide)), fI_pI (Or.inl (by decide)), fI_pIs]), (by rw [we_i hwe, fI_pI (Or.inl (by decide)), fI_pI (Or.inl (by decide)), fI_pIs]), (by rw [we_i hwe, fI_pI (Or.inl (by decide)), fI_pIs]), (by rw [we_i hwe, fI_pIs]), (by rw [we_i hwe, fI_pI (Or.inl (by decide)), fI_pI (Or.inl (by decide)), fI_pI (Or.inl (by decide)), fI_pI (Or.inl (by decide))])⟩⟩
theorem wz_Variable : ∀ (L : Nat) (As : List AvC) (σ : CsC) (w : Option AvC) (τ : CsC), EvF L 199 As σ w τ → Uz_Variable As σ w τ := by
  intro L
  cases L with
  | zero => exact fun _ _ _ _ h => h.elim
  | succ L => exact fun As σ w τ h y hy => EvF.us (cs := []) (pz_Variable y) rfl (fun _ h => absurd h List.not_mem_nil) h hy
/-- the S that begins -/
def beX (k lv : Int) (z : ZS) : SrZ := ((k, zAt z.1, lv, z.2.2.2.1.2), z.2.2.2.1.1, (-1, -1, -1, -1, -1, -1, (z.2.2.2.2.2.2 : Int)))
theorem beX_o {k lv : Int} {z : ZS} {n : Nat} (h : z.2.2.2.1.2 < (snM z : Int)) : oprS (beX k lv z) n (snM z) := by
  unfold oprS beX
  dsimp only
  omega
theorem SoC.nw {N : Int → Int} {E A B V : Nat → Nat} {σ s τ : CsC} {z : ZS} {t M g : Nat} {k lv : Int} {p1 p2 p3 : Int32} {p4 : Option Nat} {p5 : Int64} (h : ZC N E A B V σ z) (hs : nOC σ t M g = s) (i : InS (cnC σ) p1 p2 p3 p4 p5 s τ) (e1 : p1.toInt = k) (e2 : p2.toInt = zAt z.1) (e3 : p3.toInt = lv) (e4 : p4 = fRC s (E 0) 246) (e5 : p5 = fLC s (E 0) 245) : SoC A B τ (beX k lv z) (cnC σ) := by
  subst hs
  obtain ⟨-, -, -, ⟨v1, v2, v3, v4, v5⟩, ⟨w1, w2, w3⟩, r1, r2⟩ := i
  have o := fun j => nO_v (σ := σ) (t := t) (M := M) (g := g) (k := j)
  have n0 := fun j => nO_a (σ := σ) (t := t) (M := M) (g := g) (k := j) (Nat.ne_of_lt h.1.2.2.2.1.1)
  refine ⟨⟨by rw [v1]; exact e1, by rw [v2]; exact e2, by rw [v3]; exact e3, ?_⟩, ?_, ⟨by rw [r1 _ (by decide), (o 275).2.2]; rfl, by rw [r1 _ (by decide), (o 276).2.2]; rfl, by rw [r1 _ (by decide), (o 277).2.2]; rfl, by rw [r1 _ (by decide), (o 278).2.2]; rfl, by rw [r1 _ (by decide), (o 279).2.2]; rfl, w1⟩, by rw [r1 _ (by decide), (o 281).2.2], ⟨by rw [r2 _ (by decide), (o 282).1], by rw [r2 _ (by decide), (o 283).1], by rw [r2 _ (by decide), (o 284).1]⟩, w2, w3⟩
  · rw [v4, e4, (n0 246).2.2]
    exact h.2.1.2.2.1
  · rw [v5, e5, (n0 245).2.1]
    exact h.2.1.2.1
theorem ZC.be {N : Int → Int} {E A B V : Nat → Nat} {σ τ : CsC} {z : ZS} {x : SrZ} {o : Nat} (h : ZC N E A B V σ z) (f : PoX o σ τ) (ho : cnC σ ≤ o) (hx : SoC A B τ x o) (hp : oprS x (xnM z) (snM z)) (l1 : LiC τ (E 213) (xnM z) A) (l2 : LiC τ (E 214) (snM z + 1) (upA B (snM z) o)) (l3 : LiC τ (E 212) (zVs z.1).length V) (l4 : LiC τ (E 211) (zMs z.1).length (fun k => E (1000 + k))) : ZC N E A (upA B (snM z) o) V τ (z.1, z.2.1, (snM z + 1, upS z.2.2.1.2 (snM z) x), z.2.2.2) := by
  obtain ⟨h1, ⟨⟨h2, h3⟩, h4, h5, h6⟩, ⟨h7, h8⟩, ⟨m1, m2, m3, m4⟩, ⟨x1, x2⟩, ⟨s1, s2⟩, v1, v2, v3⟩ := h
  obtain ⟨f0, f1, f2⟩ := f
  have ff : ∀ a, a < cnC σ → ∀ k, 3 ≤ k ∧ k < 900 → fIC τ a k = fIC σ a k ∧ fLC τ a k = fLC σ a k ∧ fRC τ a k = fRC σ a k := fun a ha k hk => f1 a ha (by omega) k hk
  have ub : ∀ i, i < snM z → upA B (snM z) o i = B i := fun i hi => upA_n (by omega)
  have n0 := h1.2.2.2.1.1
  have n302 := h1.2.2.2.2.2.1.1
  have n304 := h1.2.2.2.2.2.1.2.2
  refine ⟨h1.cg (fun a k ha hk => (ff a ha k (by omega)).2.2) f0, ⟨⟨?_, ?_⟩, ?_, ?_, ?_⟩, ⟨fun j => ?_, fun j => ?_⟩, ⟨l1, l2, l3, l4⟩, ⟨fun i hi => ⟨(x1 i hi).1.cg (fun k hk => ff _ (m1.2 i hi).2 k (by omega)), (x1 i hi).2⟩, fun i hi => ⟨(x2 i hi).1, ChC.cg (fun a ha => ?_) (x2 i hi).2⟩⟩, ⟨fun j hj => ?_, fun i j hij hj => ?_⟩, fun v hv => (v1 v hv).cg (fun k hk => (ff _ (m3.2 v hv).2 k (by omega)).1), v2, v3⟩
  · rw [(ff _ n0 242 (by decide)).1]; exact h2
  · rw [(ff _ n0 243 (by decide)).1]; exact h3
  · rw [(ff _ n0 245 (by decide)).2.1]; exact h4
  · rw [(ff _ n0 246 (by decide)).2.2, h5]; exact (opA_c ub h6).symm
  · show z.2.2.2.1.2 < ((snM z + 1 : Nat) : Int)
    omega
  · rw [(f2 _ n302).1]; exact h7 j
  · rw [(f2 _ n304).2]; exact h8 j
  · have hi : i < xnM z := hi
    have q := (x2 i hi).1 a ha
    exact (ff _ (m1.2 a.toNat (by omega)).2 75 (by decide)).2.2
  · have hj : j < snM z + 1 := hj
    by_cases c : j < snM z
    · have e : reS (z.1, z.2.1, (snM z + 1, upS z.2.2.1.2 (snM z) x), z.2.2.2) j = reS z j := if_neg (Nat.ne_of_lt c)
      rw [e, ub j c]
      exact ⟨((s1 j c).1.ag (s1 j c).2 (fun _ _ => rfl) ub).cg (fun k hk => ff _ (m2.2 j c).2 k (by omega)), (s1 j c).2.mo (Nat.le_refl _) (Nat.le_succ _)⟩
    · obtain rfl : j = snM z := by omega
      have e : reS (z.1, z.2.1, (snM z + 1, upS z.2.2.1.2 (snM z) x), z.2.2.2) (snM z) = x := if_pos rfl
      rw [e, upA_e]
      exact ⟨hx.ag hp (fun _ _ => rfl) ub, hp.mo (Nat.le_refl _) (Nat.le_succ _)⟩
  · have hj : j < snM z + 1 := hj
    by_cases c : j < snM z
    · rw [ub i (by omega), ub j c]
      exact s2 i j hij c
    · obtain rfl : j = snM z := by omega
      rw [ub i hij, upA_e]
      exact Nat.lt_of_lt_of_le (m2.2 i hij).2 ho
theorem FzC.be {n m : Nat} {E A B V : Nat → Nat} {z : ZS} {x : SrZ} {o : Nat} {σ τ : CsC} (f : PoX o σ τ) (hn : n ≤ o) (hc : n ≤ cnC σ) (h3 : E 303 < cnC σ) : FzC n m E A A B (upA B (snM z) o) V V z (z.1, z.2.1, (snM z + 1, upS z.2.2.1.2 (snM z) x), z.2.2.2) σ τ := by
  obtain ⟨f0, f1, f2⟩ := f
  refine ⟨f0, fun a ha k hk => f1 a (by omega) (by omega) k (by have := xsF_r hk; omega), ⟨⟨Nat.le_refl _, fun _ _ => ⟨rfl, rfl⟩⟩, fun i h1 h2 => absurd h2 (Nat.not_lt.mpr h1)⟩, ⟨⟨Nat.le_succ _, fun j hj => by
    have e : reS (z.1, z.2.1, (snM z + 1, upS z.2.2.1.2 (snM z) x), z.2.2.2) j = reS z j := if_neg (Nat.ne_of_lt hj)
    exact ⟨upA_n (Nat.ne_of_lt hj), by rw [e], by rw [e]⟩⟩, fun i h1 h2 => ?_⟩, ⟨Nat.le_refl _, fun _ _ => ⟨rfl, rfl⟩⟩, Int.le_refl _, fun j _ => by rw [(f2 _ h3).1]⟩
  have h2 : i < snM z + 1 := h2
  obtain rfl : i = snM z := by omega
  rw [upA_e]
  exact hn
/-- a list grows -/
theorem LiC.ad {σ τ : CsC} {a o n : Nat} {A : Nat → Nat} (h : LiC σ a n A) (h1 : (fIC τ a 2).toInt = (fIC σ a 2).toInt + 1) (h3 : AeC a o σ τ) (hc : cnC σ ≤ cnC τ) (ho : o < cnC τ) : LiC τ a (n + 1) (upA A n o) := by
  refine ⟨by rw [h1, h.1]; rfl, fun i hi => ?_⟩
  by_cases c : i = n
  · have e9 : (fIC σ a 2).toNatClampNeg = n := by rw [nT_toNat, h.1]; exact Int.toNat_natCast _
    rw [c, upA_e]
    exact ⟨by rw [← e9]; exact h3.2.2, ho⟩
  · rw [upA_n c]
    have hi' : i < n := by omega
    exact ⟨(h3.2.1 i (by rw [h.1]; omega)).trans (h.2 i hi').1, Nat.lt_of_lt_of_le (h.2 i hi').2 hc⟩
theorem LiC.ao {σ τ : CsC} {a b o n : Nat} {A : Nat → Nat} (h : LiC σ b n A) (h2 : ∀ c, c ≠ a → fIC τ c 2 = fIC σ c 2) (h3 : AeC a o σ τ) (hb : b < cnC σ) (ht : tgC σ b = 0) (hn : b ≠ a) (hc : cnC σ ≤ cnC τ) : LiC τ b n A := ⟨by rw [h2 _ hn]; exact h.1, fun i hi => ⟨(h3.1 _ hb ht hn i (by rw [h.1]; omega)).trans (h.2 i hi).1, Nat.lt_of_lt_of_le (h.2 i hi).2 hc⟩⟩
abbrev Pz_begin : ((Int → Int) × (Nat → Nat) × (Nat → Nat) × (Nat → Nat) × (Nat → Nat) × ZS × Int × Int) → CpC := fun y As σ => match y with
  | (N, E, A, B, V, z, k, lv) => ∃ (p1 : Int32) (p2 : Int32), As = [.inr (.inr (some (E 0))), .inl p1, .inl p2] ∧ (ZC N E A B V σ z) ∧ (p1.toInt = k) ∧ (p2.toInt = lv)
abbrev Qz_begin : ((Int → Int) × (Nat → Nat) × (Nat → Nat) × (Nat → Nat) × (Nat → Nat) × ZS × Int × Int) → CqC := fun y As σ w τ => match y, As with
  | (N, E, A, B, V, z, k, lv), [_, .inl p1, .inl p2] => w = some (.inr (.inr (some (cnC σ)))) ∧ ZC N E A (upA B (snM z) (cnC σ)) V τ (beM k lv z) ∧ FzC (cnC σ) (xnM z) E A A B (upA B (snM z) (cnC σ)) V V z (beM k lv z) σ τ
  | _, _ => True
abbrev Uz_begin : CqC := fun As σ w τ => ∀ y, Pz_begin y As σ → Qz_begin y As σ w τ
set_option maxHeartbeats 4000000 in
theorem pz_begin (y : (Int → Int) × (Nat → Nat) × (Nat → Nat) × (Nat → Nat) × (Nat → Nat) × ZS × Int × Int) : PbC KX7_begin [(178, TrP, EqC 178), (236, TrP, EqC 236)] [(178, Uz_Statement)] (fun As σ => Pz_begin y As σ ∧ cnC σ ≤ 1000000 ∧ ∃ w τ, uqC quL 142 As σ w τ) (Qz_begin y) := by
  obtain ⟨N, E, A, B, V, z, k, lv⟩ := y
  rintro As σ ⟨⟨p1, p2, rfl, hZ, hp1, hp2⟩, hcn, _, _, hQ⟩ K hB hW n_
  have hH : HI0 σ ∧ TyC σ (E 0) 8 := hQ
  have hat := hZ.at0 hH
  change K n_ 0 [(0, .inr (.inr (some (E 0)))), (1, .inl p1), (2, .inl p2)] [] σ
  refine hB _ _ _ _ _ (fun m51 hm51 => ?_)
  dsimp only [ucgo, ucwp, ucsC, uqC, uoC, ctC, rfd, KX7_begin, KX7_begin_0, lkC, s1C, s2C, dlC, kyC, Nat.beq, Nat.ble, rcd, rno, rsw, Nat.reduceAdd, Nat.reduceBEq, Nat.reduceDiv, List.drop, List.take, List.reverse, List.reverseAux, Int.toNat, Option.toList, List.append, List.cons_append, List.nil_append, zg214, zg240, zg242, zg245, zg246]
  generalize hs52 : nOC σ 59 (nfC 9) 0 = s52
  have hZ52 : ZC N E A B V s52 z := hZ.nw (fun a ha k => by rw [← hs52]; exact nO_a (Nat.ne_of_lt ha)) (by rw [← hs52]; exact ⟨rfl, rfl, rfl⟩) (by rw [← hs52]; exact Nat.le_succ _)
  intro a53 e53 ob53
  cases e53
  have f54 : (fIC s52 (E 0) 242).toInt = zAt z.1 := hZ52.2.1.1.1
  intro a55 e55 ob55
  cases e55
  intro a56 e56 ob56
  cases e56
  intro w57 τ57 o57 q57
  obtain ⟨rfl, hi57⟩ := q57 (N, E, A, B, V, z) ⟨_, _, _, _, _, _, rfl⟩
  have ht57 : ∀ a, a < cnC s52 → a ≠ cnC σ → tgC τ57 a = tgC s52 a := o57.1.1
  have hc57 : cnC τ57 = cnC σ + 1 := by rw [hi57.2.2.1, ← hs52]; rfl
  have hg57 : ∀ a, a < cnC σ → ∀ k, fIC τ57 a k = fIC σ a k ∧ fLC τ57 a k = fLC σ a k ∧ fRC τ57 a k = fRC σ a k := fun a ha k => by
    have q1 := hi57.1 a (Nat.ne_of_lt ha) k
    have q2 : fIC s52 a k = fIC σ a k ∧ fLC s52 a k = fLC σ a k ∧ fRC s52 a k = fRC σ a k := by rw [← hs52]; exact nO_a (Nat.ne_of_lt ha)
    exact ⟨q1.1.trans q2.1, q1.2.1.trans q2.2.1, q1.2.2.trans q2.2.2⟩
  have he57 : eIC τ57 = eIC σ ∧ eLC τ57 = eLC σ ∧ eRC τ57 = eRC σ := by
    obtain ⟨q1, q2, q3⟩ := hi57.2.1
    rw [← hs52] at q1 q2 q3
    exact ⟨q1, q2, q3⟩
  have hZ57 : ZC N E A B V τ57 z := hZ.nw hg57 he57 (by omega)
  have hSo57 := SoC.nw hZ hs52 hi57 hp1 (by omega) hp2 rfl rfl
  try dsimp only [Option.toList, List.cons_append, List.nil_append, s1C, s2C, dlC, kyC, Nat.beq, lkC, rcd, rno, rsw]
  intro a58 e58 ob58
  cases e58
  intro a59 e59 ob59
  obtain rfl : E 1 = a59 := Option.some.inj (hZ57.1.1.1.symm.trans e59)
  rw [hZ57.1.2.1.2.2.2]
  try dsimp only
  intro w60 τ60 o60 q60
  have hq60 : AdQ2 [.inr (.inr (some (E 214))), .inr (.inr (some (cnC σ)))] τ57 w60 τ60 := o60.1.1
  obtain ⟨⟨r60, rfl⟩, ⟨hH2, ht2⟩, ha1, ha2, ha3⟩ := hq60
  have hfr : FrE [0, 1, 2, 902] τ57 τ60 := o60.2
  have t8 : TyC τ57 (E 0) 8 := ⟨by rw [hc57]; exact Nat.lt_succ_of_lt hH.2.1, by rw [ht57 _ (by rw [← hs52]; exact Nat.lt_succ_of_lt hH.2.1) (Nat.ne_of_lt hH.2.1), ← hs52, tg_nO (Nat.ne_of_lt hH.2.1)]; exact hH.2.2.1, fun q => by cases q⟩
  have hls := EnC.ls hZ57.1 hH2 t8
  have hlt := hZ57.1.2.2.2.2.1
  have f2 := hfr.2 rfl
  have hpa : ∀ a, a < cnC τ57 → (∀ k, 3 ≤ k ∧ k < 900 → fIC τ60 a k = fIC τ57 a k ∧ fLC τ60 a k = fLC τ57 a k ∧ fRC τ60 a k = fRC τ57 a k) ∧ (eIC τ60 a = eIC τ57 a ∧ eLC τ60 a = eLC τ57 a) := fun a ha => ⟨fun k hk => (f2 a ha).1 k (by
    cases h9 : ([0, 1, 2, 902] : List Nat).elem k with
    | false => rfl
    | true =>
      have h8 := List.elem_iff.mp h9
      simp only [List.mem_cons, List.not_mem_nil, or_false] at h8
      omega), (f2 a ha).2.1 rfl, (f2 a ha).2.2.1 rfl⟩
  try dsimp only [Option.toList, List.cons_append, List.nil_append, s1C, s2C, dlC, kyC, Nat.beq, lkC, rcd, rno, rsw]
  try dsimp only [Qz_begin]
  have hpo : PoX (cnC σ) σ τ60 := ⟨Nat.le_trans (by omega) hfr.1, fun a ha _ k hk => by
    have p := hg57 a ha k
    have q := (hpa a (by omega)).1 k hk
    exact ⟨q.1.trans p.1, q.2.1.trans p.2.1, q.2.2.trans p.2.2⟩, fun a ha => by
    have q := (hpa a (by omega)).2
    exact ⟨q.1.trans (by rw [he57.1]), q.2.trans (by rw [he57.2.1])⟩⟩
  have hlo : cnC σ < cnC τ60 := Nat.lt_of_lt_of_le (by omega) hfr.1
  exact ⟨rfl, ZC.be (x := beX k lv z) hZ hpo (Nat.le_refl _) (hSo57.cg (fun k hk => (hpa _ (by omega)).1 k (by omega))) (beX_o hZ.2.1.2.2.2) (LiC.ao hZ57.2.2.2.1.1 ha2 ha3 hlt.2.2.1 hls.1.2.2.1 hls.2.2.2 hfr.1) (LiC.ad hZ57.2.2.2.1.2.1 ha1 ha3 hfr.1 hlo) (LiC.ao hZ57.2.2.2.1.2.2.1 ha2 ha3 hlt.2.1 hls.1.2.1 hls.2.2.1.2 hfr.1) (LiC.ao hZ57.2.2.2.1.2.2.2 ha2 ha3 hlt.1 hls.1.1 hls.2.1.2.2 hfr.1), FzC.be (x := beX k lv z) hpo (Nat.le_refl _) (Nat.le_refl _) hZ.1.2.2.2.2.2.1.2.1⟩
theorem wz_begin : ∀ (L : Nat) (As : List AvC) (σ : CsC) (w : Option AvC) (τ : CsC), EvF L 142 As σ w τ → Uz_begin As σ w τ := by
  intro L
  cases L with
  | zero => exact fun _ _ _ _ h => h.elim
  | succ L => exact fun As σ w τ h y hy => EvF.us (cs := [178, 236]) (pz_begin y) rfl (List.forall_mem_cons.2 ⟨wz_Statement L, List.forall_mem_cons.2 ⟨fun _ _ _ _ _ => trivial, fun _ h => absurd h List.not_mem_nil⟩⟩) h hy
