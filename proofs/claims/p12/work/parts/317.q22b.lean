/-! ahead of a method -/
def prS (e : Nat) (σ : CsC) : CsC := pRC (pLC σ e 245 (Int64.ofNat ((0 : Fin 2) : Nat))) e 246 none
def rsM (z : ZS) : ZS := arM (-1) (skM [] z)
def R1C (N : Int → Int) (E A B V : Nat → Nat) (σ : CsC) (z : ZS) : Prop := EnC E σ ∧ (((fIC σ (E 0) 242).toInt = zAt z.1 ∧ (fIC σ (E 0) 243).toInt = zFt z.1) ∧ True) ∧ ((∀ j, (eIC σ (E 302) j).toInt = zK z.1 j) ∧ ∀ j : Nat, (eLC σ (E 304) j).toInt = N j) ∧ (LiC σ (E 213) (xnM z) A ∧ LiC σ (E 214) (snM z) B ∧ LiC σ (E 212) (zVs z.1).length V ∧ LiC σ (E 211) (zMs z.1).length (fun k => E (1000 + k))) ∧ True
theorem ZC.r1 {N : Int → Int} {E A B V : Nat → Nat} {σ : CsC} {e : Nat} {z : ZS} (h : ZC N E A B V (prS e σ) z) : R1C N E A B V σ z := ⟨h.1, ⟨h.2.1.1, trivial⟩, h.2.2.1, h.2.2.2.1, trivial⟩
theorem ZC.at1 {N : Int → Int} {E A B V : Nat → Nat} {σ : CsC} {z : ZS} (h : R1C N E A B V σ z) (H : HI0 σ ∧ TyC σ (E 0) 8) : 0 ≤ zAt z.1 ∧ zAt z.1 ≤ 500 := by
  obtain ⟨x, -, e, h1, h2⟩ := cg242 H.1 H.2
  rw [← h.2.1.1.1, e]
  exact ⟨h1, h2⟩
theorem u2_cg {α : Type} {f g : Nat → Nat → α} {e j a k : Nat} {v : α} (h : f a k = g a k) : u2C f e j v a k = u2C g e j v a k := by
  by_cases c : k = j
  · by_cases d : a = e
    · rw [c, d, u2C_eq, u2C_eq]
    · rw [u2C_na d, u2C_na d, h]
  · rw [u2C_nk c, u2C_nk c, h]
theorem pr_cg {e a k : Nat} {σ τ : CsC} (h : fIC τ a k = fIC σ a k ∧ fLC τ a k = fLC σ a k ∧ fRC τ a k = fRC σ a k) : fIC (prS e τ) a k = fIC (prS e σ) a k ∧ fLC (prS e τ) a k = fLC (prS e σ) a k ∧ fRC (prS e τ) a k = fRC (prS e σ) a k := ⟨h.1, u2_cg (f := fLC τ) (g := fLC σ) h.2.1, u2_cg (f := fRC τ) (g := fRC σ) h.2.2⟩
theorem PoX.pr {o e : Nat} {σ τ : CsC} (h : PoX o σ τ) : PoX o (prS e σ) (prS e τ) := ⟨h.1, fun a ha hn k hk => pr_cg (h.2.1 a ha hn k hk), h.2.2⟩
theorem ZC.np {N : Int → Int} {E A B V : Nat → Nat} {σ τ : CsC} {e : Nat} {z : ZS} (h : ZC N E A B V (prS e σ) z) (H : HI0 σ) (t8 : TyC σ (E 0) 8) (f1 : ∀ a, a < cnC σ → ∀ k, fIC τ a k = fIC σ a k ∧ fLC τ a k = fLC σ a k ∧ fRC τ a k = fRC σ a k) (f2 : ∀ a, a < cnC σ → eIC τ a = eIC σ a ∧ eLC τ a = eLC σ a ∧ eRC τ a = eRC σ a) (hc : cnC σ ≤ cnC τ) : ZC N E A B V (prS e τ) z := by
  have hr := h.r1
  have hls := EnC.ls hr.1 H t8
  obtain ⟨r1, r2, r3, r4⟩ := hr.2.2.2.1
  obtain ⟨n1, n2, n3, n4⟩ := hr.1.2.2.2.2.1
  have fp : ∀ a, a < cnC σ → ∀ k, fIC (prS e τ) a k = fIC (prS e σ) a k ∧ fLC (prS e τ) a k = fLC (prS e σ) a k ∧ fRC (prS e τ) a k = fRC (prS e σ) a k := fun a ha k => pr_cg (f1 a ha k)
  have q1 : LiC τ (E 213) (xnM z) A := r1.nm H n3 hls.1.2.2.1 (f1 _ n3 1).2.2 (f1 _ n3 2).1 (fun b hb => (f2 b hb).2.2) hc
  have q2 : LiC τ (E 214) (snM z) B := r2.nm H n4 hls.1.2.2.2 (f1 _ n4 1).2.2 (f1 _ n4 2).1 (fun b hb => (f2 b hb).2.2) hc
  have q3 : LiC τ (E 212) (zVs z.1).length V := r3.nm H n2 hls.1.2.1 (f1 _ n2 1).2.2 (f1 _ n2 2).1 (fun b hb => (f2 b hb).2.2) hc
  have q4 : LiC τ (E 211) (zMs z.1).length (fun k => E (1000 + k)) := r4.nm H n1 hls.1.1 (f1 _ n1 1).2.2 (f1 _ n1 2).1 (fun b hb => (f2 b hb).2.2) hc
  have n302 := hr.1.2.2.2.2.2.1.1
  have n304 := hr.1.2.2.2.2.2.1.2.2
  have n0 := hr.1.2.2.2.1.1
  obtain ⟨h1, ⟨⟨h2, h3⟩, h4, h5, h6⟩, ⟨h7, h8⟩, ⟨l1, l2, l3, l4⟩, ⟨x1, x2⟩, ⟨s1, s2⟩, v1, v2, v3⟩ := h
  refine ⟨h1.cg (fun a k ha hk => (fp a ha k).2.2) hc, ⟨⟨?_, ?_⟩, ?_, ?_, h6⟩, ⟨fun j => ?_, fun j => ?_⟩, ⟨q1, q2, q3, q4⟩, ⟨fun i hi => ⟨(x1 i hi).1.cg (fun k _ => fp _ (l1.2 i hi).2 k), (x1 i hi).2⟩, fun i hi => ⟨(x2 i hi).1, ChC.cg (fun a ha => ?_) (x2 i hi).2⟩⟩, ⟨fun j hj => ⟨(s1 j hj).1.cg (fun k hk => fp _ (l2.2 j hj).2 k), (s1 j hj).2⟩, s2⟩, fun v hv => (v1 v hv).cg (fun k hk => (fp _ (l3.2 v hv).2 k).1), v2, v3⟩
  · rw [(fp _ n0 242).1]; exact h2
  · rw [(fp _ n0 243).1]; exact h3
  · rw [(fp _ n0 245).2.1]; exact h4
  · rw [(fp _ n0 246).2.2]; exact h5
  · rw [show eIC (prS e τ) (E 302) = eIC (prS e σ) (E 302) from (f2 _ n302).1]; exact h7 j
  · rw [show eLC (prS e τ) (E 304) = eLC (prS e σ) (E 304) from (f2 _ n304).2.1]; exact h8 j
  · have q := (x2 i hi).1 a ha
    exact (fp _ (l1.2 a.toNat (by omega)).2 75).2.2
theorem ZC.rs {N : Int → Int} {E A B V : Nat → Nat} {σ : CsC} {z : ZS} {K : List (Int × Int)} (h : ZC N E A B V σ (skM K z)) : ZC N E A B V (prS (E 0) σ) (rsM z) := by
  have h1 : ZC N E A B V (pLC σ (E 0) 245 (Int64.ofNat ((0 : Fin 2) : Nat))) (skM [] z) := ZC.kn h ⟨rfl, rfl, rfl⟩ ⟨rfl, rfl⟩ KbC.nil (fun q hq => absurd hq List.not_mem_nil) List.Pairwise.nil
  exact ZC.ar h1 (opA_n (by decide)).symm (by omega)
abbrev Pz_code0 : ((Int → Int) × (Nat → Nat) × (Nat → Nat) × (Nat → Nat) × (Nat → Nat) × ZS) → CpC := fun y As σ => match y with
  | (N, E, A, B, V, z) => As = [.inr (.inr (some (E 0)))] ∧ (ZC N E A B V (prS (E 0) σ) z)
abbrev Qz_code0 : ((Int → Int) × (Nat → Nat) × (Nat → Nat) × (Nat → Nat) × (Nat → Nat) × ZS) → CqC := fun y As σ w τ => match y, As with
  | (N, E, A, B, V, z), [_] => ∃ c, w = some (.inl c) ∧ c.toInt = codY z.1 ∧ σ = τ
  | _, _ => True
abbrev Uz_code0 : CqC := fun As σ w τ => ∀ y, Pz_code0 y As σ → Qz_code0 y As σ w τ
set_option maxHeartbeats 4000000 in
theorem pz_code0 (y : (Int → Int) × (Nat → Nat) × (Nat → Nat) × (Nat → Nat) × (Nat → Nat) × ZS) : PbC KX7_code [] [] (fun As σ => Pz_code0 y As σ ∧ cnC σ ≤ 1000000 ∧ ∃ w τ, uqC quL 125 As σ w τ) (Qz_code0 y) := by
  obtain ⟨N, E, A, B, V, z⟩ := y
  rintro As σ ⟨⟨rfl, hZ⟩, hcn, _, _, hQ⟩ K hB hW n_
  have hH : HI0 σ ∧ TyC σ (E 0) 8 := hQ
  have hR := hZ.r1
  have hat := ZC.at1 hR hH
  change K n_ 0 [(0, .inr (.inr (some (E 0))))] [] σ
  refine hB _ _ _ _ _ (fun m51 hm51 => ?_)
  dsimp only [ucgo, ucwp, ucsC, uqC, uoC, ctC, rfd, KX7_code, KX7_code_0, KX7_code_7, KX7_code_22, KX7_code_23, lkC, s1C, s2C, dlC, kyC, Nat.beq, Nat.ble, rcd, rno, rsw, Nat.reduceAdd, Nat.reduceBEq, Nat.reduceDiv, List.drop, List.take, List.reverse, List.reverseAux, Int.toNat, Option.toList, List.append, List.cons_append, List.nil_append, zg241, zg242, zg243, zg302]
  intro a52 e52 ob52
  cases e52
  have f53 : (fIC σ (E 0) 243).toInt = zFt z.1 := hR.2.1.1.2
  refine ⟨fun h54 => ?_, fun h54 => ?_⟩
  · have g54 := (neI (x := (fIC σ (E 0) 243)) (y := 0) h54 : ¬ ((fIC σ (E 0) 243) : Int32).toInt = (0 : Int32).toInt)
    have z0_ : (0 : Int32).toInt = 0 := rfl
    refine hB _ _ _ _ _ (fun m55 hm55 => ?_)
    dsimp only [ucgo, ucwp, ucsC, uqC, uoC, ctC, rfd, KX7_code, KX7_code_0, KX7_code_7, KX7_code_22, KX7_code_23, lkC, s1C, s2C, dlC, kyC, Nat.beq, Nat.ble, rcd, rno, rsw, Nat.reduceAdd, Nat.reduceBEq, Nat.reduceDiv, List.drop, List.take, List.reverse, List.reverseAux, Int.toNat, Option.toList, List.append, List.cons_append, List.nil_append, zg241, zg242, zg243, zg302]
    have c56 : (Int32.ofInt (-1)).toInt = -1 := by decide
    refine hB _ _ _ _ _ (fun m57 hm57 => ?_)
    dsimp only [ucgo, ucwp, ucsC, uqC, uoC, ctC, rfd, KX7_code, KX7_code_0, KX7_code_7, KX7_code_22, KX7_code_23, lkC, s1C, s2C, dlC, kyC, Nat.beq, Nat.ble, rcd, rno, rsw, Nat.reduceAdd, Nat.reduceBEq, Nat.reduceDiv, List.drop, List.take, List.reverse, List.reverseAux, Int.toNat, Option.toList, List.append, List.cons_append, List.nil_append, zg241, zg242, zg243, zg302]
    try dsimp only [Qz_code0]
    exact ⟨_, rfl, by unfold codY; rw [if_neg (by omega)]; omega, rfl⟩
  · have g54 := (eqI (x := (fIC σ (E 0) 243)) (y := 0) h54 : ((fIC σ (E 0) 243) : Int32).toInt = (0 : Int32).toInt)
    have z0_ : (0 : Int32).toInt = 0 := rfl
    refine hB _ _ _ _ _ (fun m58 hm58 => ?_)
    dsimp only [ucgo, ucwp, ucsC, uqC, uoC, ctC, rfd, KX7_code, KX7_code_0, KX7_code_7, KX7_code_22, KX7_code_23, lkC, s1C, s2C, dlC, kyC, Nat.beq, Nat.ble, rcd, rno, rsw, Nat.reduceAdd, Nat.reduceBEq, Nat.reduceDiv, List.drop, List.take, List.reverse, List.reverseAux, Int.toNat, Option.toList, List.append, List.cons_append, List.nil_append, zg241, zg242, zg243, zg302]
    intro a59 e59 ob59
    cases e59
    intro a60 e60 ob60
    obtain rfl : E 2 = a60 := Option.some.inj (hR.1.1.2.symm.trans e60)
    intro a61 e61 ob61
    cases e61
    have f62 : (fIC σ (E 0) 242).toInt = zAt z.1 := hR.2.1.1.1
    intro a63 e63
    obtain rfl : E 302 = a63 := Option.some.inj (hR.1.2.2.1.1.symm.trans e63)
    refine ⟨fun t63 v63 => ?_, fun y63 => absurd y63 (by have := hR.1.2.2.2.2.2.1.1; omega), fun y63 => absurd y63 (by have := hR.1.2.2.2.2.2.1.1; omega)⟩
    have f63 : (eIC σ (E 302) (fIC σ (E 0) 242).toNatClampNeg).toInt = zK z.1 (zAt z.1).toNat := by rw [hR.2.2.1.1, nT_toNat, show ((fIC σ (E 0) 242) : Int32).toInt = zAt z.1 by omega]
    refine hB _ _ _ _ _ (fun m64 hm64 => ?_)
    dsimp only [ucgo, ucwp, ucsC, uqC, uoC, ctC, rfd, KX7_code, KX7_code_0, KX7_code_7, KX7_code_22, KX7_code_23, lkC, s1C, s2C, dlC, kyC, Nat.beq, Nat.ble, rcd, rno, rsw, Nat.reduceAdd, Nat.reduceBEq, Nat.reduceDiv, List.drop, List.take, List.reverse, List.reverseAux, Int.toNat, Option.toList, List.append, List.cons_append, List.nil_append, zg241, zg242, zg243, zg302]
    try dsimp only [Qz_code0]
    exact ⟨_, rfl, by unfold codY; rw [if_pos (by omega)]; omega, rfl⟩
theorem wz_code0 : ∀ (L : Nat) (As : List AvC) (σ : CsC) (w : Option AvC) (τ : CsC), EvF L 125 As σ w τ → Uz_code0 As σ w τ := by
  intro L
  cases L with
  | zero => exact fun _ _ _ _ h => h.elim
  | succ L => exact fun As σ w τ h y hy => EvF.us (cs := []) (pz_code0 y) rfl (fun _ h => absurd h List.not_mem_nil) h hy
abbrev Pz_accept0 : ((Int → Int) × (Nat → Nat) × (Nat → Nat) × (Nat → Nat) × (Nat → Nat) × ZS) → CpC := fun y As σ => match y with
  | (N, E, A, B, V, z) => As = [.inr (.inr (some (E 0)))] ∧ (ZC N E A B V (prS (E 0) σ) z) ∧ (zFt (accM z).1 = 0)
abbrev Qz_accept0 : ((Int → Int) × (Nat → Nat) × (Nat → Nat) × (Nat → Nat) × (Nat → Nat) × ZS) → CqC := fun y As σ w τ => match y, As with
  | (N, E, A, B, V, z), [_] => w = none ∧ ZC N E A B V (prS (E 0) τ) (accM z) ∧ FzC (cnC σ) (xnM z) E A A B B V V z (accM z) σ τ
  | _, _ => True
abbrev Uz_accept0 : CqC := fun As σ w τ => ∀ y, Pz_accept0 y As σ → Qz_accept0 y As σ w τ
set_option maxHeartbeats 4000000 in
theorem pz_accept0 (y : (Int → Int) × (Nat → Nat) × (Nat → Nat) × (Nat → Nat) × (Nat → Nat) × ZS) : PbC KX7_accept [(127, TrP, EqC 127)] [] (fun As σ => Pz_accept0 y As σ ∧ cnC σ ≤ 1000000 ∧ ∃ w τ, uqC quL 128 As σ w τ) (Qz_accept0 y) := by
  obtain ⟨N, E, A, B, V, z⟩ := y
  rintro As σ ⟨⟨rfl, hZ, hft⟩, hcn, _, _, hQ⟩ K hB hW n_
  have hH : HI0 σ ∧ TyC σ (E 0) 8 := hQ
  have hR := hZ.r1
  have hat := ZC.at1 hR hH
  have hac := acc_n hft
  change K n_ 0 [(0, .inr (.inr (some (E 0))))] [] σ
  refine hB _ _ _ _ _ (fun m51 hm51 => ?_)
  dsimp only [ucgo, ucwp, ucsC, uqC, uoC, ctC, rfd, KX7_accept, KX7_accept_0, KX7_accept_10, KX7_accept_18, KX7_accept_25, KX7_accept_35, lkC, s1C, s2C, dlC, kyC, Nat.beq, Nat.ble, rcd, rno, rsw, Nat.reduceAdd, Nat.reduceBEq, Nat.reduceDiv, List.drop, List.take, List.reverse, List.reverseAux, Int.toNat, Option.toList, List.append, List.cons_append, List.nil_append, zg242, zg243]
  intro a52 e52 ob52
  cases e52
  have f53 : (fIC σ (E 0) 242).toInt = zAt z.1 := hR.2.1.1.1
  have c54 : (Int32.ofInt 500).toInt = 500 := by decide
  refine ⟨fun h55 => ?_, fun h55 => ?_⟩
  · have g55 := ltI (x := (fIC σ (E 0) 242)) (y := (Int32.ofInt 500)) h55
    refine hB _ _ _ _ _ (fun m56 hm56 => ?_)
    dsimp only [ucgo, ucwp, ucsC, uqC, uoC, ctC, rfd, KX7_accept, KX7_accept_0, KX7_accept_10, KX7_accept_18, KX7_accept_25, KX7_accept_35, lkC, s1C, s2C, dlC, kyC, Nat.beq, Nat.ble, rcd, rno, rsw, Nat.reduceAdd, Nat.reduceBEq, Nat.reduceDiv, List.drop, List.take, List.reverse, List.reverseAux, Int.toNat, Option.toList, List.append, List.cons_append, List.nil_append, zg242, zg243]
    intro a57 e57 ob57
    cases e57
    have f58 : (fIC σ (E 0) 243).toInt = zFt z.1 := hR.2.1.1.2
    refine ⟨fun h59 => ?_, fun h59 => ?_⟩
    · have g59 := (neI (x := (fIC σ (E 0) 243)) (y := 0) h59 : ¬ ((fIC σ (E 0) 243) : Int32).toInt = (0 : Int32).toInt)
      have z0_ : (0 : Int32).toInt = 0 := rfl
      refine hB _ _ _ _ _ (fun m60 hm60 => ?_)
      dsimp only [ucgo, ucwp, ucsC, uqC, uoC, ctC, rfd, KX7_accept, KX7_accept_0, KX7_accept_10, KX7_accept_18, KX7_accept_25, KX7_accept_35, lkC, s1C, s2C, dlC, kyC, Nat.beq, Nat.ble, rcd, rno, rsw, Nat.reduceAdd, Nat.reduceBEq, Nat.reduceDiv, List.drop, List.take, List.reverse, List.reverseAux, Int.toNat, Option.toList, List.append, List.cons_append, List.nil_append, zg242, zg243]
      try dsimp only [Qz_accept0]
      omega
    · have g59 := (eqI (x := (fIC σ (E 0) 243)) (y := 0) h59 : ((fIC σ (E 0) 243) : Int32).toInt = (0 : Int32).toInt)
      have z0_ : (0 : Int32).toInt = 0 := rfl
      refine hB _ _ _ _ _ (fun m61 hm61 => ?_)
      dsimp only [ucgo, ucwp, ucsC, uqC, uoC, ctC, rfd, KX7_accept, KX7_accept_0, KX7_accept_10, KX7_accept_18, KX7_accept_25, KX7_accept_35, lkC, s1C, s2C, dlC, kyC, Nat.beq, Nat.ble, rcd, rno, rsw, Nat.reduceAdd, Nat.reduceBEq, Nat.reduceDiv, List.drop, List.take, List.reverse, List.reverseAux, Int.toNat, Option.toList, List.append, List.cons_append, List.nil_append, zg242, zg243]
      intro a62 e62 ob62
      cases e62
      have f63 : (fIC σ (E 0) 242).toInt = zAt z.1 := hR.2.1.1.1
      have c64 : (Int32.ofInt 1).toInt = 1 := by decide
      have u65 := tiC (fIC σ (E 0) 242)
      have a65 : ((fIC σ (E 0) 242) + (Int32.ofInt 1)).toInt = zAt z.1 + 1 := addC (by omega) (by omega) (by omega)
      intro a66 e66 ob66 fk66
      cases e66
      clear fk66 ob66
      generalize hs66 : pIC σ (E 0) 242 ((fIC σ (E 0) 242) + (Int32.ofInt 1)) = s66
      refine hB _ _ _ _ _ (fun m67 hm67 => ?_)
      dsimp only [ucgo, ucwp, ucsC, uqC, uoC, ctC, rfd, KX7_accept, KX7_accept_0, KX7_accept_10, KX7_accept_18, KX7_accept_25, KX7_accept_35, lkC, s1C, s2C, dlC, kyC, Nat.beq, Nat.ble, rcd, rno, rsw, Nat.reduceAdd, Nat.reduceBEq, Nat.reduceDiv, List.drop, List.take, List.reverse, List.reverseAux, Int.toNat, Option.toList, List.append, List.cons_append, List.nil_append, zg242, zg243]
      try dsimp only [Qz_accept0]
      intro τ hwe
      have ei : ∀ a k, k ≠ 242 → fIC τ a k = fIC σ a k := fun a k hk => by rw [we_i hwe, ← hs66]; exact u2C_nk hk
      have el : fLC τ = fLC σ := by rw [we_l hwe, ← hs66]; rfl
      have er : fRC τ = fRC σ := by rw [we_r hwe, ← hs66]; rfl
      have e1 : eIC τ = eIC σ := by rw [we_ei hwe, ← hs66]; rfl
      have e2 : eLC τ = eLC σ := by rw [we_el hwe, ← hs66]; rfl
      have e3 : eRC τ = eRC σ := by rw [we_er hwe, ← hs66]; rfl
      have ec : cnC τ = cnC σ := by rw [we_c hwe, ← hs66]; rfl
      have e242 : (fIC τ (E 0) 242).toInt = zAt z.1 + 1 := by
        rw [we_i hwe, ← hs66]
        show (u2C (fIC σ) (E 0) 242 _ (E 0) 242).toInt = _
        rw [u2C_eq]
        omega
      have ha : (accM z).1 = ((zAt z.1 + 1, zFt z.1, zPl z.1), z.1.2) := hac.2.2
      refine ⟨rfl, ZC.rd (σ := prS (E 0) σ) (τ := prS (E 0) τ) hZ (fun a k h1 _ _ => ei a k h1) ⟨by show u2C (fLC τ) _ _ _ = u2C (fLC σ) _ _ _; rw [el], by show u2C (fRC τ) _ _ _ = u2C (fRC σ) _ _ _; rw [er]⟩ ⟨e1, e2, e3⟩ ec rfl (by show (fIC τ (E 0) 242).toInt = _; rw [ha]; exact e242) (by show (fIC τ (E 0) 243).toInt = _; rw [ha, ei _ 243 (by decide)]; exact hR.2.1.1.2) (by rw [ha]), FzC.rd ec (fun o ho k hk => ⟨ei o k (fun q => by rw [q] at hk; cases hk), by rw [el], by rw [er]⟩) (Nat.le_refl _) e1 rfl (by rw [ha]) (by rw [ha]; show zAt z.1 ≤ zAt z.1 + 1; omega)⟩
  · have g55 := nltI (x := (fIC σ (E 0) 242)) (y := (Int32.ofInt 500)) h55
    exfalso
    omega
theorem wz_accept0 : ∀ (L : Nat) (As : List AvC) (σ : CsC) (w : Option AvC) (τ : CsC), EvF L 128 As σ w τ → Uz_accept0 As σ w τ := by
  intro L
  cases L with
  | zero => exact fun _ _ _ _ h => h.elim
  | succ L => exact fun As σ w τ h y hy => EvF.us (cs := [127]) (pz_accept0 y) rfl (List.forall_mem_cons.2 ⟨fun _ _ _ _ _ => trivial, fun _ h => absurd h List.not_mem_nil⟩) h hy
abbrev Uz_code9 : CqC := fun As σ w τ => Uz_code As σ w τ ∧ Uz_code0 As σ w τ
theorem wz_code9 : ∀ (L : Nat) (As : List AvC) (σ : CsC) (w : Option AvC) (τ : CsC), EvF L 125 As σ w τ → Uz_code9 As σ w τ := fun L As σ w τ h => ⟨wz_code L As σ w τ h, wz_code0 L As σ w τ h⟩
abbrev Uz_accept9 : CqC := fun As σ w τ => Uz_accept As σ w τ ∧ Uz_accept0 As σ w τ
theorem wz_accept9 : ∀ (L : Nat) (As : List AvC) (σ : CsC) (w : Option AvC) (τ : CsC), EvF L 128 As σ w τ → Uz_accept9 As σ w τ := fun L As σ w τ h => ⟨wz_accept L As σ w τ h, wz_accept0 L As σ w τ h⟩
