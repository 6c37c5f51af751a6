/-! the class's judge: exps -/
theorem and01 {x y : Int32} {a b : Int} (hx : x.toInt = a) (hy : y.toInt = b) (ha : a = 0 ∨ a = 1) (hb : b = 0 ∨ b = 1) : (x &&& y).toInt = if a = 1 ∧ b = 1 then 1 else 0 := by
  have ex : x = Int32.ofInt a := by rw [← hx, Int32.ofInt_toInt]
  have ey : y = Int32.ofInt b := by rw [← hy, Int32.ofInt_toInt]
  rw [ex, ey]
  rcases ha with rfl | rfl <;> rcases hb with rfl | rfl <;> decide
theorem and00 {x y : Int32} (hx : x.toInt = 0) : (x &&& y).toInt = 0 := by
  have ex : x = 0 := Int32.toInt_inj.mp hx
  rw [ex, Int32.zero_and]
  rfl
/-- fields of one object alone have changed, and of them those in M -/
def XuC (M : List Nat) (σ τ : CsC) (o : Nat) : Prop := (∀ a k, (M.elem k = false ∨ a ≠ o) → fIC τ a k = fIC σ a k ∧ fLC τ a k = fLC σ a k ∧ fRC τ a k = fRC σ a k) ∧ (eIC τ = eIC σ ∧ eLC τ = eLC σ ∧ eRC τ = eRC σ) ∧ cnC τ = cnC σ
theorem XuC.rf {M : List Nat} {σ : CsC} {o : Nat} : XuC M σ σ o := ⟨fun _ _ _ => ⟨rfl, rfl, rfl⟩, ⟨rfl, rfl, rfl⟩, rfl⟩
theorem XuC.pI {M : List Nat} {σ τ υ : CsC} {o k : Nat} {v : Int32} (h : XuC M σ τ o) (hk : M.elem k = true) (e : pIC τ o k v = υ) : XuC M σ υ o := by
  rw [← e]
  refine ⟨fun a j hj => ⟨?_, (h.1 a j hj).2⟩, h.2⟩
  rw [← (h.1 a j hj).1]
  rcases hj with q | q
  · exact u2C_nk (el_nk hk q)
  · exact u2C_na q
theorem XuC.pL {M : List Nat} {σ τ υ : CsC} {o k : Nat} {v : Int64} (h : XuC M σ τ o) (hk : M.elem k = true) (e : pLC τ o k v = υ) : XuC M σ υ o := by
  rw [← e]
  refine ⟨fun a j hj => ⟨(h.1 a j hj).1, ?_, (h.1 a j hj).2.2⟩, h.2⟩
  rw [← (h.1 a j hj).2.1]
  rcases hj with q | q
  · exact u2C_nk (el_nk hk q)
  · exact u2C_na q
theorem pI_g {τ υ : CsC} {o k : Nat} {v : Int32} (e : pIC τ o k v = υ) : fIC υ o k = v := by rw [← e]; exact u2C_eq
theorem pL_g {τ υ : CsC} {o k : Nat} {v : Int64} (e : pLC τ o k v = υ) : fLC υ o k = v := by rw [← e]; exact u2C_eq
theorem pI_o {τ υ : CsC} {o k j : Nat} {v : Int32} (e : pIC τ o k v = υ) (h : j ≠ k) : fIC υ o j = fIC τ o j := by rw [← e]; exact u2C_nk h
theorem pI_ol {τ υ : CsC} {o k j : Nat} {v : Int32} (e : pIC τ o k v = υ) : fLC υ o j = fLC τ o j := by rw [← e]; rfl
theorem pL_oi {τ υ : CsC} {o k j : Nat} {v : Int64} (e : pLC τ o k v = υ) : fIC υ o j = fIC τ o j := by rw [← e]; rfl
theorem pL_ol {τ υ : CsC} {o k j : Nat} {v : Int64} (e : pLC τ o k v = υ) (h : j ≠ k) : fLC υ o j = fLC τ o j := by rw [← e]; exact u2C_nk h
/-- an ERROR is told -/
abbrev erC (E : Nat → Nat) (σ : CsC) : Prop := ¬ fIC σ (E 1) 217 = 0
theorem er_pI {E : Nat → Nat} {τ υ : CsC} {o k : Nat} {v : Int32} (e : pIC τ o k v = υ) (hk : 217 ≠ k) (h : erC E τ) : erC E υ := by
  rw [← e]
  show ¬ u2C (fIC τ) o k v (E 1) 217 = 0
  rw [u2C_nk hk]
  exact h
theorem er_pL {E : Nat → Nat} {τ υ : CsC} {o k : Nat} {v : Int64} (e : pLC τ o k v = υ) (h : erC E τ) : erC E υ := by
  rw [← e]
  exact h
theorem XuC.er {M : List Nat} {E : Nat → Nat} {σ τ : CsC} {o : Nat} (h : XuC M σ τ o) (hM : M.elem 217 = false) (q : fIC σ (E 1) 217 = 0) : fIC τ (E 1) 217 = 0 := ((h.1 (E 1) 217 (Or.inl hM)).1).trans q
/-- an exp's object: what was read of it, but its operands -/
def XqC (σ : CsC) (x : XrZ) (o : Nat) : Prop := ((fIC σ o 60).toInt = x.1.1 ∧ (fIC σ o 61).toInt = x.1.2.1 ∧ (fIC σ o 62).toInt = x.1.2.2.1) ∧ (¬ x.1.1 = 10 → (fIC σ o 67).toInt = x.2.1.2.1) ∧ (x.1.1 = 5 → (fIC σ o 69).toInt = x.2.1.2.2)
/-- variables -/
def VpC (E V : Nat → Nat) (σ : CsC) (C : CxT) : Prop := (fRC σ (E 3) 121 = some (E 1) ∧ fRC σ (E 1) 212 = some (E 212)) ∧ LiC σ (E 212) C.2.2.1 V ∧ ∀ v, v < C.2.2.1 → (fIC σ (V v) 331).toInt = (C.2.1 v).1 ∧ (fIC σ (V v) 332).toInt = (C.2.1 v).2
/-- what an exp has become -/
def TwC (τ : CsC) (o : Nat) (r : TvT) : Prop := (fIC τ o 68).toInt = r.1 ∧ (fIC τ o 70).toInt = r.2.1 ∧ fLC τ o 71 = r.2.2.1
/-- where the judge finds its program -/
def PjC (E : Nat → Nat) (σ : CsC) : Prop := fRC σ (E 3) 121 = some (E 1) ∧ E 1 < cnC σ ∧ E 3 < cnC σ
theorem PjC.fr {E : Nat → Nat} {M : List Nat} {σ τ : CsC} (h : PjC E σ) (f : FrE M σ τ) (h1 : M.elem 999 = false) (h2 : M.elem 121 = false) : PjC E τ := ⟨(((f.2 h1 (E 3) h.2.2).1 121 h2).2.2).trans h.1, Nat.lt_of_lt_of_le h.2.1 f.1, Nat.lt_of_lt_of_le h.2.2 f.1⟩
theorem PjC.xu {E : Nat → Nat} {M : List Nat} {σ τ : CsC} {o : Nat} (h : PjC E σ) (x : XuC M σ τ o) (h2 : M.elem 121 = false) : PjC E τ := ⟨((x.1 (E 3) 121 (Or.inl h2)).2.2).trans h.1, by rw [x.2.2]; exact h.2.1, by rw [x.2.2]; exact h.2.2⟩
theorem PjC.pI {E : Nat → Nat} {τ υ : CsC} {o k : Nat} {v : Int32} (h : PjC E τ) (e : pIC τ o k v = υ) : PjC E υ := by rw [← e]; exact h
theorem PjC.pL {E : Nat → Nat} {τ υ : CsC} {o k : Nat} {v : Int64} (h : PjC E τ) (e : pLC τ o k v = υ) : PjC E υ := by rw [← e]; exact h
theorem TwC.cg {σ τ : CsC} {o : Nat} {r : TvT} (h : TwC σ o r) (f : ∀ k, fIC τ o k = fIC σ o k ∧ fLC τ o k = fLC σ o k) : TwC τ o r := by
  unfold TwC
  rw [(f 68).1, (f 70).1, (f 71).2]
  exact h
/-- what judging an exp does: M: the fields that it writes -/
def JqC (E : Nat → Nat) (M : List Nat) (σ τ : CsC) (o : Nat) (q : Option TvT) (W : TvT → Prop) : Prop := (q = none ∧ erC E τ) ∨ ∃ r, q = some r ∧ fIC τ (E 1) 217 = 0 ∧ XuC M σ τ o ∧ TwC τ o r ∧ W r
theorem JqC.we {E : Nat → Nat} {M : List Nat} {σ τ υ : CsC} {o : Nat} {q : Option TvT} {W : TvT → Prop} (e : WeC τ υ) (h : JqC E M σ τ o q W) : JqC E M σ υ o q W := by
  rcases h with ⟨h1, h2⟩ | ⟨r, h1, h2, h3, h4, h5⟩
  · exact Or.inl ⟨h1, by show ¬ fIC υ (E 1) 217 = 0; rw [we_i e]; exact h2⟩
  · refine Or.inr ⟨r, h1, by rw [we_i e]; exact h2, ?_, ?_, h5⟩
    · unfold XuC
      rw [we_i e, we_l e, we_r e, we_ei e, we_el e, we_er e, we_c e]
      exact h3
    · unfold TwC
      rw [we_i e, we_l e]
      exact h4
abbrev Pz_tell : ((Int → Int) × (Nat → Nat) × (Nat → Nat) × (Nat → Nat) × (Nat → Nat) × ZS) → CpC := fun y As σ => match y with
  | (N, E, A, B, V, z) => ∃ (p1 : Int32) (p2 : Int32), As = [.inr (.inr (some (E 1))), .inl p1, .inl p2] ∧ (¬ p1.toInt = 0)
abbrev Qz_tell : ((Int → Int) × (Nat → Nat) × (Nat → Nat) × (Nat → Nat) × (Nat → Nat) × ZS) → CqC := fun y As σ w τ => match y, As with
  | (N, E, A, B, V, z), [_, .inl p1, .inl p2] => w = none ∧ erC E τ
  | _, _ => True
abbrev Uz_tell : CqC := fun As σ w τ => ∀ y, Pz_tell y As σ → Qz_tell y As σ w τ
set_option maxHeartbeats 4000000 in
theorem pz_tell (y : (Int → Int) × (Nat → Nat) × (Nat → Nat) × (Nat → Nat) × (Nat → Nat) × ZS) : PbC KX6_tell [] [] (fun As σ => Pz_tell y As σ ∧ cnC σ ≤ 1000000 ∧ ∃ w τ, uqC quL 118 As σ w τ) (Qz_tell y) := by
  obtain ⟨N, E, A, B, V, z⟩ := y
  rintro As σ ⟨⟨p1, p2, rfl, hp1⟩, hcn, _, _, hQ⟩ K hB hW n_
  have hH : HI0 σ ∧ TyC σ (E 1) 7 := hQ
  obtain ⟨t9, -, et9, tt9⟩ := cg210 hH.1 hH.2
  obtain ⟨a9, -, ea9, ta9, -, -⟩ := cg300 hH.1 tt9
  have la9 := ta9.1
  change K n_ 0 [(0, .inr (.inr (some (E 1)))), (1, .inl p1), (2, .inl p2)] [] σ
  refine hB _ _ _ _ _ (fun m51 hm51 => ?_)
  dsimp only [ucgo, ucwp, ucsC, uqC, uoC, ctC, rfd, KX6_tell, KX6_tell_0, KX6_tell_17, KX6_tell_25, KX6_tell_33, KX6_tell_41, KX6_tell_51, lkC, s1C, s2C, dlC, kyC, Nat.beq, Nat.ble, rcd, rno, rsw, Nat.reduceAdd, Nat.reduceBEq, Nat.reduceDiv, List.drop, List.take, List.reverse, List.reverseAux, Int.toNat, Option.toList, List.append, List.cons_append, List.nil_append, zg210, zg217, zg218, zg300]
  intro a52 e52 ob52
  cases e52
  intro a53 e53 ob53
  obtain rfl : t9 = a53 := Option.some.inj (et9.symm.trans e53)
  intro a54 e54
  obtain rfl : a9 = a54 := Option.some.inj (ea9.symm.trans e54)
  refine ⟨fun t54 v54 => ?_, fun y54 => absurd y54 (by omega), fun y54 => absurd y54 (by omega)⟩
  intro a55 e55 ob55
  cases e55
  refine ⟨fun h56 => ?_, fun h56 => ?_⟩
  · have g56 := (eqI (x := (fIC σ (E 1) 217)) (y := 0) h56 : ((fIC σ (E 1) 217) : Int32).toInt = (0 : Int32).toInt)
    have z0_ : (0 : Int32).toInt = 0 := rfl
    refine hB _ _ _ _ _ (fun m57 hm57 => ?_)
    dsimp only [ucgo, ucwp, ucsC, uqC, uoC, ctC, rfd, KX6_tell, KX6_tell_0, KX6_tell_17, KX6_tell_25, KX6_tell_33, KX6_tell_41, KX6_tell_51, lkC, s1C, s2C, dlC, kyC, Nat.beq, Nat.ble, rcd, rno, rsw, Nat.reduceAdd, Nat.reduceBEq, Nat.reduceDiv, List.drop, List.take, List.reverse, List.reverseAux, Int.toNat, Option.toList, List.append, List.cons_append, List.nil_append, zg210, zg217, zg218, zg300]
    intro a58 e58 ob58 fk58
    cases e58
    clear fk58 ob58
    generalize hs58 : pIC σ (E 1) 217 p1 = s58
    have hb58 : erC E s58 := by
      show ¬ fIC s58 (E 1) 217 = 0
      rw [show fIC s58 (E 1) 217 = p1 from pI_g hs58]
      intro q9
      rw [q9] at hp1
      exact hp1 rfl
    intro a59 e59 ob59 fk59
    cases e59
    clear fk59 ob59
    generalize hs59 : pIC s58 (E 1) 218 (eIC σ a9 p2.toNatClampNeg) = s59
    have hb59 : erC E s59 := er_pI hs59 (by decide) hb58
    refine hB _ _ _ _ _ (fun m60 hm60 => ?_)
    dsimp only [ucgo, ucwp, ucsC, uqC, uoC, ctC, rfd, KX6_tell, KX6_tell_0, KX6_tell_17, KX6_tell_25, KX6_tell_33, KX6_tell_41, KX6_tell_51, lkC, s1C, s2C, dlC, kyC, Nat.beq, Nat.ble, rcd, rno, rsw, Nat.reduceAdd, Nat.reduceBEq, Nat.reduceDiv, List.drop, List.take, List.reverse, List.reverseAux, Int.toNat, Option.toList, List.append, List.cons_append, List.nil_append, zg210, zg217, zg218, zg300]
    try dsimp only [Qz_tell]
    exact fun τ9 h9 => ⟨rfl, by show ¬ fIC τ9 (E 1) 217 = 0; rw [we_i h9]; exact hb59⟩
  · have g56 := (neI (x := (fIC σ (E 1) 217)) (y := 0) h56 : ¬ ((fIC σ (E 1) 217) : Int32).toInt = (0 : Int32).toInt)
    have z0_ : (0 : Int32).toInt = 0 := rfl
    refine hB _ _ _ _ _ (fun m61 hm61 => ?_)
    dsimp only [ucgo, ucwp, ucsC, uqC, uoC, ctC, rfd, KX6_tell, KX6_tell_0, KX6_tell_17, KX6_tell_25, KX6_tell_33, KX6_tell_41, KX6_tell_51, lkC, s1C, s2C, dlC, kyC, Nat.beq, Nat.ble, rcd, rno, rsw, Nat.reduceAdd, Nat.reduceBEq, Nat.reduceDiv, List.drop, List.take, List.reverse, List.reverseAux, Int.toNat, Option.toList, List.append, List.cons_append, List.nil_append, zg210, zg217, zg218, zg300]
    intro a62 e62 ob62
    cases e62
    refine ⟨fun h63 => ?_, fun h63 => ?_⟩
    · have g63 := ltI (x := (eIC σ a9 p2.toNatClampNeg)) (y := (fIC σ (E 1) 218)) h63
      refine hB _ _ _ _ _ (fun m64 hm64 => ?_)
      dsimp only [ucgo, ucwp, ucsC, uqC, uoC, ctC, rfd, KX6_tell, KX6_tell_0, KX6_tell_17, KX6_tell_25, KX6_tell_33, KX6_tell_41, KX6_tell_51, lkC, s1C, s2C, dlC, kyC, Nat.beq, Nat.ble, rcd, rno, rsw, Nat.reduceAdd, Nat.reduceBEq, Nat.reduceDiv, List.drop, List.take, List.reverse, List.reverseAux, Int.toNat, Option.toList, List.append, List.cons_append, List.nil_append, zg210, zg217, zg218, zg300]
      intro a65 e65 ob65 fk65
      cases e65
      clear fk65 ob65
      generalize hs65 : pIC σ (E 1) 217 p1 = s65
      have hb65 : erC E s65 := by
        show ¬ fIC s65 (E 1) 217 = 0
        rw [show fIC s65 (E 1) 217 = p1 from pI_g hs65]
        intro q9
        rw [q9] at hp1
        exact hp1 rfl
      intro a66 e66 ob66 fk66
      cases e66
      clear fk66 ob66
      generalize hs66 : pIC s65 (E 1) 218 (eIC σ a9 p2.toNatClampNeg) = s66
      have hb66 : erC E s66 := er_pI hs66 (by decide) hb65
      refine hB _ _ _ _ _ (fun m67 hm67 => ?_)
      dsimp only [ucgo, ucwp, ucsC, uqC, uoC, ctC, rfd, KX6_tell, KX6_tell_0, KX6_tell_17, KX6_tell_25, KX6_tell_33, KX6_tell_41, KX6_tell_51, lkC, s1C, s2C, dlC, kyC, Nat.beq, Nat.ble, rcd, rno, rsw, Nat.reduceAdd, Nat.reduceBEq, Nat.reduceDiv, List.drop, List.take, List.reverse, List.reverseAux, Int.toNat, Option.toList, List.append, List.cons_append, List.nil_append, zg210, zg217, zg218, zg300]
      try dsimp only [Qz_tell]
      exact fun τ9 h9 => ⟨rfl, by show ¬ fIC τ9 (E 1) 217 = 0; rw [we_i h9]; exact hb66⟩
    · have g63 := nltI (x := (eIC σ a9 p2.toNatClampNeg)) (y := (fIC σ (E 1) 218)) h63
      refine hB _ _ _ _ _ (fun m68 hm68 => ?_)
      dsimp only [ucgo, ucwp, ucsC, uqC, uoC, ctC, rfd, KX6_tell, KX6_tell_0, KX6_tell_17, KX6_tell_25, KX6_tell_33, KX6_tell_41, KX6_tell_51, lkC, s1C, s2C, dlC, kyC, Nat.beq, Nat.ble, rcd, rno, rsw, Nat.reduceAdd, Nat.reduceBEq, Nat.reduceDiv, List.drop, List.take, List.reverse, List.reverseAux, Int.toNat, Option.toList, List.append, List.cons_append, List.nil_append, zg210, zg217, zg218, zg300]
      intro a69 e69 ob69
      cases e69
      refine ⟨fun h70 => ?_, fun h70 => ?_⟩
      · have g70 := (neI (x := (eIC σ a9 p2.toNatClampNeg)) (y := (fIC σ (E 1) 218)) h70 : ¬ ((eIC σ a9 p2.toNatClampNeg) : Int32).toInt = ((fIC σ (E 1) 218) : Int32).toInt)
        refine hB _ _ _ _ _ (fun m71 hm71 => ?_)
        dsimp only [ucgo, ucwp, ucsC, uqC, uoC, ctC, rfd, KX6_tell, KX6_tell_0, KX6_tell_17, KX6_tell_25, KX6_tell_33, KX6_tell_41, KX6_tell_51, lkC, s1C, s2C, dlC, kyC, Nat.beq, Nat.ble, rcd, rno, rsw, Nat.reduceAdd, Nat.reduceBEq, Nat.reduceDiv, List.drop, List.take, List.reverse, List.reverseAux, Int.toNat, Option.toList, List.append, List.cons_append, List.nil_append, zg210, zg217, zg218, zg300]
        try dsimp only [Qz_tell]
        exact fun τ9 h9 => ⟨rfl, by show ¬ fIC τ9 (E 1) 217 = 0; rw [we_i h9]; exact (fun q9 => by rw [q9] at g56; exact g56 rfl)⟩
      · have g70 := (eqI (x := (eIC σ a9 p2.toNatClampNeg)) (y := (fIC σ (E 1) 218)) h70 : ((eIC σ a9 p2.toNatClampNeg) : Int32).toInt = ((fIC σ (E 1) 218) : Int32).toInt)
        refine hB _ _ _ _ _ (fun m72 hm72 => ?_)
        dsimp only [ucgo, ucwp, ucsC, uqC, uoC, ctC, rfd, KX6_tell, KX6_tell_0, KX6_tell_17, KX6_tell_25, KX6_tell_33, KX6_tell_41, KX6_tell_51, lkC, s1C, s2C, dlC, kyC, Nat.beq, Nat.ble, rcd, rno, rsw, Nat.reduceAdd, Nat.reduceBEq, Nat.reduceDiv, List.drop, List.take, List.reverse, List.reverseAux, Int.toNat, Option.toList, List.append, List.cons_append, List.nil_append, zg210, zg217, zg218, zg300]
        intro a73 e73 ob73
        cases e73
        refine ⟨fun h74 => ?_, fun h74 => ?_⟩
        · have g74 := leI (x := (fIC σ (E 1) 217)) (y := p1) h74
          refine hB _ _ _ _ _ (fun m75 hm75 => ?_)
          dsimp only [ucgo, ucwp, ucsC, uqC, uoC, ctC, rfd, KX6_tell, KX6_tell_0, KX6_tell_17, KX6_tell_25, KX6_tell_33, KX6_tell_41, KX6_tell_51, lkC, s1C, s2C, dlC, kyC, Nat.beq, Nat.ble, rcd, rno, rsw, Nat.reduceAdd, Nat.reduceBEq, Nat.reduceDiv, List.drop, List.take, List.reverse, List.reverseAux, Int.toNat, Option.toList, List.append, List.cons_append, List.nil_append, zg210, zg217, zg218, zg300]
          try dsimp only [Qz_tell]
          exact fun τ9 h9 => ⟨rfl, by show ¬ fIC τ9 (E 1) 217 = 0; rw [we_i h9]; exact (fun q9 => by rw [q9] at g56; exact g56 rfl)⟩
        · have g74 := nleI (x := (fIC σ (E 1) 217)) (y := p1) h74
          refine hB _ _ _ _ _ (fun m76 hm76 => ?_)
          dsimp only [ucgo, ucwp, ucsC, uqC, uoC, ctC, rfd, KX6_tell, KX6_tell_0, KX6_tell_17, KX6_tell_25, KX6_tell_33, KX6_tell_41, KX6_tell_51, lkC, s1C, s2C, dlC, kyC, Nat.beq, Nat.ble, rcd, rno, rsw, Nat.reduceAdd, Nat.reduceBEq, Nat.reduceDiv, List.drop, List.take, List.reverse, List.reverseAux, Int.toNat, Option.toList, List.append, List.cons_append, List.nil_append, zg210, zg217, zg218, zg300]
          intro a77 e77 ob77 fk77
          cases e77
          clear fk77 ob77
          generalize hs77 : pIC σ (E 1) 217 p1 = s77
          have hb77 : erC E s77 := by
            show ¬ fIC s77 (E 1) 217 = 0
            rw [show fIC s77 (E 1) 217 = p1 from pI_g hs77]
            intro q9
            rw [q9] at hp1
            exact hp1 rfl
          intro a78 e78 ob78 fk78
          cases e78
          clear fk78 ob78
          generalize hs78 : pIC s77 (E 1) 218 (eIC σ a9 p2.toNatClampNeg) = s78
          have hb78 : erC E s78 := er_pI hs78 (by decide) hb77
          refine hB _ _ _ _ _ (fun m79 hm79 => ?_)
          dsimp only [ucgo, ucwp, ucsC, uqC, uoC, ctC, rfd, KX6_tell, KX6_tell_0, KX6_tell_17, KX6_tell_25, KX6_tell_33, KX6_tell_41, KX6_tell_51, lkC, s1C, s2C, dlC, kyC, Nat.beq, Nat.ble, rcd, rno, rsw, Nat.reduceAdd, Nat.reduceBEq, Nat.reduceDiv, List.drop, List.take, List.reverse, List.reverseAux, Int.toNat, Option.toList, List.append, List.cons_append, List.nil_append, zg210, zg217, zg218, zg300]
          try dsimp only [Qz_tell]
          exact fun τ9 h9 => ⟨rfl, by show ¬ fIC τ9 (E 1) 217 = 0; rw [we_i h9]; exact hb78⟩
theorem wz_tell : ∀ (L : Nat) (As : List AvC) (σ : CsC) (w : Option AvC) (τ : CsC), EvF L 118 As σ w τ → Uz_tell As σ w τ := by
  intro L
  cases L with
  | zero => exact fun _ _ _ _ h => h.elim
  | succ L => exact fun As σ w τ h y hy => EvF.us (cs := []) (pz_tell y) rfl (fun _ h => absurd h List.not_mem_nil) h hy
abbrev Pz_isWanted : ((Int → Int) × (Nat → Nat) × (Nat → Nat) × (Nat → Nat) × (Nat → Nat) × ZS) → CpC := fun y As σ => match y with
  | (N, E, A, B, V, z) => ∃ (p1 : Int32) (p2 : Int32), As = [.inr (.inr (some (E 3))), .inl p1, .inl p2] ∧ (PjC E σ)
abbrev Qz_isWanted : ((Int → Int) × (Nat → Nat) × (Nat → Nat) × (Nat → Nat) × (Nat → Nat) × ZS) → CqC := fun y As σ w τ => match y, As with
  | (N, E, A, B, V, z), [_, .inl p1, .inl p2] => w = some (.inl p1) ∧ ((¬ p1.toInt = 0 ∧ σ = τ) ∨ (p1.toInt = 0 ∧ erC E τ))
  | _, _ => True
abbrev Uz_isWanted : CqC := fun As σ w τ => ∀ y, Pz_isWanted y As σ → Qz_isWanted y As σ w τ
set_option maxHeartbeats 4000000 in
theorem pz_isWanted (y : (Int → Int) × (Nat → Nat) × (Nat → Nat) × (Nat → Nat) × (Nat → Nat) × ZS) : PbC KX3_isWanted [(118, TrP, EqC 118)] [(118, Uz_tell)] (fun As σ => Pz_isWanted y As σ ∧ cnC σ ≤ 1000000 ∧ ∃ w τ, uqC quL 62 As σ w τ) (Qz_isWanted y) := by
  obtain ⟨N, E, A, B, V, z⟩ := y
  rintro As σ ⟨⟨p1, p2, rfl, hP⟩, hcn, _, _, hQ⟩ K hB hW n_
  change K n_ 0 [(0, .inr (.inr (some (E 3)))), (1, .inl p1), (2, .inl p2)] [] σ
  refine hB _ _ _ _ _ (fun m51 hm51 => ?_)
  dsimp only [ucgo, ucwp, ucsC, uqC, uoC, ctC, rfd, KX3_isWanted, KX3_isWanted_0, KX3_isWanted_4, KX3_isWanted_13, lkC, s1C, s2C, dlC, kyC, Nat.beq, Nat.ble, rcd, rno, rsw, Nat.reduceAdd, Nat.reduceBEq, Nat.reduceDiv, List.drop, List.take, List.reverse, List.reverseAux, Int.toNat, Option.toList, List.append, List.cons_append, List.nil_append, zg121]
  refine ⟨fun h52 => ?_, fun h52 => ?_⟩
  · have g52 := (neI (x := p1) (y := 0) h52 : ¬ (p1 : Int32).toInt = (0 : Int32).toInt)
    have z0_ : (0 : Int32).toInt = 0 := rfl
    refine hB _ _ _ _ _ (fun m53 hm53 => ?_)
    dsimp only [ucgo, ucwp, ucsC, uqC, uoC, ctC, rfd, KX3_isWanted, KX3_isWanted_0, KX3_isWanted_4, KX3_isWanted_13, lkC, s1C, s2C, dlC, kyC, Nat.beq, Nat.ble, rcd, rno, rsw, Nat.reduceAdd, Nat.reduceBEq, Nat.reduceDiv, List.drop, List.take, List.reverse, List.reverseAux, Int.toNat, Option.toList, List.append, List.cons_append, List.nil_append, zg121]
    try dsimp only [Qz_isWanted]
    exact ⟨rfl, Or.inl ⟨by omega, rfl⟩⟩
  · have g52 := (eqI (x := p1) (y := 0) h52 : (p1 : Int32).toInt = (0 : Int32).toInt)
    have z0_ : (0 : Int32).toInt = 0 := rfl
    refine hB _ _ _ _ _ (fun m54 hm54 => ?_)
    dsimp only [ucgo, ucwp, ucsC, uqC, uoC, ctC, rfd, KX3_isWanted, KX3_isWanted_0, KX3_isWanted_4, KX3_isWanted_13, lkC, s1C, s2C, dlC, kyC, Nat.beq, Nat.ble, rcd, rno, rsw, Nat.reduceAdd, Nat.reduceBEq, Nat.reduceDiv, List.drop, List.take, List.reverse, List.reverseAux, Int.toNat, Option.toList, List.append, List.cons_append, List.nil_append, zg121]
    intro a55 e55 ob55
    cases e55
    have c56 : (Int32.ofInt 5).toInt = 5 := by decide
    rw [hP.1]
    try dsimp only
    intro w57 τ57 o57 q57
    obtain ⟨rfl, hb57_⟩ := q57 (N, E, A, B, V, z) ⟨_, _, rfl, by omega⟩
    have hP57 : PjC E τ57 := hP.fr o57.2 rfl rfl
    try dsimp only [Option.toList, List.cons_append, List.nil_append, s1C, s2C, dlC, kyC, Nat.beq, lkC, rcd, rno, rsw]
    refine hB _ _ _ _ _ (fun m58 hm58 => ?_)
    dsimp only [ucgo, ucwp, ucsC, uqC, uoC, ctC, rfd, KX3_isWanted, KX3_isWanted_0, KX3_isWanted_4, KX3_isWanted_13, lkC, s1C, s2C, dlC, kyC, Nat.beq, Nat.ble, rcd, rno, rsw, Nat.reduceAdd, Nat.reduceBEq, Nat.reduceDiv, List.drop, List.take, List.reverse, List.reverseAux, Int.toNat, Option.toList, List.append, List.cons_append, List.nil_append, zg121]
    try dsimp only [Qz_isWanted]
    exact ⟨rfl, Or.inr ⟨by omega, hb57_⟩⟩
theorem wz_isWanted : ∀ (L : Nat) (As : List AvC) (σ : CsC) (w : Option AvC) (τ : CsC), EvF L 62 As σ w τ → Uz_isWanted As σ w τ := by
  intro L
  cases L with
  | zero => exact fun _ _ _ _ h => h.elim
  | succ L => exact fun As σ w τ h y hy => EvF.us (cs := [118]) (pz_isWanted y) rfl (List.forall_mem_cons.2 ⟨wz_tell L, fun _ h => absurd h List.not_mem_nil⟩) h hy
abbrev Pz_variableOf : ((Int → Int) × (Nat → Nat) × (Nat → Nat) × (Nat → Nat) × (Nat → Nat) × ZS × CxT × Int) → CpC := fun y As σ => match y with
  | (N, E, A, B, V, z, C, l) => ∃ (p1 : Nat), As = [.inr (.inr (some (E 3))), .inr (.inr (some p1))] ∧ (VpC E V σ C) ∧ ((fIC σ p1 67).toInt = l)
abbrev Qz_variableOf : ((Int → Int) × (Nat → Nat) × (Nat → Nat) × (Nat → Nat) × (Nat → Nat) × ZS × CxT × Int) → CqC := fun y As σ w τ => match y, As with
  | (N, E, A, B, V, z, C, l), [_, .inr (.inr (some p1))] => σ = τ ∧ ((knT C l ∧ w = some (.inr (.inr (some (V l.toNat))))) ∨ (¬ knT C l ∧ w = some (.inr (.inr none))))
  | _, _ => True
abbrev Uz_variableOf : CqC := fun As σ w τ => ∀ y, Pz_variableOf y As σ → Qz_variableOf y As σ w τ
set_option maxHeartbeats 4000000 in
theorem pz_variableOf (y : (Int → Int) × (Nat → Nat) × (Nat → Nat) × (Nat → Nat) × (Nat → Nat) × ZS × CxT × Int) : PbC KX3_variableOf [(234, TrP, EqC 234), (235, TrP, EqC 235)] [] (fun As σ => Pz_variableOf y As σ ∧ cnC σ ≤ 1000000 ∧ ∃ w τ, uqC quL 51 As σ w τ) (Qz_variableOf y) := by
  obtain ⟨N, E, A, B, V, z, C, l⟩ := y
  rintro As σ ⟨⟨p1, rfl, hV, hl⟩, hcn, _, _, hQ⟩ K hB hW n_
  change K n_ 0 [(0, .inr (.inr (some (E 3)))), (1, .inr (.inr (some p1)))] [] σ
  refine hB _ _ _ _ _ (fun m51 hm51 => ?_)
  dsimp only [ucgo, ucwp, ucsC, uqC, uoC, ctC, rfd, KX3_variableOf, KX3_variableOf_0, KX3_variableOf_7, KX3_variableOf_24, KX3_variableOf_44, KX3_variableOf_45, lkC, s1C, s2C, dlC, kyC, Nat.beq, Nat.ble, rcd, rno, rsw, Nat.reduceAdd, Nat.reduceBEq, Nat.reduceDiv, List.drop, List.take, List.reverse, List.reverseAux, Int.toNat, Option.toList, List.append, List.cons_append, List.nil_append, zg67, zg121, zg212]
  intro a52 e52 ob52
  cases e52
  refine ⟨fun h54 => ?_, fun h54 => ?_⟩
  · have g54 := ltI (x := (fIC σ p1 67)) (y := 0) h54
    have z0_ : (0 : Int32).toInt = 0 := rfl
    refine hB _ _ _ _ _ (fun m55 hm55 => ?_)
    dsimp only [ucgo, ucwp, ucsC, uqC, uoC, ctC, rfd, KX3_variableOf, KX3_variableOf_0, KX3_variableOf_7, KX3_variableOf_24, KX3_variableOf_44, KX3_variableOf_45, lkC, s1C, s2C, dlC, kyC, Nat.beq, Nat.ble, rcd, rno, rsw, Nat.reduceAdd, Nat.reduceBEq, Nat.reduceDiv, List.drop, List.take, List.reverse, List.reverseAux, Int.toNat, Option.toList, List.append, List.cons_append, List.nil_append, zg67, zg121, zg212]
    refine hB _ _ _ _ _ (fun m56 hm56 => ?_)
    dsimp only [ucgo, ucwp, ucsC, uqC, uoC, ctC, rfd, KX3_variableOf, KX3_variableOf_0, KX3_variableOf_7, KX3_variableOf_24, KX3_variableOf_44, KX3_variableOf_45, lkC, s1C, s2C, dlC, kyC, Nat.beq, Nat.ble, rcd, rno, rsw, Nat.reduceAdd, Nat.reduceBEq, Nat.reduceDiv, List.drop, List.take, List.reverse, List.reverseAux, Int.toNat, Option.toList, List.append, List.cons_append, List.nil_append, zg67, zg121, zg212]
    try dsimp only [Qz_variableOf]
    exact ⟨rfl, Or.inr ⟨by omega, rfl⟩⟩
  · have g54 := nltI (x := (fIC σ p1 67)) (y := 0) h54
    have z0_ : (0 : Int32).toInt = 0 := rfl
    refine hB _ _ _ _ _ (fun m57 hm57 => ?_)
    dsimp only [ucgo, ucwp, ucsC, uqC, uoC, ctC, rfd, KX3_variableOf, KX3_variableOf_0, KX3_variableOf_7, KX3_variableOf_24, KX3_variableOf_44, KX3_variableOf_45, lkC, s1C, s2C, dlC, kyC, Nat.beq, Nat.ble, rcd, rno, rsw, Nat.reduceAdd, Nat.reduceBEq, Nat.reduceDiv, List.drop, List.take, List.reverse, List.reverseAux, Int.toNat, Option.toList, List.append, List.cons_append, List.nil_append, zg67, zg121, zg212]
    intro a58 e58 ob58
    cases e58
    intro a60 e60 ob60
    cases e60
    intro a61 e61 ob61
    obtain rfl : E 1 = a61 := Option.some.inj (hV.1.1.symm.trans e61)
    rw [hV.1.2]
    try dsimp only
    intro w62 τ62 o62 q62
    obtain ⟨r62, rfl, rfl, hr62a, hr62b, hr62, -⟩ := (show Q_Jx4a65c_size_8abf5 [.inr (.inr (some (E 212)))] σ w62 τ62 from o62.1.1)
    have hs62 : r62.toInt = (C.2.2.1 : Int) := by rw [← hr62]; exact hV.2.1.1
    try dsimp only [Option.toList, List.cons_append, List.nil_append, s1C, s2C, dlC, kyC, Nat.beq, lkC, rcd, rno, rsw]
    refine ⟨fun h63 => ?_, fun h63 => ?_⟩
    · have g63 := leI (x := r62) (y := (fIC σ p1 67)) h63
      refine hB _ _ _ _ _ (fun m64 hm64 => ?_)
      dsimp only [ucgo, ucwp, ucsC, uqC, uoC, ctC, rfd, KX3_variableOf, KX3_variableOf_0, KX3_variableOf_7, KX3_variableOf_24, KX3_variableOf_44, KX3_variableOf_45, lkC, s1C, s2C, dlC, kyC, Nat.beq, Nat.ble, rcd, rno, rsw, Nat.reduceAdd, Nat.reduceBEq, Nat.reduceDiv, List.drop, List.take, List.reverse, List.reverseAux, Int.toNat, Option.toList, List.append, List.cons_append, List.nil_append, zg67, zg121, zg212]
      refine hB _ _ _ _ _ (fun m65 hm65 => ?_)
      dsimp only [ucgo, ucwp, ucsC, uqC, uoC, ctC, rfd, KX3_variableOf, KX3_variableOf_0, KX3_variableOf_7, KX3_variableOf_24, KX3_variableOf_44, KX3_variableOf_45, lkC, s1C, s2C, dlC, kyC, Nat.beq, Nat.ble, rcd, rno, rsw, Nat.reduceAdd, Nat.reduceBEq, Nat.reduceDiv, List.drop, List.take, List.reverse, List.reverseAux, Int.toNat, Option.toList, List.append, List.cons_append, List.nil_append, zg67, zg121, zg212]
      try dsimp only [Qz_variableOf]
      exact ⟨rfl, Or.inr ⟨by omega, rfl⟩⟩
    · have g63 := nleI (x := r62) (y := (fIC σ p1 67)) h63
      refine hB _ _ _ _ _ (fun m66 hm66 => ?_)
      dsimp only [ucgo, ucwp, ucsC, uqC, uoC, ctC, rfd, KX3_variableOf, KX3_variableOf_0, KX3_variableOf_7, KX3_variableOf_24, KX3_variableOf_44, KX3_variableOf_45, lkC, s1C, s2C, dlC, kyC, Nat.beq, Nat.ble, rcd, rno, rsw, Nat.reduceAdd, Nat.reduceBEq, Nat.reduceDiv, List.drop, List.take, List.reverse, List.reverseAux, Int.toNat, Option.toList, List.append, List.cons_append, List.nil_append, zg67, zg121, zg212]
      intro a67 e67 ob67
      cases e67
      intro a68 e68 ob68
      obtain rfl : E 1 = a68 := Option.some.inj (hV.1.1.symm.trans e68)
      intro a69 e69 ob69
      cases e69
      rw [hV.1.2]
      try dsimp only
      intro w71 τ71 o71 q71
      have hg71 : Q_Jx4a65c_get_915e3 [.inr (.inr (some (E 212))), .inl (fIC σ p1 67)] σ w71 τ71 ∧ U_get [.inr (.inr (some (E 212))), .inl (fIC σ p1 67)] σ w71 τ71 := o71.1.1
      obtain ⟨b71, rfl, rfl, -⟩ := hg71.1
      have he71 := hg71.2 b71 rfl
      have hv71 := hV.2.1.2 l.toNat (by omega)
      obtain rfl : V l.toNat = b71 := Option.some.inj (hv71.1.symm.trans (by rw [← hl, ← nT_toNat]; exact he71))
      try dsimp only [Option.toList, List.cons_append, List.nil_append, s1C, s2C, dlC, kyC, Nat.beq, lkC, rcd, rno, rsw]
      intro oc72
      refine hB _ _ _ _ _ (fun m73 hm73 => ?_)
      dsimp only [ucgo, ucwp, ucsC, uqC, uoC, ctC, rfd, KX3_variableOf, KX3_variableOf_0, KX3_variableOf_7, KX3_variableOf_24, KX3_variableOf_44, KX3_variableOf_45, lkC, s1C, s2C, dlC, kyC, Nat.beq, Nat.ble, rcd, rno, rsw, Nat.reduceAdd, Nat.reduceBEq, Nat.reduceDiv, List.drop, List.take, List.reverse, List.reverseAux, Int.toNat, Option.toList, List.append, List.cons_append, List.nil_append, zg67, zg121, zg212]
      try dsimp only [Qz_variableOf]
      exact ⟨rfl, Or.inl ⟨by omega, rfl⟩⟩
theorem wz_variableOf : ∀ (L : Nat) (As : List AvC) (σ : CsC) (w : Option AvC) (τ : CsC), EvF L 51 As σ w τ → Uz_variableOf As σ w τ := by
  intro L
  cases L with
  | zero => exact fun _ _ _ _ h => h.elim
  | succ L => exact fun As σ w τ h y hy => EvF.us (cs := [234, 235]) (pz_variableOf y) rfl (List.forall_mem_cons.2 ⟨fun _ _ _ _ _ => trivial, List.forall_mem_cons.2 ⟨fun _ _ _ _ _ => trivial, fun _ h => absurd h List.not_mem_nil⟩⟩) h hy
abbrev Pz_mayChange : ((Int → Int) × (Nat → Nat) × (Nat → Nat) × (Nat → Nat) × (Nat → Nat) × ZS) → CpC := fun y As σ => match y with
  | (N, E, A, B, V, z) => ∃ (p1 : Nat) (p2 : Option Nat), As = [.inr (.inr (some (E 3))), .inr (.inr (some p1)), .inr (.inr p2)] ∧ (PjC E σ) ∧ (∀ o, p2 = some o → o < cnC σ)
abbrev Qz_mayChange : ((Int → Int) × (Nat → Nat) × (Nat → Nat) × (Nat → Nat) × (Nat → Nat) × ZS) → CqC := fun y As σ w τ => match y, As with
  | (N, E, A, B, V, z), [_, .inr (.inr (some p1)), .inr (.inr p2)] => ∃ r, w = some (.inl r) ∧ ((r.toInt = 1 ∧ (∃ o, p2 = some o ∧ (fIC σ o 332).toInt = 0) ∧ σ = τ) ∨ (r.toInt = 0 ∧ (∀ o, p2 = some o → ¬ (fIC σ o 332).toInt = 0) ∧ erC E τ))
  | _, _ => True
abbrev Uz_mayChange : CqC := fun As σ w τ => ∀ y, Pz_mayChange y As σ → Qz_mayChange y As σ w τ
set_option maxHeartbeats 4000000 in
theorem pz_mayChange (y : (Int → Int) × (Nat → Nat) × (Nat → Nat) × (Nat → Nat) × (Nat → Nat) × ZS) : PbC KX3_mayChange [(118, TrP, EqC 118)] [(118, Uz_tell)] (fun As σ => Pz_mayChange y As σ ∧ cnC σ ≤ 1000000 ∧ ∃ w τ, uqC quL 59 As σ w τ) (Qz_mayChange y) := by
  obtain ⟨N, E, A, B, V, z⟩ := y
  rintro As σ ⟨⟨p1, p2, rfl, hP, hv⟩, hcn, _, _, hQ⟩ K hB hW n_
  change K n_ 0 [(0, .inr (.inr (some (E 3)))), (1, .inr (.inr (some p1))), (2, .inr (.inr p2))] [] σ
  refine hB _ _ _ _ _ (fun m51 hm51 => ?_)
  dsimp only [ucgo, ucwp, ucsC, uqC, uoC, ctC, rfd, KX3_mayChange, KX3_mayChange_0, KX3_mayChange_4, KX3_mayChange_18, KX3_mayChange_25, KX3_mayChange_38, KX3_mayChange_45, KX3_mayChange_49, KX3_mayChange_50, lkC, s1C, s2C, dlC, kyC, Nat.beq, Nat.ble, rcd, rno, rsw, Nat.reduceAdd, Nat.reduceBEq, Nat.reduceDiv, List.drop, List.take, List.reverse, List.reverseAux, Int.toNat, Option.toList, List.append, List.cons_append, List.nil_append, zg66, zg121, zg332]
  refine ⟨fun b52 h52 => ?_, fun h52 => ?_⟩
  · obtain rfl : p2 = some b52 := h52
    have hb9 := hv b52 rfl
    refine hB _ _ _ _ _ (fun m53 hm53 => ?_)
    dsimp only [ucgo, ucwp, ucsC, uqC, uoC, ctC, rfd, KX3_mayChange, KX3_mayChange_0, KX3_mayChange_4, KX3_mayChange_18, KX3_mayChange_25, KX3_mayChange_38, KX3_mayChange_45, KX3_mayChange_49, KX3_mayChange_50, lkC, s1C, s2C, dlC, kyC, Nat.beq, Nat.ble, rcd, rno, rsw, Nat.reduceAdd, Nat.reduceBEq, Nat.reduceDiv, List.drop, List.take, List.reverse, List.reverseAux, Int.toNat, Option.toList, List.append, List.cons_append, List.nil_append, zg66, zg121, zg332]
    intro a54 e54 ob54
    cases e54
    refine ⟨fun h55 => ?_, fun h55 => ?_⟩
    · have g55 := (eqI (x := (fIC σ b52 332)) (y := 0) h55 : ((fIC σ b52 332) : Int32).toInt = (0 : Int32).toInt)
      have z0_ : (0 : Int32).toInt = 0 := rfl
      refine hB _ _ _ _ _ (fun m56 hm56 => ?_)
      dsimp only [ucgo, ucwp, ucsC, uqC, uoC, ctC, rfd, KX3_mayChange, KX3_mayChange_0, KX3_mayChange_4, KX3_mayChange_18, KX3_mayChange_25, KX3_mayChange_38, KX3_mayChange_45, KX3_mayChange_49, KX3_mayChange_50, lkC, s1C, s2C, dlC, kyC, Nat.beq, Nat.ble, rcd, rno, rsw, Nat.reduceAdd, Nat.reduceBEq, Nat.reduceDiv, List.drop, List.take, List.reverse, List.reverseAux, Int.toNat, Option.toList, List.append, List.cons_append, List.nil_append, zg66, zg121, zg332]
      intro a57 e57 ob57
      cases e57
      refine ⟨fun h58 => ?_, fun h58 => ?_⟩
      · have g58 := (neI (x := (fIC σ b52 332)) (y := 0) h58 : ¬ ((fIC σ b52 332) : Int32).toInt = (0 : Int32).toInt)
        have z0_ : (0 : Int32).toInt = 0 := rfl
        exfalso
        omega
      · have g58 := (eqI (x := (fIC σ b52 332)) (y := 0) h58 : ((fIC σ b52 332) : Int32).toInt = (0 : Int32).toInt)
        have z0_ : (0 : Int32).toInt = 0 := rfl
        refine hB _ _ _ _ _ (fun m59 hm59 => ?_)
        dsimp only [ucgo, ucwp, ucsC, uqC, uoC, ctC, rfd, KX3_mayChange, KX3_mayChange_0, KX3_mayChange_4, KX3_mayChange_18, KX3_mayChange_25, KX3_mayChange_38, KX3_mayChange_45, KX3_mayChange_49, KX3_mayChange_50, lkC, s1C, s2C, dlC, kyC, Nat.beq, Nat.ble, rcd, rno, rsw, Nat.reduceAdd, Nat.reduceBEq, Nat.reduceDiv, List.drop, List.take, List.reverse, List.reverseAux, Int.toNat, Option.toList, List.append, List.cons_append, List.nil_append, zg66, zg121, zg332]
        have c60 : (Int32.ofInt 1).toInt = 1 := by decide
        refine hB _ _ _ _ _ (fun m61 hm61 => ?_)
        dsimp only [ucgo, ucwp, ucsC, uqC, uoC, ctC, rfd, KX3_mayChange, KX3_mayChange_0, KX3_mayChange_4, KX3_mayChange_18, KX3_mayChange_25, KX3_mayChange_38, KX3_mayChange_45, KX3_mayChange_49, KX3_mayChange_50, lkC, s1C, s2C, dlC, kyC, Nat.beq, Nat.ble, rcd, rno, rsw, Nat.reduceAdd, Nat.reduceBEq, Nat.reduceDiv, List.drop, List.take, List.reverse, List.reverseAux, Int.toNat, Option.toList, List.append, List.cons_append, List.nil_append, zg66, zg121, zg332]
        try dsimp only [Qz_mayChange]
        exact ⟨_, rfl, Or.inl ⟨by omega, ⟨_, rfl, by omega⟩, rfl⟩⟩
    · have g55 := (neI (x := (fIC σ b52 332)) (y := 0) h55 : ¬ ((fIC σ b52 332) : Int32).toInt = (0 : Int32).toInt)
      have z0_ : (0 : Int32).toInt = 0 := rfl
      refine hB _ _ _ _ _ (fun m62 hm62 => ?_)
      dsimp only [ucgo, ucwp, ucsC, uqC, uoC, ctC, rfd, KX3_mayChange, KX3_mayChange_0, KX3_mayChange_4, KX3_mayChange_18, KX3_mayChange_25, KX3_mayChange_38, KX3_mayChange_45, KX3_mayChange_49, KX3_mayChange_50, lkC, s1C, s2C, dlC, kyC, Nat.beq, Nat.ble, rcd, rno, rsw, Nat.reduceAdd, Nat.reduceBEq, Nat.reduceDiv, List.drop, List.take, List.reverse, List.reverseAux, Int.toNat, Option.toList, List.append, List.cons_append, List.nil_append, zg66, zg121, zg332]
      intro a63 e63 ob63
      cases e63
      have c64 : (Int32.ofInt 7).toInt = 7 := by decide
      intro a65 e65 ob65
      cases e65
      rw [hP.1]
      try dsimp only
      intro w67 τ67 o67 q67
      obtain ⟨rfl, hb67_⟩ := q67 (N, E, A, B, V, z) ⟨_, _, rfl, by omega⟩
      have hP67 : PjC E τ67 := hP.fr o67.2 rfl rfl
      try dsimp only [Option.toList, List.cons_append, List.nil_append, s1C, s2C, dlC, kyC, Nat.beq, lkC, rcd, rno, rsw]
      have h332 := congrArg Int32.toInt ((o67.2.2 rfl b52 hb9).1 332 rfl).1
      refine hB _ _ _ _ _ (fun m68 hm68 => ?_)
      dsimp only [ucgo, ucwp, ucsC, uqC, uoC, ctC, rfd, KX3_mayChange, KX3_mayChange_0, KX3_mayChange_4, KX3_mayChange_18, KX3_mayChange_25, KX3_mayChange_38, KX3_mayChange_45, KX3_mayChange_49, KX3_mayChange_50, lkC, s1C, s2C, dlC, kyC, Nat.beq, Nat.ble, rcd, rno, rsw, Nat.reduceAdd, Nat.reduceBEq, Nat.reduceDiv, List.drop, List.take, List.reverse, List.reverseAux, Int.toNat, Option.toList, List.append, List.cons_append, List.nil_append, zg66, zg121, zg332]
      intro a69 e69 ob69
      cases e69
      refine ⟨fun h70 => ?_, fun h70 => ?_⟩
      · have g70 := (neI (x := (fIC τ67 b52 332)) (y := 0) h70 : ¬ ((fIC τ67 b52 332) : Int32).toInt = (0 : Int32).toInt)
        have z0_ : (0 : Int32).toInt = 0 := rfl
        refine hB _ _ _ _ _ (fun m71 hm71 => ?_)
        dsimp only [ucgo, ucwp, ucsC, uqC, uoC, ctC, rfd, KX3_mayChange, KX3_mayChange_0, KX3_mayChange_4, KX3_mayChange_18, KX3_mayChange_25, KX3_mayChange_38, KX3_mayChange_45, KX3_mayChange_49, KX3_mayChange_50, lkC, s1C, s2C, dlC, kyC, Nat.beq, Nat.ble, rcd, rno, rsw, Nat.reduceAdd, Nat.reduceBEq, Nat.reduceDiv, List.drop, List.take, List.reverse, List.reverseAux, Int.toNat, Option.toList, List.append, List.cons_append, List.nil_append, zg66, zg121, zg332]
        have c72 : (Int32.ofInt 0).toInt = 0 := by decide
        refine hB _ _ _ _ _ (fun m73 hm73 => ?_)
        dsimp only [ucgo, ucwp, ucsC, uqC, uoC, ctC, rfd, KX3_mayChange, KX3_mayChange_0, KX3_mayChange_4, KX3_mayChange_18, KX3_mayChange_25, KX3_mayChange_38, KX3_mayChange_45, KX3_mayChange_49, KX3_mayChange_50, lkC, s1C, s2C, dlC, kyC, Nat.beq, Nat.ble, rcd, rno, rsw, Nat.reduceAdd, Nat.reduceBEq, Nat.reduceDiv, List.drop, List.take, List.reverse, List.reverseAux, Int.toNat, Option.toList, List.append, List.cons_append, List.nil_append, zg66, zg121, zg332]
        try dsimp only [Qz_mayChange]
        exact ⟨_, rfl, Or.inr ⟨by omega, (fun o9 q9 => by cases q9; omega), hb67_⟩⟩
      · have g70 := (eqI (x := (fIC τ67 b52 332)) (y := 0) h70 : ((fIC τ67 b52 332) : Int32).toInt = (0 : Int32).toInt)
        have z0_ : (0 : Int32).toInt = 0 := rfl
        exfalso
        omega
  · obtain rfl : p2 = none := h52
    refine hB _ _ _ _ _ (fun m74 hm74 => ?_)
    dsimp only [ucgo, ucwp, ucsC, uqC, uoC, ctC, rfd, KX3_mayChange, KX3_mayChange_0, KX3_mayChange_4, KX3_mayChange_18, KX3_mayChange_25, KX3_mayChange_38, KX3_mayChange_45, KX3_mayChange_49, KX3_mayChange_50, lkC, s1C, s2C, dlC, kyC, Nat.beq, Nat.ble, rcd, rno, rsw, Nat.reduceAdd, Nat.reduceBEq, Nat.reduceDiv, List.drop, List.take, List.reverse, List.reverseAux, Int.toNat, Option.toList, List.append, List.cons_append, List.nil_append, zg66, zg121, zg332]
    intro a75 e75 ob75
    cases e75
    have c76 : (Int32.ofInt 3).toInt = 3 := by decide
    intro a77 e77 ob77
    cases e77
    rw [hP.1]
    try dsimp only
    intro w79 τ79 o79 q79
    obtain ⟨rfl, hb79_⟩ := q79 (N, E, A, B, V, z) ⟨_, _, rfl, by omega⟩
    have hP79 : PjC E τ79 := hP.fr o79.2 rfl rfl
    try dsimp only [Option.toList, List.cons_append, List.nil_append, s1C, s2C, dlC, kyC, Nat.beq, lkC, rcd, rno, rsw]
    have c80 : (Int32.ofInt 0).toInt = 0 := by decide
    try dsimp only [Qz_mayChange]
    exact ⟨_, rfl, Or.inr ⟨by omega, (fun o9 q9 => by cases q9), hb79_⟩⟩
theorem wz_mayChange : ∀ (L : Nat) (As : List AvC) (σ : CsC) (w : Option AvC) (τ : CsC), EvF L 59 As σ w τ → Uz_mayChange As σ w τ := by
  intro L
  cases L with
  | zero => exact fun _ _ _ _ h => h.elim
  | succ L => exact fun As σ w τ h y hy => EvF.us (cs := [118]) (pz_mayChange y) rfl (List.forall_mem_cons.2 ⟨wz_tell L, fun _ h => absurd h List.not_mem_nil⟩) h hy
abbrev Pz_areTaken : ((Int → Int) × (Nat → Nat) × (Nat → Nat) × (Nat → Nat) × (Nat → Nat) × ZS) → CpC := fun y As σ => match y with
  | (N, E, A, B, V, z) => ∃ (p1 : Nat) (p2 : Int32) (p3 : Nat), As = [.inr (.inr (some (E 3))), .inr (.inr (some p1)), .inl p2, .inr (.inr (some p3))] ∧ (PjC E σ)
abbrev Qz_areTaken : ((Int → Int) × (Nat → Nat) × (Nat → Nat) × (Nat → Nat) × (Nat → Nat) × ZS) → CqC := fun y As σ w τ => match y, As with
  | (N, E, A, B, V, z), [_, .inr (.inr (some p1)), .inl p2, .inr (.inr (some p3))] => ∃ r, w = some (.inl r) ∧ (¬ (fIC σ p3 68).toInt = -1 → (r.toInt = 1 ∧ (ltT (fIC σ p1 61).toInt p2.toInt ∧ rtT p2.toInt (fIC σ p3 68).toInt) ∧ σ = τ) ∨ (r.toInt = 0 ∧ ¬ (ltT (fIC σ p1 61).toInt p2.toInt ∧ rtT p2.toInt (fIC σ p3 68).toInt) ∧ erC E τ))
  | _, _ => True
abbrev Uz_areTaken : CqC := fun As σ w τ => ∀ y, Pz_areTaken y As σ → Qz_areTaken y As σ w τ
set_option maxHeartbeats 4000000 in
theorem pz_areTaken (y : (Int → Int) × (Nat → Nat) × (Nat → Nat) × (Nat → Nat) × (Nat → Nat) × ZS) : PbC KX3_areTaken [(66, TrP, EqC 66), (62, TrP, EqC 62), (52, TrP, EqC 52), (67, TrP, EqC 67)] [(66, Uz_isLeftTaken), (62, Uz_isWanted), (52, Uz_isFaulty), (67, Uz_isRightTaken)] (fun As σ => Pz_areTaken y As σ ∧ cnC σ ≤ 1000000 ∧ ∃ w τ, uqC quL 63 As σ w τ) (Qz_areTaken y) := by
  obtain ⟨N, E, A, B, V, z⟩ := y
  rintro As σ ⟨⟨p1, p2, p3, rfl, hP⟩, hcn, _, _, hQ⟩ K hB hW n_
  change K n_ 0 [(0, .inr (.inr (some (E 3)))), (1, .inr (.inr (some p1))), (2, .inl p2), (3, .inr (.inr (some p3)))] [] σ
  refine hB _ _ _ _ _ (fun m51 hm51 => ?_)
  dsimp only [ucgo, ucwp, ucsC, uqC, uoC, ctC, rfd, KX3_areTaken, KX3_areTaken_0, KX3_areTaken_19, KX3_areTaken_26, KX3_areTaken_49, KX3_areTaken_53, KX3_areTaken_54, lkC, s1C, s2C, dlC, kyC, Nat.beq, Nat.ble, rcd, rno, rsw, Nat.reduceAdd, Nat.reduceBEq, Nat.reduceDiv, List.drop, List.take, List.reverse, List.reverseAux, Int.toNat, Option.toList, List.append, List.cons_append, List.nil_append, zg61, zg62, zg68]
  intro a52 e52 ob52
  cases e52
  intro w54 τ54 o54 q54
  obtain ⟨r54, rfl, hr54, rfl⟩ := q54 (N, E, A, B, V, z) ⟨_, _, rfl⟩
  try dsimp only [Option.toList, List.cons_append, List.nil_append, s1C, s2C, dlC, kyC, Nat.beq, lkC, rcd, rno, rsw]
  intro a55 e55 ob55
  cases e55
  intro w57 τ57 o57 q57
  obtain ⟨rfl, qq57⟩ := q57 (N, E, A, B, V, z) ⟨_, _, rfl, hP⟩
  rcases qq57 with ⟨qa57, rfl⟩ | ⟨qa57, qb57⟩
  · have qc57 := qa57
    try dsimp only [Option.toList, List.cons_append, List.nil_append, s1C, s2C, dlC, kyC, Nat.beq, lkC, rcd, rno, rsw]
    refine ⟨fun h58 => ?_, fun h58 => ?_⟩
    · have g58 := (eqI (x := r54) (y := 0) h58 : (r54 : Int32).toInt = (0 : Int32).toInt)
      have z0_ : (0 : Int32).toInt = 0 := rfl
      exfalso
      omega
    · have g58 := (neI (x := r54) (y := 0) h58 : ¬ (r54 : Int32).toInt = (0 : Int32).toInt)
      have z0_ : (0 : Int32).toInt = 0 := rfl
      refine hB _ _ _ _ _ (fun m59 hm59 => ?_)
      dsimp only [ucgo, ucwp, ucsC, uqC, uoC, ctC, rfd, KX3_areTaken, KX3_areTaken_0, KX3_areTaken_19, KX3_areTaken_26, KX3_areTaken_49, KX3_areTaken_53, KX3_areTaken_54, lkC, s1C, s2C, dlC, kyC, Nat.beq, Nat.ble, rcd, rno, rsw, Nat.reduceAdd, Nat.reduceBEq, Nat.reduceDiv, List.drop, List.take, List.reverse, List.reverseAux, Int.toNat, Option.toList, List.append, List.cons_append, List.nil_append, zg61, zg62, zg68]
      intro w60 τ60 o60 q60
      obtain ⟨r60, rfl, hr60, rfl⟩ := q60 (N, E, A, B, V, z) ⟨_, rfl⟩
      have hr60 : (r60.toInt = 1 ∧ (fIC σ p3 68).toInt = -1) ∨ (r60.toInt = 0 ∧ ¬ (fIC σ p3 68).toInt = -1) := by
        rcases hr60 with q9 | q9
        · exact Or.inl ⟨q9.1, q9.2 _ rfl⟩
        · exact Or.inr ⟨q9.1, fun q8 => q9.2 (fun a9 q7 => by cases (rfl : some p3 = _).symm.trans q7; exact q8)⟩
      try dsimp only [Option.toList, List.cons_append, List.nil_append, s1C, s2C, dlC, kyC, Nat.beq, lkC, rcd, rno, rsw]
      refine ⟨fun h61 => ?_, fun h61 => ?_⟩
      · have g61 := (neI (x := r60) (y := 0) h61 : ¬ (r60 : Int32).toInt = (0 : Int32).toInt)
        have z0_ : (0 : Int32).toInt = 0 := rfl
        refine hB _ _ _ _ _ (fun m62 hm62 => ?_)
        dsimp only [ucgo, ucwp, ucsC, uqC, uoC, ctC, rfd, KX3_areTaken, KX3_areTaken_0, KX3_areTaken_19, KX3_areTaken_26, KX3_areTaken_49, KX3_areTaken_53, KX3_areTaken_54, lkC, s1C, s2C, dlC, kyC, Nat.beq, Nat.ble, rcd, rno, rsw, Nat.reduceAdd, Nat.reduceBEq, Nat.reduceDiv, List.drop, List.take, List.reverse, List.reverseAux, Int.toNat, Option.toList, List.append, List.cons_append, List.nil_append, zg61, zg62, zg68]
        have c63 : (Int32.ofInt 0).toInt = 0 := by decide
        refine hB _ _ _ _ _ (fun m64 hm64 => ?_)
        dsimp only [ucgo, ucwp, ucsC, uqC, uoC, ctC, rfd, KX3_areTaken, KX3_areTaken_0, KX3_areTaken_19, KX3_areTaken_26, KX3_areTaken_49, KX3_areTaken_53, KX3_areTaken_54, lkC, s1C, s2C, dlC, kyC, Nat.beq, Nat.ble, rcd, rno, rsw, Nat.reduceAdd, Nat.reduceBEq, Nat.reduceDiv, List.drop, List.take, List.reverse, List.reverseAux, Int.toNat, Option.toList, List.append, List.cons_append, List.nil_append, zg61, zg62, zg68]
        try dsimp only [Qz_areTaken]
        exact ⟨_, rfl, fun hnf => by exfalso; omega⟩
      · have g61 := (eqI (x := r60) (y := 0) h61 : (r60 : Int32).toInt = (0 : Int32).toInt)
        have z0_ : (0 : Int32).toInt = 0 := rfl
        refine hB _ _ _ _ _ (fun m65 hm65 => ?_)
        dsimp only [ucgo, ucwp, ucsC, uqC, uoC, ctC, rfd, KX3_areTaken, KX3_areTaken_0, KX3_areTaken_19, KX3_areTaken_26, KX3_areTaken_49, KX3_areTaken_53, KX3_areTaken_54, lkC, s1C, s2C, dlC, kyC, Nat.beq, Nat.ble, rcd, rno, rsw, Nat.reduceAdd, Nat.reduceBEq, Nat.reduceDiv, List.drop, List.take, List.reverse, List.reverseAux, Int.toNat, Option.toList, List.append, List.cons_append, List.nil_append, zg61, zg62, zg68]
        intro a66 e66 ob66
        cases e66
        intro a68 e68 ob68
        cases e68
        intro w70 τ70 o70 q70
        obtain ⟨r70, rfl, hr70, rfl⟩ := q70 (N, E, A, B, V, z) ⟨_, _, _, rfl⟩
        try dsimp only [Option.toList, List.cons_append, List.nil_append, s1C, s2C, dlC, kyC, Nat.beq, lkC, rcd, rno, rsw]
        intro a71 e71 ob71
        cases e71
        intro w73 τ73 o73 q73
        obtain ⟨rfl, qq73⟩ := q73 (N, E, A, B, V, z) ⟨_, _, rfl, hP⟩
        rcases qq73 with ⟨qa73, rfl⟩ | ⟨qa73, qb73⟩
        · have qc73 := qa73
          try dsimp only [Option.toList, List.cons_append, List.nil_append, s1C, s2C, dlC, kyC, Nat.beq, lkC, rcd, rno, rsw]
          refine ⟨fun h74 => ?_, fun h74 => ?_⟩
          · have g74 := (eqI (x := r70) (y := 0) h74 : (r70 : Int32).toInt = (0 : Int32).toInt)
            have z0_ : (0 : Int32).toInt = 0 := rfl
            exfalso
            omega
          · have g74 := (neI (x := r70) (y := 0) h74 : ¬ (r70 : Int32).toInt = (0 : Int32).toInt)
            have z0_ : (0 : Int32).toInt = 0 := rfl
            refine hB _ _ _ _ _ (fun m75 hm75 => ?_)
            dsimp only [ucgo, ucwp, ucsC, uqC, uoC, ctC, rfd, KX3_areTaken, KX3_areTaken_0, KX3_areTaken_19, KX3_areTaken_26, KX3_areTaken_49, KX3_areTaken_53, KX3_areTaken_54, lkC, s1C, s2C, dlC, kyC, Nat.beq, Nat.ble, rcd, rno, rsw, Nat.reduceAdd, Nat.reduceBEq, Nat.reduceDiv, List.drop, List.take, List.reverse, List.reverseAux, Int.toNat, Option.toList, List.append, List.cons_append, List.nil_append, zg61, zg62, zg68]
            have c76 : (Int32.ofInt 1).toInt = 1 := by decide
            refine hB _ _ _ _ _ (fun m77 hm77 => ?_)
            dsimp only [ucgo, ucwp, ucsC, uqC, uoC, ctC, rfd, KX3_areTaken, KX3_areTaken_0, KX3_areTaken_19, KX3_areTaken_26, KX3_areTaken_49, KX3_areTaken_53, KX3_areTaken_54, lkC, s1C, s2C, dlC, kyC, Nat.beq, Nat.ble, rcd, rno, rsw, Nat.reduceAdd, Nat.reduceBEq, Nat.reduceDiv, List.drop, List.take, List.reverse, List.reverseAux, Int.toNat, Option.toList, List.append, List.cons_append, List.nil_append, zg61, zg62, zg68]
            try dsimp only [Qz_areTaken]
            exact ⟨_, rfl, fun hnf => Or.inl ⟨by omega, ⟨by unfold ltT nuT at *; omega, by unfold rtT nuT at *; omega⟩, rfl⟩⟩
        · have hP73 : PjC E τ73 := hP.fr o73.2 rfl rfl
          try dsimp only [Option.toList, List.cons_append, List.nil_append, s1C, s2C, dlC, kyC, Nat.beq, lkC, rcd, rno, rsw]
          refine ⟨fun h78 => ?_, fun h78 => ?_⟩
          · have g78 := (eqI (x := r70) (y := 0) h78 : (r70 : Int32).toInt = (0 : Int32).toInt)
            have z0_ : (0 : Int32).toInt = 0 := rfl
            refine hB _ _ _ _ _ (fun m79 hm79 => ?_)
            dsimp only [ucgo, ucwp, ucsC, uqC, uoC, ctC, rfd, KX3_areTaken, KX3_areTaken_0, KX3_areTaken_19, KX3_areTaken_26, KX3_areTaken_49, KX3_areTaken_53, KX3_areTaken_54, lkC, s1C, s2C, dlC, kyC, Nat.beq, Nat.ble, rcd, rno, rsw, Nat.reduceAdd, Nat.reduceBEq, Nat.reduceDiv, List.drop, List.take, List.reverse, List.reverseAux, Int.toNat, Option.toList, List.append, List.cons_append, List.nil_append, zg61, zg62, zg68]
            have c80 : (Int32.ofInt 0).toInt = 0 := by decide
            refine hB _ _ _ _ _ (fun m81 hm81 => ?_)
            dsimp only [ucgo, ucwp, ucsC, uqC, uoC, ctC, rfd, KX3_areTaken, KX3_areTaken_0, KX3_areTaken_19, KX3_areTaken_26, KX3_areTaken_49, KX3_areTaken_53, KX3_areTaken_54, lkC, s1C, s2C, dlC, kyC, Nat.beq, Nat.ble, rcd, rno, rsw, Nat.reduceAdd, Nat.reduceBEq, Nat.reduceDiv, List.drop, List.take, List.reverse, List.reverseAux, Int.toNat, Option.toList, List.append, List.cons_append, List.nil_append, zg61, zg62, zg68]
            try dsimp only [Qz_areTaken]
            exact ⟨_, rfl, fun hnf => Or.inr ⟨by omega, by unfold ltT rtT nuT at *; omega, qb73⟩⟩
          · have g78 := (neI (x := r70) (y := 0) h78 : ¬ (r70 : Int32).toInt = (0 : Int32).toInt)
            have z0_ : (0 : Int32).toInt = 0 := rfl
            exfalso
            omega
  · have hP57 : PjC E τ57 := hP.fr o57.2 rfl rfl
    try dsimp only [Option.toList, List.cons_append, List.nil_append, s1C, s2C, dlC, kyC, Nat.beq, lkC, rcd, rno, rsw]
    refine ⟨fun h82 => ?_, fun h82 => ?_⟩
    · have g82 := (eqI (x := r54) (y := 0) h82 : (r54 : Int32).toInt = (0 : Int32).toInt)
      have z0_ : (0 : Int32).toInt = 0 := rfl
      refine hB _ _ _ _ _ (fun m83 hm83 => ?_)
      dsimp only [ucgo, ucwp, ucsC, uqC, uoC, ctC, rfd, KX3_areTaken, KX3_areTaken_0, KX3_areTaken_19, KX3_areTaken_26, KX3_areTaken_49, KX3_areTaken_53, KX3_areTaken_54, lkC, s1C, s2C, dlC, kyC, Nat.beq, Nat.ble, rcd, rno, rsw, Nat.reduceAdd, Nat.reduceBEq, Nat.reduceDiv, List.drop, List.take, List.reverse, List.reverseAux, Int.toNat, Option.toList, List.append, List.cons_append, List.nil_append, zg61, zg62, zg68]
      have c84 : (Int32.ofInt 0).toInt = 0 := by decide
      refine hB _ _ _ _ _ (fun m85 hm85 => ?_)
      dsimp only [ucgo, ucwp, ucsC, uqC, uoC, ctC, rfd, KX3_areTaken, KX3_areTaken_0, KX3_areTaken_19, KX3_areTaken_26, KX3_areTaken_49, KX3_areTaken_53, KX3_areTaken_54, lkC, s1C, s2C, dlC, kyC, Nat.beq, Nat.ble, rcd, rno, rsw, Nat.reduceAdd, Nat.reduceBEq, Nat.reduceDiv, List.drop, List.take, List.reverse, List.reverseAux, Int.toNat, Option.toList, List.append, List.cons_append, List.nil_append, zg61, zg62, zg68]
      try dsimp only [Qz_areTaken]
      exact ⟨_, rfl, fun hnf => Or.inr ⟨by omega, by unfold ltT rtT nuT at *; omega, qb57⟩⟩
    · have g82 := (neI (x := r54) (y := 0) h82 : ¬ (r54 : Int32).toInt = (0 : Int32).toInt)
      have z0_ : (0 : Int32).toInt = 0 := rfl
      exfalso
      omega
theorem wz_areTaken : ∀ (L : Nat) (As : List AvC) (σ : CsC) (w : Option AvC) (τ : CsC), EvF L 63 As σ w τ → Uz_areTaken As σ w τ := by
  intro L
  cases L with
  | zero => exact fun _ _ _ _ h => h.elim
  | succ L => exact fun As σ w τ h y hy => EvF.us (cs := [66, 62, 52, 67]) (pz_areTaken y) rfl (List.forall_mem_cons.2 ⟨wz_isLeftTaken L, List.forall_mem_cons.2 ⟨wz_isWanted L, List.forall_mem_cons.2 ⟨wz_isFaulty L, List.forall_mem_cons.2 ⟨wz_isRightTaken L, fun _ h => absurd h List.not_mem_nil⟩⟩⟩⟩) h hy
abbrev Pz_judgeNumber : ((Int → Int) × (Nat → Nat) × (Nat → Nat) × (Nat → Nat) × (Nat → Nat) × ZS × XrZ × TvT) → CpC := fun y As σ => match y with
  | (N, E, A, B, V, z, x, t) => ∃ (p1 : Nat), As = [.inr (.inr (some (E 3))), .inr (.inr (some p1))] ∧ (PjC E σ) ∧ (fIC σ (E 1) 217 = 0) ∧ (p1 < cnC σ) ∧ (XqC σ x p1) ∧ (TwC σ p1 t) ∧ (x.1.1 = 0) ∧ ((fIC σ p1 67).toInt = x.2.1.2.1)
abbrev Qz_judgeNumber : ((Int → Int) × (Nat → Nat) × (Nat → Nat) × (Nat → Nat) × (Nat → Nat) × ZS × XrZ × TvT) → CqC := fun y As σ w τ => match y, As with
  | (N, E, A, B, V, z, x, t), [_, .inr (.inr (some p1))] => w = none ∧ JqC E [68, 70, 71] σ τ p1 (x0T t x) (fun r => r.2.2.2 = t.2.2.2)
  | _, _ => True
abbrev Uz_judgeNumber : CqC := fun As σ w τ => ∀ y, Pz_judgeNumber y As σ → Qz_judgeNumber y As σ w τ
set_option maxHeartbeats 4000000 in
theorem pz_judgeNumber (y : (Int → Int) × (Nat → Nat) × (Nat → Nat) × (Nat → Nat) × (Nat → Nat) × ZS × XrZ × TvT) : PbC KX3_judgeNumber [(118, TrP, EqC 118), (228, TrP, EqC 228)] [(118, Uz_tell), (228, Uz_narrowed)] (fun As σ => Pz_judgeNumber y As σ ∧ cnC σ ≤ 1000000 ∧ ∃ w τ, uqC quL 54 As σ w τ) (Qz_judgeNumber y) := by
  obtain ⟨N, E, A, B, V, z, x, t⟩ := y
  rintro As σ ⟨⟨p1, rfl, hP, he, hlt, hx, ht, hk, hli⟩, hcn, _, _, hQ⟩ K hB hW n_
  change K n_ 0 [(0, .inr (.inr (some (E 3)))), (1, .inr (.inr (some p1)))] [] σ
  refine hB _ _ _ _ _ (fun m51 hm51 => ?_)
  dsimp only [ucgo, ucwp, ucsC, uqC, uoC, ctC, rfd, KX3_judgeNumber, KX3_judgeNumber_0, KX3_judgeNumber_9, KX3_judgeNumber_13, KX3_judgeNumber_14, KX3_judgeNumber_19, KX3_judgeNumber_25, KX3_judgeNumber_28, KX3_judgeNumber_40, KX3_judgeNumber_48, KX3_judgeNumber_52, KX3_judgeNumber_53, KX3_judgeNumber_64, KX3_judgeNumber_73, KX3_judgeNumber_78, KX3_judgeNumber_91, KX3_judgeNumber_96, KX3_judgeNumber_100, KX3_judgeNumber_101, lkC, s1C, s2C, dlC, kyC, Nat.beq, Nat.ble, rcd, rno, rsw, Nat.reduceAdd, Nat.reduceBEq, Nat.reduceDiv, List.drop, List.take, List.reverse, List.reverseAux, Int.toNat, Option.toList, List.append, List.cons_append, List.nil_append, zg61, zg62, zg67, zg68, zg71, zg121]
  intro a52 e52 ob52
  cases e52
  have f53 : (fIC σ p1 61).toInt = x.1.2.1 := hx.1.2.1
  have c54 : (Int32.ofInt 82).toInt = 82 := by decide
  refine ⟨fun h55 => ?_, fun h55 => ?_⟩
  · have g55 := (neI (x := (fIC σ p1 61)) (y := (Int32.ofInt 82)) h55 : ¬ ((fIC σ p1 61) : Int32).toInt = ((Int32.ofInt 82) : Int32).toInt)
    refine hB _ _ _ _ _ (fun m56 hm56 => ?_)
    dsimp only [ucgo, ucwp, ucsC, uqC, uoC, ctC, rfd, KX3_judgeNumber, KX3_judgeNumber_0, KX3_judgeNumber_9, KX3_judgeNumber_13, KX3_judgeNumber_14, KX3_judgeNumber_19, KX3_judgeNumber_25, KX3_judgeNumber_28, KX3_judgeNumber_40, KX3_judgeNumber_48, KX3_judgeNumber_52, KX3_judgeNumber_53, KX3_judgeNumber_64, KX3_judgeNumber_73, KX3_judgeNumber_78, KX3_judgeNumber_91, KX3_judgeNumber_96, KX3_judgeNumber_100, KX3_judgeNumber_101, lkC, s1C, s2C, dlC, kyC, Nat.beq, Nat.ble, rcd, rno, rsw, Nat.reduceAdd, Nat.reduceBEq, Nat.reduceDiv, List.drop, List.take, List.reverse, List.reverseAux, Int.toNat, Option.toList, List.append, List.cons_append, List.nil_append, zg61, zg62, zg67, zg68, zg71, zg121]
    have c57 : (Int32.ofInt 0).toInt = 0 := by decide
    refine hB _ _ _ _ _ (fun m58 hm58 => ?_)
    dsimp only [ucgo, ucwp, ucsC, uqC, uoC, ctC, rfd, KX3_judgeNumber, KX3_judgeNumber_0, KX3_judgeNumber_9, KX3_judgeNumber_13, KX3_judgeNumber_14, KX3_judgeNumber_19, KX3_judgeNumber_25, KX3_judgeNumber_28, KX3_judgeNumber_40, KX3_judgeNumber_48, KX3_judgeNumber_52, KX3_judgeNumber_53, KX3_judgeNumber_64, KX3_judgeNumber_73, KX3_judgeNumber_78, KX3_judgeNumber_91, KX3_judgeNumber_96, KX3_judgeNumber_100, KX3_judgeNumber_101, lkC, s1C, s2C, dlC, kyC, Nat.beq, Nat.ble, rcd, rno, rsw, Nat.reduceAdd, Nat.reduceBEq, Nat.reduceDiv, List.drop, List.take, List.reverse, List.reverseAux, Int.toNat, Option.toList, List.append, List.cons_append, List.nil_append, zg61, zg62, zg67, zg68, zg71, zg121]
    refine ⟨fun h59 => ?_, fun h59 => ?_⟩
    · have g59 := (eqI (x := (Int32.ofInt 0)) (y := 0) h59 : ((Int32.ofInt 0) : Int32).toInt = (0 : Int32).toInt)
      have z0_ : (0 : Int32).toInt = 0 := rfl
      refine hB _ _ _ _ _ (fun m60 hm60 => ?_)
      dsimp only [ucgo, ucwp, ucsC, uqC, uoC, ctC, rfd, KX3_judgeNumber, KX3_judgeNumber_0, KX3_judgeNumber_9, KX3_judgeNumber_13, KX3_judgeNumber_14, KX3_judgeNumber_19, KX3_judgeNumber_25, KX3_judgeNumber_28, KX3_judgeNumber_40, KX3_judgeNumber_48, KX3_judgeNumber_52, KX3_judgeNumber_53, KX3_judgeNumber_64, KX3_judgeNumber_73, KX3_judgeNumber_78, KX3_judgeNumber_91, KX3_judgeNumber_96, KX3_judgeNumber_100, KX3_judgeNumber_101, lkC, s1C, s2C, dlC, kyC, Nat.beq, Nat.ble, rcd, rno, rsw, Nat.reduceAdd, Nat.reduceBEq, Nat.reduceDiv, List.drop, List.take, List.reverse, List.reverseAux, Int.toNat, Option.toList, List.append, List.cons_append, List.nil_append, zg61, zg62, zg67, zg68, zg71, zg121]
      refine hB _ _ _ _ _ (fun m61 hm61 => ?_)
      dsimp only [ucgo, ucwp, ucsC, uqC, uoC, ctC, rfd, KX3_judgeNumber, KX3_judgeNumber_0, KX3_judgeNumber_9, KX3_judgeNumber_13, KX3_judgeNumber_14, KX3_judgeNumber_19, KX3_judgeNumber_25, KX3_judgeNumber_28, KX3_judgeNumber_40, KX3_judgeNumber_48, KX3_judgeNumber_52, KX3_judgeNumber_53, KX3_judgeNumber_64, KX3_judgeNumber_73, KX3_judgeNumber_78, KX3_judgeNumber_91, KX3_judgeNumber_96, KX3_judgeNumber_100, KX3_judgeNumber_101, lkC, s1C, s2C, dlC, kyC, Nat.beq, Nat.ble, rcd, rno, rsw, Nat.reduceAdd, Nat.reduceBEq, Nat.reduceDiv, List.drop, List.take, List.reverse, List.reverseAux, Int.toNat, Option.toList, List.append, List.cons_append, List.nil_append, zg61, zg62, zg67, zg68, zg71, zg121]
      intro a62 e62 ob62
      cases e62
      have lc64 : (lg_cmp (fLC σ p1 71) ((Int64.ofInt 2147483647) + (Int64.ofNat ((1 : Fin 2) : Nat)))).toInt = 0 → (fLC σ p1 71) = ((Int64.ofInt 2147483647) + (Int64.ofNat ((1 : Fin 2) : Nat))) := lcmpC
      have ld64 : (fLC σ p1 71) = ((Int64.ofInt 2147483647) + (Int64.ofNat ((1 : Fin 2) : Nat))) → (lg_cmp (fLC σ p1 71) ((Int64.ofInt 2147483647) + (Int64.ofNat ((1 : Fin 2) : Nat)))).toInt = 0 := fun e => by rw [e]; exact lcmp0
      have le64 := lcmp3 (x := (fLC σ p1 71)) (y := ((Int64.ofInt 2147483647) + (Int64.ofNat ((1 : Fin 2) : Nat))))
      refine ⟨fun h65 => ?_, fun h65 => ?_⟩
      · have g65 := (neI (x := (lg_cmp (fLC σ p1 71) ((Int64.ofInt 2147483647) + (Int64.ofNat ((1 : Fin 2) : Nat))))) (y := 0) h65 : ¬ ((lg_cmp (fLC σ p1 71) ((Int64.ofInt 2147483647) + (Int64.ofNat ((1 : Fin 2) : Nat)))) : Int32).toInt = (0 : Int32).toInt)
        have z0_ : (0 : Int32).toInt = 0 := rfl
        refine hB _ _ _ _ _ (fun m66 hm66 => ?_)
        dsimp only [ucgo, ucwp, ucsC, uqC, uoC, ctC, rfd, KX3_judgeNumber, KX3_judgeNumber_0, KX3_judgeNumber_9, KX3_judgeNumber_13, KX3_judgeNumber_14, KX3_judgeNumber_19, KX3_judgeNumber_25, KX3_judgeNumber_28, KX3_judgeNumber_40, KX3_judgeNumber_48, KX3_judgeNumber_52, KX3_judgeNumber_53, KX3_judgeNumber_64, KX3_judgeNumber_73, KX3_judgeNumber_78, KX3_judgeNumber_91, KX3_judgeNumber_96, KX3_judgeNumber_100, KX3_judgeNumber_101, lkC, s1C, s2C, dlC, kyC, Nat.beq, Nat.ble, rcd, rno, rsw, Nat.reduceAdd, Nat.reduceBEq, Nat.reduceDiv, List.drop, List.take, List.reverse, List.reverseAux, Int.toNat, Option.toList, List.append, List.cons_append, List.nil_append, zg61, zg62, zg67, zg68, zg71, zg121]
        have c67 : (Int32.ofInt 0).toInt = 0 := by decide
        refine hB _ _ _ _ _ (fun m68 hm68 => ?_)
        dsimp only [ucgo, ucwp, ucsC, uqC, uoC, ctC, rfd, KX3_judgeNumber, KX3_judgeNumber_0, KX3_judgeNumber_9, KX3_judgeNumber_13, KX3_judgeNumber_14, KX3_judgeNumber_19, KX3_judgeNumber_25, KX3_judgeNumber_28, KX3_judgeNumber_40, KX3_judgeNumber_48, KX3_judgeNumber_52, KX3_judgeNumber_53, KX3_judgeNumber_64, KX3_judgeNumber_73, KX3_judgeNumber_78, KX3_judgeNumber_91, KX3_judgeNumber_96, KX3_judgeNumber_100, KX3_judgeNumber_101, lkC, s1C, s2C, dlC, kyC, Nat.beq, Nat.ble, rcd, rno, rsw, Nat.reduceAdd, Nat.reduceBEq, Nat.reduceDiv, List.drop, List.take, List.reverse, List.reverseAux, Int.toNat, Option.toList, List.append, List.cons_append, List.nil_append, zg61, zg62, zg67, zg68, zg71, zg121]
        intro a69 e69 ob69
        cases e69
        have lc71 : (lg_cmp (fLC σ p1 71) (Int64.ofNat ((0 : Fin 2) : Nat))).toInt = 0 → (fLC σ p1 71) = (Int64.ofNat ((0 : Fin 2) : Nat)) := lcmpC
        have ld71 : (fLC σ p1 71) = (Int64.ofNat ((0 : Fin 2) : Nat)) → (lg_cmp (fLC σ p1 71) (Int64.ofNat ((0 : Fin 2) : Nat))).toInt = 0 := fun e => by rw [e]; exact lcmp0
        have le71 := lcmp3 (x := (fLC σ p1 71)) (y := (Int64.ofNat ((0 : Fin 2) : Nat)))
        refine ⟨fun h72 => ?_, fun h72 => ?_⟩
        · have g72 := ltI (x := (lg_cmp (fLC σ p1 71) (Int64.ofNat ((0 : Fin 2) : Nat)))) (y := 0) h72
          have z0_ : (0 : Int32).toInt = 0 := rfl
          refine hB _ _ _ _ _ (fun m73 hm73 => ?_)
          dsimp only [ucgo, ucwp, ucsC, uqC, uoC, ctC, rfd, KX3_judgeNumber, KX3_judgeNumber_0, KX3_judgeNumber_9, KX3_judgeNumber_13, KX3_judgeNumber_14, KX3_judgeNumber_19, KX3_judgeNumber_25, KX3_judgeNumber_28, KX3_judgeNumber_40, KX3_judgeNumber_48, KX3_judgeNumber_52, KX3_judgeNumber_53, KX3_judgeNumber_64, KX3_judgeNumber_73, KX3_judgeNumber_78, KX3_judgeNumber_91, KX3_judgeNumber_96, KX3_judgeNumber_100, KX3_judgeNumber_101, lkC, s1C, s2C, dlC, kyC, Nat.beq, Nat.ble, rcd, rno, rsw, Nat.reduceAdd, Nat.reduceBEq, Nat.reduceDiv, List.drop, List.take, List.reverse, List.reverseAux, Int.toNat, Option.toList, List.append, List.cons_append, List.nil_append, zg61, zg62, zg67, zg68, zg71, zg121]
          refine ⟨fun h74 => ?_, fun h74 => ?_⟩
          · have g74 := (neI (x := (Int32.ofInt 0)) (y := 0) h74 : ¬ ((Int32.ofInt 0) : Int32).toInt = (0 : Int32).toInt)
            have z0_ : (0 : Int32).toInt = 0 := rfl
            exfalso
            omega
          · have g74 := (eqI (x := (Int32.ofInt 0)) (y := 0) h74 : ((Int32.ofInt 0) : Int32).toInt = (0 : Int32).toInt)
            have z0_ : (0 : Int32).toInt = 0 := rfl
            refine hB _ _ _ _ _ (fun m75 hm75 => ?_)
            dsimp only [ucgo, ucwp, ucsC, uqC, uoC, ctC, rfd, KX3_judgeNumber, KX3_judgeNumber_0, KX3_judgeNumber_9, KX3_judgeNumber_13, KX3_judgeNumber_14, KX3_judgeNumber_19, KX3_judgeNumber_25, KX3_judgeNumber_28, KX3_judgeNumber_40, KX3_judgeNumber_48, KX3_judgeNumber_52, KX3_judgeNumber_53, KX3_judgeNumber_64, KX3_judgeNumber_73, KX3_judgeNumber_78, KX3_judgeNumber_91, KX3_judgeNumber_96, KX3_judgeNumber_100, KX3_judgeNumber_101, lkC, s1C, s2C, dlC, kyC, Nat.beq, Nat.ble, rcd, rno, rsw, Nat.reduceAdd, Nat.reduceBEq, Nat.reduceDiv, List.drop, List.take, List.reverse, List.reverseAux, Int.toNat, Option.toList, List.append, List.cons_append, List.nil_append, zg61, zg62, zg67, zg68, zg71, zg121]
            intro a76 e76 ob76
            cases e76
            have c77 : (Int32.ofInt 4).toInt = 4 := by decide
            intro a78 e78 ob78
            cases e78
            have f79 : (fIC σ p1 62).toInt = x.1.2.2.1 := hx.1.2.2
            rw [hP.1]
            try dsimp only
            intro w80 τ80 o80 q80
            obtain ⟨rfl, hb80_⟩ := q80 (N, E, A, B, V, z) ⟨_, _, rfl, by omega⟩
            have hP80 : PjC E τ80 := hP.fr o80.2 rfl rfl
            try dsimp only [Option.toList, List.cons_append, List.nil_append, s1C, s2C, dlC, kyC, Nat.beq, lkC, rcd, rno, rsw]
            try dsimp only [Qz_judgeNumber]
            have hG : gtT x.1.2.1 = Int64.ofInt 2147483647 := if_neg (by omega)
            have hY : nyT x.1.2.1 = 3 := if_neg (by omega)
            have hv71 : fLC σ p1 71 = t.2.2.1 := ht.2.2
            have hone : (Int64.ofInt 2147483647 + 1) = (Int64.ofInt 2147483647 + Int64.ofNat ((1 : Fin 2) : Nat)) := rfl
            have z9 : (Int64.ofNat ((0 : Fin 2) : Nat)).toInt = 0 := rfl
            rw [z9] at le71
            exact fun τ9 h9 => ⟨rfl, JqC.we h9 (Or.inl ⟨by unfold x0T; rw [hG, ← hv71]; rw [if_pos (by unfold nbT; rw [eqL, hone]; omega)], hb80_⟩)⟩
        · have g72 := nltI (x := (lg_cmp (fLC σ p1 71) (Int64.ofNat ((0 : Fin 2) : Nat)))) (y := 0) h72
          have z0_ : (0 : Int32).toInt = 0 := rfl
          refine hB _ _ _ _ _ (fun m81 hm81 => ?_)
          dsimp only [ucgo, ucwp, ucsC, uqC, uoC, ctC, rfd, KX3_judgeNumber, KX3_judgeNumber_0, KX3_judgeNumber_9, KX3_judgeNumber_13, KX3_judgeNumber_14, KX3_judgeNumber_19, KX3_judgeNumber_25, KX3_judgeNumber_28, KX3_judgeNumber_40, KX3_judgeNumber_48, KX3_judgeNumber_52, KX3_judgeNumber_53, KX3_judgeNumber_64, KX3_judgeNumber_73, KX3_judgeNumber_78, KX3_judgeNumber_91, KX3_judgeNumber_96, KX3_judgeNumber_100, KX3_judgeNumber_101, lkC, s1C, s2C, dlC, kyC, Nat.beq, Nat.ble, rcd, rno, rsw, Nat.reduceAdd, Nat.reduceBEq, Nat.reduceDiv, List.drop, List.take, List.reverse, List.reverseAux, Int.toNat, Option.toList, List.append, List.cons_append, List.nil_append, zg61, zg62, zg67, zg68, zg71, zg121]
          intro a82 e82 ob82
          cases e82
          have lc84 : (lg_cmp (fLC σ p1 71) (Int64.ofInt 2147483647)).toInt = 0 → (fLC σ p1 71) = (Int64.ofInt 2147483647) := lcmpC
          have ld84 : (fLC σ p1 71) = (Int64.ofInt 2147483647) → (lg_cmp (fLC σ p1 71) (Int64.ofInt 2147483647)).toInt = 0 := fun e => by rw [e]; exact lcmp0
          have le84 := lcmp3 (x := (fLC σ p1 71)) (y := (Int64.ofInt 2147483647))
          refine ⟨fun h85 => ?_, fun h85 => ?_⟩
          · have g85 := leI (x := (lg_cmp (fLC σ p1 71) (Int64.ofInt 2147483647))) (y := 0) h85
            have z0_ : (0 : Int32).toInt = 0 := rfl
            refine hB _ _ _ _ _ (fun m86 hm86 => ?_)
            dsimp only [ucgo, ucwp, ucsC, uqC, uoC, ctC, rfd, KX3_judgeNumber, KX3_judgeNumber_0, KX3_judgeNumber_9, KX3_judgeNumber_13, KX3_judgeNumber_14, KX3_judgeNumber_19, KX3_judgeNumber_25, KX3_judgeNumber_28, KX3_judgeNumber_40, KX3_judgeNumber_48, KX3_judgeNumber_52, KX3_judgeNumber_53, KX3_judgeNumber_64, KX3_judgeNumber_73, KX3_judgeNumber_78, KX3_judgeNumber_91, KX3_judgeNumber_96, KX3_judgeNumber_100, KX3_judgeNumber_101, lkC, s1C, s2C, dlC, kyC, Nat.beq, Nat.ble, rcd, rno, rsw, Nat.reduceAdd, Nat.reduceBEq, Nat.reduceDiv, List.drop, List.take, List.reverse, List.reverseAux, Int.toNat, Option.toList, List.append, List.cons_append, List.nil_append, zg61, zg62, zg67, zg68, zg71, zg121]
            refine ⟨fun h87 => ?_, fun h87 => ?_⟩
            · have g87 := (eqI (x := (Int32.ofInt 0)) (y := 0) h87 : ((Int32.ofInt 0) : Int32).toInt = (0 : Int32).toInt)
              have z0_ : (0 : Int32).toInt = 0 := rfl
              refine hB _ _ _ _ _ (fun m88 hm88 => ?_)
              dsimp only [ucgo, ucwp, ucsC, uqC, uoC, ctC, rfd, KX3_judgeNumber, KX3_judgeNumber_0, KX3_judgeNumber_9, KX3_judgeNumber_13, KX3_judgeNumber_14, KX3_judgeNumber_19, KX3_judgeNumber_25, KX3_judgeNumber_28, KX3_judgeNumber_40, KX3_judgeNumber_48, KX3_judgeNumber_52, KX3_judgeNumber_53, KX3_judgeNumber_64, KX3_judgeNumber_73, KX3_judgeNumber_78, KX3_judgeNumber_91, KX3_judgeNumber_96, KX3_judgeNumber_100, KX3_judgeNumber_101, lkC, s1C, s2C, dlC, kyC, Nat.beq, Nat.ble, rcd, rno, rsw, Nat.reduceAdd, Nat.reduceBEq, Nat.reduceDiv, List.drop, List.take, List.reverse, List.reverseAux, Int.toNat, Option.toList, List.append, List.cons_append, List.nil_append, zg61, zg62, zg67, zg68, zg71, zg121]
              have c89 : (Int32.ofInt 3).toInt = 3 := by decide
              refine hB _ _ _ _ _ (fun m90 hm90 => ?_)
              dsimp only [ucgo, ucwp, ucsC, uqC, uoC, ctC, rfd, KX3_judgeNumber, KX3_judgeNumber_0, KX3_judgeNumber_9, KX3_judgeNumber_13, KX3_judgeNumber_14, KX3_judgeNumber_19, KX3_judgeNumber_25, KX3_judgeNumber_28, KX3_judgeNumber_40, KX3_judgeNumber_48, KX3_judgeNumber_52, KX3_judgeNumber_53, KX3_judgeNumber_64, KX3_judgeNumber_73, KX3_judgeNumber_78, KX3_judgeNumber_91, KX3_judgeNumber_96, KX3_judgeNumber_100, KX3_judgeNumber_101, lkC, s1C, s2C, dlC, kyC, Nat.beq, Nat.ble, rcd, rno, rsw, Nat.reduceAdd, Nat.reduceBEq, Nat.reduceDiv, List.drop, List.take, List.reverse, List.reverseAux, Int.toNat, Option.toList, List.append, List.cons_append, List.nil_append, zg61, zg62, zg67, zg68, zg71, zg121]
              intro a91 e91 ob91 fk91
              cases e91
              clear fk91 ob91
              generalize hs91 : pIC σ p1 68 (Int32.ofInt 3) = s91
              have hX91 : XuC [68, 70, 71] σ s91 p1 := XuC.pI (M := [68, 70, 71]) (XuC.rf) (by decide) hs91
              have hv91 : (Int32.ofInt 3).toInt = 3 := by omega
              intro a92 e92 ob92
              cases e92
              have f93 : (fIC s91 p1 68).toInt = 3 := congrArg Int32.toInt (pI_g hs91) |>.trans hv91
              intro a94 e94 ob94
              cases e94
              have fl95 : (fLC s91 p1 71) = fLC σ p1 71 := ((pI_ol hs91).trans rfl)
              intro w96 τ96 o96 q96
              have hv71x : (fLC s91 p1 71) = t.2.2.1 := ((pI_ol hs91).trans rfl).trans ht.2.2
              obtain ⟨r96, rfl, hr96, rfl⟩ := q96 (N, E, A, B, V, z) ⟨_, _, rfl⟩
              try dsimp only [Option.toList, List.cons_append, List.nil_append, s1C, s2C, dlC, kyC, Nat.beq, lkC, rcd, rno, rsw]
              intro a97 e97 ob97 fk97
              cases e97
              clear fk97 ob97
              generalize hs97 : pLC s91 p1 71 r96 = s97
              have hX97 : XuC [68, 70, 71] σ s97 p1 := XuC.pL (M := [68, 70, 71]) hX91 (by decide) hs97
              try dsimp only [Qz_judgeNumber]
              have hG : gtT x.1.2.1 = Int64.ofInt 2147483647 := if_neg (by omega)
              have hY : nyT x.1.2.1 = 3 := if_neg (by omega)
              have hv71 : fLC σ p1 71 = t.2.2.1 := ht.2.2
              have hone : (Int64.ofInt 2147483647 + 1) = (Int64.ofInt 2147483647 + Int64.ofNat ((1 : Fin 2) : Nat)) := rfl
              have z9 : (Int64.ofNat ((0 : Fin 2) : Nat)).toInt = 0 := rfl
              rw [z9] at le71
              exact fun τ9 h9 => ⟨rfl, JqC.we h9 (Or.inr ⟨(nyT x.1.2.1, t.2.1, nrT (nyT x.1.2.1) t.2.2.1, t.2.2.2), by unfold x0T; rw [hG, ← hv71]; rw [if_neg (by unfold nbT; rw [eqL, hone]; omega)], XuC.er (M := [68, 70, 71]) hX97 (by decide) he, hX97, ⟨(congrArg Int32.toInt ((pL_oi hs97).trans (pI_g hs91))).trans (by first | omega | (rw [hY]; omega)), (congrArg Int32.toInt ((pL_oi hs97).trans ((pI_o hs91 (show (70 : Nat) ≠ 68 by decide)).trans rfl))).trans ht.2.1, (pL_g hs97).trans (by rw [hr96, hv71x]; exact congrArg (fun q => nrT q t.2.2.1) (show (fIC s91 p1 68).toInt = nyT x.1.2.1 by rw [hY]; omega))⟩, rfl⟩)⟩
            · have g87 := (neI (x := (Int32.ofInt 0)) (y := 0) h87 : ¬ ((Int32.ofInt 0) : Int32).toInt = (0 : Int32).toInt)
              have z0_ : (0 : Int32).toInt = 0 := rfl
              exfalso
              omega
          · have g85 := nleI (x := (lg_cmp (fLC σ p1 71) (Int64.ofInt 2147483647))) (y := 0) h85
            have z0_ : (0 : Int32).toInt = 0 := rfl
            refine hB _ _ _ _ _ (fun m98 hm98 => ?_)
            dsimp only [ucgo, ucwp, ucsC, uqC, uoC, ctC, rfd, KX3_judgeNumber, KX3_judgeNumber_0, KX3_judgeNumber_9, KX3_judgeNumber_13, KX3_judgeNumber_14, KX3_judgeNumber_19, KX3_judgeNumber_25, KX3_judgeNumber_28, KX3_judgeNumber_40, KX3_judgeNumber_48, KX3_judgeNumber_52, KX3_judgeNumber_53, KX3_judgeNumber_64, KX3_judgeNumber_73, KX3_judgeNumber_78, KX3_judgeNumber_91, KX3_judgeNumber_96, KX3_judgeNumber_100, KX3_judgeNumber_101, lkC, s1C, s2C, dlC, kyC, Nat.beq, Nat.ble, rcd, rno, rsw, Nat.reduceAdd, Nat.reduceBEq, Nat.reduceDiv, List.drop, List.take, List.reverse, List.reverseAux, Int.toNat, Option.toList, List.append, List.cons_append, List.nil_append, zg61, zg62, zg67, zg68, zg71, zg121]
            refine ⟨fun h99 => ?_, fun h99 => ?_⟩
            · have g99 := (neI (x := (Int32.ofInt 0)) (y := 0) h99 : ¬ ((Int32.ofInt 0) : Int32).toInt = (0 : Int32).toInt)
              have z0_ : (0 : Int32).toInt = 0 := rfl
              exfalso
              omega
            · have g99 := (eqI (x := (Int32.ofInt 0)) (y := 0) h99 : ((Int32.ofInt 0) : Int32).toInt = (0 : Int32).toInt)
              have z0_ : (0 : Int32).toInt = 0 := rfl
              refine hB _ _ _ _ _ (fun m100 hm100 => ?_)
              dsimp only [ucgo, ucwp, ucsC, uqC, uoC, ctC, rfd, KX3_judgeNumber, KX3_judgeNumber_0, KX3_judgeNumber_9, KX3_judgeNumber_13, KX3_judgeNumber_14, KX3_judgeNumber_19, KX3_judgeNumber_25, KX3_judgeNumber_28, KX3_judgeNumber_40, KX3_judgeNumber_48, KX3_judgeNumber_52, KX3_judgeNumber_53, KX3_judgeNumber_64, KX3_judgeNumber_73, KX3_judgeNumber_78, KX3_judgeNumber_91, KX3_judgeNumber_96, KX3_judgeNumber_100, KX3_judgeNumber_101, lkC, s1C, s2C, dlC, kyC, Nat.beq, Nat.ble, rcd, rno, rsw, Nat.reduceAdd, Nat.reduceBEq, Nat.reduceDiv, List.drop, List.take, List.reverse, List.reverseAux, Int.toNat, Option.toList, List.append, List.cons_append, List.nil_append, zg61, zg62, zg67, zg68, zg71, zg121]
              intro a101 e101 ob101
              cases e101
              have c102 : (Int32.ofInt 4).toInt = 4 := by decide
              intro a103 e103 ob103
              cases e103
              have f104 : (fIC σ p1 62).toInt = x.1.2.2.1 := hx.1.2.2
              rw [hP.1]
              try dsimp only
              intro w105 τ105 o105 q105
              obtain ⟨rfl, hb105_⟩ := q105 (N, E, A, B, V, z) ⟨_, _, rfl, by omega⟩
              have hP105 : PjC E τ105 := hP.fr o105.2 rfl rfl
              try dsimp only [Option.toList, List.cons_append, List.nil_append, s1C, s2C, dlC, kyC, Nat.beq, lkC, rcd, rno, rsw]
              try dsimp only [Qz_judgeNumber]
              have hG : gtT x.1.2.1 = Int64.ofInt 2147483647 := if_neg (by omega)
              have hY : nyT x.1.2.1 = 3 := if_neg (by omega)
              have hv71 : fLC σ p1 71 = t.2.2.1 := ht.2.2
              have hone : (Int64.ofInt 2147483647 + 1) = (Int64.ofInt 2147483647 + Int64.ofNat ((1 : Fin 2) : Nat)) := rfl
              have z9 : (Int64.ofNat ((0 : Fin 2) : Nat)).toInt = 0 := rfl
              rw [z9] at le71
              exact fun τ9 h9 => ⟨rfl, JqC.we h9 (Or.inl ⟨by unfold x0T; rw [hG, ← hv71]; rw [if_pos (by unfold nbT; rw [eqL, hone]; omega)], hb105_⟩)⟩
      · have g65 := (eqI (x := (lg_cmp (fLC σ p1 71) ((Int64.ofInt 2147483647) + (Int64.ofNat ((1 : Fin 2) : Nat))))) (y := 0) h65 : ((lg_cmp (fLC σ p1 71) ((Int64.ofInt 2147483647) + (Int64.ofNat ((1 : Fin 2) : Nat)))) : Int32).toInt = (0 : Int32).toInt)
        have z0_ : (0 : Int32).toInt = 0 := rfl
        refine hB _ _ _ _ _ (fun m106 hm106 => ?_)
        dsimp only [ucgo, ucwp, ucsC, uqC, uoC, ctC, rfd, KX3_judgeNumber, KX3_judgeNumber_0, KX3_judgeNumber_9, KX3_judgeNumber_13, KX3_judgeNumber_14, KX3_judgeNumber_19, KX3_judgeNumber_25, KX3_judgeNumber_28, KX3_judgeNumber_40, KX3_judgeNumber_48, KX3_judgeNumber_52, KX3_judgeNumber_53, KX3_judgeNumber_64, KX3_judgeNumber_73, KX3_judgeNumber_78, KX3_judgeNumber_91, KX3_judgeNumber_96, KX3_judgeNumber_100, KX3_judgeNumber_101, lkC, s1C, s2C, dlC, kyC, Nat.beq, Nat.ble, rcd, rno, rsw, Nat.reduceAdd, Nat.reduceBEq, Nat.reduceDiv, List.drop, List.take, List.reverse, List.reverseAux, Int.toNat, Option.toList, List.append, List.cons_append, List.nil_append, zg61, zg62, zg67, zg68, zg71, zg121]
        intro a107 e107 ob107
        cases e107
        have f108 : (fIC σ p1 67).toInt = x.2.1.2.1 := hli
        have c109 : (Int32.ofInt 1).toInt = 1 := by decide
        refine ⟨fun h110 => ?_, fun h110 => ?_⟩
        · have g110 := (neI (x := (fIC σ p1 67)) (y := (Int32.ofInt 1)) h110 : ¬ ((fIC σ p1 67) : Int32).toInt = ((Int32.ofInt 1) : Int32).toInt)
          refine hB _ _ _ _ _ (fun m111 hm111 => ?_)
          dsimp only [ucgo, ucwp, ucsC, uqC, uoC, ctC, rfd, KX3_judgeNumber, KX3_judgeNumber_0, KX3_judgeNumber_9, KX3_judgeNumber_13, KX3_judgeNumber_14, KX3_judgeNumber_19, KX3_judgeNumber_25, KX3_judgeNumber_28, KX3_judgeNumber_40, KX3_judgeNumber_48, KX3_judgeNumber_52, KX3_judgeNumber_53, KX3_judgeNumber_64, KX3_judgeNumber_73, KX3_judgeNumber_78, KX3_judgeNumber_91, KX3_judgeNumber_96, KX3_judgeNumber_100, KX3_judgeNumber_101, lkC, s1C, s2C, dlC, kyC, Nat.beq, Nat.ble, rcd, rno, rsw, Nat.reduceAdd, Nat.reduceBEq, Nat.reduceDiv, List.drop, List.take, List.reverse, List.reverseAux, Int.toNat, Option.toList, List.append, List.cons_append, List.nil_append, zg61, zg62, zg67, zg68, zg71, zg121]
          have c112 : (Int32.ofInt 0).toInt = 0 := by decide
          refine hB _ _ _ _ _ (fun m113 hm113 => ?_)
          dsimp only [ucgo, ucwp, ucsC, uqC, uoC, ctC, rfd, KX3_judgeNumber, KX3_judgeNumber_0, KX3_judgeNumber_9, KX3_judgeNumber_13, KX3_judgeNumber_14, KX3_judgeNumber_19, KX3_judgeNumber_25, KX3_judgeNumber_28, KX3_judgeNumber_40, KX3_judgeNumber_48, KX3_judgeNumber_52, KX3_judgeNumber_53, KX3_judgeNumber_64, KX3_judgeNumber_73, KX3_judgeNumber_78, KX3_judgeNumber_91, KX3_judgeNumber_96, KX3_judgeNumber_100, KX3_judgeNumber_101, lkC, s1C, s2C, dlC, kyC, Nat.beq, Nat.ble, rcd, rno, rsw, Nat.reduceAdd, Nat.reduceBEq, Nat.reduceDiv, List.drop, List.take, List.reverse, List.reverseAux, Int.toNat, Option.toList, List.append, List.cons_append, List.nil_append, zg61, zg62, zg67, zg68, zg71, zg121]
          intro a114 e114 ob114
          cases e114
          have lc116 : (lg_cmp (fLC σ p1 71) (Int64.ofNat ((0 : Fin 2) : Nat))).toInt = 0 → (fLC σ p1 71) = (Int64.ofNat ((0 : Fin 2) : Nat)) := lcmpC
          have ld116 : (fLC σ p1 71) = (Int64.ofNat ((0 : Fin 2) : Nat)) → (lg_cmp (fLC σ p1 71) (Int64.ofNat ((0 : Fin 2) : Nat))).toInt = 0 := fun e => by rw [e]; exact lcmp0
          have le116 := lcmp3 (x := (fLC σ p1 71)) (y := (Int64.ofNat ((0 : Fin 2) : Nat)))
          refine ⟨fun h117 => ?_, fun h117 => ?_⟩
          · have g117 := ltI (x := (lg_cmp (fLC σ p1 71) (Int64.ofNat ((0 : Fin 2) : Nat)))) (y := 0) h117
            have z0_ : (0 : Int32).toInt = 0 := rfl
            refine hB _ _ _ _ _ (fun m118 hm118 => ?_)
            dsimp only [ucgo, ucwp, ucsC, uqC, uoC, ctC, rfd, KX3_judgeNumber, KX3_judgeNumber_0, KX3_judgeNumber_9, KX3_judgeNumber_13, KX3_judgeNumber_14, KX3_judgeNumber_19, KX3_judgeNumber_25, KX3_judgeNumber_28, KX3_judgeNumber_40, KX3_judgeNumber_48, KX3_judgeNumber_52, KX3_judgeNumber_53, KX3_judgeNumber_64, KX3_judgeNumber_73, KX3_judgeNumber_78, KX3_judgeNumber_91, KX3_judgeNumber_96, KX3_judgeNumber_100, KX3_judgeNumber_101, lkC, s1C, s2C, dlC, kyC, Nat.beq, Nat.ble, rcd, rno, rsw, Nat.reduceAdd, Nat.reduceBEq, Nat.reduceDiv, List.drop, List.take, List.reverse, List.reverseAux, Int.toNat, Option.toList, List.append, List.cons_append, List.nil_append, zg61, zg62, zg67, zg68, zg71, zg121]
            refine ⟨fun h119 => ?_, fun h119 => ?_⟩
            · have g119 := (neI (x := (Int32.ofInt 0)) (y := 0) h119 : ¬ ((Int32.ofInt 0) : Int32).toInt = (0 : Int32).toInt)
              have z0_ : (0 : Int32).toInt = 0 := rfl
              exfalso
              omega
            · have g119 := (eqI (x := (Int32.ofInt 0)) (y := 0) h119 : ((Int32.ofInt 0) : Int32).toInt = (0 : Int32).toInt)
              have z0_ : (0 : Int32).toInt = 0 := rfl
              refine hB _ _ _ _ _ (fun m120 hm120 => ?_)
              dsimp only [ucgo, ucwp, ucsC, uqC, uoC, ctC, rfd, KX3_judgeNumber, KX3_judgeNumber_0, KX3_judgeNumber_9, KX3_judgeNumber_13, KX3_judgeNumber_14, KX3_judgeNumber_19, KX3_judgeNumber_25, KX3_judgeNumber_28, KX3_judgeNumber_40, KX3_judgeNumber_48, KX3_judgeNumber_52, KX3_judgeNumber_53, KX3_judgeNumber_64, KX3_judgeNumber_73, KX3_judgeNumber_78, KX3_judgeNumber_91, KX3_judgeNumber_96, KX3_judgeNumber_100, KX3_judgeNumber_101, lkC, s1C, s2C, dlC, kyC, Nat.beq, Nat.ble, rcd, rno, rsw, Nat.reduceAdd, Nat.reduceBEq, Nat.reduceDiv, List.drop, List.take, List.reverse, List.reverseAux, Int.toNat, Option.toList, List.append, List.cons_append, List.nil_append, zg61, zg62, zg67, zg68, zg71, zg121]
              intro a121 e121 ob121
              cases e121
              have c122 : (Int32.ofInt 4).toInt = 4 := by decide
              intro a123 e123 ob123
              cases e123
              have f124 : (fIC σ p1 62).toInt = x.1.2.2.1 := hx.1.2.2
              rw [hP.1]
              try dsimp only
              intro w125 τ125 o125 q125
              obtain ⟨rfl, hb125_⟩ := q125 (N, E, A, B, V, z) ⟨_, _, rfl, by omega⟩
              have hP125 : PjC E τ125 := hP.fr o125.2 rfl rfl
              try dsimp only [Option.toList, List.cons_append, List.nil_append, s1C, s2C, dlC, kyC, Nat.beq, lkC, rcd, rno, rsw]
              try dsimp only [Qz_judgeNumber]
              have hG : gtT x.1.2.1 = Int64.ofInt 2147483647 := if_neg (by omega)
              have hY : nyT x.1.2.1 = 3 := if_neg (by omega)
              have hv71 : fLC σ p1 71 = t.2.2.1 := ht.2.2
              have hone : (Int64.ofInt 2147483647 + 1) = (Int64.ofInt 2147483647 + Int64.ofNat ((1 : Fin 2) : Nat)) := rfl
              have z9 : (Int64.ofNat ((0 : Fin 2) : Nat)).toInt = 0 := rfl
              rw [z9] at le116
              exact fun τ9 h9 => ⟨rfl, JqC.we h9 (Or.inl ⟨by unfold x0T; rw [hG, ← hv71]; rw [if_pos (by unfold nbT; rw [eqL, hone]; omega)], hb125_⟩)⟩
          · have g117 := nltI (x := (lg_cmp (fLC σ p1 71) (Int64.ofNat ((0 : Fin 2) : Nat)))) (y := 0) h117
            have z0_ : (0 : Int32).toInt = 0 := rfl
            refine hB _ _ _ _ _ (fun m126 hm126 => ?_)
            dsimp only [ucgo, ucwp, ucsC, uqC, uoC, ctC, rfd, KX3_judgeNumber, KX3_judgeNumber_0, KX3_judgeNumber_9, KX3_judgeNumber_13, KX3_judgeNumber_14, KX3_judgeNumber_19, KX3_judgeNumber_25, KX3_judgeNumber_28, KX3_judgeNumber_40, KX3_judgeNumber_48, KX3_judgeNumber_52, KX3_judgeNumber_53, KX3_judgeNumber_64, KX3_judgeNumber_73, KX3_judgeNumber_78, KX3_judgeNumber_91, KX3_judgeNumber_96, KX3_judgeNumber_100, KX3_judgeNumber_101, lkC, s1C, s2C, dlC, kyC, Nat.beq, Nat.ble, rcd, rno, rsw, Nat.reduceAdd, Nat.reduceBEq, Nat.reduceDiv, List.drop, List.take, List.reverse, List.reverseAux, Int.toNat, Option.toList, List.append, List.cons_append, List.nil_append, zg61, zg62, zg67, zg68, zg71, zg121]
            intro a127 e127 ob127
            cases e127
            have lc129 : (lg_cmp (fLC σ p1 71) (Int64.ofInt 2147483647)).toInt = 0 → (fLC σ p1 71) = (Int64.ofInt 2147483647) := lcmpC
            have ld129 : (fLC σ p1 71) = (Int64.ofInt 2147483647) → (lg_cmp (fLC σ p1 71) (Int64.ofInt 2147483647)).toInt = 0 := fun e => by rw [e]; exact lcmp0
            have le129 := lcmp3 (x := (fLC σ p1 71)) (y := (Int64.ofInt 2147483647))
            refine ⟨fun h130 => ?_, fun h130 => ?_⟩
            · have g130 := leI (x := (lg_cmp (fLC σ p1 71) (Int64.ofInt 2147483647))) (y := 0) h130
              have z0_ : (0 : Int32).toInt = 0 := rfl
              refine hB _ _ _ _ _ (fun m131 hm131 => ?_)
              dsimp only [ucgo, ucwp, ucsC, uqC, uoC, ctC, rfd, KX3_judgeNumber, KX3_judgeNumber_0, KX3_judgeNumber_9, KX3_judgeNumber_13, KX3_judgeNumber_14, KX3_judgeNumber_19, KX3_judgeNumber_25, KX3_judgeNumber_28, KX3_judgeNumber_40, KX3_judgeNumber_48, KX3_judgeNumber_52, KX3_judgeNumber_53, KX3_judgeNumber_64, KX3_judgeNumber_73, KX3_judgeNumber_78, KX3_judgeNumber_91, KX3_judgeNumber_96, KX3_judgeNumber_100, KX3_judgeNumber_101, lkC, s1C, s2C, dlC, kyC, Nat.beq, Nat.ble, rcd, rno, rsw, Nat.reduceAdd, Nat.reduceBEq, Nat.reduceDiv, List.drop, List.take, List.reverse, List.reverseAux, Int.toNat, Option.toList, List.append, List.cons_append, List.nil_append, zg61, zg62, zg67, zg68, zg71, zg121]
              refine ⟨fun h132 => ?_, fun h132 => ?_⟩
              · have g132 := (eqI (x := (Int32.ofInt 0)) (y := 0) h132 : ((Int32.ofInt 0) : Int32).toInt = (0 : Int32).toInt)
                have z0_ : (0 : Int32).toInt = 0 := rfl
                refine hB _ _ _ _ _ (fun m133 hm133 => ?_)
                dsimp only [ucgo, ucwp, ucsC, uqC, uoC, ctC, rfd, KX3_judgeNumber, KX3_judgeNumber_0, KX3_judgeNumber_9, KX3_judgeNumber_13, KX3_judgeNumber_14, KX3_judgeNumber_19, KX3_judgeNumber_25, KX3_judgeNumber_28, KX3_judgeNumber_40, KX3_judgeNumber_48, KX3_judgeNumber_52, KX3_judgeNumber_53, KX3_judgeNumber_64, KX3_judgeNumber_73, KX3_judgeNumber_78, KX3_judgeNumber_91, KX3_judgeNumber_96, KX3_judgeNumber_100, KX3_judgeNumber_101, lkC, s1C, s2C, dlC, kyC, Nat.beq, Nat.ble, rcd, rno, rsw, Nat.reduceAdd, Nat.reduceBEq, Nat.reduceDiv, List.drop, List.take, List.reverse, List.reverseAux, Int.toNat, Option.toList, List.append, List.cons_append, List.nil_append, zg61, zg62, zg67, zg68, zg71, zg121]
                have c134 : (Int32.ofInt 3).toInt = 3 := by decide
                refine hB _ _ _ _ _ (fun m135 hm135 => ?_)
                dsimp only [ucgo, ucwp, ucsC, uqC, uoC, ctC, rfd, KX3_judgeNumber, KX3_judgeNumber_0, KX3_judgeNumber_9, KX3_judgeNumber_13, KX3_judgeNumber_14, KX3_judgeNumber_19, KX3_judgeNumber_25, KX3_judgeNumber_28, KX3_judgeNumber_40, KX3_judgeNumber_48, KX3_judgeNumber_52, KX3_judgeNumber_53, KX3_judgeNumber_64, KX3_judgeNumber_73, KX3_judgeNumber_78, KX3_judgeNumber_91, KX3_judgeNumber_96, KX3_judgeNumber_100, KX3_judgeNumber_101, lkC, s1C, s2C, dlC, kyC, Nat.beq, Nat.ble, rcd, rno, rsw, Nat.reduceAdd, Nat.reduceBEq, Nat.reduceDiv, List.drop, List.take, List.reverse, List.reverseAux, Int.toNat, Option.toList, List.append, List.cons_append, List.nil_append, zg61, zg62, zg67, zg68, zg71, zg121]
                intro a136 e136 ob136 fk136
                cases e136
                clear fk136 ob136
                generalize hs136 : pIC σ p1 68 (Int32.ofInt 3) = s136
                have hX136 : XuC [68, 70, 71] σ s136 p1 := XuC.pI (M := [68, 70, 71]) (XuC.rf) (by decide) hs136
                have hv136 : (Int32.ofInt 3).toInt = 3 := by omega
                intro a137 e137 ob137
                cases e137
                have f138 : (fIC s136 p1 68).toInt = 3 := congrArg Int32.toInt (pI_g hs136) |>.trans hv136
                intro a139 e139 ob139
                cases e139
                have fl140 : (fLC s136 p1 71) = fLC σ p1 71 := ((pI_ol hs136).trans rfl)
                intro w141 τ141 o141 q141
                have hv71x : (fLC s136 p1 71) = t.2.2.1 := ((pI_ol hs136).trans rfl).trans ht.2.2
                obtain ⟨r141, rfl, hr141, rfl⟩ := q141 (N, E, A, B, V, z) ⟨_, _, rfl⟩
                try dsimp only [Option.toList, List.cons_append, List.nil_append, s1C, s2C, dlC, kyC, Nat.beq, lkC, rcd, rno, rsw]
                intro a142 e142 ob142 fk142
                cases e142
                clear fk142 ob142
                generalize hs142 : pLC s136 p1 71 r141 = s142
                have hX142 : XuC [68, 70, 71] σ s142 p1 := XuC.pL (M := [68, 70, 71]) hX136 (by decide) hs142
                try dsimp only [Qz_judgeNumber]
                have hG : gtT x.1.2.1 = Int64.ofInt 2147483647 := if_neg (by omega)
                have hY : nyT x.1.2.1 = 3 := if_neg (by omega)
                have hv71 : fLC σ p1 71 = t.2.2.1 := ht.2.2
                have hone : (Int64.ofInt 2147483647 + 1) = (Int64.ofInt 2147483647 + Int64.ofNat ((1 : Fin 2) : Nat)) := rfl
                have z9 : (Int64.ofNat ((0 : Fin 2) : Nat)).toInt = 0 := rfl
                rw [z9] at le116
                exact fun τ9 h9 => ⟨rfl, JqC.we h9 (Or.inr ⟨(nyT x.1.2.1, t.2.1, nrT (nyT x.1.2.1) t.2.2.1, t.2.2.2), by unfold x0T; rw [hG, ← hv71]; rw [if_neg (by unfold nbT; rw [eqL, hone]; omega)], XuC.er (M := [68, 70, 71]) hX142 (by decide) he, hX142, ⟨(congrArg Int32.toInt ((pL_oi hs142).trans (pI_g hs136))).trans (by first | omega | (rw [hY]; omega)), (congrArg Int32.toInt ((pL_oi hs142).trans ((pI_o hs136 (show (70 : Nat) ≠ 68 by decide)).trans rfl))).trans ht.2.1, (pL_g hs142).trans (by rw [hr141, hv71x]; exact congrArg (fun q => nrT q t.2.2.1) (show (fIC s136 p1 68).toInt = nyT x.1.2.1 by rw [hY]; omega))⟩, rfl⟩)⟩
              · have g132 := (neI (x := (Int32.ofInt 0)) (y := 0) h132 : ¬ ((Int32.ofInt 0) : Int32).toInt = (0 : Int32).toInt)
                have z0_ : (0 : Int32).toInt = 0 := rfl
                exfalso
                omega
            · have g130 := nleI (x := (lg_cmp (fLC σ p1 71) (Int64.ofInt 2147483647))) (y := 0) h130
              have z0_ : (0 : Int32).toInt = 0 := rfl
              refine hB _ _ _ _ _ (fun m143 hm143 => ?_)
              dsimp only [ucgo, ucwp, ucsC, uqC, uoC, ctC, rfd, KX3_judgeNumber, KX3_judgeNumber_0, KX3_judgeNumber_9, KX3_judgeNumber_13, KX3_judgeNumber_14, KX3_judgeNumber_19, KX3_judgeNumber_25, KX3_judgeNumber_28, KX3_judgeNumber_40, KX3_judgeNumber_48, KX3_judgeNumber_52, KX3_judgeNumber_53, KX3_judgeNumber_64, KX3_judgeNumber_73, KX3_judgeNumber_78, KX3_judgeNumber_91, KX3_judgeNumber_96, KX3_judgeNumber_100, KX3_judgeNumber_101, lkC, s1C, s2C, dlC, kyC, Nat.beq, Nat.ble, rcd, rno, rsw, Nat.reduceAdd, Nat.reduceBEq, Nat.reduceDiv, List.drop, List.take, List.reverse, List.reverseAux, Int.toNat, Option.toList, List.append, List.cons_append, List.nil_append, zg61, zg62, zg67, zg68, zg71, zg121]
              refine ⟨fun h144 => ?_, fun h144 => ?_⟩
              · have g144 := (neI (x := (Int32.ofInt 0)) (y := 0) h144 : ¬ ((Int32.ofInt 0) : Int32).toInt = (0 : Int32).toInt)
                have z0_ : (0 : Int32).toInt = 0 := rfl
                exfalso
                omega
              · have g144 := (eqI (x := (Int32.ofInt 0)) (y := 0) h144 : ((Int32.ofInt 0) : Int32).toInt = (0 : Int32).toInt)
                have z0_ : (0 : Int32).toInt = 0 := rfl
                refine hB _ _ _ _ _ (fun m145 hm145 => ?_)
                dsimp only [ucgo, ucwp, ucsC, uqC, uoC, ctC, rfd, KX3_judgeNumber, KX3_judgeNumber_0, KX3_judgeNumber_9, KX3_judgeNumber_13, KX3_judgeNumber_14, KX3_judgeNumber_19, KX3_judgeNumber_25, KX3_judgeNumber_28, KX3_judgeNumber_40, KX3_judgeNumber_48, KX3_judgeNumber_52, KX3_judgeNumber_53, KX3_judgeNumber_64, KX3_judgeNumber_73, KX3_judgeNumber_78, KX3_judgeNumber_91, KX3_judgeNumber_96, KX3_judgeNumber_100, KX3_judgeNumber_101, lkC, s1C, s2C, dlC, kyC, Nat.beq, Nat.ble, rcd, rno, rsw, Nat.reduceAdd, Nat.reduceBEq, Nat.reduceDiv, List.drop, List.take, List.reverse, List.reverseAux, Int.toNat, Option.toList, List.append, List.cons_append, List.nil_append, zg61, zg62, zg67, zg68, zg71, zg121]
                intro a146 e146 ob146
                cases e146
                have c147 : (Int32.ofInt 4).toInt = 4 := by decide
                intro a148 e148 ob148
                cases e148
                have f149 : (fIC σ p1 62).toInt = x.1.2.2.1 := hx.1.2.2
                rw [hP.1]
                try dsimp only
                intro w150 τ150 o150 q150
                obtain ⟨rfl, hb150_⟩ := q150 (N, E, A, B, V, z) ⟨_, _, rfl, by omega⟩
                have hP150 : PjC E τ150 := hP.fr o150.2 rfl rfl
                try dsimp only [Option.toList, List.cons_append, List.nil_append, s1C, s2C, dlC, kyC, Nat.beq, lkC, rcd, rno, rsw]
                try dsimp only [Qz_judgeNumber]
                have hG : gtT x.1.2.1 = Int64.ofInt 2147483647 := if_neg (by omega)
                have hY : nyT x.1.2.1 = 3 := if_neg (by omega)
                have hv71 : fLC σ p1 71 = t.2.2.1 := ht.2.2
                have hone : (Int64.ofInt 2147483647 + 1) = (Int64.ofInt 2147483647 + Int64.ofNat ((1 : Fin 2) : Nat)) := rfl
                have z9 : (Int64.ofNat ((0 : Fin 2) : Nat)).toInt = 0 := rfl
                rw [z9] at le116
                exact fun τ9 h9 => ⟨rfl, JqC.we h9 (Or.inl ⟨by unfold x0T; rw [hG, ← hv71]; rw [if_pos (by unfold nbT; rw [eqL, hone]; omega)], hb150_⟩)⟩
        · have g110 := (eqI (x := (fIC σ p1 67)) (y := (Int32.ofInt 1)) h110 : ((fIC σ p1 67) : Int32).toInt = ((Int32.ofInt 1) : Int32).toInt)
          refine hB _ _ _ _ _ (fun m151 hm151 => ?_)
          dsimp only [ucgo, ucwp, ucsC, uqC, uoC, ctC, rfd, KX3_judgeNumber, KX3_judgeNumber_0, KX3_judgeNumber_9, KX3_judgeNumber_13, KX3_judgeNumber_14, KX3_judgeNumber_19, KX3_judgeNumber_25, KX3_judgeNumber_28, KX3_judgeNumber_40, KX3_judgeNumber_48, KX3_judgeNumber_52, KX3_judgeNumber_53, KX3_judgeNumber_64, KX3_judgeNumber_73, KX3_judgeNumber_78, KX3_judgeNumber_91, KX3_judgeNumber_96, KX3_judgeNumber_100, KX3_judgeNumber_101, lkC, s1C, s2C, dlC, kyC, Nat.beq, Nat.ble, rcd, rno, rsw, Nat.reduceAdd, Nat.reduceBEq, Nat.reduceDiv, List.drop, List.take, List.reverse, List.reverseAux, Int.toNat, Option.toList, List.append, List.cons_append, List.nil_append, zg61, zg62, zg67, zg68, zg71, zg121]
          have c152 : (Int32.ofInt 1).toInt = 1 := by decide
          refine hB _ _ _ _ _ (fun m153 hm153 => ?_)
          dsimp only [ucgo, ucwp, ucsC, uqC, uoC, ctC, rfd, KX3_judgeNumber, KX3_judgeNumber_0, KX3_judgeNumber_9, KX3_judgeNumber_13, KX3_judgeNumber_14, KX3_judgeNumber_19, KX3_judgeNumber_25, KX3_judgeNumber_28, KX3_judgeNumber_40, KX3_judgeNumber_48, KX3_judgeNumber_52, KX3_judgeNumber_53, KX3_judgeNumber_64, KX3_judgeNumber_73, KX3_judgeNumber_78, KX3_judgeNumber_91, KX3_judgeNumber_96, KX3_judgeNumber_100, KX3_judgeNumber_101, lkC, s1C, s2C, dlC, kyC, Nat.beq, Nat.ble, rcd, rno, rsw, Nat.reduceAdd, Nat.reduceBEq, Nat.reduceDiv, List.drop, List.take, List.reverse, List.reverseAux, Int.toNat, Option.toList, List.append, List.cons_append, List.nil_append, zg61, zg62, zg67, zg68, zg71, zg121]
          intro a154 e154 ob154
          cases e154
          have lc156 : (lg_cmp (fLC σ p1 71) (Int64.ofNat ((0 : Fin 2) : Nat))).toInt = 0 → (fLC σ p1 71) = (Int64.ofNat ((0 : Fin 2) : Nat)) := lcmpC
          have ld156 : (fLC σ p1 71) = (Int64.ofNat ((0 : Fin 2) : Nat)) → (lg_cmp (fLC σ p1 71) (Int64.ofNat ((0 : Fin 2) : Nat))).toInt = 0 := fun e => by rw [e]; exact lcmp0
          have le156 := lcmp3 (x := (fLC σ p1 71)) (y := (Int64.ofNat ((0 : Fin 2) : Nat)))
          refine ⟨fun h157 => ?_, fun h157 => ?_⟩
          · have g157 := ltI (x := (lg_cmp (fLC σ p1 71) (Int64.ofNat ((0 : Fin 2) : Nat)))) (y := 0) h157
            have z0_ : (0 : Int32).toInt = 0 := rfl
            refine hB _ _ _ _ _ (fun m158 hm158 => ?_)
            dsimp only [ucgo, ucwp, ucsC, uqC, uoC, ctC, rfd, KX3_judgeNumber, KX3_judgeNumber_0, KX3_judgeNumber_9, KX3_judgeNumber_13, KX3_judgeNumber_14, KX3_judgeNumber_19, KX3_judgeNumber_25, KX3_judgeNumber_28, KX3_judgeNumber_40, KX3_judgeNumber_48, KX3_judgeNumber_52, KX3_judgeNumber_53, KX3_judgeNumber_64, KX3_judgeNumber_73, KX3_judgeNumber_78, KX3_judgeNumber_91, KX3_judgeNumber_96, KX3_judgeNumber_100, KX3_judgeNumber_101, lkC, s1C, s2C, dlC, kyC, Nat.beq, Nat.ble, rcd, rno, rsw, Nat.reduceAdd, Nat.reduceBEq, Nat.reduceDiv, List.drop, List.take, List.reverse, List.reverseAux, Int.toNat, Option.toList, List.append, List.cons_append, List.nil_append, zg61, zg62, zg67, zg68, zg71, zg121]
            refine ⟨fun h159 => ?_, fun h159 => ?_⟩
            · have g159 := (neI (x := (Int32.ofInt 1)) (y := 0) h159 : ¬ ((Int32.ofInt 1) : Int32).toInt = (0 : Int32).toInt)
              have z0_ : (0 : Int32).toInt = 0 := rfl
              refine hB _ _ _ _ _ (fun m160 hm160 => ?_)
              dsimp only [ucgo, ucwp, ucsC, uqC, uoC, ctC, rfd, KX3_judgeNumber, KX3_judgeNumber_0, KX3_judgeNumber_9, KX3_judgeNumber_13, KX3_judgeNumber_14, KX3_judgeNumber_19, KX3_judgeNumber_25, KX3_judgeNumber_28, KX3_judgeNumber_40, KX3_judgeNumber_48, KX3_judgeNumber_52, KX3_judgeNumber_53, KX3_judgeNumber_64, KX3_judgeNumber_73, KX3_judgeNumber_78, KX3_judgeNumber_91, KX3_judgeNumber_96, KX3_judgeNumber_100, KX3_judgeNumber_101, lkC, s1C, s2C, dlC, kyC, Nat.beq, Nat.ble, rcd, rno, rsw, Nat.reduceAdd, Nat.reduceBEq, Nat.reduceDiv, List.drop, List.take, List.reverse, List.reverseAux, Int.toNat, Option.toList, List.append, List.cons_append, List.nil_append, zg61, zg62, zg67, zg68, zg71, zg121]
              refine ⟨fun h161 => ?_, fun h161 => ?_⟩
              · have g161 := (eqI (x := (Int32.ofInt 0)) (y := 0) h161 : ((Int32.ofInt 0) : Int32).toInt = (0 : Int32).toInt)
                have z0_ : (0 : Int32).toInt = 0 := rfl
                refine hB _ _ _ _ _ (fun m162 hm162 => ?_)
                dsimp only [ucgo, ucwp, ucsC, uqC, uoC, ctC, rfd, KX3_judgeNumber, KX3_judgeNumber_0, KX3_judgeNumber_9, KX3_judgeNumber_13, KX3_judgeNumber_14, KX3_judgeNumber_19, KX3_judgeNumber_25, KX3_judgeNumber_28, KX3_judgeNumber_40, KX3_judgeNumber_48, KX3_judgeNumber_52, KX3_judgeNumber_53, KX3_judgeNumber_64, KX3_judgeNumber_73, KX3_judgeNumber_78, KX3_judgeNumber_91, KX3_judgeNumber_96, KX3_judgeNumber_100, KX3_judgeNumber_101, lkC, s1C, s2C, dlC, kyC, Nat.beq, Nat.ble, rcd, rno, rsw, Nat.reduceAdd, Nat.reduceBEq, Nat.reduceDiv, List.drop, List.take, List.reverse, List.reverseAux, Int.toNat, Option.toList, List.append, List.cons_append, List.nil_append, zg61, zg62, zg67, zg68, zg71, zg121]
                have c163 : (Int32.ofInt 3).toInt = 3 := by decide
                refine hB _ _ _ _ _ (fun m164 hm164 => ?_)
                dsimp only [ucgo, ucwp, ucsC, uqC, uoC, ctC, rfd, KX3_judgeNumber, KX3_judgeNumber_0, KX3_judgeNumber_9, KX3_judgeNumber_13, KX3_judgeNumber_14, KX3_judgeNumber_19, KX3_judgeNumber_25, KX3_judgeNumber_28, KX3_judgeNumber_40, KX3_judgeNumber_48, KX3_judgeNumber_52, KX3_judgeNumber_53, KX3_judgeNumber_64, KX3_judgeNumber_73, KX3_judgeNumber_78, KX3_judgeNumber_91, KX3_judgeNumber_96, KX3_judgeNumber_100, KX3_judgeNumber_101, lkC, s1C, s2C, dlC, kyC, Nat.beq, Nat.ble, rcd, rno, rsw, Nat.reduceAdd, Nat.reduceBEq, Nat.reduceDiv, List.drop, List.take, List.reverse, List.reverseAux, Int.toNat, Option.toList, List.append, List.cons_append, List.nil_append, zg61, zg62, zg67, zg68, zg71, zg121]
                intro a165 e165 ob165 fk165
                cases e165
                clear fk165 ob165
                generalize hs165 : pIC σ p1 68 (Int32.ofInt 3) = s165
                have hX165 : XuC [68, 70, 71] σ s165 p1 := XuC.pI (M := [68, 70, 71]) (XuC.rf) (by decide) hs165
                have hv165 : (Int32.ofInt 3).toInt = 3 := by omega
                intro a166 e166 ob166
                cases e166
                have f167 : (fIC s165 p1 68).toInt = 3 := congrArg Int32.toInt (pI_g hs165) |>.trans hv165
                intro a168 e168 ob168
                cases e168
                have fl169 : (fLC s165 p1 71) = fLC σ p1 71 := ((pI_ol hs165).trans rfl)
                intro w170 τ170 o170 q170
                have hv71x : (fLC s165 p1 71) = t.2.2.1 := ((pI_ol hs165).trans rfl).trans ht.2.2
                obtain ⟨r170, rfl, hr170, rfl⟩ := q170 (N, E, A, B, V, z) ⟨_, _, rfl⟩
                try dsimp only [Option.toList, List.cons_append, List.nil_append, s1C, s2C, dlC, kyC, Nat.beq, lkC, rcd, rno, rsw]
                intro a171 e171 ob171 fk171
                cases e171
                clear fk171 ob171
                generalize hs171 : pLC s165 p1 71 r170 = s171
                have hX171 : XuC [68, 70, 71] σ s171 p1 := XuC.pL (M := [68, 70, 71]) hX165 (by decide) hs171
                try dsimp only [Qz_judgeNumber]
                have hG : gtT x.1.2.1 = Int64.ofInt 2147483647 := if_neg (by omega)
                have hY : nyT x.1.2.1 = 3 := if_neg (by omega)
                have hv71 : fLC σ p1 71 = t.2.2.1 := ht.2.2
                have hone : (Int64.ofInt 2147483647 + 1) = (Int64.ofInt 2147483647 + Int64.ofNat ((1 : Fin 2) : Nat)) := rfl
                have z9 : (Int64.ofNat ((0 : Fin 2) : Nat)).toInt = 0 := rfl
                rw [z9] at le156
                exact fun τ9 h9 => ⟨rfl, JqC.we h9 (Or.inr ⟨(nyT x.1.2.1, t.2.1, nrT (nyT x.1.2.1) t.2.2.1, t.2.2.2), by unfold x0T; rw [hG, ← hv71]; rw [if_neg (by unfold nbT; rw [eqL, hone]; omega)], XuC.er (M := [68, 70, 71]) hX171 (by decide) he, hX171, ⟨(congrArg Int32.toInt ((pL_oi hs171).trans (pI_g hs165))).trans (by first | omega | (rw [hY]; omega)), (congrArg Int32.toInt ((pL_oi hs171).trans ((pI_o hs165 (show (70 : Nat) ≠ 68 by decide)).trans rfl))).trans ht.2.1, (pL_g hs171).trans (by rw [hr170, hv71x]; exact congrArg (fun q => nrT q t.2.2.1) (show (fIC s165 p1 68).toInt = nyT x.1.2.1 by rw [hY]; omega))⟩, rfl⟩)⟩
              · have g161 := (neI (x := (Int32.ofInt 0)) (y := 0) h161 : ¬ ((Int32.ofInt 0) : Int32).toInt = (0 : Int32).toInt)
                have z0_ : (0 : Int32).toInt = 0 := rfl
                exfalso
                omega
            · have g159 := (eqI (x := (Int32.ofInt 1)) (y := 0) h159 : ((Int32.ofInt 1) : Int32).toInt = (0 : Int32).toInt)
              have z0_ : (0 : Int32).toInt = 0 := rfl
              exfalso
              omega
          · have g157 := nltI (x := (lg_cmp (fLC σ p1 71) (Int64.ofNat ((0 : Fin 2) : Nat)))) (y := 0) h157
            have z0_ : (0 : Int32).toInt = 0 := rfl
            refine hB _ _ _ _ _ (fun m172 hm172 => ?_)
            dsimp only [ucgo, ucwp, ucsC, uqC, uoC, ctC, rfd, KX3_judgeNumber, KX3_judgeNumber_0, KX3_judgeNumber_9, KX3_judgeNumber_13, KX3_judgeNumber_14, KX3_judgeNumber_19, KX3_judgeNumber_25, KX3_judgeNumber_28, KX3_judgeNumber_40, KX3_judgeNumber_48, KX3_judgeNumber_52, KX3_judgeNumber_53, KX3_judgeNumber_64, KX3_judgeNumber_73, KX3_judgeNumber_78, KX3_judgeNumber_91, KX3_judgeNumber_96, KX3_judgeNumber_100, KX3_judgeNumber_101, lkC, s1C, s2C, dlC, kyC, Nat.beq, Nat.ble, rcd, rno, rsw, Nat.reduceAdd, Nat.reduceBEq, Nat.reduceDiv, List.drop, List.take, List.reverse, List.reverseAux, Int.toNat, Option.toList, List.append, List.cons_append, List.nil_append, zg61, zg62, zg67, zg68, zg71, zg121]
            intro a173 e173 ob173
            cases e173
            have lc175 : (lg_cmp (fLC σ p1 71) (Int64.ofInt 2147483647)).toInt = 0 → (fLC σ p1 71) = (Int64.ofInt 2147483647) := lcmpC
            have ld175 : (fLC σ p1 71) = (Int64.ofInt 2147483647) → (lg_cmp (fLC σ p1 71) (Int64.ofInt 2147483647)).toInt = 0 := fun e => by rw [e]; exact lcmp0
            have le175 := lcmp3 (x := (fLC σ p1 71)) (y := (Int64.ofInt 2147483647))
            refine ⟨fun h176 => ?_, fun h176 => ?_⟩
            · have g176 := leI (x := (lg_cmp (fLC σ p1 71) (Int64.ofInt 2147483647))) (y := 0) h176
              have z0_ : (0 : Int32).toInt = 0 := rfl
              refine hB _ _ _ _ _ (fun m177 hm177 => ?_)
              dsimp only [ucgo, ucwp, ucsC, uqC, uoC, ctC, rfd, KX3_judgeNumber, KX3_judgeNumber_0, KX3_judgeNumber_9, KX3_judgeNumber_13, KX3_judgeNumber_14, KX3_judgeNumber_19, KX3_judgeNumber_25, KX3_judgeNumber_28, KX3_judgeNumber_40, KX3_judgeNumber_48, KX3_judgeNumber_52, KX3_judgeNumber_53, KX3_judgeNumber_64, KX3_judgeNumber_73, KX3_judgeNumber_78, KX3_judgeNumber_91, KX3_judgeNumber_96, KX3_judgeNumber_100, KX3_judgeNumber_101, lkC, s1C, s2C, dlC, kyC, Nat.beq, Nat.ble, rcd, rno, rsw, Nat.reduceAdd, Nat.reduceBEq, Nat.reduceDiv, List.drop, List.take, List.reverse, List.reverseAux, Int.toNat, Option.toList, List.append, List.cons_append, List.nil_append, zg61, zg62, zg67, zg68, zg71, zg121]
              refine ⟨fun h178 => ?_, fun h178 => ?_⟩
              · have g178 := (eqI (x := (Int32.ofInt 0)) (y := 0) h178 : ((Int32.ofInt 0) : Int32).toInt = (0 : Int32).toInt)
                have z0_ : (0 : Int32).toInt = 0 := rfl
                refine hB _ _ _ _ _ (fun m179 hm179 => ?_)
                dsimp only [ucgo, ucwp, ucsC, uqC, uoC, ctC, rfd, KX3_judgeNumber, KX3_judgeNumber_0, KX3_judgeNumber_9, KX3_judgeNumber_13, KX3_judgeNumber_14, KX3_judgeNumber_19, KX3_judgeNumber_25, KX3_judgeNumber_28, KX3_judgeNumber_40, KX3_judgeNumber_48, KX3_judgeNumber_52, KX3_judgeNumber_53, KX3_judgeNumber_64, KX3_judgeNumber_73, KX3_judgeNumber_78, KX3_judgeNumber_91, KX3_judgeNumber_96, KX3_judgeNumber_100, KX3_judgeNumber_101, lkC, s1C, s2C, dlC, kyC, Nat.beq, Nat.ble, rcd, rno, rsw, Nat.reduceAdd, Nat.reduceBEq, Nat.reduceDiv, List.drop, List.take, List.reverse, List.reverseAux, Int.toNat, Option.toList, List.append, List.cons_append, List.nil_append, zg61, zg62, zg67, zg68, zg71, zg121]
                have c180 : (Int32.ofInt 3).toInt = 3 := by decide
                refine hB _ _ _ _ _ (fun m181 hm181 => ?_)
                dsimp only [ucgo, ucwp, ucsC, uqC, uoC, ctC, rfd, KX3_judgeNumber, KX3_judgeNumber_0, KX3_judgeNumber_9, KX3_judgeNumber_13, KX3_judgeNumber_14, KX3_judgeNumber_19, KX3_judgeNumber_25, KX3_judgeNumber_28, KX3_judgeNumber_40, KX3_judgeNumber_48, KX3_judgeNumber_52, KX3_judgeNumber_53, KX3_judgeNumber_64, KX3_judgeNumber_73, KX3_judgeNumber_78, KX3_judgeNumber_91, KX3_judgeNumber_96, KX3_judgeNumber_100, KX3_judgeNumber_101, lkC, s1C, s2C, dlC, kyC, Nat.beq, Nat.ble, rcd, rno, rsw, Nat.reduceAdd, Nat.reduceBEq, Nat.reduceDiv, List.drop, List.take, List.reverse, List.reverseAux, Int.toNat, Option.toList, List.append, List.cons_append, List.nil_append, zg61, zg62, zg67, zg68, zg71, zg121]
                intro a182 e182 ob182 fk182
                cases e182
                clear fk182 ob182
                generalize hs182 : pIC σ p1 68 (Int32.ofInt 3) = s182
                have hX182 : XuC [68, 70, 71] σ s182 p1 := XuC.pI (M := [68, 70, 71]) (XuC.rf) (by decide) hs182
                have hv182 : (Int32.ofInt 3).toInt = 3 := by omega
                intro a183 e183 ob183
                cases e183
                have f184 : (fIC s182 p1 68).toInt = 3 := congrArg Int32.toInt (pI_g hs182) |>.trans hv182
                intro a185 e185 ob185
                cases e185
                have fl186 : (fLC s182 p1 71) = fLC σ p1 71 := ((pI_ol hs182).trans rfl)
                intro w187 τ187 o187 q187
                have hv71x : (fLC s182 p1 71) = t.2.2.1 := ((pI_ol hs182).trans rfl).trans ht.2.2
                obtain ⟨r187, rfl, hr187, rfl⟩ := q187 (N, E, A, B, V, z) ⟨_, _, rfl⟩
                try dsimp only [Option.toList, List.cons_append, List.nil_append, s1C, s2C, dlC, kyC, Nat.beq, lkC, rcd, rno, rsw]
                intro a188 e188 ob188 fk188
                cases e188
                clear fk188 ob188
                generalize hs188 : pLC s182 p1 71 r187 = s188
                have hX188 : XuC [68, 70, 71] σ s188 p1 := XuC.pL (M := [68, 70, 71]) hX182 (by decide) hs188
                try dsimp only [Qz_judgeNumber]
                have hG : gtT x.1.2.1 = Int64.ofInt 2147483647 := if_neg (by omega)
                have hY : nyT x.1.2.1 = 3 := if_neg (by omega)
                have hv71 : fLC σ p1 71 = t.2.2.1 := ht.2.2
                have hone : (Int64.ofInt 2147483647 + 1) = (Int64.ofInt 2147483647 + Int64.ofNat ((1 : Fin 2) : Nat)) := rfl
                have z9 : (Int64.ofNat ((0 : Fin 2) : Nat)).toInt = 0 := rfl
                rw [z9] at le156
                exact fun τ9 h9 => ⟨rfl, JqC.we h9 (Or.inr ⟨(nyT x.1.2.1, t.2.1, nrT (nyT x.1.2.1) t.2.2.1, t.2.2.2), by unfold x0T; rw [hG, ← hv71]; rw [if_neg (by unfold nbT; rw [eqL, hone]; omega)], XuC.er (M := [68, 70, 71]) hX188 (by decide) he, hX188, ⟨(congrArg Int32.toInt ((pL_oi hs188).trans (pI_g hs182))).trans (by first | omega | (rw [hY]; omega)), (congrArg Int32.toInt ((pL_oi hs188).trans ((pI_o hs182 (show (70 : Nat) ≠ 68 by decide)).trans rfl))).trans ht.2.1, (pL_g hs188).trans (by rw [hr187, hv71x]; exact congrArg (fun q => nrT q t.2.2.1) (show (fIC s182 p1 68).toInt = nyT x.1.2.1 by rw [hY]; omega))⟩, rfl⟩)⟩
              · have g178 := (neI (x := (Int32.ofInt 0)) (y := 0) h178 : ¬ ((Int32.ofInt 0) : Int32).toInt = (0 : Int32).toInt)
                have z0_ : (0 : Int32).toInt = 0 := rfl
                exfalso
                omega
            · have g176 := nleI (x := (lg_cmp (fLC σ p1 71) (Int64.ofInt 2147483647))) (y := 0) h176
              have z0_ : (0 : Int32).toInt = 0 := rfl
              refine hB _ _ _ _ _ (fun m189 hm189 => ?_)
              dsimp only [ucgo, ucwp, ucsC, uqC, uoC, ctC, rfd, KX3_judgeNumber, KX3_judgeNumber_0, KX3_judgeNumber_9, KX3_judgeNumber_13, KX3_judgeNumber_14, KX3_judgeNumber_19, KX3_judgeNumber_25, KX3_judgeNumber_28, KX3_judgeNumber_40, KX3_judgeNumber_48, KX3_judgeNumber_52, KX3_judgeNumber_53, KX3_judgeNumber_64, KX3_judgeNumber_73, KX3_judgeNumber_78, KX3_judgeNumber_91, KX3_judgeNumber_96, KX3_judgeNumber_100, KX3_judgeNumber_101, lkC, s1C, s2C, dlC, kyC, Nat.beq, Nat.ble, rcd, rno, rsw, Nat.reduceAdd, Nat.reduceBEq, Nat.reduceDiv, List.drop, List.take, List.reverse, List.reverseAux, Int.toNat, Option.toList, List.append, List.cons_append, List.nil_append, zg61, zg62, zg67, zg68, zg71, zg121]
              refine ⟨fun h190 => ?_, fun h190 => ?_⟩
              · have g190 := (neI (x := (Int32.ofInt 1)) (y := 0) h190 : ¬ ((Int32.ofInt 1) : Int32).toInt = (0 : Int32).toInt)
                have z0_ : (0 : Int32).toInt = 0 := rfl
                refine hB _ _ _ _ _ (fun m191 hm191 => ?_)
                dsimp only [ucgo, ucwp, ucsC, uqC, uoC, ctC, rfd, KX3_judgeNumber, KX3_judgeNumber_0, KX3_judgeNumber_9, KX3_judgeNumber_13, KX3_judgeNumber_14, KX3_judgeNumber_19, KX3_judgeNumber_25, KX3_judgeNumber_28, KX3_judgeNumber_40, KX3_judgeNumber_48, KX3_judgeNumber_52, KX3_judgeNumber_53, KX3_judgeNumber_64, KX3_judgeNumber_73, KX3_judgeNumber_78, KX3_judgeNumber_91, KX3_judgeNumber_96, KX3_judgeNumber_100, KX3_judgeNumber_101, lkC, s1C, s2C, dlC, kyC, Nat.beq, Nat.ble, rcd, rno, rsw, Nat.reduceAdd, Nat.reduceBEq, Nat.reduceDiv, List.drop, List.take, List.reverse, List.reverseAux, Int.toNat, Option.toList, List.append, List.cons_append, List.nil_append, zg61, zg62, zg67, zg68, zg71, zg121]
                refine ⟨fun h192 => ?_, fun h192 => ?_⟩
                · have g192 := (eqI (x := (Int32.ofInt 0)) (y := 0) h192 : ((Int32.ofInt 0) : Int32).toInt = (0 : Int32).toInt)
                  have z0_ : (0 : Int32).toInt = 0 := rfl
                  refine hB _ _ _ _ _ (fun m193 hm193 => ?_)
                  dsimp only [ucgo, ucwp, ucsC, uqC, uoC, ctC, rfd, KX3_judgeNumber, KX3_judgeNumber_0, KX3_judgeNumber_9, KX3_judgeNumber_13, KX3_judgeNumber_14, KX3_judgeNumber_19, KX3_judgeNumber_25, KX3_judgeNumber_28, KX3_judgeNumber_40, KX3_judgeNumber_48, KX3_judgeNumber_52, KX3_judgeNumber_53, KX3_judgeNumber_64, KX3_judgeNumber_73, KX3_judgeNumber_78, KX3_judgeNumber_91, KX3_judgeNumber_96, KX3_judgeNumber_100, KX3_judgeNumber_101, lkC, s1C, s2C, dlC, kyC, Nat.beq, Nat.ble, rcd, rno, rsw, Nat.reduceAdd, Nat.reduceBEq, Nat.reduceDiv, List.drop, List.take, List.reverse, List.reverseAux, Int.toNat, Option.toList, List.append, List.cons_append, List.nil_append, zg61, zg62, zg67, zg68, zg71, zg121]
                  have c194 : (Int32.ofInt 3).toInt = 3 := by decide
                  refine hB _ _ _ _ _ (fun m195 hm195 => ?_)
                  dsimp only [ucgo, ucwp, ucsC, uqC, uoC, ctC, rfd, KX3_judgeNumber, KX3_judgeNumber_0, KX3_judgeNumber_9, KX3_judgeNumber_13, KX3_judgeNumber_14, KX3_judgeNumber_19, KX3_judgeNumber_25, KX3_judgeNumber_28, KX3_judgeNumber_40, KX3_judgeNumber_48, KX3_judgeNumber_52, KX3_judgeNumber_53, KX3_judgeNumber_64, KX3_judgeNumber_73, KX3_judgeNumber_78, KX3_judgeNumber_91, KX3_judgeNumber_96, KX3_judgeNumber_100, KX3_judgeNumber_101, lkC, s1C, s2C, dlC, kyC, Nat.beq, Nat.ble, rcd, rno, rsw, Nat.reduceAdd, Nat.reduceBEq, Nat.reduceDiv, List.drop, List.take, List.reverse, List.reverseAux, Int.toNat, Option.toList, List.append, List.cons_append, List.nil_append, zg61, zg62, zg67, zg68, zg71, zg121]
                  intro a196 e196 ob196 fk196
                  cases e196
                  clear fk196 ob196
                  generalize hs196 : pIC σ p1 68 (Int32.ofInt 3) = s196
                  have hX196 : XuC [68, 70, 71] σ s196 p1 := XuC.pI (M := [68, 70, 71]) (XuC.rf) (by decide) hs196
                  have hv196 : (Int32.ofInt 3).toInt = 3 := by omega
                  intro a197 e197 ob197
                  cases e197
                  have f198 : (fIC s196 p1 68).toInt = 3 := congrArg Int32.toInt (pI_g hs196) |>.trans hv196
                  intro a199 e199 ob199
                  cases e199
                  have fl200 : (fLC s196 p1 71) = fLC σ p1 71 := ((pI_ol hs196).trans rfl)
                  intro w201 τ201 o201 q201
                  have hv71x : (fLC s196 p1 71) = t.2.2.1 := ((pI_ol hs196).trans rfl).trans ht.2.2
                  obtain ⟨r201, rfl, hr201, rfl⟩ := q201 (N, E, A, B, V, z) ⟨_, _, rfl⟩
                  try dsimp only [Option.toList, List.cons_append, List.nil_append, s1C, s2C, dlC, kyC, Nat.beq, lkC, rcd, rno, rsw]
                  intro a202 e202 ob202 fk202
                  cases e202
                  clear fk202 ob202
                  generalize hs202 : pLC s196 p1 71 r201 = s202
                  have hX202 : XuC [68, 70, 71] σ s202 p1 := XuC.pL (M := [68, 70, 71]) hX196 (by decide) hs202
                  try dsimp only [Qz_judgeNumber]
                  have hG : gtT x.1.2.1 = Int64.ofInt 2147483647 := if_neg (by omega)
                  have hY : nyT x.1.2.1 = 3 := if_neg (by omega)
                  have hv71 : fLC σ p1 71 = t.2.2.1 := ht.2.2
                  have hone : (Int64.ofInt 2147483647 + 1) = (Int64.ofInt 2147483647 + Int64.ofNat ((1 : Fin 2) : Nat)) := rfl
                  have z9 : (Int64.ofNat ((0 : Fin 2) : Nat)).toInt = 0 := rfl
                  rw [z9] at le156
                  exact fun τ9 h9 => ⟨rfl, JqC.we h9 (Or.inr ⟨(nyT x.1.2.1, t.2.1, nrT (nyT x.1.2.1) t.2.2.1, t.2.2.2), by unfold x0T; rw [hG, ← hv71]; rw [if_neg (by unfold nbT; rw [eqL, hone]; omega)], XuC.er (M := [68, 70, 71]) hX202 (by decide) he, hX202, ⟨(congrArg Int32.toInt ((pL_oi hs202).trans (pI_g hs196))).trans (by first | omega | (rw [hY]; omega)), (congrArg Int32.toInt ((pL_oi hs202).trans ((pI_o hs196 (show (70 : Nat) ≠ 68 by decide)).trans rfl))).trans ht.2.1, (pL_g hs202).trans (by rw [hr201, hv71x]; exact congrArg (fun q => nrT q t.2.2.1) (show (fIC s196 p1 68).toInt = nyT x.1.2.1 by rw [hY]; omega))⟩, rfl⟩)⟩
                · have g192 := (neI (x := (Int32.ofInt 0)) (y := 0) h192 : ¬ ((Int32.ofInt 0) : Int32).toInt = (0 : Int32).toInt)
                  have z0_ : (0 : Int32).toInt = 0 := rfl
                  exfalso
                  omega
              · have g190 := (eqI (x := (Int32.ofInt 1)) (y := 0) h190 : ((Int32.ofInt 1) : Int32).toInt = (0 : Int32).toInt)
                have z0_ : (0 : Int32).toInt = 0 := rfl
                exfalso
                omega
    · have g59 := (neI (x := (Int32.ofInt 0)) (y := 0) h59 : ¬ ((Int32.ofInt 0) : Int32).toInt = (0 : Int32).toInt)
      have z0_ : (0 : Int32).toInt = 0 := rfl
      exfalso
      omega
  · have g55 := (eqI (x := (fIC σ p1 61)) (y := (Int32.ofInt 82)) h55 : ((fIC σ p1 61) : Int32).toInt = ((Int32.ofInt 82) : Int32).toInt)
    refine hB _ _ _ _ _ (fun m203 hm203 => ?_)
    dsimp only [ucgo, ucwp, ucsC, uqC, uoC, ctC, rfd, KX3_judgeNumber, KX3_judgeNumber_0, KX3_judgeNumber_9, KX3_judgeNumber_13, KX3_judgeNumber_14, KX3_judgeNumber_19, KX3_judgeNumber_25, KX3_judgeNumber_28, KX3_judgeNumber_40, KX3_judgeNumber_48, KX3_judgeNumber_52, KX3_judgeNumber_53, KX3_judgeNumber_64, KX3_judgeNumber_73, KX3_judgeNumber_78, KX3_judgeNumber_91, KX3_judgeNumber_96, KX3_judgeNumber_100, KX3_judgeNumber_101, lkC, s1C, s2C, dlC, kyC, Nat.beq, Nat.ble, rcd, rno, rsw, Nat.reduceAdd, Nat.reduceBEq, Nat.reduceDiv, List.drop, List.take, List.reverse, List.reverseAux, Int.toNat, Option.toList, List.append, List.cons_append, List.nil_append, zg61, zg62, zg67, zg68, zg71, zg121]
    have c204 : (Int32.ofInt 1).toInt = 1 := by decide
    refine hB _ _ _ _ _ (fun m205 hm205 => ?_)
    dsimp only [ucgo, ucwp, ucsC, uqC, uoC, ctC, rfd, KX3_judgeNumber, KX3_judgeNumber_0, KX3_judgeNumber_9, KX3_judgeNumber_13, KX3_judgeNumber_14, KX3_judgeNumber_19, KX3_judgeNumber_25, KX3_judgeNumber_28, KX3_judgeNumber_40, KX3_judgeNumber_48, KX3_judgeNumber_52, KX3_judgeNumber_53, KX3_judgeNumber_64, KX3_judgeNumber_73, KX3_judgeNumber_78, KX3_judgeNumber_91, KX3_judgeNumber_96, KX3_judgeNumber_100, KX3_judgeNumber_101, lkC, s1C, s2C, dlC, kyC, Nat.beq, Nat.ble, rcd, rno, rsw, Nat.reduceAdd, Nat.reduceBEq, Nat.reduceDiv, List.drop, List.take, List.reverse, List.reverseAux, Int.toNat, Option.toList, List.append, List.cons_append, List.nil_append, zg61, zg62, zg67, zg68, zg71, zg121]
    refine ⟨fun h206 => ?_, fun h206 => ?_⟩
    · have g206 := (eqI (x := (Int32.ofInt 1)) (y := 0) h206 : ((Int32.ofInt 1) : Int32).toInt = (0 : Int32).toInt)
      have z0_ : (0 : Int32).toInt = 0 := rfl
      exfalso
      omega
    · have g206 := (neI (x := (Int32.ofInt 1)) (y := 0) h206 : ¬ ((Int32.ofInt 1) : Int32).toInt = (0 : Int32).toInt)
      have z0_ : (0 : Int32).toInt = 0 := rfl
      refine hB _ _ _ _ _ (fun m207 hm207 => ?_)
      dsimp only [ucgo, ucwp, ucsC, uqC, uoC, ctC, rfd, KX3_judgeNumber, KX3_judgeNumber_0, KX3_judgeNumber_9, KX3_judgeNumber_13, KX3_judgeNumber_14, KX3_judgeNumber_19, KX3_judgeNumber_25, KX3_judgeNumber_28, KX3_judgeNumber_40, KX3_judgeNumber_48, KX3_judgeNumber_52, KX3_judgeNumber_53, KX3_judgeNumber_64, KX3_judgeNumber_73, KX3_judgeNumber_78, KX3_judgeNumber_91, KX3_judgeNumber_96, KX3_judgeNumber_100, KX3_judgeNumber_101, lkC, s1C, s2C, dlC, kyC, Nat.beq, Nat.ble, rcd, rno, rsw, Nat.reduceAdd, Nat.reduceBEq, Nat.reduceDiv, List.drop, List.take, List.reverse, List.reverseAux, Int.toNat, Option.toList, List.append, List.cons_append, List.nil_append, zg61, zg62, zg67, zg68, zg71, zg121]
      refine hB _ _ _ _ _ (fun m208 hm208 => ?_)
      dsimp only [ucgo, ucwp, ucsC, uqC, uoC, ctC, rfd, KX3_judgeNumber, KX3_judgeNumber_0, KX3_judgeNumber_9, KX3_judgeNumber_13, KX3_judgeNumber_14, KX3_judgeNumber_19, KX3_judgeNumber_25, KX3_judgeNumber_28, KX3_judgeNumber_40, KX3_judgeNumber_48, KX3_judgeNumber_52, KX3_judgeNumber_53, KX3_judgeNumber_64, KX3_judgeNumber_73, KX3_judgeNumber_78, KX3_judgeNumber_91, KX3_judgeNumber_96, KX3_judgeNumber_100, KX3_judgeNumber_101, lkC, s1C, s2C, dlC, kyC, Nat.beq, Nat.ble, rcd, rno, rsw, Nat.reduceAdd, Nat.reduceBEq, Nat.reduceDiv, List.drop, List.take, List.reverse, List.reverseAux, Int.toNat, Option.toList, List.append, List.cons_append, List.nil_append, zg61, zg62, zg67, zg68, zg71, zg121]
      intro a209 e209 ob209
      cases e209
      have lc211 : (lg_cmp (fLC σ p1 71) ((Int64.ofInt 9223372036854775807) + (Int64.ofNat ((1 : Fin 2) : Nat)))).toInt = 0 → (fLC σ p1 71) = ((Int64.ofInt 9223372036854775807) + (Int64.ofNat ((1 : Fin 2) : Nat))) := lcmpC
      have ld211 : (fLC σ p1 71) = ((Int64.ofInt 9223372036854775807) + (Int64.ofNat ((1 : Fin 2) : Nat))) → (lg_cmp (fLC σ p1 71) ((Int64.ofInt 9223372036854775807) + (Int64.ofNat ((1 : Fin 2) : Nat)))).toInt = 0 := fun e => by rw [e]; exact lcmp0
      have le211 := lcmp3 (x := (fLC σ p1 71)) (y := ((Int64.ofInt 9223372036854775807) + (Int64.ofNat ((1 : Fin 2) : Nat))))
      refine ⟨fun h212 => ?_, fun h212 => ?_⟩
      · have g212 := (neI (x := (lg_cmp (fLC σ p1 71) ((Int64.ofInt 9223372036854775807) + (Int64.ofNat ((1 : Fin 2) : Nat))))) (y := 0) h212 : ¬ ((lg_cmp (fLC σ p1 71) ((Int64.ofInt 9223372036854775807) + (Int64.ofNat ((1 : Fin 2) : Nat)))) : Int32).toInt = (0 : Int32).toInt)
        have z0_ : (0 : Int32).toInt = 0 := rfl
        refine hB _ _ _ _ _ (fun m213 hm213 => ?_)
        dsimp only [ucgo, ucwp, ucsC, uqC, uoC, ctC, rfd, KX3_judgeNumber, KX3_judgeNumber_0, KX3_judgeNumber_9, KX3_judgeNumber_13, KX3_judgeNumber_14, KX3_judgeNumber_19, KX3_judgeNumber_25, KX3_judgeNumber_28, KX3_judgeNumber_40, KX3_judgeNumber_48, KX3_judgeNumber_52, KX3_judgeNumber_53, KX3_judgeNumber_64, KX3_judgeNumber_73, KX3_judgeNumber_78, KX3_judgeNumber_91, KX3_judgeNumber_96, KX3_judgeNumber_100, KX3_judgeNumber_101, lkC, s1C, s2C, dlC, kyC, Nat.beq, Nat.ble, rcd, rno, rsw, Nat.reduceAdd, Nat.reduceBEq, Nat.reduceDiv, List.drop, List.take, List.reverse, List.reverseAux, Int.toNat, Option.toList, List.append, List.cons_append, List.nil_append, zg61, zg62, zg67, zg68, zg71, zg121]
        have c214 : (Int32.ofInt 0).toInt = 0 := by decide
        refine hB _ _ _ _ _ (fun m215 hm215 => ?_)
        dsimp only [ucgo, ucwp, ucsC, uqC, uoC, ctC, rfd, KX3_judgeNumber, KX3_judgeNumber_0, KX3_judgeNumber_9, KX3_judgeNumber_13, KX3_judgeNumber_14, KX3_judgeNumber_19, KX3_judgeNumber_25, KX3_judgeNumber_28, KX3_judgeNumber_40, KX3_judgeNumber_48, KX3_judgeNumber_52, KX3_judgeNumber_53, KX3_judgeNumber_64, KX3_judgeNumber_73, KX3_judgeNumber_78, KX3_judgeNumber_91, KX3_judgeNumber_96, KX3_judgeNumber_100, KX3_judgeNumber_101, lkC, s1C, s2C, dlC, kyC, Nat.beq, Nat.ble, rcd, rno, rsw, Nat.reduceAdd, Nat.reduceBEq, Nat.reduceDiv, List.drop, List.take, List.reverse, List.reverseAux, Int.toNat, Option.toList, List.append, List.cons_append, List.nil_append, zg61, zg62, zg67, zg68, zg71, zg121]
        intro a216 e216 ob216
        cases e216
        have lc218 : (lg_cmp (fLC σ p1 71) (Int64.ofNat ((0 : Fin 2) : Nat))).toInt = 0 → (fLC σ p1 71) = (Int64.ofNat ((0 : Fin 2) : Nat)) := lcmpC
        have ld218 : (fLC σ p1 71) = (Int64.ofNat ((0 : Fin 2) : Nat)) → (lg_cmp (fLC σ p1 71) (Int64.ofNat ((0 : Fin 2) : Nat))).toInt = 0 := fun e => by rw [e]; exact lcmp0
        have le218 := lcmp3 (x := (fLC σ p1 71)) (y := (Int64.ofNat ((0 : Fin 2) : Nat)))
        refine ⟨fun h219 => ?_, fun h219 => ?_⟩
        · have g219 := ltI (x := (lg_cmp (fLC σ p1 71) (Int64.ofNat ((0 : Fin 2) : Nat)))) (y := 0) h219
          have z0_ : (0 : Int32).toInt = 0 := rfl
          refine hB _ _ _ _ _ (fun m220 hm220 => ?_)
          dsimp only [ucgo, ucwp, ucsC, uqC, uoC, ctC, rfd, KX3_judgeNumber, KX3_judgeNumber_0, KX3_judgeNumber_9, KX3_judgeNumber_13, KX3_judgeNumber_14, KX3_judgeNumber_19, KX3_judgeNumber_25, KX3_judgeNumber_28, KX3_judgeNumber_40, KX3_judgeNumber_48, KX3_judgeNumber_52, KX3_judgeNumber_53, KX3_judgeNumber_64, KX3_judgeNumber_73, KX3_judgeNumber_78, KX3_judgeNumber_91, KX3_judgeNumber_96, KX3_judgeNumber_100, KX3_judgeNumber_101, lkC, s1C, s2C, dlC, kyC, Nat.beq, Nat.ble, rcd, rno, rsw, Nat.reduceAdd, Nat.reduceBEq, Nat.reduceDiv, List.drop, List.take, List.reverse, List.reverseAux, Int.toNat, Option.toList, List.append, List.cons_append, List.nil_append, zg61, zg62, zg67, zg68, zg71, zg121]
          refine ⟨fun h221 => ?_, fun h221 => ?_⟩
          · have g221 := (neI (x := (Int32.ofInt 0)) (y := 0) h221 : ¬ ((Int32.ofInt 0) : Int32).toInt = (0 : Int32).toInt)
            have z0_ : (0 : Int32).toInt = 0 := rfl
            exfalso
            omega
          · have g221 := (eqI (x := (Int32.ofInt 0)) (y := 0) h221 : ((Int32.ofInt 0) : Int32).toInt = (0 : Int32).toInt)
            have z0_ : (0 : Int32).toInt = 0 := rfl
            refine hB _ _ _ _ _ (fun m222 hm222 => ?_)
            dsimp only [ucgo, ucwp, ucsC, uqC, uoC, ctC, rfd, KX3_judgeNumber, KX3_judgeNumber_0, KX3_judgeNumber_9, KX3_judgeNumber_13, KX3_judgeNumber_14, KX3_judgeNumber_19, KX3_judgeNumber_25, KX3_judgeNumber_28, KX3_judgeNumber_40, KX3_judgeNumber_48, KX3_judgeNumber_52, KX3_judgeNumber_53, KX3_judgeNumber_64, KX3_judgeNumber_73, KX3_judgeNumber_78, KX3_judgeNumber_91, KX3_judgeNumber_96, KX3_judgeNumber_100, KX3_judgeNumber_101, lkC, s1C, s2C, dlC, kyC, Nat.beq, Nat.ble, rcd, rno, rsw, Nat.reduceAdd, Nat.reduceBEq, Nat.reduceDiv, List.drop, List.take, List.reverse, List.reverseAux, Int.toNat, Option.toList, List.append, List.cons_append, List.nil_append, zg61, zg62, zg67, zg68, zg71, zg121]
            intro a223 e223 ob223
            cases e223
            have c224 : (Int32.ofInt 4).toInt = 4 := by decide
            intro a225 e225 ob225
            cases e225
            have f226 : (fIC σ p1 62).toInt = x.1.2.2.1 := hx.1.2.2
            rw [hP.1]
            try dsimp only
            intro w227 τ227 o227 q227
            obtain ⟨rfl, hb227_⟩ := q227 (N, E, A, B, V, z) ⟨_, _, rfl, by omega⟩
            have hP227 : PjC E τ227 := hP.fr o227.2 rfl rfl
            try dsimp only [Option.toList, List.cons_append, List.nil_append, s1C, s2C, dlC, kyC, Nat.beq, lkC, rcd, rno, rsw]
            try dsimp only [Qz_judgeNumber]
            have hG : gtT x.1.2.1 = Int64.ofInt 9223372036854775807 := if_pos (by omega)
            have hY : nyT x.1.2.1 = 4 := if_pos (by omega)
            have hv71 : fLC σ p1 71 = t.2.2.1 := ht.2.2
            have hone : (Int64.ofInt 9223372036854775807 + 1) = (Int64.ofInt 9223372036854775807 + Int64.ofNat ((1 : Fin 2) : Nat)) := rfl
            have z9 : (Int64.ofNat ((0 : Fin 2) : Nat)).toInt = 0 := rfl
            rw [z9] at le218
            exact fun τ9 h9 => ⟨rfl, JqC.we h9 (Or.inl ⟨by unfold x0T; rw [hG, ← hv71]; rw [if_pos (by unfold nbT; rw [eqL, hone]; omega)], hb227_⟩)⟩
        · have g219 := nltI (x := (lg_cmp (fLC σ p1 71) (Int64.ofNat ((0 : Fin 2) : Nat)))) (y := 0) h219
          have z0_ : (0 : Int32).toInt = 0 := rfl
          refine hB _ _ _ _ _ (fun m228 hm228 => ?_)
          dsimp only [ucgo, ucwp, ucsC, uqC, uoC, ctC, rfd, KX3_judgeNumber, KX3_judgeNumber_0, KX3_judgeNumber_9, KX3_judgeNumber_13, KX3_judgeNumber_14, KX3_judgeNumber_19, KX3_judgeNumber_25, KX3_judgeNumber_28, KX3_judgeNumber_40, KX3_judgeNumber_48, KX3_judgeNumber_52, KX3_judgeNumber_53, KX3_judgeNumber_64, KX3_judgeNumber_73, KX3_judgeNumber_78, KX3_judgeNumber_91, KX3_judgeNumber_96, KX3_judgeNumber_100, KX3_judgeNumber_101, lkC, s1C, s2C, dlC, kyC, Nat.beq, Nat.ble, rcd, rno, rsw, Nat.reduceAdd, Nat.reduceBEq, Nat.reduceDiv, List.drop, List.take, List.reverse, List.reverseAux, Int.toNat, Option.toList, List.append, List.cons_append, List.nil_append, zg61, zg62, zg67, zg68, zg71, zg121]
          intro a229 e229 ob229
          cases e229
          have lc231 : (lg_cmp (fLC σ p1 71) (Int64.ofInt 9223372036854775807)).toInt = 0 → (fLC σ p1 71) = (Int64.ofInt 9223372036854775807) := lcmpC
          have ld231 : (fLC σ p1 71) = (Int64.ofInt 9223372036854775807) → (lg_cmp (fLC σ p1 71) (Int64.ofInt 9223372036854775807)).toInt = 0 := fun e => by rw [e]; exact lcmp0
          have le231 := lcmp3 (x := (fLC σ p1 71)) (y := (Int64.ofInt 9223372036854775807))
          refine ⟨fun h232 => ?_, fun h232 => ?_⟩
          · have g232 := leI (x := (lg_cmp (fLC σ p1 71) (Int64.ofInt 9223372036854775807))) (y := 0) h232
            have z0_ : (0 : Int32).toInt = 0 := rfl
            refine hB _ _ _ _ _ (fun m233 hm233 => ?_)
            dsimp only [ucgo, ucwp, ucsC, uqC, uoC, ctC, rfd, KX3_judgeNumber, KX3_judgeNumber_0, KX3_judgeNumber_9, KX3_judgeNumber_13, KX3_judgeNumber_14, KX3_judgeNumber_19, KX3_judgeNumber_25, KX3_judgeNumber_28, KX3_judgeNumber_40, KX3_judgeNumber_48, KX3_judgeNumber_52, KX3_judgeNumber_53, KX3_judgeNumber_64, KX3_judgeNumber_73, KX3_judgeNumber_78, KX3_judgeNumber_91, KX3_judgeNumber_96, KX3_judgeNumber_100, KX3_judgeNumber_101, lkC, s1C, s2C, dlC, kyC, Nat.beq, Nat.ble, rcd, rno, rsw, Nat.reduceAdd, Nat.reduceBEq, Nat.reduceDiv, List.drop, List.take, List.reverse, List.reverseAux, Int.toNat, Option.toList, List.append, List.cons_append, List.nil_append, zg61, zg62, zg67, zg68, zg71, zg121]
            refine ⟨fun h234 => ?_, fun h234 => ?_⟩
            · have g234 := (eqI (x := (Int32.ofInt 1)) (y := 0) h234 : ((Int32.ofInt 1) : Int32).toInt = (0 : Int32).toInt)
              have z0_ : (0 : Int32).toInt = 0 := rfl
              exfalso
              omega
            · have g234 := (neI (x := (Int32.ofInt 1)) (y := 0) h234 : ¬ ((Int32.ofInt 1) : Int32).toInt = (0 : Int32).toInt)
              have z0_ : (0 : Int32).toInt = 0 := rfl
              refine hB _ _ _ _ _ (fun m235 hm235 => ?_)
              dsimp only [ucgo, ucwp, ucsC, uqC, uoC, ctC, rfd, KX3_judgeNumber, KX3_judgeNumber_0, KX3_judgeNumber_9, KX3_judgeNumber_13, KX3_judgeNumber_14, KX3_judgeNumber_19, KX3_judgeNumber_25, KX3_judgeNumber_28, KX3_judgeNumber_40, KX3_judgeNumber_48, KX3_judgeNumber_52, KX3_judgeNumber_53, KX3_judgeNumber_64, KX3_judgeNumber_73, KX3_judgeNumber_78, KX3_judgeNumber_91, KX3_judgeNumber_96, KX3_judgeNumber_100, KX3_judgeNumber_101, lkC, s1C, s2C, dlC, kyC, Nat.beq, Nat.ble, rcd, rno, rsw, Nat.reduceAdd, Nat.reduceBEq, Nat.reduceDiv, List.drop, List.take, List.reverse, List.reverseAux, Int.toNat, Option.toList, List.append, List.cons_append, List.nil_append, zg61, zg62, zg67, zg68, zg71, zg121]
              have c236 : (Int32.ofInt 4).toInt = 4 := by decide
              refine hB _ _ _ _ _ (fun m237 hm237 => ?_)
              dsimp only [ucgo, ucwp, ucsC, uqC, uoC, ctC, rfd, KX3_judgeNumber, KX3_judgeNumber_0, KX3_judgeNumber_9, KX3_judgeNumber_13, KX3_judgeNumber_14, KX3_judgeNumber_19, KX3_judgeNumber_25, KX3_judgeNumber_28, KX3_judgeNumber_40, KX3_judgeNumber_48, KX3_judgeNumber_52, KX3_judgeNumber_53, KX3_judgeNumber_64, KX3_judgeNumber_73, KX3_judgeNumber_78, KX3_judgeNumber_91, KX3_judgeNumber_96, KX3_judgeNumber_100, KX3_judgeNumber_101, lkC, s1C, s2C, dlC, kyC, Nat.beq, Nat.ble, rcd, rno, rsw, Nat.reduceAdd, Nat.reduceBEq, Nat.reduceDiv, List.drop, List.take, List.reverse, List.reverseAux, Int.toNat, Option.toList, List.append, List.cons_append, List.nil_append, zg61, zg62, zg67, zg68, zg71, zg121]
              intro a238 e238 ob238 fk238
              cases e238
              clear fk238 ob238
              generalize hs238 : pIC σ p1 68 (Int32.ofInt 4) = s238
              have hX238 : XuC [68, 70, 71] σ s238 p1 := XuC.pI (M := [68, 70, 71]) (XuC.rf) (by decide) hs238
              have hv238 : (Int32.ofInt 4).toInt = 4 := by omega
              intro a239 e239 ob239
              cases e239
              have f240 : (fIC s238 p1 68).toInt = 4 := congrArg Int32.toInt (pI_g hs238) |>.trans hv238
              intro a241 e241 ob241
              cases e241
              have fl242 : (fLC s238 p1 71) = fLC σ p1 71 := ((pI_ol hs238).trans rfl)
              intro w243 τ243 o243 q243
              have hv71x : (fLC s238 p1 71) = t.2.2.1 := ((pI_ol hs238).trans rfl).trans ht.2.2
              obtain ⟨r243, rfl, hr243, rfl⟩ := q243 (N, E, A, B, V, z) ⟨_, _, rfl⟩
              try dsimp only [Option.toList, List.cons_append, List.nil_append, s1C, s2C, dlC, kyC, Nat.beq, lkC, rcd, rno, rsw]
              intro a244 e244 ob244 fk244
              cases e244
              clear fk244 ob244
              generalize hs244 : pLC s238 p1 71 r243 = s244
              have hX244 : XuC [68, 70, 71] σ s244 p1 := XuC.pL (M := [68, 70, 71]) hX238 (by decide) hs244
              try dsimp only [Qz_judgeNumber]
              have hG : gtT x.1.2.1 = Int64.ofInt 9223372036854775807 := if_pos (by omega)
              have hY : nyT x.1.2.1 = 4 := if_pos (by omega)
              have hv71 : fLC σ p1 71 = t.2.2.1 := ht.2.2
              have hone : (Int64.ofInt 9223372036854775807 + 1) = (Int64.ofInt 9223372036854775807 + Int64.ofNat ((1 : Fin 2) : Nat)) := rfl
              have z9 : (Int64.ofNat ((0 : Fin 2) : Nat)).toInt = 0 := rfl
              rw [z9] at le218
              exact fun τ9 h9 => ⟨rfl, JqC.we h9 (Or.inr ⟨(nyT x.1.2.1, t.2.1, nrT (nyT x.1.2.1) t.2.2.1, t.2.2.2), by unfold x0T; rw [hG, ← hv71]; rw [if_neg (by unfold nbT; rw [eqL, hone]; omega)], XuC.er (M := [68, 70, 71]) hX244 (by decide) he, hX244, ⟨(congrArg Int32.toInt ((pL_oi hs244).trans (pI_g hs238))).trans (by first | omega | (rw [hY]; omega)), (congrArg Int32.toInt ((pL_oi hs244).trans ((pI_o hs238 (show (70 : Nat) ≠ 68 by decide)).trans rfl))).trans ht.2.1, (pL_g hs244).trans (by rw [hr243, hv71x]; exact congrArg (fun q => nrT q t.2.2.1) (show (fIC s238 p1 68).toInt = nyT x.1.2.1 by rw [hY]; omega))⟩, rfl⟩)⟩
          · have g232 := nleI (x := (lg_cmp (fLC σ p1 71) (Int64.ofInt 9223372036854775807))) (y := 0) h232
            have z0_ : (0 : Int32).toInt = 0 := rfl
            refine hB _ _ _ _ _ (fun m245 hm245 => ?_)
            dsimp only [ucgo, ucwp, ucsC, uqC, uoC, ctC, rfd, KX3_judgeNumber, KX3_judgeNumber_0, KX3_judgeNumber_9, KX3_judgeNumber_13, KX3_judgeNumber_14, KX3_judgeNumber_19, KX3_judgeNumber_25, KX3_judgeNumber_28, KX3_judgeNumber_40, KX3_judgeNumber_48, KX3_judgeNumber_52, KX3_judgeNumber_53, KX3_judgeNumber_64, KX3_judgeNumber_73, KX3_judgeNumber_78, KX3_judgeNumber_91, KX3_judgeNumber_96, KX3_judgeNumber_100, KX3_judgeNumber_101, lkC, s1C, s2C, dlC, kyC, Nat.beq, Nat.ble, rcd, rno, rsw, Nat.reduceAdd, Nat.reduceBEq, Nat.reduceDiv, List.drop, List.take, List.reverse, List.reverseAux, Int.toNat, Option.toList, List.append, List.cons_append, List.nil_append, zg61, zg62, zg67, zg68, zg71, zg121]
            refine ⟨fun h246 => ?_, fun h246 => ?_⟩
            · have g246 := (neI (x := (Int32.ofInt 0)) (y := 0) h246 : ¬ ((Int32.ofInt 0) : Int32).toInt = (0 : Int32).toInt)
              have z0_ : (0 : Int32).toInt = 0 := rfl
              exfalso
              omega
            · have g246 := (eqI (x := (Int32.ofInt 0)) (y := 0) h246 : ((Int32.ofInt 0) : Int32).toInt = (0 : Int32).toInt)
              have z0_ : (0 : Int32).toInt = 0 := rfl
              refine hB _ _ _ _ _ (fun m247 hm247 => ?_)
              dsimp only [ucgo, ucwp, ucsC, uqC, uoC, ctC, rfd, KX3_judgeNumber, KX3_judgeNumber_0, KX3_judgeNumber_9, KX3_judgeNumber_13, KX3_judgeNumber_14, KX3_judgeNumber_19, KX3_judgeNumber_25, KX3_judgeNumber_28, KX3_judgeNumber_40, KX3_judgeNumber_48, KX3_judgeNumber_52, KX3_judgeNumber_53, KX3_judgeNumber_64, KX3_judgeNumber_73, KX3_judgeNumber_78, KX3_judgeNumber_91, KX3_judgeNumber_96, KX3_judgeNumber_100, KX3_judgeNumber_101, lkC, s1C, s2C, dlC, kyC, Nat.beq, Nat.ble, rcd, rno, rsw, Nat.reduceAdd, Nat.reduceBEq, Nat.reduceDiv, List.drop, List.take, List.reverse, List.reverseAux, Int.toNat, Option.toList, List.append, List.cons_append, List.nil_append, zg61, zg62, zg67, zg68, zg71, zg121]
              intro a248 e248 ob248
              cases e248
              have c249 : (Int32.ofInt 4).toInt = 4 := by decide
              intro a250 e250 ob250
              cases e250
              have f251 : (fIC σ p1 62).toInt = x.1.2.2.1 := hx.1.2.2
              rw [hP.1]
              try dsimp only
              intro w252 τ252 o252 q252
              obtain ⟨rfl, hb252_⟩ := q252 (N, E, A, B, V, z) ⟨_, _, rfl, by omega⟩
              have hP252 : PjC E τ252 := hP.fr o252.2 rfl rfl
              try dsimp only [Option.toList, List.cons_append, List.nil_append, s1C, s2C, dlC, kyC, Nat.beq, lkC, rcd, rno, rsw]
              try dsimp only [Qz_judgeNumber]
              have hG : gtT x.1.2.1 = Int64.ofInt 9223372036854775807 := if_pos (by omega)
              have hY : nyT x.1.2.1 = 4 := if_pos (by omega)
              have hv71 : fLC σ p1 71 = t.2.2.1 := ht.2.2
              have hone : (Int64.ofInt 9223372036854775807 + 1) = (Int64.ofInt 9223372036854775807 + Int64.ofNat ((1 : Fin 2) : Nat)) := rfl
              have z9 : (Int64.ofNat ((0 : Fin 2) : Nat)).toInt = 0 := rfl
              rw [z9] at le218
              exact fun τ9 h9 => ⟨rfl, JqC.we h9 (Or.inl ⟨by unfold x0T; rw [hG, ← hv71]; rw [if_pos (by unfold nbT; rw [eqL, hone]; omega)], hb252_⟩)⟩
      · have g212 := (eqI (x := (lg_cmp (fLC σ p1 71) ((Int64.ofInt 9223372036854775807) + (Int64.ofNat ((1 : Fin 2) : Nat))))) (y := 0) h212 : ((lg_cmp (fLC σ p1 71) ((Int64.ofInt 9223372036854775807) + (Int64.ofNat ((1 : Fin 2) : Nat)))) : Int32).toInt = (0 : Int32).toInt)
        have z0_ : (0 : Int32).toInt = 0 := rfl
        refine hB _ _ _ _ _ (fun m253 hm253 => ?_)
        dsimp only [ucgo, ucwp, ucsC, uqC, uoC, ctC, rfd, KX3_judgeNumber, KX3_judgeNumber_0, KX3_judgeNumber_9, KX3_judgeNumber_13, KX3_judgeNumber_14, KX3_judgeNumber_19, KX3_judgeNumber_25, KX3_judgeNumber_28, KX3_judgeNumber_40, KX3_judgeNumber_48, KX3_judgeNumber_52, KX3_judgeNumber_53, KX3_judgeNumber_64, KX3_judgeNumber_73, KX3_judgeNumber_78, KX3_judgeNumber_91, KX3_judgeNumber_96, KX3_judgeNumber_100, KX3_judgeNumber_101, lkC, s1C, s2C, dlC, kyC, Nat.beq, Nat.ble, rcd, rno, rsw, Nat.reduceAdd, Nat.reduceBEq, Nat.reduceDiv, List.drop, List.take, List.reverse, List.reverseAux, Int.toNat, Option.toList, List.append, List.cons_append, List.nil_append, zg61, zg62, zg67, zg68, zg71, zg121]
        intro a254 e254 ob254
        cases e254
        have f255 : (fIC σ p1 67).toInt = x.2.1.2.1 := hli
        have c256 : (Int32.ofInt 1).toInt = 1 := by decide
        refine ⟨fun h257 => ?_, fun h257 => ?_⟩
        · have g257 := (neI (x := (fIC σ p1 67)) (y := (Int32.ofInt 1)) h257 : ¬ ((fIC σ p1 67) : Int32).toInt = ((Int32.ofInt 1) : Int32).toInt)
          refine hB _ _ _ _ _ (fun m258 hm258 => ?_)
          dsimp only [ucgo, ucwp, ucsC, uqC, uoC, ctC, rfd, KX3_judgeNumber, KX3_judgeNumber_0, KX3_judgeNumber_9, KX3_judgeNumber_13, KX3_judgeNumber_14, KX3_judgeNumber_19, KX3_judgeNumber_25, KX3_judgeNumber_28, KX3_judgeNumber_40, KX3_judgeNumber_48, KX3_judgeNumber_52, KX3_judgeNumber_53, KX3_judgeNumber_64, KX3_judgeNumber_73, KX3_judgeNumber_78, KX3_judgeNumber_91, KX3_judgeNumber_96, KX3_judgeNumber_100, KX3_judgeNumber_101, lkC, s1C, s2C, dlC, kyC, Nat.beq, Nat.ble, rcd, rno, rsw, Nat.reduceAdd, Nat.reduceBEq, Nat.reduceDiv, List.drop, List.take, List.reverse, List.reverseAux, Int.toNat, Option.toList, List.append, List.cons_append, List.nil_append, zg61, zg62, zg67, zg68, zg71, zg121]
          have c259 : (Int32.ofInt 0).toInt = 0 := by decide
          refine hB _ _ _ _ _ (fun m260 hm260 => ?_)
          dsimp only [ucgo, ucwp, ucsC, uqC, uoC, ctC, rfd, KX3_judgeNumber, KX3_judgeNumber_0, KX3_judgeNumber_9, KX3_judgeNumber_13, KX3_judgeNumber_14, KX3_judgeNumber_19, KX3_judgeNumber_25, KX3_judgeNumber_28, KX3_judgeNumber_40, KX3_judgeNumber_48, KX3_judgeNumber_52, KX3_judgeNumber_53, KX3_judgeNumber_64, KX3_judgeNumber_73, KX3_judgeNumber_78, KX3_judgeNumber_91, KX3_judgeNumber_96, KX3_judgeNumber_100, KX3_judgeNumber_101, lkC, s1C, s2C, dlC, kyC, Nat.beq, Nat.ble, rcd, rno, rsw, Nat.reduceAdd, Nat.reduceBEq, Nat.reduceDiv, List.drop, List.take, List.reverse, List.reverseAux, Int.toNat, Option.toList, List.append, List.cons_append, List.nil_append, zg61, zg62, zg67, zg68, zg71, zg121]
          intro a261 e261 ob261
          cases e261
          have lc263 : (lg_cmp (fLC σ p1 71) (Int64.ofNat ((0 : Fin 2) : Nat))).toInt = 0 → (fLC σ p1 71) = (Int64.ofNat ((0 : Fin 2) : Nat)) := lcmpC
          have ld263 : (fLC σ p1 71) = (Int64.ofNat ((0 : Fin 2) : Nat)) → (lg_cmp (fLC σ p1 71) (Int64.ofNat ((0 : Fin 2) : Nat))).toInt = 0 := fun e => by rw [e]; exact lcmp0
          have le263 := lcmp3 (x := (fLC σ p1 71)) (y := (Int64.ofNat ((0 : Fin 2) : Nat)))
          refine ⟨fun h264 => ?_, fun h264 => ?_⟩
          · have g264 := ltI (x := (lg_cmp (fLC σ p1 71) (Int64.ofNat ((0 : Fin 2) : Nat)))) (y := 0) h264
            have z0_ : (0 : Int32).toInt = 0 := rfl
            refine hB _ _ _ _ _ (fun m265 hm265 => ?_)
            dsimp only [ucgo, ucwp, ucsC, uqC, uoC, ctC, rfd, KX3_judgeNumber, KX3_judgeNumber_0, KX3_judgeNumber_9, KX3_judgeNumber_13, KX3_judgeNumber_14, KX3_judgeNumber_19, KX3_judgeNumber_25, KX3_judgeNumber_28, KX3_judgeNumber_40, KX3_judgeNumber_48, KX3_judgeNumber_52, KX3_judgeNumber_53, KX3_judgeNumber_64, KX3_judgeNumber_73, KX3_judgeNumber_78, KX3_judgeNumber_91, KX3_judgeNumber_96, KX3_judgeNumber_100, KX3_judgeNumber_101, lkC, s1C, s2C, dlC, kyC, Nat.beq, Nat.ble, rcd, rno, rsw, Nat.reduceAdd, Nat.reduceBEq, Nat.reduceDiv, List.drop, List.take, List.reverse, List.reverseAux, Int.toNat, Option.toList, List.append, List.cons_append, List.nil_append, zg61, zg62, zg67, zg68, zg71, zg121]
            refine ⟨fun h266 => ?_, fun h266 => ?_⟩
            · have g266 := (neI (x := (Int32.ofInt 0)) (y := 0) h266 : ¬ ((Int32.ofInt 0) : Int32).toInt = (0 : Int32).toInt)
              have z0_ : (0 : Int32).toInt = 0 := rfl
              exfalso
              omega
            · have g266 := (eqI (x := (Int32.ofInt 0)) (y := 0) h266 : ((Int32.ofInt 0) : Int32).toInt = (0 : Int32).toInt)
              have z0_ : (0 : Int32).toInt = 0 := rfl
              refine hB _ _ _ _ _ (fun m267 hm267 => ?_)
              dsimp only [ucgo, ucwp, ucsC, uqC, uoC, ctC, rfd, KX3_judgeNumber, KX3_judgeNumber_0, KX3_judgeNumber_9, KX3_judgeNumber_13, KX3_judgeNumber_14, KX3_judgeNumber_19, KX3_judgeNumber_25, KX3_judgeNumber_28, KX3_judgeNumber_40, KX3_judgeNumber_48, KX3_judgeNumber_52, KX3_judgeNumber_53, KX3_judgeNumber_64, KX3_judgeNumber_73, KX3_judgeNumber_78, KX3_judgeNumber_91, KX3_judgeNumber_96, KX3_judgeNumber_100, KX3_judgeNumber_101, lkC, s1C, s2C, dlC, kyC, Nat.beq, Nat.ble, rcd, rno, rsw, Nat.reduceAdd, Nat.reduceBEq, Nat.reduceDiv, List.drop, List.take, List.reverse, List.reverseAux, Int.toNat, Option.toList, List.append, List.cons_append, List.nil_append, zg61, zg62, zg67, zg68, zg71, zg121]
              intro a268 e268 ob268
              cases e268
              have c269 : (Int32.ofInt 4).toInt = 4 := by decide
              intro a270 e270 ob270
              cases e270
              have f271 : (fIC σ p1 62).toInt = x.1.2.2.1 := hx.1.2.2
              rw [hP.1]
              try dsimp only
              intro w272 τ272 o272 q272
              obtain ⟨rfl, hb272_⟩ := q272 (N, E, A, B, V, z) ⟨_, _, rfl, by omega⟩
              have hP272 : PjC E τ272 := hP.fr o272.2 rfl rfl
              try dsimp only [Option.toList, List.cons_append, List.nil_append, s1C, s2C, dlC, kyC, Nat.beq, lkC, rcd, rno, rsw]
              try dsimp only [Qz_judgeNumber]
              have hG : gtT x.1.2.1 = Int64.ofInt 9223372036854775807 := if_pos (by omega)
              have hY : nyT x.1.2.1 = 4 := if_pos (by omega)
              have hv71 : fLC σ p1 71 = t.2.2.1 := ht.2.2
              have hone : (Int64.ofInt 9223372036854775807 + 1) = (Int64.ofInt 9223372036854775807 + Int64.ofNat ((1 : Fin 2) : Nat)) := rfl
              have z9 : (Int64.ofNat ((0 : Fin 2) : Nat)).toInt = 0 := rfl
              rw [z9] at le263
              exact fun τ9 h9 => ⟨rfl, JqC.we h9 (Or.inl ⟨by unfold x0T; rw [hG, ← hv71]; rw [if_pos (by unfold nbT; rw [eqL, hone]; omega)], hb272_⟩)⟩
          · have g264 := nltI (x := (lg_cmp (fLC σ p1 71) (Int64.ofNat ((0 : Fin 2) : Nat)))) (y := 0) h264
            have z0_ : (0 : Int32).toInt = 0 := rfl
            refine hB _ _ _ _ _ (fun m273 hm273 => ?_)
            dsimp only [ucgo, ucwp, ucsC, uqC, uoC, ctC, rfd, KX3_judgeNumber, KX3_judgeNumber_0, KX3_judgeNumber_9, KX3_judgeNumber_13, KX3_judgeNumber_14, KX3_judgeNumber_19, KX3_judgeNumber_25, KX3_judgeNumber_28, KX3_judgeNumber_40, KX3_judgeNumber_48, KX3_judgeNumber_52, KX3_judgeNumber_53, KX3_judgeNumber_64, KX3_judgeNumber_73, KX3_judgeNumber_78, KX3_judgeNumber_91, KX3_judgeNumber_96, KX3_judgeNumber_100, KX3_judgeNumber_101, lkC, s1C, s2C, dlC, kyC, Nat.beq, Nat.ble, rcd, rno, rsw, Nat.reduceAdd, Nat.reduceBEq, Nat.reduceDiv, List.drop, List.take, List.reverse, List.reverseAux, Int.toNat, Option.toList, List.append, List.cons_append, List.nil_append, zg61, zg62, zg67, zg68, zg71, zg121]
            intro a274 e274 ob274
            cases e274
            have lc276 : (lg_cmp (fLC σ p1 71) (Int64.ofInt 9223372036854775807)).toInt = 0 → (fLC σ p1 71) = (Int64.ofInt 9223372036854775807) := lcmpC
            have ld276 : (fLC σ p1 71) = (Int64.ofInt 9223372036854775807) → (lg_cmp (fLC σ p1 71) (Int64.ofInt 9223372036854775807)).toInt = 0 := fun e => by rw [e]; exact lcmp0
            have le276 := lcmp3 (x := (fLC σ p1 71)) (y := (Int64.ofInt 9223372036854775807))
            refine ⟨fun h277 => ?_, fun h277 => ?_⟩
            · have g277 := leI (x := (lg_cmp (fLC σ p1 71) (Int64.ofInt 9223372036854775807))) (y := 0) h277
              have z0_ : (0 : Int32).toInt = 0 := rfl
              refine hB _ _ _ _ _ (fun m278 hm278 => ?_)
              dsimp only [ucgo, ucwp, ucsC, uqC, uoC, ctC, rfd, KX3_judgeNumber, KX3_judgeNumber_0, KX3_judgeNumber_9, KX3_judgeNumber_13, KX3_judgeNumber_14, KX3_judgeNumber_19, KX3_judgeNumber_25, KX3_judgeNumber_28, KX3_judgeNumber_40, KX3_judgeNumber_48, KX3_judgeNumber_52, KX3_judgeNumber_53, KX3_judgeNumber_64, KX3_judgeNumber_73, KX3_judgeNumber_78, KX3_judgeNumber_91, KX3_judgeNumber_96, KX3_judgeNumber_100, KX3_judgeNumber_101, lkC, s1C, s2C, dlC, kyC, Nat.beq, Nat.ble, rcd, rno, rsw, Nat.reduceAdd, Nat.reduceBEq, Nat.reduceDiv, List.drop, List.take, List.reverse, List.reverseAux, Int.toNat, Option.toList, List.append, List.cons_append, List.nil_append, zg61, zg62, zg67, zg68, zg71, zg121]
              refine ⟨fun h279 => ?_, fun h279 => ?_⟩
              · have g279 := (eqI (x := (Int32.ofInt 1)) (y := 0) h279 : ((Int32.ofInt 1) : Int32).toInt = (0 : Int32).toInt)
                have z0_ : (0 : Int32).toInt = 0 := rfl
                exfalso
                omega
              · have g279 := (neI (x := (Int32.ofInt 1)) (y := 0) h279 : ¬ ((Int32.ofInt 1) : Int32).toInt = (0 : Int32).toInt)
                have z0_ : (0 : Int32).toInt = 0 := rfl
                refine hB _ _ _ _ _ (fun m280 hm280 => ?_)
                dsimp only [ucgo, ucwp, ucsC, uqC, uoC, ctC, rfd, KX3_judgeNumber, KX3_judgeNumber_0, KX3_judgeNumber_9, KX3_judgeNumber_13, KX3_judgeNumber_14, KX3_judgeNumber_19, KX3_judgeNumber_25, KX3_judgeNumber_28, KX3_judgeNumber_40, KX3_judgeNumber_48, KX3_judgeNumber_52, KX3_judgeNumber_53, KX3_judgeNumber_64, KX3_judgeNumber_73, KX3_judgeNumber_78, KX3_judgeNumber_91, KX3_judgeNumber_96, KX3_judgeNumber_100, KX3_judgeNumber_101, lkC, s1C, s2C, dlC, kyC, Nat.beq, Nat.ble, rcd, rno, rsw, Nat.reduceAdd, Nat.reduceBEq, Nat.reduceDiv, List.drop, List.take, List.reverse, List.reverseAux, Int.toNat, Option.toList, List.append, List.cons_append, List.nil_append, zg61, zg62, zg67, zg68, zg71, zg121]
                have c281 : (Int32.ofInt 4).toInt = 4 := by decide
                refine hB _ _ _ _ _ (fun m282 hm282 => ?_)
                dsimp only [ucgo, ucwp, ucsC, uqC, uoC, ctC, rfd, KX3_judgeNumber, KX3_judgeNumber_0, KX3_judgeNumber_9, KX3_judgeNumber_13, KX3_judgeNumber_14, KX3_judgeNumber_19, KX3_judgeNumber_25, KX3_judgeNumber_28, KX3_judgeNumber_40, KX3_judgeNumber_48, KX3_judgeNumber_52, KX3_judgeNumber_53, KX3_judgeNumber_64, KX3_judgeNumber_73, KX3_judgeNumber_78, KX3_judgeNumber_91, KX3_judgeNumber_96, KX3_judgeNumber_100, KX3_judgeNumber_101, lkC, s1C, s2C, dlC, kyC, Nat.beq, Nat.ble, rcd, rno, rsw, Nat.reduceAdd, Nat.reduceBEq, Nat.reduceDiv, List.drop, List.take, List.reverse, List.reverseAux, Int.toNat, Option.toList, List.append, List.cons_append, List.nil_append, zg61, zg62, zg67, zg68, zg71, zg121]
                intro a283 e283 ob283 fk283
                cases e283
                clear fk283 ob283
                generalize hs283 : pIC σ p1 68 (Int32.ofInt 4) = s283
                have hX283 : XuC [68, 70, 71] σ s283 p1 := XuC.pI (M := [68, 70, 71]) (XuC.rf) (by decide) hs283
                have hv283 : (Int32.ofInt 4).toInt = 4 := by omega
                intro a284 e284 ob284
                cases e284
                have f285 : (fIC s283 p1 68).toInt = 4 := congrArg Int32.toInt (pI_g hs283) |>.trans hv283
                intro a286 e286 ob286
                cases e286
                have fl287 : (fLC s283 p1 71) = fLC σ p1 71 := ((pI_ol hs283).trans rfl)
                intro w288 τ288 o288 q288
                have hv71x : (fLC s283 p1 71) = t.2.2.1 := ((pI_ol hs283).trans rfl).trans ht.2.2
                obtain ⟨r288, rfl, hr288, rfl⟩ := q288 (N, E, A, B, V, z) ⟨_, _, rfl⟩
                try dsimp only [Option.toList, List.cons_append, List.nil_append, s1C, s2C, dlC, kyC, Nat.beq, lkC, rcd, rno, rsw]
                intro a289 e289 ob289 fk289
                cases e289
                clear fk289 ob289
                generalize hs289 : pLC s283 p1 71 r288 = s289
                have hX289 : XuC [68, 70, 71] σ s289 p1 := XuC.pL (M := [68, 70, 71]) hX283 (by decide) hs289
                try dsimp only [Qz_judgeNumber]
                have hG : gtT x.1.2.1 = Int64.ofInt 9223372036854775807 := if_pos (by omega)
                have hY : nyT x.1.2.1 = 4 := if_pos (by omega)
                have hv71 : fLC σ p1 71 = t.2.2.1 := ht.2.2
                have hone : (Int64.ofInt 9223372036854775807 + 1) = (Int64.ofInt 9223372036854775807 + Int64.ofNat ((1 : Fin 2) : Nat)) := rfl
                have z9 : (Int64.ofNat ((0 : Fin 2) : Nat)).toInt = 0 := rfl
                rw [z9] at le263
                exact fun τ9 h9 => ⟨rfl, JqC.we h9 (Or.inr ⟨(nyT x.1.2.1, t.2.1, nrT (nyT x.1.2.1) t.2.2.1, t.2.2.2), by unfold x0T; rw [hG, ← hv71]; rw [if_neg (by unfold nbT; rw [eqL, hone]; omega)], XuC.er (M := [68, 70, 71]) hX289 (by decide) he, hX289, ⟨(congrArg Int32.toInt ((pL_oi hs289).trans (pI_g hs283))).trans (by first | omega | (rw [hY]; omega)), (congrArg Int32.toInt ((pL_oi hs289).trans ((pI_o hs283 (show (70 : Nat) ≠ 68 by decide)).trans rfl))).trans ht.2.1, (pL_g hs289).trans (by rw [hr288, hv71x]; exact congrArg (fun q => nrT q t.2.2.1) (show (fIC s283 p1 68).toInt = nyT x.1.2.1 by rw [hY]; omega))⟩, rfl⟩)⟩
            · have g277 := nleI (x := (lg_cmp (fLC σ p1 71) (Int64.ofInt 9223372036854775807))) (y := 0) h277
              have z0_ : (0 : Int32).toInt = 0 := rfl
              refine hB _ _ _ _ _ (fun m290 hm290 => ?_)
              dsimp only [ucgo, ucwp, ucsC, uqC, uoC, ctC, rfd, KX3_judgeNumber, KX3_judgeNumber_0, KX3_judgeNumber_9, KX3_judgeNumber_13, KX3_judgeNumber_14, KX3_judgeNumber_19, KX3_judgeNumber_25, KX3_judgeNumber_28, KX3_judgeNumber_40, KX3_judgeNumber_48, KX3_judgeNumber_52, KX3_judgeNumber_53, KX3_judgeNumber_64, KX3_judgeNumber_73, KX3_judgeNumber_78, KX3_judgeNumber_91, KX3_judgeNumber_96, KX3_judgeNumber_100, KX3_judgeNumber_101, lkC, s1C, s2C, dlC, kyC, Nat.beq, Nat.ble, rcd, rno, rsw, Nat.reduceAdd, Nat.reduceBEq, Nat.reduceDiv, List.drop, List.take, List.reverse, List.reverseAux, Int.toNat, Option.toList, List.append, List.cons_append, List.nil_append, zg61, zg62, zg67, zg68, zg71, zg121]
              refine ⟨fun h291 => ?_, fun h291 => ?_⟩
              · have g291 := (neI (x := (Int32.ofInt 0)) (y := 0) h291 : ¬ ((Int32.ofInt 0) : Int32).toInt = (0 : Int32).toInt)
                have z0_ : (0 : Int32).toInt = 0 := rfl
                exfalso
                omega
              · have g291 := (eqI (x := (Int32.ofInt 0)) (y := 0) h291 : ((Int32.ofInt 0) : Int32).toInt = (0 : Int32).toInt)
                have z0_ : (0 : Int32).toInt = 0 := rfl
                refine hB _ _ _ _ _ (fun m292 hm292 => ?_)
                dsimp only [ucgo, ucwp, ucsC, uqC, uoC, ctC, rfd, KX3_judgeNumber, KX3_judgeNumber_0, KX3_judgeNumber_9, KX3_judgeNumber_13, KX3_judgeNumber_14, KX3_judgeNumber_19, KX3_judgeNumber_25, KX3_judgeNumber_28, KX3_judgeNumber_40, KX3_judgeNumber_48, KX3_judgeNumber_52, KX3_judgeNumber_53, KX3_judgeNumber_64, KX3_judgeNumber_73, KX3_judgeNumber_78, KX3_judgeNumber_91, KX3_judgeNumber_96, KX3_judgeNumber_100, KX3_judgeNumber_101, lkC, s1C, s2C, dlC, kyC, Nat.beq, Nat.ble, rcd, rno, rsw, Nat.reduceAdd, Nat.reduceBEq, Nat.reduceDiv, List.drop, List.take, List.reverse, List.reverseAux, Int.toNat, Option.toList, List.append, List.cons_append, List.nil_append, zg61, zg62, zg67, zg68, zg71, zg121]
                intro a293 e293 ob293
                cases e293
                have c294 : (Int32.ofInt 4).toInt = 4 := by decide
                intro a295 e295 ob295
                cases e295
                have f296 : (fIC σ p1 62).toInt = x.1.2.2.1 := hx.1.2.2
                rw [hP.1]
                try dsimp only
                intro w297 τ297 o297 q297
                obtain ⟨rfl, hb297_⟩ := q297 (N, E, A, B, V, z) ⟨_, _, rfl, by omega⟩
                have hP297 : PjC E τ297 := hP.fr o297.2 rfl rfl
                try dsimp only [Option.toList, List.cons_append, List.nil_append, s1C, s2C, dlC, kyC, Nat.beq, lkC, rcd, rno, rsw]
                try dsimp only [Qz_judgeNumber]
                have hG : gtT x.1.2.1 = Int64.ofInt 9223372036854775807 := if_pos (by omega)
                have hY : nyT x.1.2.1 = 4 := if_pos (by omega)
                have hv71 : fLC σ p1 71 = t.2.2.1 := ht.2.2
                have hone : (Int64.ofInt 9223372036854775807 + 1) = (Int64.ofInt 9223372036854775807 + Int64.ofNat ((1 : Fin 2) : Nat)) := rfl
                have z9 : (Int64.ofNat ((0 : Fin 2) : Nat)).toInt = 0 := rfl
                rw [z9] at le263
                exact fun τ9 h9 => ⟨rfl, JqC.we h9 (Or.inl ⟨by unfold x0T; rw [hG, ← hv71]; rw [if_pos (by unfold nbT; rw [eqL, hone]; omega)], hb297_⟩)⟩
        · have g257 := (eqI (x := (fIC σ p1 67)) (y := (Int32.ofInt 1)) h257 : ((fIC σ p1 67) : Int32).toInt = ((Int32.ofInt 1) : Int32).toInt)
          refine hB _ _ _ _ _ (fun m298 hm298 => ?_)
          dsimp only [ucgo, ucwp, ucsC, uqC, uoC, ctC, rfd, KX3_judgeNumber, KX3_judgeNumber_0, KX3_judgeNumber_9, KX3_judgeNumber_13, KX3_judgeNumber_14, KX3_judgeNumber_19, KX3_judgeNumber_25, KX3_judgeNumber_28, KX3_judgeNumber_40, KX3_judgeNumber_48, KX3_judgeNumber_52, KX3_judgeNumber_53, KX3_judgeNumber_64, KX3_judgeNumber_73, KX3_judgeNumber_78, KX3_judgeNumber_91, KX3_judgeNumber_96, KX3_judgeNumber_100, KX3_judgeNumber_101, lkC, s1C, s2C, dlC, kyC, Nat.beq, Nat.ble, rcd, rno, rsw, Nat.reduceAdd, Nat.reduceBEq, Nat.reduceDiv, List.drop, List.take, List.reverse, List.reverseAux, Int.toNat, Option.toList, List.append, List.cons_append, List.nil_append, zg61, zg62, zg67, zg68, zg71, zg121]
          have c299 : (Int32.ofInt 1).toInt = 1 := by decide
          refine hB _ _ _ _ _ (fun m300 hm300 => ?_)
          dsimp only [ucgo, ucwp, ucsC, uqC, uoC, ctC, rfd, KX3_judgeNumber, KX3_judgeNumber_0, KX3_judgeNumber_9, KX3_judgeNumber_13, KX3_judgeNumber_14, KX3_judgeNumber_19, KX3_judgeNumber_25, KX3_judgeNumber_28, KX3_judgeNumber_40, KX3_judgeNumber_48, KX3_judgeNumber_52, KX3_judgeNumber_53, KX3_judgeNumber_64, KX3_judgeNumber_73, KX3_judgeNumber_78, KX3_judgeNumber_91, KX3_judgeNumber_96, KX3_judgeNumber_100, KX3_judgeNumber_101, lkC, s1C, s2C, dlC, kyC, Nat.beq, Nat.ble, rcd, rno, rsw, Nat.reduceAdd, Nat.reduceBEq, Nat.reduceDiv, List.drop, List.take, List.reverse, List.reverseAux, Int.toNat, Option.toList, List.append, List.cons_append, List.nil_append, zg61, zg62, zg67, zg68, zg71, zg121]
          intro a301 e301 ob301
          cases e301
          have lc303 : (lg_cmp (fLC σ p1 71) (Int64.ofNat ((0 : Fin 2) : Nat))).toInt = 0 → (fLC σ p1 71) = (Int64.ofNat ((0 : Fin 2) : Nat)) := lcmpC
          have ld303 : (fLC σ p1 71) = (Int64.ofNat ((0 : Fin 2) : Nat)) → (lg_cmp (fLC σ p1 71) (Int64.ofNat ((0 : Fin 2) : Nat))).toInt = 0 := fun e => by rw [e]; exact lcmp0
          have le303 := lcmp3 (x := (fLC σ p1 71)) (y := (Int64.ofNat ((0 : Fin 2) : Nat)))
          refine ⟨fun h304 => ?_, fun h304 => ?_⟩
          · have g304 := ltI (x := (lg_cmp (fLC σ p1 71) (Int64.ofNat ((0 : Fin 2) : Nat)))) (y := 0) h304
            have z0_ : (0 : Int32).toInt = 0 := rfl
            refine hB _ _ _ _ _ (fun m305 hm305 => ?_)
            dsimp only [ucgo, ucwp, ucsC, uqC, uoC, ctC, rfd, KX3_judgeNumber, KX3_judgeNumber_0, KX3_judgeNumber_9, KX3_judgeNumber_13, KX3_judgeNumber_14, KX3_judgeNumber_19, KX3_judgeNumber_25, KX3_judgeNumber_28, KX3_judgeNumber_40, KX3_judgeNumber_48, KX3_judgeNumber_52, KX3_judgeNumber_53, KX3_judgeNumber_64, KX3_judgeNumber_73, KX3_judgeNumber_78, KX3_judgeNumber_91, KX3_judgeNumber_96, KX3_judgeNumber_100, KX3_judgeNumber_101, lkC, s1C, s2C, dlC, kyC, Nat.beq, Nat.ble, rcd, rno, rsw, Nat.reduceAdd, Nat.reduceBEq, Nat.reduceDiv, List.drop, List.take, List.reverse, List.reverseAux, Int.toNat, Option.toList, List.append, List.cons_append, List.nil_append, zg61, zg62, zg67, zg68, zg71, zg121]
            refine ⟨fun h306 => ?_, fun h306 => ?_⟩
            · have g306 := (neI (x := (Int32.ofInt 1)) (y := 0) h306 : ¬ ((Int32.ofInt 1) : Int32).toInt = (0 : Int32).toInt)
              have z0_ : (0 : Int32).toInt = 0 := rfl
              refine hB _ _ _ _ _ (fun m307 hm307 => ?_)
              dsimp only [ucgo, ucwp, ucsC, uqC, uoC, ctC, rfd, KX3_judgeNumber, KX3_judgeNumber_0, KX3_judgeNumber_9, KX3_judgeNumber_13, KX3_judgeNumber_14, KX3_judgeNumber_19, KX3_judgeNumber_25, KX3_judgeNumber_28, KX3_judgeNumber_40, KX3_judgeNumber_48, KX3_judgeNumber_52, KX3_judgeNumber_53, KX3_judgeNumber_64, KX3_judgeNumber_73, KX3_judgeNumber_78, KX3_judgeNumber_91, KX3_judgeNumber_96, KX3_judgeNumber_100, KX3_judgeNumber_101, lkC, s1C, s2C, dlC, kyC, Nat.beq, Nat.ble, rcd, rno, rsw, Nat.reduceAdd, Nat.reduceBEq, Nat.reduceDiv, List.drop, List.take, List.reverse, List.reverseAux, Int.toNat, Option.toList, List.append, List.cons_append, List.nil_append, zg61, zg62, zg67, zg68, zg71, zg121]
              refine ⟨fun h308 => ?_, fun h308 => ?_⟩
              · have g308 := (eqI (x := (Int32.ofInt 1)) (y := 0) h308 : ((Int32.ofInt 1) : Int32).toInt = (0 : Int32).toInt)
                have z0_ : (0 : Int32).toInt = 0 := rfl
                exfalso
                omega
              · have g308 := (neI (x := (Int32.ofInt 1)) (y := 0) h308 : ¬ ((Int32.ofInt 1) : Int32).toInt = (0 : Int32).toInt)
                have z0_ : (0 : Int32).toInt = 0 := rfl
                refine hB _ _ _ _ _ (fun m309 hm309 => ?_)
                dsimp only [ucgo, ucwp, ucsC, uqC, uoC, ctC, rfd, KX3_judgeNumber, KX3_judgeNumber_0, KX3_judgeNumber_9, KX3_judgeNumber_13, KX3_judgeNumber_14, KX3_judgeNumber_19, KX3_judgeNumber_25, KX3_judgeNumber_28, KX3_judgeNumber_40, KX3_judgeNumber_48, KX3_judgeNumber_52, KX3_judgeNumber_53, KX3_judgeNumber_64, KX3_judgeNumber_73, KX3_judgeNumber_78, KX3_judgeNumber_91, KX3_judgeNumber_96, KX3_judgeNumber_100, KX3_judgeNumber_101, lkC, s1C, s2C, dlC, kyC, Nat.beq, Nat.ble, rcd, rno, rsw, Nat.reduceAdd, Nat.reduceBEq, Nat.reduceDiv, List.drop, List.take, List.reverse, List.reverseAux, Int.toNat, Option.toList, List.append, List.cons_append, List.nil_append, zg61, zg62, zg67, zg68, zg71, zg121]
                have c310 : (Int32.ofInt 4).toInt = 4 := by decide
                refine hB _ _ _ _ _ (fun m311 hm311 => ?_)
                dsimp only [ucgo, ucwp, ucsC, uqC, uoC, ctC, rfd, KX3_judgeNumber, KX3_judgeNumber_0, KX3_judgeNumber_9, KX3_judgeNumber_13, KX3_judgeNumber_14, KX3_judgeNumber_19, KX3_judgeNumber_25, KX3_judgeNumber_28, KX3_judgeNumber_40, KX3_judgeNumber_48, KX3_judgeNumber_52, KX3_judgeNumber_53, KX3_judgeNumber_64, KX3_judgeNumber_73, KX3_judgeNumber_78, KX3_judgeNumber_91, KX3_judgeNumber_96, KX3_judgeNumber_100, KX3_judgeNumber_101, lkC, s1C, s2C, dlC, kyC, Nat.beq, Nat.ble, rcd, rno, rsw, Nat.reduceAdd, Nat.reduceBEq, Nat.reduceDiv, List.drop, List.take, List.reverse, List.reverseAux, Int.toNat, Option.toList, List.append, List.cons_append, List.nil_append, zg61, zg62, zg67, zg68, zg71, zg121]
                intro a312 e312 ob312 fk312
                cases e312
                clear fk312 ob312
                generalize hs312 : pIC σ p1 68 (Int32.ofInt 4) = s312
                have hX312 : XuC [68, 70, 71] σ s312 p1 := XuC.pI (M := [68, 70, 71]) (XuC.rf) (by decide) hs312
                have hv312 : (Int32.ofInt 4).toInt = 4 := by omega
                intro a313 e313 ob313
                cases e313
                have f314 : (fIC s312 p1 68).toInt = 4 := congrArg Int32.toInt (pI_g hs312) |>.trans hv312
                intro a315 e315 ob315
                cases e315
                have fl316 : (fLC s312 p1 71) = fLC σ p1 71 := ((pI_ol hs312).trans rfl)
                intro w317 τ317 o317 q317
                have hv71x : (fLC s312 p1 71) = t.2.2.1 := ((pI_ol hs312).trans rfl).trans ht.2.2
                obtain ⟨r317, rfl, hr317, rfl⟩ := q317 (N, E, A, B, V, z) ⟨_, _, rfl⟩
                try dsimp only [Option.toList, List.cons_append, List.nil_append, s1C, s2C, dlC, kyC, Nat.beq, lkC, rcd, rno, rsw]
                intro a318 e318 ob318 fk318
                cases e318
                clear fk318 ob318
                generalize hs318 : pLC s312 p1 71 r317 = s318
                have hX318 : XuC [68, 70, 71] σ s318 p1 := XuC.pL (M := [68, 70, 71]) hX312 (by decide) hs318
                try dsimp only [Qz_judgeNumber]
                have hG : gtT x.1.2.1 = Int64.ofInt 9223372036854775807 := if_pos (by omega)
                have hY : nyT x.1.2.1 = 4 := if_pos (by omega)
                have hv71 : fLC σ p1 71 = t.2.2.1 := ht.2.2
                have hone : (Int64.ofInt 9223372036854775807 + 1) = (Int64.ofInt 9223372036854775807 + Int64.ofNat ((1 : Fin 2) : Nat)) := rfl
                have z9 : (Int64.ofNat ((0 : Fin 2) : Nat)).toInt = 0 := rfl
                rw [z9] at le303
                exact fun τ9 h9 => ⟨rfl, JqC.we h9 (Or.inr ⟨(nyT x.1.2.1, t.2.1, nrT (nyT x.1.2.1) t.2.2.1, t.2.2.2), by unfold x0T; rw [hG, ← hv71]; rw [if_neg (by unfold nbT; rw [eqL, hone]; omega)], XuC.er (M := [68, 70, 71]) hX318 (by decide) he, hX318, ⟨(congrArg Int32.toInt ((pL_oi hs318).trans (pI_g hs312))).trans (by first | omega | (rw [hY]; omega)), (congrArg Int32.toInt ((pL_oi hs318).trans ((pI_o hs312 (show (70 : Nat) ≠ 68 by decide)).trans rfl))).trans ht.2.1, (pL_g hs318).trans (by rw [hr317, hv71x]; exact congrArg (fun q => nrT q t.2.2.1) (show (fIC s312 p1 68).toInt = nyT x.1.2.1 by rw [hY]; omega))⟩, rfl⟩)⟩
            · have g306 := (eqI (x := (Int32.ofInt 1)) (y := 0) h306 : ((Int32.ofInt 1) : Int32).toInt = (0 : Int32).toInt)
              have z0_ : (0 : Int32).toInt = 0 := rfl
              exfalso
              omega
          · have g304 := nltI (x := (lg_cmp (fLC σ p1 71) (Int64.ofNat ((0 : Fin 2) : Nat)))) (y := 0) h304
            have z0_ : (0 : Int32).toInt = 0 := rfl
            refine hB _ _ _ _ _ (fun m319 hm319 => ?_)
            dsimp only [ucgo, ucwp, ucsC, uqC, uoC, ctC, rfd, KX3_judgeNumber, KX3_judgeNumber_0, KX3_judgeNumber_9, KX3_judgeNumber_13, KX3_judgeNumber_14, KX3_judgeNumber_19, KX3_judgeNumber_25, KX3_judgeNumber_28, KX3_judgeNumber_40, KX3_judgeNumber_48, KX3_judgeNumber_52, KX3_judgeNumber_53, KX3_judgeNumber_64, KX3_judgeNumber_73, KX3_judgeNumber_78, KX3_judgeNumber_91, KX3_judgeNumber_96, KX3_judgeNumber_100, KX3_judgeNumber_101, lkC, s1C, s2C, dlC, kyC, Nat.beq, Nat.ble, rcd, rno, rsw, Nat.reduceAdd, Nat.reduceBEq, Nat.reduceDiv, List.drop, List.take, List.reverse, List.reverseAux, Int.toNat, Option.toList, List.append, List.cons_append, List.nil_append, zg61, zg62, zg67, zg68, zg71, zg121]
            intro a320 e320 ob320
            cases e320
            have lc322 : (lg_cmp (fLC σ p1 71) (Int64.ofInt 9223372036854775807)).toInt = 0 → (fLC σ p1 71) = (Int64.ofInt 9223372036854775807) := lcmpC
            have ld322 : (fLC σ p1 71) = (Int64.ofInt 9223372036854775807) → (lg_cmp (fLC σ p1 71) (Int64.ofInt 9223372036854775807)).toInt = 0 := fun e => by rw [e]; exact lcmp0
            have le322 := lcmp3 (x := (fLC σ p1 71)) (y := (Int64.ofInt 9223372036854775807))
            refine ⟨fun h323 => ?_, fun h323 => ?_⟩
            · have g323 := leI (x := (lg_cmp (fLC σ p1 71) (Int64.ofInt 9223372036854775807))) (y := 0) h323
              have z0_ : (0 : Int32).toInt = 0 := rfl
              refine hB _ _ _ _ _ (fun m324 hm324 => ?_)
              dsimp only [ucgo, ucwp, ucsC, uqC, uoC, ctC, rfd, KX3_judgeNumber, KX3_judgeNumber_0, KX3_judgeNumber_9, KX3_judgeNumber_13, KX3_judgeNumber_14, KX3_judgeNumber_19, KX3_judgeNumber_25, KX3_judgeNumber_28, KX3_judgeNumber_40, KX3_judgeNumber_48, KX3_judgeNumber_52, KX3_judgeNumber_53, KX3_judgeNumber_64, KX3_judgeNumber_73, KX3_judgeNumber_78, KX3_judgeNumber_91, KX3_judgeNumber_96, KX3_judgeNumber_100, KX3_judgeNumber_101, lkC, s1C, s2C, dlC, kyC, Nat.beq, Nat.ble, rcd, rno, rsw, Nat.reduceAdd, Nat.reduceBEq, Nat.reduceDiv, List.drop, List.take, List.reverse, List.reverseAux, Int.toNat, Option.toList, List.append, List.cons_append, List.nil_append, zg61, zg62, zg67, zg68, zg71, zg121]
              refine ⟨fun h325 => ?_, fun h325 => ?_⟩
              · have g325 := (eqI (x := (Int32.ofInt 1)) (y := 0) h325 : ((Int32.ofInt 1) : Int32).toInt = (0 : Int32).toInt)
                have z0_ : (0 : Int32).toInt = 0 := rfl
                exfalso
                omega
              · have g325 := (neI (x := (Int32.ofInt 1)) (y := 0) h325 : ¬ ((Int32.ofInt 1) : Int32).toInt = (0 : Int32).toInt)
                have z0_ : (0 : Int32).toInt = 0 := rfl
                refine hB _ _ _ _ _ (fun m326 hm326 => ?_)
                dsimp only [ucgo, ucwp, ucsC, uqC, uoC, ctC, rfd, KX3_judgeNumber, KX3_judgeNumber_0, KX3_judgeNumber_9, KX3_judgeNumber_13, KX3_judgeNumber_14, KX3_judgeNumber_19, KX3_judgeNumber_25, KX3_judgeNumber_28, KX3_judgeNumber_40, KX3_judgeNumber_48, KX3_judgeNumber_52, KX3_judgeNumber_53, KX3_judgeNumber_64, KX3_judgeNumber_73, KX3_judgeNumber_78, KX3_judgeNumber_91, KX3_judgeNumber_96, KX3_judgeNumber_100, KX3_judgeNumber_101, lkC, s1C, s2C, dlC, kyC, Nat.beq, Nat.ble, rcd, rno, rsw, Nat.reduceAdd, Nat.reduceBEq, Nat.reduceDiv, List.drop, List.take, List.reverse, List.reverseAux, Int.toNat, Option.toList, List.append, List.cons_append, List.nil_append, zg61, zg62, zg67, zg68, zg71, zg121]
                have c327 : (Int32.ofInt 4).toInt = 4 := by decide
                refine hB _ _ _ _ _ (fun m328 hm328 => ?_)
                dsimp only [ucgo, ucwp, ucsC, uqC, uoC, ctC, rfd, KX3_judgeNumber, KX3_judgeNumber_0, KX3_judgeNumber_9, KX3_judgeNumber_13, KX3_judgeNumber_14, KX3_judgeNumber_19, KX3_judgeNumber_25, KX3_judgeNumber_28, KX3_judgeNumber_40, KX3_judgeNumber_48, KX3_judgeNumber_52, KX3_judgeNumber_53, KX3_judgeNumber_64, KX3_judgeNumber_73, KX3_judgeNumber_78, KX3_judgeNumber_91, KX3_judgeNumber_96, KX3_judgeNumber_100, KX3_judgeNumber_101, lkC, s1C, s2C, dlC, kyC, Nat.beq, Nat.ble, rcd, rno, rsw, Nat.reduceAdd, Nat.reduceBEq, Nat.reduceDiv, List.drop, List.take, List.reverse, List.reverseAux, Int.toNat, Option.toList, List.append, List.cons_append, List.nil_append, zg61, zg62, zg67, zg68, zg71, zg121]
                intro a329 e329 ob329 fk329
                cases e329
                clear fk329 ob329
                generalize hs329 : pIC σ p1 68 (Int32.ofInt 4) = s329
                have hX329 : XuC [68, 70, 71] σ s329 p1 := XuC.pI (M := [68, 70, 71]) (XuC.rf) (by decide) hs329
                have hv329 : (Int32.ofInt 4).toInt = 4 := by omega
                intro a330 e330 ob330
                cases e330
                have f331 : (fIC s329 p1 68).toInt = 4 := congrArg Int32.toInt (pI_g hs329) |>.trans hv329
                intro a332 e332 ob332
                cases e332
                have fl333 : (fLC s329 p1 71) = fLC σ p1 71 := ((pI_ol hs329).trans rfl)
                intro w334 τ334 o334 q334
                have hv71x : (fLC s329 p1 71) = t.2.2.1 := ((pI_ol hs329).trans rfl).trans ht.2.2
                obtain ⟨r334, rfl, hr334, rfl⟩ := q334 (N, E, A, B, V, z) ⟨_, _, rfl⟩
                try dsimp only [Option.toList, List.cons_append, List.nil_append, s1C, s2C, dlC, kyC, Nat.beq, lkC, rcd, rno, rsw]
                intro a335 e335 ob335 fk335
                cases e335
                clear fk335 ob335
                generalize hs335 : pLC s329 p1 71 r334 = s335
                have hX335 : XuC [68, 70, 71] σ s335 p1 := XuC.pL (M := [68, 70, 71]) hX329 (by decide) hs335
                try dsimp only [Qz_judgeNumber]
                have hG : gtT x.1.2.1 = Int64.ofInt 9223372036854775807 := if_pos (by omega)
                have hY : nyT x.1.2.1 = 4 := if_pos (by omega)
                have hv71 : fLC σ p1 71 = t.2.2.1 := ht.2.2
                have hone : (Int64.ofInt 9223372036854775807 + 1) = (Int64.ofInt 9223372036854775807 + Int64.ofNat ((1 : Fin 2) : Nat)) := rfl
                have z9 : (Int64.ofNat ((0 : Fin 2) : Nat)).toInt = 0 := rfl
                rw [z9] at le303
                exact fun τ9 h9 => ⟨rfl, JqC.we h9 (Or.inr ⟨(nyT x.1.2.1, t.2.1, nrT (nyT x.1.2.1) t.2.2.1, t.2.2.2), by unfold x0T; rw [hG, ← hv71]; rw [if_neg (by unfold nbT; rw [eqL, hone]; omega)], XuC.er (M := [68, 70, 71]) hX335 (by decide) he, hX335, ⟨(congrArg Int32.toInt ((pL_oi hs335).trans (pI_g hs329))).trans (by first | omega | (rw [hY]; omega)), (congrArg Int32.toInt ((pL_oi hs335).trans ((pI_o hs329 (show (70 : Nat) ≠ 68 by decide)).trans rfl))).trans ht.2.1, (pL_g hs335).trans (by rw [hr334, hv71x]; exact congrArg (fun q => nrT q t.2.2.1) (show (fIC s329 p1 68).toInt = nyT x.1.2.1 by rw [hY]; omega))⟩, rfl⟩)⟩
            · have g323 := nleI (x := (lg_cmp (fLC σ p1 71) (Int64.ofInt 9223372036854775807))) (y := 0) h323
              have z0_ : (0 : Int32).toInt = 0 := rfl
              refine hB _ _ _ _ _ (fun m336 hm336 => ?_)
              dsimp only [ucgo, ucwp, ucsC, uqC, uoC, ctC, rfd, KX3_judgeNumber, KX3_judgeNumber_0, KX3_judgeNumber_9, KX3_judgeNumber_13, KX3_judgeNumber_14, KX3_judgeNumber_19, KX3_judgeNumber_25, KX3_judgeNumber_28, KX3_judgeNumber_40, KX3_judgeNumber_48, KX3_judgeNumber_52, KX3_judgeNumber_53, KX3_judgeNumber_64, KX3_judgeNumber_73, KX3_judgeNumber_78, KX3_judgeNumber_91, KX3_judgeNumber_96, KX3_judgeNumber_100, KX3_judgeNumber_101, lkC, s1C, s2C, dlC, kyC, Nat.beq, Nat.ble, rcd, rno, rsw, Nat.reduceAdd, Nat.reduceBEq, Nat.reduceDiv, List.drop, List.take, List.reverse, List.reverseAux, Int.toNat, Option.toList, List.append, List.cons_append, List.nil_append, zg61, zg62, zg67, zg68, zg71, zg121]
              refine ⟨fun h337 => ?_, fun h337 => ?_⟩
              · have g337 := (neI (x := (Int32.ofInt 1)) (y := 0) h337 : ¬ ((Int32.ofInt 1) : Int32).toInt = (0 : Int32).toInt)
                have z0_ : (0 : Int32).toInt = 0 := rfl
                refine hB _ _ _ _ _ (fun m338 hm338 => ?_)
                dsimp only [ucgo, ucwp, ucsC, uqC, uoC, ctC, rfd, KX3_judgeNumber, KX3_judgeNumber_0, KX3_judgeNumber_9, KX3_judgeNumber_13, KX3_judgeNumber_14, KX3_judgeNumber_19, KX3_judgeNumber_25, KX3_judgeNumber_28, KX3_judgeNumber_40, KX3_judgeNumber_48, KX3_judgeNumber_52, KX3_judgeNumber_53, KX3_judgeNumber_64, KX3_judgeNumber_73, KX3_judgeNumber_78, KX3_judgeNumber_91, KX3_judgeNumber_96, KX3_judgeNumber_100, KX3_judgeNumber_101, lkC, s1C, s2C, dlC, kyC, Nat.beq, Nat.ble, rcd, rno, rsw, Nat.reduceAdd, Nat.reduceBEq, Nat.reduceDiv, List.drop, List.take, List.reverse, List.reverseAux, Int.toNat, Option.toList, List.append, List.cons_append, List.nil_append, zg61, zg62, zg67, zg68, zg71, zg121]
                refine ⟨fun h339 => ?_, fun h339 => ?_⟩
                · have g339 := (eqI (x := (Int32.ofInt 1)) (y := 0) h339 : ((Int32.ofInt 1) : Int32).toInt = (0 : Int32).toInt)
                  have z0_ : (0 : Int32).toInt = 0 := rfl
                  exfalso
                  omega
                · have g339 := (neI (x := (Int32.ofInt 1)) (y := 0) h339 : ¬ ((Int32.ofInt 1) : Int32).toInt = (0 : Int32).toInt)
                  have z0_ : (0 : Int32).toInt = 0 := rfl
                  refine hB _ _ _ _ _ (fun m340 hm340 => ?_)
                  dsimp only [ucgo, ucwp, ucsC, uqC, uoC, ctC, rfd, KX3_judgeNumber, KX3_judgeNumber_0, KX3_judgeNumber_9, KX3_judgeNumber_13, KX3_judgeNumber_14, KX3_judgeNumber_19, KX3_judgeNumber_25, KX3_judgeNumber_28, KX3_judgeNumber_40, KX3_judgeNumber_48, KX3_judgeNumber_52, KX3_judgeNumber_53, KX3_judgeNumber_64, KX3_judgeNumber_73, KX3_judgeNumber_78, KX3_judgeNumber_91, KX3_judgeNumber_96, KX3_judgeNumber_100, KX3_judgeNumber_101, lkC, s1C, s2C, dlC, kyC, Nat.beq, Nat.ble, rcd, rno, rsw, Nat.reduceAdd, Nat.reduceBEq, Nat.reduceDiv, List.drop, List.take, List.reverse, List.reverseAux, Int.toNat, Option.toList, List.append, List.cons_append, List.nil_append, zg61, zg62, zg67, zg68, zg71, zg121]
                  have c341 : (Int32.ofInt 4).toInt = 4 := by decide
                  refine hB _ _ _ _ _ (fun m342 hm342 => ?_)
                  dsimp only [ucgo, ucwp, ucsC, uqC, uoC, ctC, rfd, KX3_judgeNumber, KX3_judgeNumber_0, KX3_judgeNumber_9, KX3_judgeNumber_13, KX3_judgeNumber_14, KX3_judgeNumber_19, KX3_judgeNumber_25, KX3_judgeNumber_28, KX3_judgeNumber_40, KX3_judgeNumber_48, KX3_judgeNumber_52, KX3_judgeNumber_53, KX3_judgeNumber_64, KX3_judgeNumber_73, KX3_judgeNumber_78, KX3_judgeNumber_91, KX3_judgeNumber_96, KX3_judgeNumber_100, KX3_judgeNumber_101, lkC, s1C, s2C, dlC, kyC, Nat.beq, Nat.ble, rcd, rno, rsw, Nat.reduceAdd, Nat.reduceBEq, Nat.reduceDiv, List.drop, List.take, List.reverse, List.reverseAux, Int.toNat, Option.toList, List.append, List.cons_append, List.nil_append, zg61, zg62, zg67, zg68, zg71, zg121]
                  intro a343 e343 ob343 fk343
                  cases e343
                  clear fk343 ob343
                  generalize hs343 : pIC σ p1 68 (Int32.ofInt 4) = s343
                  have hX343 : XuC [68, 70, 71] σ s343 p1 := XuC.pI (M := [68, 70, 71]) (XuC.rf) (by decide) hs343
                  have hv343 : (Int32.ofInt 4).toInt = 4 := by omega
                  intro a344 e344 ob344
                  cases e344
                  have f345 : (fIC s343 p1 68).toInt = 4 := congrArg Int32.toInt (pI_g hs343) |>.trans hv343
                  intro a346 e346 ob346
                  cases e346
                  have fl347 : (fLC s343 p1 71) = fLC σ p1 71 := ((pI_ol hs343).trans rfl)
                  intro w348 τ348 o348 q348
                  have hv71x : (fLC s343 p1 71) = t.2.2.1 := ((pI_ol hs343).trans rfl).trans ht.2.2
                  obtain ⟨r348, rfl, hr348, rfl⟩ := q348 (N, E, A, B, V, z) ⟨_, _, rfl⟩
                  try dsimp only [Option.toList, List.cons_append, List.nil_append, s1C, s2C, dlC, kyC, Nat.beq, lkC, rcd, rno, rsw]
                  intro a349 e349 ob349 fk349
                  cases e349
                  clear fk349 ob349
                  generalize hs349 : pLC s343 p1 71 r348 = s349
                  have hX349 : XuC [68, 70, 71] σ s349 p1 := XuC.pL (M := [68, 70, 71]) hX343 (by decide) hs349
                  try dsimp only [Qz_judgeNumber]
                  have hG : gtT x.1.2.1 = Int64.ofInt 9223372036854775807 := if_pos (by omega)
                  have hY : nyT x.1.2.1 = 4 := if_pos (by omega)
                  have hv71 : fLC σ p1 71 = t.2.2.1 := ht.2.2
                  have hone : (Int64.ofInt 9223372036854775807 + 1) = (Int64.ofInt 9223372036854775807 + Int64.ofNat ((1 : Fin 2) : Nat)) := rfl
                  have z9 : (Int64.ofNat ((0 : Fin 2) : Nat)).toInt = 0 := rfl
                  rw [z9] at le303
                  exact fun τ9 h9 => ⟨rfl, JqC.we h9 (Or.inr ⟨(nyT x.1.2.1, t.2.1, nrT (nyT x.1.2.1) t.2.2.1, t.2.2.2), by unfold x0T; rw [hG, ← hv71]; rw [if_neg (by unfold nbT; rw [eqL, hone]; omega)], XuC.er (M := [68, 70, 71]) hX349 (by decide) he, hX349, ⟨(congrArg Int32.toInt ((pL_oi hs349).trans (pI_g hs343))).trans (by first | omega | (rw [hY]; omega)), (congrArg Int32.toInt ((pL_oi hs349).trans ((pI_o hs343 (show (70 : Nat) ≠ 68 by decide)).trans rfl))).trans ht.2.1, (pL_g hs349).trans (by rw [hr348, hv71x]; exact congrArg (fun q => nrT q t.2.2.1) (show (fIC s343 p1 68).toInt = nyT x.1.2.1 by rw [hY]; omega))⟩, rfl⟩)⟩
              · have g337 := (eqI (x := (Int32.ofInt 1)) (y := 0) h337 : ((Int32.ofInt 1) : Int32).toInt = (0 : Int32).toInt)
                have z0_ : (0 : Int32).toInt = 0 := rfl
                exfalso
                omega
theorem wz_judgeNumber : ∀ (L : Nat) (As : List AvC) (σ : CsC) (w : Option AvC) (τ : CsC), EvF L 54 As σ w τ → Uz_judgeNumber As σ w τ := by
  intro L
  cases L with
  | zero => exact fun _ _ _ _ h => h.elim
  | succ L => exact fun As σ w τ h y hy => EvF.us (cs := [118, 228]) (pz_judgeNumber y) rfl (List.forall_mem_cons.2 ⟨wz_tell L, List.forall_mem_cons.2 ⟨wz_narrowed L, fun _ h => absurd h List.not_mem_nil⟩⟩) h hy
