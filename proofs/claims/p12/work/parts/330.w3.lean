/-! what tokens are worth: cutText -/
def WtR (x : TxY) (p0 p1 r a0 a1 a2 a3 a6 : Nat) (υ : CsC) (k : Nat) : Prop := ((fRC υ p0 304 = some r ∧ fRC υ p0 307 = some p1 ∧ fRC υ p0 306 = some a6) ∧ (fRC υ p0 300 = some a0 ∧ fRC υ p0 301 = some a1 ∧ fRC υ p0 302 = some a2 ∧ fRC υ p0 303 = some a3)) ∧ ((fIC υ p0 305).toInt = (k : Int) ∧ TxC υ p0 x ∧ WdC υ p0) ∧ (∀ j, j < k → WoC x (atY x j) (eLC υ r j)) ∧ (r < cnC υ ∧ a6 < cnC υ)
theorem WtR.i {x : TxY} {p0 p1 r a0 a1 a2 a3 a6 b : Nat} {υ : CsC} {k : Nat} {f : Nat → Int32} (h : WtR x p0 p1 r a0 a1 a2 a3 a6 υ k) (hb : p1 ≠ b) : WtR x p0 p1 r a0 a1 a2 a3 a6 (qIC υ b f) k := by
  obtain ⟨h1, ⟨h2, h3, h4⟩, h5, h6⟩ := h
  refine ⟨h1, ⟨h2, TxC.on h3 rfl rfl (fun a ha => ?_), h4⟩, h5, h6⟩
  obtain rfl : p1 = a := Option.some.inj (h1.1.2.1.symm.trans ha)
  exact u1C_ne hb
theorem WtR.c {x : TxY} {p0 p1 r a0 a1 a2 a3 a6 : Nat} {υ τ : CsC} {k : Nat} (h : WtR x p0 p1 r a0 a1 a2 a3 a6 υ k) (f : FrC υ τ p0) (l : LwC r k υ τ) (n2 : p1 ≠ a2) (n6 : a6 ≠ r) (hc : cnC υ ≤ cnC τ) : WtR x p0 p1 r a0 a1 a2 a3 a6 τ k := by
  obtain ⟨⟨⟨r4, r7, r6⟩, r0, r1, r2, r3⟩, ⟨h2, h3, h4⟩, h5, h6, h7⟩ := h
  have ef : fIC τ = fIC υ ∧ fRC τ = fRC υ ∧ eIC τ p1 = eIC υ p1 := by
    rcases f with q | ⟨d, q⟩
    · exact ⟨q.1, q.2.1, by rw [q.2.2]⟩
    · refine ⟨q.1, q.2.1, funext (fun j => (q.2.2 a2 r2).2 p1 j (fun z => n2 z.1))⟩
  obtain ⟨e1, e2, e3⟩ := ef
  refine ⟨⟨by rw [e2]; exact ⟨r4, r7, r6⟩, by rw [e2]; exact ⟨r0, r1, r2, r3⟩⟩, ⟨by rw [e1]; exact h2, TxC.on h3 e1 e2 (fun a ha => ?_), fun c hc9 j hj => ?_⟩, fun j hj => ?_, Nat.lt_of_lt_of_le h6 hc, Nat.lt_of_lt_of_le h7 hc⟩
  · obtain rfl : p1 = a := Option.some.inj (r7.symm.trans ha)
    exact e3
  · rw [e2] at hc9
    obtain rfl : a6 = c := Option.some.inj (r6.symm.trans hc9)
    rw [l a6 j h7 (fun z => n6 z.1)]
    exact h4 a6 r6 j hj
  · rw [l r j h6 (fun z => absurd z.2 (Nat.ne_of_lt hj))]
    exact h5 j hj
theorem WtR.p {x : TxY} {p0 p1 r a0 a1 a2 a3 a6 : Nat} {υ : CsC} {k : Nat} {v : Int32} (h : WtR x p0 p1 r a0 a1 a2 a3 a6 υ k) (hv : v.toInt = (k : Int) + 1) (hk : WoC x (atY x k) (eLC υ r k)) : WtR x p0 p1 r a0 a1 a2 a3 a6 (pIC υ p0 305 v) (k + 1) := by
  obtain ⟨h1, ⟨h2, h3, h4⟩, h5, h6⟩ := h
  refine ⟨h1, ⟨by rw [pI_e]; exact hv, ⟨by rw [pI_n (by decide)]; exact h3.1, h3.2⟩, h4⟩, fun j hj => ?_, h6⟩
  by_cases q : j = k
  · subst q
    exact hk
  · exact h5 j (by omega)
theorem nI_25 {n : Nat} (h : n = 2500) : (nI n).toInt = 2500 := by rw [h]; decide
abbrev Pz_cutText : ((Int → Int) × (Nat → Nat) × (Nat → Nat) × (Nat → Nat) × (Nat → Nat) × ZS × TxY × Nat) → CpC := fun y As σ => match y with
  | (N, E, A, B, V, z, x, r) => ∃ (p0 : Nat) (p1 : Nat) (p2 : Int32), As = [.inr (.inr (some p0)), .inr (.inr (some p1)), .inl p2] ∧ (HI0 σ ∧ TyC σ p0 10) ∧ (TyC σ p1 101) ∧ (fRC σ p0 304 = some r) ∧ (x.2 = p2.toInt ∧ (∀ j : Nat, (j : Int) < x.2 → (eIC σ p1 j &&& 255).toInt = x.1 j) ∧ okY x) ∧ (alC σ p1 = 2500) ∧ (WdC σ p0) ∧ (cnC σ < 1000000)
abbrev Qz_cutText : ((Int → Int) × (Nat → Nat) × (Nat → Nat) × (Nat → Nat) × (Nat → Nat) × ZS × TxY × Nat) → CqC := fun y As σ w τ => match y, As with
  | (N, E, A, B, V, z, x, r), [.inr (.inr (some p0)), .inr (.inr (some p1)), .inl p2] => ∀ n : Nat, (fIC τ p0 305).toInt = (n : Int) → ∀ j, j < n → WoC x (atY x j) (eLC τ r j)
  | _, _ => True
abbrev Uz_cutText : CqC := fun As σ w τ => ∀ y, Pz_cutText y As σ → Qz_cutText y As σ w τ
set_option maxHeartbeats 4000000 in
theorem pz_cutText (y : (Int → Int) × (Nat → Nat) × (Nat → Nat) × (Nat → Nat) × (Nat → Nat) × ZS × TxY × Nat) : PbC KX9_cutText [(190, TrP, EqC 190), (191, TrP, EqC 191)] [(191, Uz_cutOne)] (fun As σ => Pz_cutText y As σ ∧ cnC σ ≤ 1000000 ∧ ∃ w τ, uqC quL 188 As σ w τ) (Qz_cutText y) := by
  obtain ⟨N, E, A, B, V, z, x, r⟩ := y
  rintro As σ ⟨⟨p0, p1, p2, rfl, hH, ht1, hr, hx, hal, hwd, hlt⟩, hcn, _, _, hQ⟩ K hB hW n_
  have hx3 := hx.2.2.2.2
  have hlp := ht1.1
  obtain ⟨a0, -, ea0, ta0, -, ga0⟩ := cg300 hH.1 hH.2
  obtain ⟨a1, -, ea1, ta1, -, ga1⟩ := cg301 hH.1 hH.2
  obtain ⟨a2, -, ea2, ta2, -, ga2⟩ := cg302 hH.1 hH.2
  obtain ⟨a3, -, ea3, ta3, -, ga3⟩ := cg303 hH.1 hH.2
  obtain ⟨a4, -, ea4, ta4, -, ga4⟩ := cg304 hH.1 hH.2
  obtain rfl : a4 = r := Option.some.inj (ea4.symm.trans hr)
  obtain ⟨a6, -, ea6, ta6, -, ga6⟩ := cg306 hH.1 hH.2
  have hrt := ht1.2.1
  have np0 : p1 ≠ a0 := fun q => by rw [q, ta0.2.1] at hrt; cases hrt
  have np1 : p1 ≠ a1 := fun q => by rw [q, ta1.2.1] at hrt; cases hrt
  have np2 : p1 ≠ a2 := fun q => by rw [q, ta2.2.1] at hrt; cases hrt
  have np3 : p1 ≠ a3 := fun q => by rw [q, ta3.2.1] at hrt; cases hrt
  have n6 : a6 ≠ a4 := fun q => by rw [q, ga4] at ga6; cases ga6
  have L132 : ∀ (n : Nat) (υ : CsC) (k : Nat) (g i : Int32), WtR x p0 p1 a4 a0 a1 a2 a3 a6 υ k → K n 132 [(0, .inr (.inr (some p0))), (3, .inl g), (4, .inl i)] [] υ := by
    intro n υ k g i hR
    refine hB _ _ _ _ _ (fun m301 hm301 => ?_)
    dsimp only [ucgo, ucwp, ucsC, uqC, uoC, ctC, rfd, KX9_cutText, KX9_cutText_0, KX9_cutText_29, KX9_cutText_33, KX9_cutText_42, KX9_cutText_52, KX9_cutText_65, KX9_cutText_69, KX9_cutText_70, KX9_cutText_75, KX9_cutText_129, KX9_cutText_132, KX9_cutText_155, KX9_cutText_160, KX9_cutText_162, lkC, s1C, s2C, dlC, kyC, Nat.beq, Nat.ble, rcd, rno, rsw, Nat.reduceAdd, Nat.reduceBEq, Nat.reduceDiv, List.drop, List.take, List.reverse, List.reverseAux, Int.toNat, Option.toList, List.append, List.cons_append, List.nil_append, zg300, zg301, zg302, zg303, zg305, zg308]
    intro a302 e302 ob302
    cases e302
    intro a303 e303 ob303
    cases e303
    have f304 : (fIC υ p0 305).toInt = (k : Int) := hR.2.1.1
    intro a305 e305 t305 v305
    obtain rfl : a0 = a305 := Option.some.inj (hR.1.2.1.symm.trans e305)
    generalize hs305 : qIC υ a0 (upd (eIC υ a0) (fIC υ p0 305).toNatClampNeg i) = s305
    have hR305 : WtR x p0 p1 a4 a0 a1 a2 a3 a6 s305 k := by rw [← hs305]; exact WtR.i hR np0
    intro a306 e306 ob306
    cases e306
    intro a307 e307 ob307
    cases e307
    have f308 : (fIC s305 p0 305).toInt = (k : Int) := hR305.2.1.1
    refine ⟨fun h309 => ?_, fun h309 => ?_⟩
    · have g309 := (eqI (x := g) (y := 0) h309 : (g : Int32).toInt = (0 : Int32).toInt)
      have z0_ : (0 : Int32).toInt = 0 := rfl
      refine hB _ _ _ _ _ (fun m310 hm310 => ?_)
      dsimp only [ucgo, ucwp, ucsC, uqC, uoC, ctC, rfd, KX9_cutText, KX9_cutText_0, KX9_cutText_29, KX9_cutText_33, KX9_cutText_42, KX9_cutText_52, KX9_cutText_65, KX9_cutText_69, KX9_cutText_70, KX9_cutText_75, KX9_cutText_129, KX9_cutText_132, KX9_cutText_155, KX9_cutText_160, KX9_cutText_162, lkC, s1C, s2C, dlC, kyC, Nat.beq, Nat.ble, rcd, rno, rsw, Nat.reduceAdd, Nat.reduceBEq, Nat.reduceDiv, List.drop, List.take, List.reverse, List.reverseAux, Int.toNat, Option.toList, List.append, List.cons_append, List.nil_append, zg300, zg301, zg302, zg303, zg305, zg308]
      have c311 : (Int32.ofInt 85).toInt = 85 := by decide
      refine hB _ _ _ _ _ (fun m312 hm312 => ?_)
      dsimp only [ucgo, ucwp, ucsC, uqC, uoC, ctC, rfd, KX9_cutText, KX9_cutText_0, KX9_cutText_29, KX9_cutText_33, KX9_cutText_42, KX9_cutText_52, KX9_cutText_65, KX9_cutText_69, KX9_cutText_70, KX9_cutText_75, KX9_cutText_129, KX9_cutText_132, KX9_cutText_155, KX9_cutText_160, KX9_cutText_162, lkC, s1C, s2C, dlC, kyC, Nat.beq, Nat.ble, rcd, rno, rsw, Nat.reduceAdd, Nat.reduceBEq, Nat.reduceDiv, List.drop, List.take, List.reverse, List.reverseAux, Int.toNat, Option.toList, List.append, List.cons_append, List.nil_append, zg300, zg301, zg302, zg303, zg305, zg308]
      intro a313 e313 t313 v313
      obtain rfl : a2 = a313 := Option.some.inj (hR305.1.2.2.2.1.symm.trans e313)
      generalize hs313 : qIC s305 a2 (upd (eIC s305 a2) (fIC s305 p0 305).toNatClampNeg (Int32.ofInt 85)) = s313
      have hR313 : WtR x p0 p1 a4 a0 a1 a2 a3 a6 s313 k := by rw [← hs313]; exact WtR.i hR305 np2
      try dsimp only [Qz_cutText]
      intro τ hwe n hn j hj
      have q := hR313.2.1.1
      rw [we_i hwe] at hn
      rw [we_el hwe]
      exact hR313.2.2.1 j (by omega)
    · have g309 := (neI (x := g) (y := 0) h309 : ¬ (g : Int32).toInt = (0 : Int32).toInt)
      have z0_ : (0 : Int32).toInt = 0 := rfl
      refine hB _ _ _ _ _ (fun m314 hm314 => ?_)
      dsimp only [ucgo, ucwp, ucsC, uqC, uoC, ctC, rfd, KX9_cutText, KX9_cutText_0, KX9_cutText_29, KX9_cutText_33, KX9_cutText_42, KX9_cutText_52, KX9_cutText_65, KX9_cutText_69, KX9_cutText_70, KX9_cutText_75, KX9_cutText_129, KX9_cutText_132, KX9_cutText_155, KX9_cutText_160, KX9_cutText_162, lkC, s1C, s2C, dlC, kyC, Nat.beq, Nat.ble, rcd, rno, rsw, Nat.reduceAdd, Nat.reduceBEq, Nat.reduceDiv, List.drop, List.take, List.reverse, List.reverseAux, Int.toNat, Option.toList, List.append, List.cons_append, List.nil_append, zg300, zg301, zg302, zg303, zg305, zg308]
      have c315 : (Int32.ofInt 84).toInt = 84 := by decide
      refine hB _ _ _ _ _ (fun m316 hm316 => ?_)
      dsimp only [ucgo, ucwp, ucsC, uqC, uoC, ctC, rfd, KX9_cutText, KX9_cutText_0, KX9_cutText_29, KX9_cutText_33, KX9_cutText_42, KX9_cutText_52, KX9_cutText_65, KX9_cutText_69, KX9_cutText_70, KX9_cutText_75, KX9_cutText_129, KX9_cutText_132, KX9_cutText_155, KX9_cutText_160, KX9_cutText_162, lkC, s1C, s2C, dlC, kyC, Nat.beq, Nat.ble, rcd, rno, rsw, Nat.reduceAdd, Nat.reduceBEq, Nat.reduceDiv, List.drop, List.take, List.reverse, List.reverseAux, Int.toNat, Option.toList, List.append, List.cons_append, List.nil_append, zg300, zg301, zg302, zg303, zg305, zg308]
      intro a317 e317 t317 v317
      obtain rfl : a2 = a317 := Option.some.inj (hR305.1.2.2.2.1.symm.trans e317)
      generalize hs317 : qIC s305 a2 (upd (eIC s305 a2) (fIC s305 p0 305).toNatClampNeg (Int32.ofInt 84)) = s317
      have hR317 : WtR x p0 p1 a4 a0 a1 a2 a3 a6 s317 k := by rw [← hs317]; exact WtR.i hR305 np2
      try dsimp only [Qz_cutText]
      intro τ hwe n hn j hj
      have q := hR317.2.1.1
      rw [we_i hwe] at hn
      rw [we_el hwe]
      exact hR317.2.2.1 j (by omega)
  have L29 : ∀ (n : Nat) (υ : CsC) (k : Nat) (g i : Int32), WtR x p0 p1 a4 a0 a1 a2 a3 a6 υ k → k ≤ 501 → (0 ≤ i.toInt ∧ i.toInt = atY x k) → K n 29 [(0, .inr (.inr (some p0))), (3, .inl g), (4, .inl i)] [] υ := by
    intro n
    induction n using Nat.strongRecOn with
    | _ n ih =>
      intro υ k g i hR hk hii
      obtain ⟨hi0, hi⟩ := hii
      refine hB _ _ _ _ _ (fun m101 hm101 => ?_)
      dsimp only [ucgo, ucwp, ucsC, uqC, uoC, ctC, rfd, KX9_cutText, KX9_cutText_0, KX9_cutText_29, KX9_cutText_33, KX9_cutText_42, KX9_cutText_52, KX9_cutText_65, KX9_cutText_69, KX9_cutText_70, KX9_cutText_75, KX9_cutText_129, KX9_cutText_132, KX9_cutText_155, KX9_cutText_160, KX9_cutText_162, lkC, s1C, s2C, dlC, kyC, Nat.beq, Nat.ble, rcd, rno, rsw, Nat.reduceAdd, Nat.reduceBEq, Nat.reduceDiv, List.drop, List.take, List.reverse, List.reverseAux, Int.toNat, Option.toList, List.append, List.cons_append, List.nil_append, zg300, zg301, zg302, zg303, zg305, zg308]
      refine ⟨fun h102 => ?_, fun h102 => ?_⟩
      · have g102 := (eqI (x := g) (y := 0) h102 : (g : Int32).toInt = (0 : Int32).toInt)
        have z0_ : (0 : Int32).toInt = 0 := rfl
        exact hW _ 132 [(0, .inr (.inr (some p0))), (3, .inl g), (4, .inl i)] _ _ _ (List.forall_mem_cons.2 ⟨List.Mem.head _, List.forall_mem_cons.2 ⟨List.Mem.tail _ (List.Mem.head _), List.forall_mem_cons.2 ⟨List.Mem.tail _ (List.Mem.tail _ (List.Mem.head _)), fun _ h => absurd h List.not_mem_nil⟩⟩⟩) (L132 _ _ k _ _ hR)
      · have g102 := (neI (x := g) (y := 0) h102 : ¬ (g : Int32).toInt = (0 : Int32).toInt)
        have z0_ : (0 : Int32).toInt = 0 := rfl
        refine hB _ _ _ _ _ (fun m103 hm103 => ?_)
        dsimp only [ucgo, ucwp, ucsC, uqC, uoC, ctC, rfd, KX9_cutText, KX9_cutText_0, KX9_cutText_29, KX9_cutText_33, KX9_cutText_42, KX9_cutText_52, KX9_cutText_65, KX9_cutText_69, KX9_cutText_70, KX9_cutText_75, KX9_cutText_129, KX9_cutText_132, KX9_cutText_155, KX9_cutText_160, KX9_cutText_162, lkC, s1C, s2C, dlC, kyC, Nat.beq, Nat.ble, rcd, rno, rsw, Nat.reduceAdd, Nat.reduceBEq, Nat.reduceDiv, List.drop, List.take, List.reverse, List.reverseAux, Int.toNat, Option.toList, List.append, List.cons_append, List.nil_append, zg300, zg301, zg302, zg303, zg305, zg308]
        intro a104 e104 ob104
        cases e104
        have f105 : (fIC υ p0 308).toInt = x.2 := hR.2.1.2.1.1
        refine ⟨fun h106 => ?_, fun h106 => ?_⟩
        · have g106 := leI (x := (fIC υ p0 308)) (y := i) h106
          exact hW _ 132 [(0, .inr (.inr (some p0))), (3, .inl g), (4, .inl i)] _ _ _ (List.forall_mem_cons.2 ⟨List.Mem.head _, List.forall_mem_cons.2 ⟨List.Mem.tail _ (List.Mem.head _), List.forall_mem_cons.2 ⟨List.Mem.tail _ (List.Mem.tail _ (List.Mem.head _)), fun _ h => absurd h List.not_mem_nil⟩⟩⟩) (L132 _ _ k _ _ hR)
        · have g106 := nleI (x := (fIC υ p0 308)) (y := i) h106
          refine hB _ _ _ _ _ (fun m107 hm107 => ?_)
          dsimp only [ucgo, ucwp, ucsC, uqC, uoC, ctC, rfd, KX9_cutText, KX9_cutText_0, KX9_cutText_29, KX9_cutText_33, KX9_cutText_42, KX9_cutText_52, KX9_cutText_65, KX9_cutText_69, KX9_cutText_70, KX9_cutText_75, KX9_cutText_129, KX9_cutText_132, KX9_cutText_155, KX9_cutText_160, KX9_cutText_162, lkC, s1C, s2C, dlC, kyC, Nat.beq, Nat.ble, rcd, rno, rsw, Nat.reduceAdd, Nat.reduceBEq, Nat.reduceDiv, List.drop, List.take, List.reverse, List.reverseAux, Int.toNat, Option.toList, List.append, List.cons_append, List.nil_append, zg300, zg301, zg302, zg303, zg305, zg308]
          intro a108 e108 ob108
          cases e108
          have f109 : (fIC υ p0 305).toInt = (k : Int) := hR.2.1.1
          have c110 : (Int32.ofInt 500).toInt = 500 := by decide
          refine ⟨fun h111 => ?_, fun h111 => ?_⟩
          · have g111 := ltI (x := (Int32.ofInt 500)) (y := (fIC υ p0 305)) h111
            exact hW _ 132 [(0, .inr (.inr (some p0))), (3, .inl g), (4, .inl i)] _ _ _ (List.forall_mem_cons.2 ⟨List.Mem.head _, List.forall_mem_cons.2 ⟨List.Mem.tail _ (List.Mem.head _), List.forall_mem_cons.2 ⟨List.Mem.tail _ (List.Mem.tail _ (List.Mem.head _)), fun _ h => absurd h List.not_mem_nil⟩⟩⟩) (L132 _ _ k _ _ hR)
          · have g111 := nltI (x := (Int32.ofInt 500)) (y := (fIC υ p0 305)) h111
            refine hB _ _ _ _ _ (fun m112 hm112 => ?_)
            dsimp only [ucgo, ucwp, ucsC, uqC, uoC, ctC, rfd, KX9_cutText, KX9_cutText_0, KX9_cutText_29, KX9_cutText_33, KX9_cutText_42, KX9_cutText_52, KX9_cutText_65, KX9_cutText_69, KX9_cutText_70, KX9_cutText_75, KX9_cutText_129, KX9_cutText_132, KX9_cutText_155, KX9_cutText_160, KX9_cutText_162, lkC, s1C, s2C, dlC, kyC, Nat.beq, Nat.ble, rcd, rno, rsw, Nat.reduceAdd, Nat.reduceBEq, Nat.reduceDiv, List.drop, List.take, List.reverse, List.reverseAux, Int.toNat, Option.toList, List.append, List.cons_append, List.nil_append, zg300, zg301, zg302, zg303, zg305, zg308]
            intro w113 τ113 o113 q113
            obtain ⟨hb113, hu113⟩ : Q_X9_cutOne [.inr (.inr (some p0)), .inl i] υ w113 τ113 ∧ U_cutOne [.inr (.inr (some p0)), .inl i] υ w113 τ113 := o113.1.1
            obtain ⟨r113, rfl, -, hE113, hm113⟩ := hb113
            have u113 := hu113 x ⟨hR.2.1.2.1, by omega, by omega, hR.2.1.2.2⟩ r113 rfl
            have l113 := q113 (N, E, A, B, V, z, x, a4, k) ⟨_, _, rfl, hR.1.1.1, hR.2.1.1, hR.2.1.2.1, ⟨by omega, by omega⟩⟩ r113 rfl
            rw [hi] at u113 l113
            have hR113 : WtR x p0 p1 a4 a0 a1 a2 a3 a6 τ113 k := WtR.c hR u113.2.2 l113.1 np2 n6 hE113.1
            try dsimp only [Option.toList, List.cons_append, List.nil_append, s1C, s2C, dlC, kyC, Nat.beq, lkC, rcd, rno, rsw]
            refine ⟨fun h114 => ?_, fun h114 => ?_⟩
            · have g114 := leI (x := r113) (y := 0) h114
              have z0_ : (0 : Int32).toInt = 0 := rfl
              refine hB _ _ _ _ _ (fun m115 hm115 => ?_)
              dsimp only [ucgo, ucwp, ucsC, uqC, uoC, ctC, rfd, KX9_cutText, KX9_cutText_0, KX9_cutText_29, KX9_cutText_33, KX9_cutText_42, KX9_cutText_52, KX9_cutText_65, KX9_cutText_69, KX9_cutText_70, KX9_cutText_75, KX9_cutText_129, KX9_cutText_132, KX9_cutText_155, KX9_cutText_160, KX9_cutText_162, lkC, s1C, s2C, dlC, kyC, Nat.beq, Nat.ble, rcd, rno, rsw, Nat.reduceAdd, Nat.reduceBEq, Nat.reduceDiv, List.drop, List.take, List.reverse, List.reverseAux, Int.toNat, Option.toList, List.append, List.cons_append, List.nil_append, zg300, zg301, zg302, zg303, zg305, zg308]
              have c116 : (Int32.ofInt 0).toInt = 0 := by decide
              refine hB _ _ _ _ _ (fun m117 hm117 => ?_)
              dsimp only [ucgo, ucwp, ucsC, uqC, uoC, ctC, rfd, KX9_cutText, KX9_cutText_0, KX9_cutText_29, KX9_cutText_33, KX9_cutText_42, KX9_cutText_52, KX9_cutText_65, KX9_cutText_69, KX9_cutText_70, KX9_cutText_75, KX9_cutText_129, KX9_cutText_132, KX9_cutText_155, KX9_cutText_160, KX9_cutText_162, lkC, s1C, s2C, dlC, kyC, Nat.beq, Nat.ble, rcd, rno, rsw, Nat.reduceAdd, Nat.reduceBEq, Nat.reduceDiv, List.drop, List.take, List.reverse, List.reverseAux, Int.toNat, Option.toList, List.append, List.cons_append, List.nil_append, zg300, zg301, zg302, zg303, zg305, zg308]
              refine ⟨fun h118 => ?_, fun h118 => ?_⟩
              · have g118 := (eqI (x := (Int32.ofInt 0)) (y := 0) h118 : ((Int32.ofInt 0) : Int32).toInt = (0 : Int32).toInt)
                have z0_ : (0 : Int32).toInt = 0 := rfl
                refine hB _ _ _ _ _ (fun m119 hm119 => ?_)
                dsimp only [ucgo, ucwp, ucsC, uqC, uoC, ctC, rfd, KX9_cutText, KX9_cutText_0, KX9_cutText_29, KX9_cutText_33, KX9_cutText_42, KX9_cutText_52, KX9_cutText_65, KX9_cutText_69, KX9_cutText_70, KX9_cutText_75, KX9_cutText_129, KX9_cutText_132, KX9_cutText_155, KX9_cutText_160, KX9_cutText_162, lkC, s1C, s2C, dlC, kyC, Nat.beq, Nat.ble, rcd, rno, rsw, Nat.reduceAdd, Nat.reduceBEq, Nat.reduceDiv, List.drop, List.take, List.reverse, List.reverseAux, Int.toNat, Option.toList, List.append, List.cons_append, List.nil_append, zg300, zg301, zg302, zg303, zg305, zg308]
                exact hW _ 29 [(0, .inr (.inr (some p0))), (3, .inl (Int32.ofInt 0)), (4, .inl i)] _ _ _ (List.forall_mem_cons.2 ⟨List.Mem.tail _ (List.Mem.tail _ (List.Mem.head _)), List.forall_mem_cons.2 ⟨List.Mem.head _, List.forall_mem_cons.2 ⟨List.Mem.tail _ (List.Mem.tail _ (List.Mem.tail _ (List.Mem.head _))), fun _ h => absurd h List.not_mem_nil⟩⟩⟩) (ih _ (by omega) _ k _ _ hR113 hk ⟨by omega, hi⟩)
              · exact absurd h118 (by decide)
            · have g114 := nleI (x := r113) (y := 0) h114
              have z0_ : (0 : Int32).toInt = 0 := rfl
              refine hB _ _ _ _ _ (fun m120 hm120 => ?_)
              dsimp only [ucgo, ucwp, ucsC, uqC, uoC, ctC, rfd, KX9_cutText, KX9_cutText_0, KX9_cutText_29, KX9_cutText_33, KX9_cutText_42, KX9_cutText_52, KX9_cutText_65, KX9_cutText_69, KX9_cutText_70, KX9_cutText_75, KX9_cutText_129, KX9_cutText_132, KX9_cutText_155, KX9_cutText_160, KX9_cutText_162, lkC, s1C, s2C, dlC, kyC, Nat.beq, Nat.ble, rcd, rno, rsw, Nat.reduceAdd, Nat.reduceBEq, Nat.reduceDiv, List.drop, List.take, List.reverse, List.reverseAux, Int.toNat, Option.toList, List.append, List.cons_append, List.nil_append, zg300, zg301, zg302, zg303, zg305, zg308]
              have c121 : (Int32.ofInt 1).toInt = 1 := by decide
              refine hB _ _ _ _ _ (fun m122 hm122 => ?_)
              dsimp only [ucgo, ucwp, ucsC, uqC, uoC, ctC, rfd, KX9_cutText, KX9_cutText_0, KX9_cutText_29, KX9_cutText_33, KX9_cutText_42, KX9_cutText_52, KX9_cutText_65, KX9_cutText_69, KX9_cutText_70, KX9_cutText_75, KX9_cutText_129, KX9_cutText_132, KX9_cutText_155, KX9_cutText_160, KX9_cutText_162, lkC, s1C, s2C, dlC, kyC, Nat.beq, Nat.ble, rcd, rno, rsw, Nat.reduceAdd, Nat.reduceBEq, Nat.reduceDiv, List.drop, List.take, List.reverse, List.reverseAux, Int.toNat, Option.toList, List.append, List.cons_append, List.nil_append, zg300, zg301, zg302, zg303, zg305, zg308]
              refine ⟨fun h123 => ?_, fun h123 => ?_⟩
              · exact absurd h123 (by decide)
              · have g123 := (neI (x := (Int32.ofInt 1)) (y := 0) h123 : ¬ ((Int32.ofInt 1) : Int32).toInt = (0 : Int32).toInt)
                have z0_ : (0 : Int32).toInt = 0 := rfl
                have hw_ : WoC x (atY x k) (eLC τ113 a4 k) := l113.2 (by omega)
                refine hB _ _ _ _ _ (fun m124 hm124 => ?_)
                dsimp only [ucgo, ucwp, ucsC, uqC, uoC, ctC, rfd, KX9_cutText, KX9_cutText_0, KX9_cutText_29, KX9_cutText_33, KX9_cutText_42, KX9_cutText_52, KX9_cutText_65, KX9_cutText_69, KX9_cutText_70, KX9_cutText_75, KX9_cutText_129, KX9_cutText_132, KX9_cutText_155, KX9_cutText_160, KX9_cutText_162, lkC, s1C, s2C, dlC, kyC, Nat.beq, Nat.ble, rcd, rno, rsw, Nat.reduceAdd, Nat.reduceBEq, Nat.reduceDiv, List.drop, List.take, List.reverse, List.reverseAux, Int.toNat, Option.toList, List.append, List.cons_append, List.nil_append, zg300, zg301, zg302, zg303, zg305, zg308]
                intro a125 e125 ob125
                cases e125
                intro a126 e126 ob126
                cases e126
                have f127 : (fIC τ113 p0 305).toInt = (k : Int) := hR113.2.1.1
                intro a128 e128 t128 v128
                obtain rfl : a0 = a128 := Option.some.inj (hR113.1.2.1.symm.trans e128)
                generalize hs128 : qIC τ113 a0 (upd (eIC τ113 a0) (fIC τ113 p0 305).toNatClampNeg i) = s128
                have hR128 : WtR x p0 p1 a4 a0 a1 a2 a3 a6 s128 k := by rw [← hs128]; exact WtR.i hR113 np0
                have hw128 : WoC x (atY x k) (eLC s128 a4 k) := by rw [← hs128]; exact hw_
                intro a129 e129 ob129
                cases e129
                intro a130 e130 ob130
                cases e130
                have f131 : (fIC s128 p0 305).toInt = (k : Int) := hR128.2.1.1
                intro a132 e132 t132 v132
                obtain rfl : a1 = a132 := Option.some.inj (hR128.1.2.2.1.symm.trans e132)
                generalize hs132 : qIC s128 a1 (upd (eIC s128 a1) (fIC s128 p0 305).toNatClampNeg r113) = s132
                have hR132 : WtR x p0 p1 a4 a0 a1 a2 a3 a6 s132 k := by rw [← hs132]; exact WtR.i hR128 np1
                have hw132 : WoC x (atY x k) (eLC s132 a4 k) := by rw [← hs132]; exact hw128
                intro a133 e133 ob133
                cases e133
                intro a134 e134 ob134
                cases e134
                have f135 : (fIC s132 p0 305).toInt = (k : Int) := hR132.2.1.1
                have c136 : (Int32.ofInt (-2)).toInt = -2 := by decide
                intro a137 e137 t137 v137
                obtain rfl : a3 = a137 := Option.some.inj (hR132.1.2.2.2.2.symm.trans e137)
                generalize hs137 : qIC s132 a3 (upd (eIC s132 a3) (fIC s132 p0 305).toNatClampNeg (Int32.ofInt (-2))) = s137
                have hR137 : WtR x p0 p1 a4 a0 a1 a2 a3 a6 s137 k := by rw [← hs137]; exact WtR.i hR132 np3
                have hw137 : WoC x (atY x k) (eLC s137 a4 k) := by rw [← hs137]; exact hw132
                intro a138 e138 ob138
                cases e138
                have f139 : (fIC s137 p0 305).toInt = (k : Int) := hR137.2.1.1
                have c140 : (Int32.ofInt 1).toInt = 1 := by decide
                have u141 := tiC (fIC s137 p0 305)
                have a141 : ((fIC s137 p0 305) + (Int32.ofInt 1)).toInt = (k : Int) + 1 := addC (by omega) (by omega) (by omega)
                intro a142 e142 ob142 fk142
                cases e142
                clear fk142 ob142
                generalize hs142 : pIC s137 p0 305 ((fIC s137 p0 305) + (Int32.ofInt 1)) = s142
                have hR142 : WtR x p0 p1 a4 a0 a1 a2 a3 a6 s142 (k + 1) := by rw [← hs142]; exact WtR.p hR137 (by omega) hw137
                have u143 := tiC i
                have a143 : (i + r113).toInt = i.toInt + r113.toInt := addC (by omega) (by omega) (by omega)
                intro w144 τ144 o144 q144
                obtain ⟨hb144, hu144⟩ : Q_X9_behindBlanks [.inr (.inr (some p0)), .inl (i + r113)] s142 w144 τ144 ∧ ∀ x, Pp_byteAt x [.inr (.inr (some p0)), .inl (i + r113)] s142 → Qp_behindBlanks x [.inr (.inr (some p0)), .inl (i + r113)] s142 w144 τ144 := o144.1.1
                obtain ⟨r144, rfl, rfl, hz144, -⟩ := hb144
                have b144 : r144.toInt = skY x (i.toInt + r113.toInt) := (hu144 x hR142.2.1.2.1 r144 rfl).trans (congrArg (skY x) (by omega))
                try dsimp only [Option.toList, List.cons_append, List.nil_append, s1C, s2C, dlC, kyC, Nat.beq, lkC, rcd, rno, rsw]
                refine hB _ _ _ _ _ (fun m145 hm145 => ?_)
                dsimp only [ucgo, ucwp, ucsC, uqC, uoC, ctC, rfd, KX9_cutText, KX9_cutText_0, KX9_cutText_29, KX9_cutText_33, KX9_cutText_42, KX9_cutText_52, KX9_cutText_65, KX9_cutText_69, KX9_cutText_70, KX9_cutText_75, KX9_cutText_129, KX9_cutText_132, KX9_cutText_155, KX9_cutText_160, KX9_cutText_162, lkC, s1C, s2C, dlC, kyC, Nat.beq, Nat.ble, rcd, rno, rsw, Nat.reduceAdd, Nat.reduceBEq, Nat.reduceDiv, List.drop, List.take, List.reverse, List.reverseAux, Int.toNat, Option.toList, List.append, List.cons_append, List.nil_append, zg300, zg301, zg302, zg303, zg305, zg308]
                exact hW _ 29 [(0, .inr (.inr (some p0))), (3, .inl (Int32.ofInt 1)), (4, .inl r144)] _ _ _ (List.forall_mem_cons.2 ⟨List.Mem.tail _ (List.Mem.tail _ (List.Mem.tail _ (List.Mem.head _))), List.forall_mem_cons.2 ⟨List.Mem.tail _ (List.Mem.head _), List.forall_mem_cons.2 ⟨List.Mem.head _, fun _ h => absurd h List.not_mem_nil⟩⟩⟩) (ih _ (by omega) _ (k + 1) _ _ hR142 (by omega) ⟨by omega, b144.trans (by show _ = skY x (atY x k + (oneY x (atY x k)).1); exact congrArg (skY x) (by have q := u113.1; omega))⟩)
  change K n_ 0 [(0, .inr (.inr (some p0))), (1, .inr (.inr (some p1))), (2, .inl p2)] [] σ
  refine hB _ _ _ _ _ (fun m51 hm51 => ?_)
  dsimp only [ucgo, ucwp, ucsC, uqC, uoC, ctC, rfd, KX9_cutText, KX9_cutText_0, KX9_cutText_29, KX9_cutText_33, KX9_cutText_42, KX9_cutText_52, KX9_cutText_65, KX9_cutText_69, KX9_cutText_70, KX9_cutText_75, KX9_cutText_129, KX9_cutText_132, KX9_cutText_155, KX9_cutText_160, KX9_cutText_162, lkC, s1C, s2C, dlC, kyC, Nat.beq, Nat.ble, rcd, rno, rsw, Nat.reduceAdd, Nat.reduceBEq, Nat.reduceDiv, List.drop, List.take, List.reverse, List.reverseAux, Int.toNat, Option.toList, List.append, List.cons_append, List.nil_append, zg300, zg301, zg302, zg303, zg305, zg308]
  intro a52 e52 ob52 fk52
  cases e52
  clear fk52 ob52
  generalize hs52 : pRC σ p0 307 (some p1) = s52
  intro a53 e53
  cases e53
  refine ⟨fun l1_53 l2_53 l3_53 l4_53 => ?_, fun n53 l5_53 => absurd l5_53 (by omega)⟩
  intro a54 e54 ob54 fk54
  cases e54
  clear fk54 ob54
  generalize hs54 : pIC s52 p0 308 (if (nI (alC s52 p1)) < p2 then (nI (alC s52 p1)) else p2) = s54
  have c55 : (Int32.ofInt 0).toInt = 0 := by decide
  intro a56 e56 ob56 fk56
  cases e56
  clear fk56 ob56
  generalize hs56 : pIC s54 p0 305 (Int32.ofInt 0) = s56
  have hmn : ((if (nI (alC s52 p1)) < p2 then (nI (alC s52 p1)) else p2) : Int32).toInt = x.2 := by
    have q : (nI (alC s52 p1)).toInt = 2500 := nI_25 (by rw [← hs52]; exact hal)
    by_cases hq : nI (alC s52 p1) < p2
    · have q2 := ltI hq
      have q3 := hx.1
      exfalso
      omega
    · rw [if_neg hq]
      exact hx.1.symm
  have e7 : fRC s56 p0 307 = some p1 := by rw [← hs56, ← hs54, ← hs52]; show fRC (pRC σ p0 307 (some p1)) p0 307 = _; exact pR_e
  have ek : ∀ b, b ≠ 307 → fRC s56 p0 b = fRC σ p0 b := fun b hb => by rw [← hs56, ← hs54, ← hs52]; exact pR_k hb
  have e5 : (fIC s56 p0 305).toInt = 0 := by rw [← hs56, pI_e]; rfl
  have e8 : (fIC s56 p0 308).toInt = x.2 := by rw [← hs56, pI_n (by decide), ← hs54, pI_e]; exact hmn
  have ee : eIC s56 = eIC σ ∧ eLC s56 = eLC σ ∧ cnC s56 = cnC σ := by rw [← hs56, ← hs54, ← hs52]; exact ⟨rfl, rfl, rfl⟩
  have hR56 : WtR x p0 p1 a4 a0 a1 a2 a3 a6 s56 0 := ⟨⟨⟨(ek 304 (by decide)).trans ea4, e7, (ek 306 (by decide)).trans ea6⟩, (ek 300 (by decide)).trans ea0, (ek 301 (by decide)).trans ea1, (ek 302 (by decide)).trans ea2, (ek 303 (by decide)).trans ea3⟩, ⟨e5, ⟨e8, fun a ha j hj => by
    obtain rfl : p1 = a := Option.some.inj (e7.symm.trans ha)
    rw [ee.1]
    exact hx.2.1 j hj, hx.2.2⟩, fun c hc j hj => by
    rw [ek 306 (by decide)] at hc
    rw [ee.2.1]
    exact hwd c hc j hj⟩, fun j hj => absurd hj (Nat.not_lt_zero _), by rw [ee.2.2]; exact ta4.1, by rw [ee.2.2]; exact ta6.1⟩
  have c57 : (Int32.ofInt 1).toInt = 1 := by decide
  have c58 : (Int32.ofInt 0).toInt = 0 := by decide
  intro w59 τ59 o59 q59
  obtain ⟨hb59, hu59⟩ : Q_X9_behindBlanks [.inr (.inr (some p0)), .inl (Int32.ofInt 0)] s56 w59 τ59 ∧ ∀ x, Pp_byteAt x [.inr (.inr (some p0)), .inl (Int32.ofInt 0)] s56 → Qp_behindBlanks x [.inr (.inr (some p0)), .inl (Int32.ofInt 0)] s56 w59 τ59 := o59.1.1
  obtain ⟨r59, rfl, rfl, hz59, -⟩ := hb59
  have b59 : r59.toInt = skY x 0 := (hu59 x hR56.2.1.2.1 r59 rfl).trans (congrArg (skY x) (by omega))
  try dsimp only [Option.toList, List.cons_append, List.nil_append, s1C, s2C, dlC, kyC, Nat.beq, lkC, rcd, rno, rsw]
  exact hW _ 29 [(0, .inr (.inr (some p0))), (3, .inl (Int32.ofInt 1)), (4, .inl r59)] _ _ _ (List.forall_mem_cons.2 ⟨List.Mem.tail _ (List.Mem.tail _ (List.Mem.head _)), List.forall_mem_cons.2 ⟨List.Mem.tail _ (List.Mem.head _), List.forall_mem_cons.2 ⟨List.Mem.head _, fun _ h => absurd h List.not_mem_nil⟩⟩⟩) (L29 _ _ 0 _ _ hR56 (by omega) ⟨by omega, b59⟩)
theorem wz_cutText : ∀ (L : Nat) (As : List AvC) (σ : CsC) (w : Option AvC) (τ : CsC), EvF L 188 As σ w τ → Uz_cutText As σ w τ := by
  intro L
  cases L with
  | zero => exact fun _ _ _ _ h => h.elim
  | succ L => exact fun As σ w τ h y hy => EvF.us (cs := [190, 191]) (pz_cutText y) rfl (List.forall_mem_cons.2 ⟨fun _ _ _ _ _ => trivial, List.forall_mem_cons.2 ⟨wz_cutOne L, fun _ h => absurd h List.not_mem_nil⟩⟩) h hy
