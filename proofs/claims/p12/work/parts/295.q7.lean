theorem XoC.l1 {N : Int → Int} {A : Nat → Nat} {σ : CsC} {x : XrZ} {i o : Nat} {v : Int32} (h : XoC N A σ x i o) (hv : v.toInt = 1) : XoC N A (pIC σ o 67 v) (x.1, (x.2.1.1, 1, x.2.1.2.2), x.2.2) i o := by
  obtain ⟨⟨⟨a1, a2, a3, a4⟩, ⟨b1, b2, b3⟩, c⟩, ⟨d1, d2, d3⟩, e1, e2⟩ := h
  exact ⟨⟨⟨by rw [pI_n (by decide)]; exact a1, by rw [pI_n (by decide)]; exact a2, by rw [pI_n (by decide)]; exact a3, by rw [pI_n (by decide)]; exact a4⟩, ⟨by rw [pI_n (by decide)]; exact b1, by rw [pI_e]; exact hv, by rw [pI_n (by decide)]; exact b3⟩, c⟩, ⟨by rw [pI_n (by decide)]; exact d1, by rw [pI_n (by decide)]; exact d2, d3⟩, by rw [pI_n (by decide)]; exact e1, by rw [pI_n (by decide)]; exact e2⟩
theorem hd_in {z : ZS} (h : hdK z = 0) : ∃ x l, z.2.1 = .inl x :: l ∧ x.1.1 = 0 := by
  unfold hdK at h
  split at h
  · rename_i x l e
    exact ⟨x, l, e, h⟩
  · cases h
theorem lk_top {z : ZS} {x : XrZ} {l : List ItZ} (e : z.2.1 = .inl x :: l) : lk1 z = (z.1, .inl (x.1, (x.2.1.1, 1, x.2.1.2.2), x.2.2) :: l, z.2.2) ∧ xnM z = xcZ l + 1 ∧ xnM (lk1 z) = xnM z ∧ xth z (xcZ l) = x := by
  obtain ⟨a, b, c⟩ := z
  cases e
  exact ⟨rfl, rfl, rfl, if_pos rfl⟩
theorem clp_h {E : ZS → ZS} {r : Int × Int} : ∀ (f : Nat) (l : List Int) (z : ZS), ∃ x t, (clpM E r f l z).2.1 = .inl x :: t := by
  intro f
  induction f with
  | zero => intro l z; exact ⟨_, _, rfl⟩
  | succ f ih =>
    intro l z
    rw [clpM]
    split
    · exact ih _ _
    · exact ⟨_, _, rfl⟩
theorem oh_1 {N : Int → Int} {m : Nat} {z : ZS} (h : zFt (oM N m 0 z).1 = 0) : ∃ x t, (oM N m 0 z).2.1 = .inl x :: t := by
  cases m with
  | zero => exact absurd h (raiY_z (by decide))
  | succ m =>
    show ∃ x t, (oprM N m (eM N m) (oM N m) 0 z).2.1 = .inl x :: t
    have h : zFt (oprM N m (eM N m) (oM N m) 0 z).1 = 0 := h
    unfold oprM at h ⊢
    by_cases c1 : codY z.1 = 34 ∨ codY z.1 = 35 ∨ codY z.1 = 39 ∨ codY z.1 = 40
    · rw [if_pos c1]; exact ⟨_, _, rfl⟩
    rw [if_neg c1] at h ⊢
    by_cases c2 : codY z.1 = 41 ∨ codY z.1 = 42
    · rw [if_pos c2]; exact ⟨_, _, rfl⟩
    rw [if_neg c2] at h ⊢
    by_cases c3 : codY z.1 = 0
    · rw [if_pos c3]
      unfold op2M
      by_cases c : 50 ≤ codY (accM z).1 ∧ codY (accM z).1 ≤ 54
      · rw [if_pos c]; exact ⟨_, _, rfl⟩
      · rw [if_neg c]; exact ⟨_, _, rfl⟩
    rw [if_neg c3] at h ⊢
    by_cases c4 : codY z.1 = 80
    · rw [if_pos c4] at h ⊢
      unfold nmeM at h ⊢
      by_cases d1 : cobY z.1 = 0
      · rw [if_pos d1] at h ⊢
        unfold ca2M at h ⊢
        by_cases d2 : m = 0
        · rw [if_pos d2] at h
          exact absurd ((gd_xp (c := 1) _).z h) (raiY_z (by decide))
        · rw [if_neg d2] at h ⊢
          by_cases d3 : codY (accM (accM z)).1 = 1
          · rw [if_pos d3]; exact ⟨_, _, rfl⟩
          · rw [if_neg d3]; exact clp_h _ _ _
      · rw [if_neg d1]
        by_cases d2 : cobY z.1 = 41 ∨ cobY z.1 = 42
        · rw [if_pos d2]; exact ⟨_, _, rfl⟩
        · rw [if_neg d2]; exact ⟨_, _, rfl⟩
    rw [if_neg c4] at h ⊢
    by_cases c5 : codY z.1 = 81 ∨ codY z.1 = 82 ∨ codY z.1 = 83 ∨ codY z.1 = 72 ∨ codY z.1 = 73
    · rw [if_pos c5]; exact ⟨_, _, rfl⟩
    · rw [if_neg c5] at h
      exact absurd h (raiY_z (by decide))
theorem ZC.inj {N : Int → Int} {E A B V : Nat → Nat} {σ : CsC} {z : ZS} {i j : Nat} (h : ZC N E A B V σ z) (hi : i < xnM z) (hj : j < xnM z) (e : A i = A j) : i = j := by
  have a := (h.2.2.2.2.1.1 i hi).1.2.2.2
  have b := (h.2.2.2.2.1.1 j hj).1.2.2.2
  rw [e, b] at a
  omega
theorem LsX.z {N : Int → Int} {A : Nat → Nat} {n0 : Nat} {σ : CsC} {z z' : ZS} {X : LoT} (h : LsX N A n0 σ z X) (e : xnM z' = xnM z) : LsX N A n0 σ z' X := by
  unfold LsX at *
  rw [e]
  exact h
theorem FzC.l1 {n m : Nat} {E A A' B B' V V' : Nat → Nat} {z z' : ZS} {σ τ : CsC} {v : Int32} {x : XrZ} {l : List ItZ} (h : FzC n m E A A' B B' V V' z z' σ τ) (e : z'.2.1 = .inl x :: l) (hl : xnM z < xnM z') : FzC n m E A A' B B' V V' z (lk1 z') σ (pIC τ (A' (xcZ l)) 67 v) := by
  obtain ⟨p1, p2, ⟨⟨p3, p4⟩, p5⟩, p6⟩ := h
  obtain ⟨e1, e2, e3, e4⟩ := lk_top e
  have hn : n ≤ A' (xcZ l) := (p5 (xcZ l) (by omega) (by omega)).1
  have old : ∀ i, i < xcZ l → xth (lk1 z') i = xth z' i := fun i hi => by
    obtain ⟨za, zb, zc⟩ := z'
    cases e
    exact (if_neg (Nat.ne_of_lt hi)).trans (if_neg (Nat.ne_of_lt hi)).symm
  have top : (xth (lk1 z') (xcZ l)).2.2.1.1 = (xth z' (xcZ l)).2.2.1.1 := by
    obtain ⟨za, zb, zc⟩ := z'
    cases e
    show (if xcZ l = xcZ l then _ else _ : XrZ).2.2.1.1 = (if xcZ l = xcZ l then _ else _ : XrZ).2.2.1.1
    rw [if_pos rfl, if_pos rfl]
  refine ⟨p1, fun o ho k hk => ?_, ⟨⟨by rw [e3]; exact p3, fun i hi => ⟨(p4 i hi).1, (old i (by omega)).trans (p4 i hi).2⟩⟩, fun i h1 h2 => ?_⟩, ?_⟩
  · have q := p2 o ho k hk
    exact ⟨(u2C_na (by omega)).trans q.1, q.2⟩
  · rw [e3] at h2
    have q := p5 i h1 h2
    by_cases c : i < xcZ l
    · rw [old i c]; exact q
    · obtain rfl : i = xcZ l := by omega
      exact ⟨q.1, by rw [top]; exact q.2⟩
  · rw [e1]
    exact p6
theorem up_l {A : Nat → Nat} {z : ZS} {x : XrZ} {o : Nat} : upA A (xnM z) o (xnM (puM x z) - 1) = o := by
  show upA A (xnM z) o (xnM z + 1 - 1) = o
  rw [Nat.add_sub_cancel]
  exact upA_e
theorem ExQ.pu {N : Int → Int} {E A A' B V : Nat → Nat} {z z' z3 : ZS} {σ τ : CsC} {x : XrZ} {o : Nat} (e : z' = puM x z3) (hZ : ZC N E (upA A' (xnM z3) o) B V τ (puM x z3)) (hF : FzC (cnC σ) (xnM z) E A (upA A' (xnM z3) o) B B V V z (puM x z3) σ τ) (hn : fRC τ o 75 = none) (h1 : x.1.2.2.1 = zAt z.1) (h2 : x.2.2.1.1 = (xnM z : Int)) (hl : xnM z ≤ xnM z3) : ExQ N E A B V z z' σ (some (.inr (.inr (some o)))) τ := by
  subst e
  have q := (hZ.2.2.2.2.1.1 (xnM z3) (Nat.lt_succ_self _)).1
  rw [upA_e, xth_n] at q
  refine ⟨_, by rw [up_l], hZ, hF, ?_, Nat.lt_succ_of_le hl⟩
  rw [up_l]
  exact ⟨q.1.1.2.2.1.trans h1, q.1.1.2.2.2.trans h2, hn⟩
set_option maxHeartbeats 4000000 in
theorem pz_readAlone (y : (Int → Int) × (Nat → Nat) × (Nat → Nat) × (Nat → Nat) × (Nat → Nat) × ZS × Nat) : PbC KX7_readAlone [(125, TrP, EqC 125), (162, TrP, EqC 162), (128, TrP, EqC 128), (171, TrP, EqC 171), (161, TrP, EqC 161)] [(125, Uz_code), (162, Uz_opened), (128, Uz_accept), (171, Uz_readInnerOperand), (161, Uz_put)] (fun As σ => Pz_readAlone y As σ ∧ cnC σ ≤ 1000000 ∧ ∃ w τ, uqC quL 172 As σ w τ) (Qz_readAlone y) := by
  obtain ⟨N, E, A, B, V, z, n⟩ := y
  rintro As σ ⟨⟨p1, rfl, hZ, hd, hn, hca, hft⟩, hcn, _, _, hQ⟩ K hB hW n_
  have hH : HI0 σ ∧ TyC σ (E 0) 8 := hQ
  have hat := hZ.at0 hH
  obtain ⟨m, rfl⟩ : ∃ m, n = m + 1 := ⟨n - 1, by omega⟩
  have hfo : zFt (oY m (accY z.1)) = 0 := by
    have h9 : zFt (oM N m (ngZ (codY z.1)) (accM z)).1 = 0 := hft
    rw [lf_o] at h9
    exact h9
  have hfz : zFt (oM N m 0 (accM z)).1 = 0 := by rw [lf_o]; exact hfo
  have hfa : zFt (accM z).1 = 0 := (gd_o _).z hfo
  obtain ⟨x9, t9, e9⟩ := oh_1 hfz
  obtain ⟨i1, i2, i3, i4⟩ := lk_top e9
  have hk9 : hdK (oM N m 0 (accM z)) = x9.1.1 := by unfold hdK; rw [e9]
  have hx9 : xth (oM N m 0 (accM z)) (xnM (oM N m 0 (accM z)) - 1) = x9 := by rw [show xnM (oM N m 0 (accM z)) - 1 = xcZ t9 by omega]; exact i4
  change K n_ 0 [(0, .inr (.inr (some (E 0)))), (1, .inl p1)] [] σ
  refine hB _ _ _ _ _ (fun m51 hm51 => ?_)
  dsimp only [ucgo, ucwp, ucsC, uqC, uoC, ctC, rfd, KX7_readAlone, KX7_readAlone_0, KX7_readAlone_34, KX7_readAlone_44, KX7_readAlone_52, lkC, s1C, s2C, dlC, kyC, Nat.beq, Nat.ble, rcd, rno, rsw, Nat.reduceAdd, Nat.reduceBEq, Nat.reduceDiv, List.drop, List.take, List.reverse, List.reverseAux, Int.toNat, Option.toList, List.append, List.cons_append, List.nil_append, zg60, zg61, zg72]
  have c52 : (Int32.ofInt 4).toInt = 4 := by decide
  intro w53 τ53 o53 q53
  obtain ⟨c53, rfl, hc53, rfl⟩ := q53 (N, E, A, B, V, z) ⟨rfl, hZ⟩
  try dsimp only [Option.toList, List.cons_append, List.nil_append, s1C, s2C, dlC, kyC, Nat.beq, lkC, rcd, rno, rsw]
  intro w54 τ54 o54 q54
  obtain ⟨rfl, hZ54, hf54, hnw54⟩ := q54 (N, E, A, B, V, z, 4, (codY z.1)) ⟨_, _, rfl, hZ, by omega, by omega⟩
  have hF54 := FzC.tr (FzC.rf (n := cnC σ) (m := xnM z) (E := E) (A := A) (B := B) (V := V) (z := z) (σ := σ)) (FzC.mo hf54 (Nat.le_refl (cnC σ)) ((FzC.rf (n := cnC σ) (m := xnM z) (E := E) (A := A) (B := B) (V := V) (z := z) (σ := σ))).2.2.1.1.1)
  have hL54 := LsX.fz (LsX.nil (N := N) (A := A) (n0 := cnC σ) (σ := σ) (z := z)) hf54
  have hle54 : cnC σ ≤ cnC τ54 := Nat.le_trans (Nat.le_refl (cnC σ)) (hf54).1
  have hLn54 : LsX N A (cnC σ) τ54 z [((cnC σ), (recZ 4 (codY z.1) (zAt z.1) 0 (zAt z.1) (-1) 0 (xnM z) (-1) (-1) (-1) (-1) []), none)] := LsX.nw hL54 (fun q hq => ((LsX.nil (N := N) (A := A) (n0 := cnC σ) (σ := σ) (z := z)).1 q hq).1.2.1) hnw54 (Nat.le_refl (cnC σ)) opX_o (by show ¬ ((4 : Int) = 0 ∨ (4 : Int) = 1); omega) (fun i hi => (hZ.2.2.2.1.1.2 i hi).2)
  try dsimp only [Option.toList, List.cons_append, List.nil_append, s1C, s2C, dlC, kyC, Nat.beq, lkC, rcd, rno, rsw]
  intro w55 τ55 o55 q55
  obtain ⟨rfl, hZ55, hf55⟩ := q55 (N, E, A, B, V, z) ⟨rfl, hZ54, hfa⟩
  have hF55 := FzC.tr hF54 (FzC.mo hf55 hle54 (hF54).2.2.1.1.1)
  have hL55 := LsX.fz hLn54 hf55
  have hle55 : cnC σ ≤ cnC τ55 := Nat.le_trans hle54 (hf55).1
  try dsimp only [Option.toList, List.cons_append, List.nil_append, s1C, s2C, dlC, kyC, Nat.beq, lkC, rcd, rno, rsw]
  have c56 : (Int32.ofInt 1).toInt = 1 := by decide
  have u57 := tiC p1
  have a57 : (p1 + (Int32.ofInt 1)).toInt = p1.toInt + 1 := addC (by omega) (by omega) (by omega)
  intro w58 τ58 o58 q58
  obtain ⟨A58, rfl, hZ58, hf58, ht58, hx58⟩ : ExQ N E A B V (accM z) (oM N m 0 (accM z)) τ55 w58 τ58 := q58 (N, E, A, B, V, (accM z), m) ⟨_, rfl, hZ55, by omega, hfz⟩
  have hF58 := FzC.tr hF55 (FzC.mo hf58 hle55 (hF55).2.2.1.1.1)
  have hL58 := LsX.fz hL55 hf58
  have hle58 : cnC σ ≤ cnC τ58 := Nat.le_trans hle55 (hf58).1
  try dsimp only [Option.toList, List.cons_append, List.nil_append, s1C, s2C, dlC, kyC, Nat.beq, lkC, rcd, rno, rsw]
  intro a59 e59 ob59 fk59
  cases e59
  clear fk59 ob59
  generalize hs59 : pRC τ58 (cnC σ) 72 (some (A58 (xnM (oM N m 0 (accM z)) - 1))) = s59
  have hx59 : XfE τ58 s59 := by rw [← hs59]; exact XfE.pR (by decide)
  have hra59 : ∀ a, a ≠ (cnC σ) → ∀ k, fIC s59 a k = fIC τ58 a k ∧ fLC s59 a k = fLC τ58 a k ∧ fRC s59 a k = fRC τ58 a k := by rw [← hs59]; exact rR_a
  have hZ59 := ZC.lo hZ58 hL58 hx59 hra59
  have hF59 := FzC.tr hF58 (FzC.lo (n := cnC σ) (m := xnM z) (E := E) (B := B) (V := V) hL58 (Nat.le_refl _) hx59 hra59)
  have hL59 : LsX N A58 (cnC σ) s59 (oM N m 0 (accM z)) [((cnC σ), (recZ 4 (codY z.1) (zAt z.1) 0 (zAt z.1) (-1) 0 (xnM z) ((xnM (oM N m 0 (accM z)) : Int) - 1) (-1) (-1) (-1) []), none)] := by rw [← hs59]; exact LsX.s72 hL58 (opA_p (by omega)).symm (by omega)
  have hle59 : cnC σ ≤ cnC s59 := by rw [hx59.2.2]; exact hle58
  intro a60 e60 ob60
  cases e60
  have f61 : (fIC s59 (cnC σ) 61).toInt = (codY z.1) := (LsX.hd hL59).1.2.1.1.2.1
  have c62 : (Int32.ofInt 35).toInt = 35 := by decide
  refine ⟨fun h63 => ?_, fun h63 => ?_⟩
  · have g63 := (neI (x := (fIC s59 (cnC σ) 61)) (y := (Int32.ofInt 35)) h63 : ¬ ((fIC s59 (cnC σ) 61) : Int32).toInt = ((Int32.ofInt 35) : Int32).toInt)
    refine hB _ _ _ _ _ (fun m64 hm64 => ?_)
    dsimp only [ucgo, ucwp, ucsC, uqC, uoC, ctC, rfd, KX7_readAlone, KX7_readAlone_0, KX7_readAlone_34, KX7_readAlone_44, KX7_readAlone_52, lkC, s1C, s2C, dlC, kyC, Nat.beq, Nat.ble, rcd, rno, rsw, Nat.reduceAdd, Nat.reduceBEq, Nat.reduceDiv, List.drop, List.take, List.reverse, List.reverseAux, Int.toNat, Option.toList, List.append, List.cons_append, List.nil_append, zg60, zg61, zg72]
    intro w65 τ65 o65 q65
    have hh65 := LsX.hd hL59
    obtain ⟨rfl, hZ65, hpo65, hnx65⟩ := q65 (N, E, A58, B, V, (oM N m 0 (accM z)), (recZ 4 (codY z.1) (zAt z.1) (zAt (oM N m 0 (accM z)).1 - 1) (zAt z.1) (-1) 0 (xnM z) ((xnM (oM N m 0 (accM z)) : Int) - 1) (-1) (-1) (-1) [])) ⟨_, rfl, hZ59, ⟨hh65.1.1.2, hh65.1.2.1, hh65.1.2.2.1⟩, rfl, ⟨fun a ha => absurd ha List.not_mem_nil, trivial⟩⟩
    have hnx65 := hnx65.trans hh65.1.2.2.2
    have hF65 := FzC.tr hF59 (FzC.pu (x := (recZ 4 (codY z.1) (zAt z.1) (zAt (oM N m 0 (accM z)).1 - 1) (zAt z.1) (-1) 0 (xnM z) ((xnM (oM N m 0 (accM z)) : Int) - 1) (-1) (-1) (-1) [])) hpo65 hh65.1.1.1 hle59 (Int.le_refl _) hZ59.1.2.2.2.2.2.1.2.1)
    have hL65 := LsX.pu (x := (recZ 4 (codY z.1) (zAt z.1) (zAt (oM N m 0 (accM z)).1 - 1) (zAt z.1) (-1) 0 (xnM z) ((xnM (oM N m 0 (accM z)) : Int) - 1) (-1) (-1) (-1) [])) hh65.2.1 hpo65 hh65.2.2
    have hle65 : cnC σ ≤ cnC τ65 := Nat.le_trans hle59 hpo65.1
    try dsimp only [Option.toList, List.cons_append, List.nil_append, s1C, s2C, dlC, kyC, Nat.beq, lkC, rcd, rno, rsw]
    try dsimp only [Qz_readAlone]
    exact ExQ.pu (by show aleM (codY z.1) (rbM z) (oM N m (ngZ (codY z.1)) (accM z)) = _; rw [show oM N m (ngZ (codY z.1)) (accM z) = oM N m 0 (accM z) from (by by_cases q9 : codY z.1 = 35; rw [show ngZ (codY z.1) = 1 from if_pos q9, ol_1 hfz, if_neg (by omega)]; rw [show ngZ (codY z.1) = 0 from if_neg q9])]; rfl) hZ65 hF65 hnx65 rfl rfl (by have := hx58; have e8 : xnM (accM z) = xnM z := rfl; omega)
  · have g63 := (eqI (x := (fIC s59 (cnC σ) 61)) (y := (Int32.ofInt 35)) h63 : ((fIC s59 (cnC σ) 61) : Int32).toInt = ((Int32.ofInt 35) : Int32).toInt)
    refine hB _ _ _ _ _ (fun m66 hm66 => ?_)
    dsimp only [ucgo, ucwp, ucsC, uqC, uoC, ctC, rfd, KX7_readAlone, KX7_readAlone_0, KX7_readAlone_34, KX7_readAlone_44, KX7_readAlone_52, lkC, s1C, s2C, dlC, kyC, Nat.beq, Nat.ble, rcd, rno, rsw, Nat.reduceAdd, Nat.reduceBEq, Nat.reduceDiv, List.drop, List.take, List.reverse, List.reverseAux, Int.toNat, Option.toList, List.append, List.cons_append, List.nil_append, zg60, zg61, zg72]
    intro a67 e67 ob67
    cases e67
    intro a68 e68 ob68
    obtain rfl : A58 (xnM (oM N m 0 (accM z)) - 1) = a68 := Option.some.inj (((LsX.hd hL59).1.2.1.2.2.1.trans (opA_p (by omega))).symm.trans e68)
    have hk69 : (fIC s59 (A58 (xnM (oM N m 0 (accM z)) - 1)) 60).toInt = x9.1.1 := by rw [← hx9]; exact (hZ59.2.2.2.2.1.1 (xnM (oM N m 0 (accM z)) - 1) (by omega)).1.1.1.1
    refine ⟨fun h70 => ?_, fun h70 => ?_⟩
    · have g70 := (neI (x := (fIC s59 (A58 (xnM (oM N m 0 (accM z)) - 1)) 60)) (y := 0) h70 : ¬ ((fIC s59 (A58 (xnM (oM N m 0 (accM z)) - 1)) 60) : Int32).toInt = (0 : Int32).toInt)
      have z0_ : (0 : Int32).toInt = 0 := rfl
      refine hB _ _ _ _ _ (fun m71 hm71 => ?_)
      dsimp only [ucgo, ucwp, ucsC, uqC, uoC, ctC, rfd, KX7_readAlone, KX7_readAlone_0, KX7_readAlone_34, KX7_readAlone_44, KX7_readAlone_52, lkC, s1C, s2C, dlC, kyC, Nat.beq, Nat.ble, rcd, rno, rsw, Nat.reduceAdd, Nat.reduceBEq, Nat.reduceDiv, List.drop, List.take, List.reverse, List.reverseAux, Int.toNat, Option.toList, List.append, List.cons_append, List.nil_append, zg60, zg61, zg72]
      intro w72 τ72 o72 q72
      have hh72 := LsX.hd hL59
      obtain ⟨rfl, hZ72, hpo72, hnx72⟩ := q72 (N, E, A58, B, V, (oM N m 0 (accM z)), (recZ 4 (codY z.1) (zAt z.1) (zAt (oM N m 0 (accM z)).1 - 1) (zAt z.1) (-1) 0 (xnM z) ((xnM (oM N m 0 (accM z)) : Int) - 1) (-1) (-1) (-1) [])) ⟨_, rfl, hZ59, ⟨hh72.1.1.2, hh72.1.2.1, hh72.1.2.2.1⟩, rfl, ⟨fun a ha => absurd ha List.not_mem_nil, trivial⟩⟩
      have hnx72 := hnx72.trans hh72.1.2.2.2
      have hF72 := FzC.tr hF59 (FzC.pu (x := (recZ 4 (codY z.1) (zAt z.1) (zAt (oM N m 0 (accM z)).1 - 1) (zAt z.1) (-1) 0 (xnM z) ((xnM (oM N m 0 (accM z)) : Int) - 1) (-1) (-1) (-1) [])) hpo72 hh72.1.1.1 hle59 (Int.le_refl _) hZ59.1.2.2.2.2.2.1.2.1)
      have hL72 := LsX.pu (x := (recZ 4 (codY z.1) (zAt z.1) (zAt (oM N m 0 (accM z)).1 - 1) (zAt z.1) (-1) 0 (xnM z) ((xnM (oM N m 0 (accM z)) : Int) - 1) (-1) (-1) (-1) [])) hh72.2.1 hpo72 hh72.2.2
      have hle72 : cnC σ ≤ cnC τ72 := Nat.le_trans hle59 hpo72.1
      try dsimp only [Option.toList, List.cons_append, List.nil_append, s1C, s2C, dlC, kyC, Nat.beq, lkC, rcd, rno, rsw]
      try dsimp only [Qz_readAlone]
      exact ExQ.pu (by show aleM (codY z.1) (rbM z) (oM N m (ngZ (codY z.1)) (accM z)) = _; rw [show oM N m (ngZ (codY z.1)) (accM z) = oM N m 0 (accM z) from (by by_cases q9 : codY z.1 = 35; rw [show ngZ (codY z.1) = 1 from if_pos q9, ol_1 hfz, if_neg (by omega)]; rw [show ngZ (codY z.1) = 0 from if_neg q9])]; rfl) hZ72 hF72 hnx72 rfl rfl (by have := hx58; have e8 : xnM (accM z) = xnM z := rfl; omega)
    · have g70 := (eqI (x := (fIC s59 (A58 (xnM (oM N m 0 (accM z)) - 1)) 60)) (y := 0) h70 : ((fIC s59 (A58 (xnM (oM N m 0 (accM z)) - 1)) 60) : Int32).toInt = (0 : Int32).toInt)
      have z0_ : (0 : Int32).toInt = 0 := rfl
      refine hB _ _ _ _ _ (fun m73 hm73 => ?_)
      dsimp only [ucgo, ucwp, ucsC, uqC, uoC, ctC, rfd, KX7_readAlone, KX7_readAlone_0, KX7_readAlone_34, KX7_readAlone_44, KX7_readAlone_52, lkC, s1C, s2C, dlC, kyC, Nat.beq, Nat.ble, rcd, rno, rsw, Nat.reduceAdd, Nat.reduceBEq, Nat.reduceDiv, List.drop, List.take, List.reverse, List.reverseAux, Int.toNat, Option.toList, List.append, List.cons_append, List.nil_append, zg60, zg61, zg72]
      intro a74 e74 ob74
      cases e74
      have c75 : (Int32.ofInt 1).toInt = 1 := by decide
      intro a76 e76 ob76 fk76
      obtain rfl : A58 (xnM (oM N m 0 (accM z)) - 1) = a76 := Option.some.inj (((LsX.hd hL59).1.2.1.2.2.1.trans (opA_p (by omega))).symm.trans e76)
      clear fk76 ob76
      generalize hs76 : pIC s59 (A58 (xnM (oM N m 0 (accM z)) - 1)) 67 (Int32.ofInt 1) = s76
      have ei76 : xnM (oM N m 0 (accM z)) - 1 = xcZ t9 := by omega
      rw [ei76] at hs76
      have hx76 : XfE s59 s76 := by rw [← hs76]; exact XfE.pI (by decide)
      have hZ76 : ZC N E A58 B V s76 (lk1 (oM N m 0 (accM z))) := by
        rw [i1]
        refine ZC.tp hZ59 e9 hx76 (fun i hi k => by rw [← hs76]; exact rI_a _ (fun q => absurd (hZ59.inj (by omega) (by omega) q) (by omega)) k) ⟨?_, ?_⟩ ⟨rfl, rfl⟩
        · have q := (hZ59.2.2.2.2.1.1 (xcZ t9) (by omega)).1
          rw [i4] at q
          rw [← hs76]
          exact q.l1 (by omega)
        · have q := (hZ59.2.2.2.2.1.1 (xcZ t9) (by omega)).2
          rw [i4] at q
          have q2 : oprX x9 (xcZ t9 + 1) := by rw [← i2]; exact q
          exact q2
      have hF76 : FzC (cnC σ) (xnM z) E A A58 B B V V z (lk1 (oM N m 0 (accM z))) σ s76 := by rw [← hs76]; exact FzC.l1 hF59 e9 hx58
      have hL76 := LsX.z (LsX.xf (τ := s76) hL59 (fun q hq k => by rw [← hs76]; exact rI_a _ (fun e => ((hL59).1 q hq).1.2.2.2 (xcZ t9) (by omega) e.symm) k) (Nat.le_of_eq hx76.2.2.symm)) i3
      have hle76 : cnC σ ≤ cnC s76 := by rw [hx76.2.2]; exact hle59
      refine hB _ _ _ _ _ (fun m77 hm77 => ?_)
      dsimp only [ucgo, ucwp, ucsC, uqC, uoC, ctC, rfd, KX7_readAlone, KX7_readAlone_0, KX7_readAlone_34, KX7_readAlone_44, KX7_readAlone_52, lkC, s1C, s2C, dlC, kyC, Nat.beq, Nat.ble, rcd, rno, rsw, Nat.reduceAdd, Nat.reduceBEq, Nat.reduceDiv, List.drop, List.take, List.reverse, List.reverseAux, Int.toNat, Option.toList, List.append, List.cons_append, List.nil_append, zg60, zg61, zg72]
      intro w78 τ78 o78 q78
      have hh78 := LsX.hd hL76
      obtain ⟨rfl, hZ78, hpo78, hnx78⟩ := q78 (N, E, A58, B, V, (lk1 (oM N m 0 (accM z))), (recZ 4 (codY z.1) (zAt z.1) (zAt (lk1 (oM N m 0 (accM z))).1 - 1) (zAt z.1) (-1) 0 (xnM z) ((xnM (oM N m 0 (accM z)) : Int) - 1) (-1) (-1) (-1) [])) ⟨_, rfl, hZ76, ⟨hh78.1.1.2, hh78.1.2.1, hh78.1.2.2.1⟩, rfl, ⟨fun a ha => absurd ha List.not_mem_nil, trivial⟩⟩
      have hnx78 := hnx78.trans hh78.1.2.2.2
      have hF78 := FzC.tr hF76 (FzC.pu (x := (recZ 4 (codY z.1) (zAt z.1) (zAt (lk1 (oM N m 0 (accM z))).1 - 1) (zAt z.1) (-1) 0 (xnM z) ((xnM (oM N m 0 (accM z)) : Int) - 1) (-1) (-1) (-1) [])) hpo78 hh78.1.1.1 hle76 (Int.le_refl _) hZ76.1.2.2.2.2.2.1.2.1)
      have hL78 := LsX.pu (x := (recZ 4 (codY z.1) (zAt z.1) (zAt (lk1 (oM N m 0 (accM z))).1 - 1) (zAt z.1) (-1) 0 (xnM z) ((xnM (oM N m 0 (accM z)) : Int) - 1) (-1) (-1) (-1) [])) hh78.2.1 hpo78 hh78.2.2
      have hle78 : cnC σ ≤ cnC τ78 := Nat.le_trans hle76 hpo78.1
      try dsimp only [Option.toList, List.cons_append, List.nil_append, s1C, s2C, dlC, kyC, Nat.beq, lkC, rcd, rno, rsw]
      try dsimp only [Qz_readAlone]
      exact ExQ.pu (by show aleM (codY z.1) (rbM z) (oM N m (ngZ (codY z.1)) (accM z)) = _; rw [show ngZ (codY z.1) = 1 from if_pos (by omega), ol_1 hfz, if_pos (by omega)]; unfold aleM alnZ; rw [i3]; rfl) hZ78 hF78 hnx78 rfl rfl (by have := hx58; have e8 : xnM (accM z) = xnM z := rfl; have e7 := i3; omega)
set_option maxHeartbeats 4000000 in
theorem pz_readBehindOpen (y : (Int → Int) × (Nat → Nat) × (Nat → Nat) × (Nat → Nat) × (Nat → Nat) × ZS × Nat) : PbC KX7_readBehindOpen [(234, TrP, EqC 234), (128, TrP, EqC 128), (125, TrP, EqC 125), (132, TrP, EqC 132), (17, TrP, EqC 17), (164, TrP, EqC 164), (129, TrP, EqC 129), (161, TrP, EqC 161), (136, TrP, EqC 136), (171, TrP, EqC 171)] [(128, Uz_accept), (125, Uz_code), (132, Uz_isType), (17, Uz_Exp), (164, Uz_readExp), (129, Uz_expect), (161, Uz_put), (136, Uz_readType), (171, Uz_readInnerOperand)] (fun As σ => Pz_readBehindOpen y As σ ∧ cnC σ ≤ 1000000 ∧ ∃ w τ, uqC quL 174 As σ w τ) (Qz_readBehindOpen y) := by
  obtain ⟨N, E, A, B, V, z, n⟩ := y
  rintro As σ ⟨⟨p1, rfl, hZ, hd, hn, hc0, hft⟩, hcn, _, _, hQ⟩ K hB hW n_
  have hH : HI0 σ ∧ TyC σ (E 0) 8 := hQ
  have hat := hZ.at0 hH
  obtain ⟨m, rfl⟩ : ∃ m, n = m + 1 := ⟨n - 1, by omega⟩
  have hfa : zFt (accM z).1 = 0 := by
    have h9 := hft
    unfold op2M at h9
    by_cases q : 50 ≤ codY (accM z).1 ∧ codY (accM z).1 ≤ 54
    · rw [if_pos q] at h9
      have h8 : zFt (oM N m 0 (xpM 1 (typM (accM z)))).1 = 0 := h9
      rw [lf_o] at h8
      exact (gd_typ _).z ((gd_xp (c := 1) _).z ((gd_o _).z h8))
    · rw [if_neg q] at h9
      have h8 : zFt (xpY 1 (eM N m (accM z)).1) = 0 := h9
      have h7 := (gd_xp (c := 1) _).z h8
      rw [lf_e] at h7
      exact (gd_e _).z h7
  have k1 : (50 ≤ codY (accM z).1 ∧ codY (accM z).1 ≤ 54) → zFt (typM (accM z)).1 = 0 ∧ zFt (xpM 1 (typM (accM z))).1 = 0 ∧ zFt (oM N m 0 (xpM 1 (typM (accM z)))).1 = 0 := fun q => by
    have h9 := hft
    unfold op2M at h9
    rw [if_pos q] at h9
    have h8 : zFt (oM N m 0 (xpM 1 (typM (accM z)))).1 = 0 := h9
    have h7 := h8
    rw [lf_o] at h7
    exact ⟨(gd_xp (c := 1) _).z ((gd_o _).z h7), (gd_o _).z h7, h8⟩
  have k2 : ¬ (50 ≤ codY (accM z).1 ∧ codY (accM z).1 ≤ 54) → zFt (eM N m (accM z)).1 = 0 ∧ zFt (xpM 1 (eM N m (accM z))).1 = 0 := fun q => by
    have h9 := hft
    unfold op2M at h9
    rw [if_neg q] at h9
    have h8 : zFt (xpY 1 (eM N m (accM z)).1) = 0 := h9
    exact ⟨(gd_xp (c := 1) _).z h8, h8⟩
  change K n_ 0 [(0, .inr (.inr (some (E 0)))), (1, .inl p1)] [] σ
  refine hB _ _ _ _ _ (fun m51 hm51 => ?_)
  dsimp only [ucgo, ucwp, ucsC, uqC, uoC, ctC, rfd, KX7_readBehindOpen, KX7_readBehindOpen_0, KX7_readBehindOpen_30, KX7_readBehindOpen_76, lkC, s1C, s2C, dlC, kyC, Nat.beq, Nat.ble, rcd, rno, rsw, Nat.reduceAdd, Nat.reduceBEq, Nat.reduceDiv, List.drop, List.take, List.reverse, List.reverseAux, Int.toNat, Option.toList, List.append, List.cons_append, List.nil_append, zg213, zg240, zg242]
  intro a52 e52 ob52
  cases e52
  have f53 : (fIC σ (E 0) 242).toInt = zAt z.1 := hZ.2.1.1.1
  intro a54 e54 ob54
  cases e54
  intro a55 e55 ob55
  obtain rfl : E 1 = a55 := Option.some.inj (hZ.1.1.1.symm.trans e55)
  rw [hZ.1.2.1.2.2.1]
  try dsimp only
  intro w56 τ56 o56 q56
  obtain ⟨r56, rfl, rfl, hr56a, hr56b, hr56, -⟩ := (show Q_Jx4a65c_size_8abf5 [.inr (.inr (some (E 213)))] σ w56 τ56 from o56.1.1)
  have hv56 : r56.toInt = (xnM z : Int) := by rw [← hr56]; exact hZ.2.2.2.1.1.1
  try dsimp only [Option.toList, List.cons_append, List.nil_append, s1C, s2C, dlC, kyC, Nat.beq, lkC, rcd, rno, rsw]
  intro w57 τ57 o57 q57
  obtain ⟨rfl, hZ57, hf57⟩ := q57 (N, E, A, B, V, z) ⟨rfl, hZ, hfa⟩
  have hF57 := FzC.tr (FzC.rf (n := cnC σ) (m := xnM z) (E := E) (A := A) (B := B) (V := V) (z := z) (σ := σ)) (FzC.mo hf57 (Nat.le_refl (cnC σ)) ((FzC.rf (n := cnC σ) (m := xnM z) (E := E) (A := A) (B := B) (V := V) (z := z) (σ := σ))).2.2.1.1.1)
  have hle57 : cnC σ ≤ cnC τ57 := Nat.le_trans (Nat.le_refl (cnC σ)) (hf57).1
  try dsimp only [Option.toList, List.cons_append, List.nil_append, s1C, s2C, dlC, kyC, Nat.beq, lkC, rcd, rno, rsw]
  intro w58 τ58 o58 q58
  obtain ⟨c58, rfl, hc58, rfl⟩ := q58 (N, E, A, B, V, (accM z)) ⟨rfl, hZ57⟩
  try dsimp only [Option.toList, List.cons_append, List.nil_append, s1C, s2C, dlC, kyC, Nat.beq, lkC, rcd, rno, rsw]
  intro w59 τ59 o59 q59
  have qq59 := q59 (N, E, A, B, V, z) ⟨_, rfl⟩
  obtain ⟨r59, rfl, hr59, rfl⟩ : ∃ r, w59 = some (.inl r) ∧ ((r.toInt = 1 ∧ (50 ≤ (c58 : Int32).toInt ∧ (c58 : Int32).toInt ≤ 54)) ∨ (r.toInt = 0 ∧ ¬ (50 ≤ (c58 : Int32).toInt ∧ (c58 : Int32).toInt ≤ 54))) ∧ τ57 = τ59 := by
    rcases qq59 with ⟨r, h1, h2, h3, h4⟩ | ⟨r, h1, h2, h3, h4⟩
    · exact ⟨r, h1, Or.inl ⟨h2, h3⟩, h4⟩
    · exact ⟨r, h1, Or.inr ⟨h2, h3⟩, h4⟩
  try dsimp only [Option.toList, List.cons_append, List.nil_append, s1C, s2C, dlC, kyC, Nat.beq, lkC, rcd, rno, rsw]
  refine ⟨fun h60 => ?_, fun h60 => ?_⟩
  · have g60 := (eqI (x := r59) (y := 0) h60 : (r59 : Int32).toInt = (0 : Int32).toInt)
    have z0_ : (0 : Int32).toInt = 0 := rfl
    refine hB _ _ _ _ _ (fun m61 hm61 => ?_)
    dsimp only [ucgo, ucwp, ucsC, uqC, uoC, ctC, rfd, KX7_readBehindOpen, KX7_readBehindOpen_0, KX7_readBehindOpen_30, KX7_readBehindOpen_76, lkC, s1C, s2C, dlC, kyC, Nat.beq, Nat.ble, rcd, rno, rsw, Nat.reduceAdd, Nat.reduceBEq, Nat.reduceDiv, List.drop, List.take, List.reverse, List.reverseAux, Int.toNat, Option.toList, List.append, List.cons_append, List.nil_append, zg213, zg240, zg242]
    generalize hs62 : nOC τ57 52 (nfC 2) 0 = s62
    have hZ62 : ZC N E A B V s62 (accM z) := ZC.nw hZ57 (fun a ha k => by rw [← hs62]; exact nO_a (Nat.ne_of_lt ha)) (by rw [← hs62]; exact ⟨rfl, rfl, rfl⟩) (by rw [← hs62]; exact Nat.le_succ _)
    have c63 : (Int32.ofInt 3).toInt = 3 := by decide
    have c64 : (Int32.ofInt 0).toInt = 0 := by decide
    intro w65 τ65 o65 q65
    obtain ⟨rfl, hi65⟩ := q65 (N, E, A, B, V, (accM z)) ⟨_, _, _, _, _, rfl⟩
    obtain ⟨hnw65, hg65, hg2_65⟩ := NwX.mk (A := A) (kk := 3) (ss := 0) (ff := (zAt z.1)) (tt := (xnM z : Int)) hs62 hi65 (by omega) (by omega) (by omega) (by omega)
    have hZ65 := ZC.nw hZ57 hg65 hg2_65 (by rw [hnw65.1.2]; exact Nat.le_succ _)
    have hf65 : FzC (cnC τ57) (xnM (accM z)) E A A B B V V (accM z) (accM z) τ57 τ65 := FzC.nw hg65 hg2_65.1 (by rw [hnw65.1.2]; exact Nat.le_succ _) (Nat.le_refl _)
    have hF65 := FzC.tr hF57 (FzC.mo hf65 hle57 (hF57).2.2.1.1.1)
    have hL65 := LsX.fz (LsX.nil (N := N) (A := A) (n0 := cnC σ) (σ := τ57) (z := (accM z))) hf65
    have hle65 : cnC σ ≤ cnC τ65 := Nat.le_trans hle57 (hf65).1
    have hLn65 : LsX N A (cnC σ) τ65 (accM z) [((cnC τ57), (recZ 3 0 (zAt z.1) 0 (zAt z.1) (-1) 0 (xnM z : Int) (-1) (-1) (-1) (-1) []), none)] := LsX.nw hL65 (fun q hq => ((LsX.nil (N := N) (A := A) (n0 := cnC σ) (σ := τ57) (z := (accM z))).1 q hq).1.2.1) hnw65 hle57 (by unfold oprX recZ; dsimp only; omega) (by show ¬ ((3 : Int) = 0 ∨ (3 : Int) = 1); omega) (fun i hi => (hZ57.2.2.2.1.1.2 i hi).2)
    try dsimp only [Option.toList, List.cons_append, List.nil_append, s1C, s2C, dlC, kyC, Nat.beq, lkC, rcd, rno, rsw]
    have c66 : (Int32.ofInt 1).toInt = 1 := by decide
    have u67 := tiC p1
    have a67 : (p1 + (Int32.ofInt 1)).toInt = p1.toInt + 1 := addC (by omega) (by omega) (by omega)
    intro w68 τ68 o68 q68
    obtain ⟨A68, rfl, hZ68, hf68, ht68, hx68⟩ : ExQ N E A B V (accM z) (eM N m (accM z)) τ65 w68 τ68 := q68 (N, E, A, B, V, (accM z), m) ⟨_, rfl, hZ65, by omega, (k2 (by omega)).1⟩
    have hF68 := FzC.tr hF65 (FzC.mo hf68 hle65 (hF65).2.2.1.1.1)
    have hL68 := LsX.fz hLn65 hf68
    have hle68 : cnC σ ≤ cnC τ68 := Nat.le_trans hle65 (hf68).1
    try dsimp only [Option.toList, List.cons_append, List.nil_append, s1C, s2C, dlC, kyC, Nat.beq, lkC, rcd, rno, rsw]
    intro a69 e69 ob69 fk69
    cases e69
    clear fk69 ob69
    generalize hs69 : pRC τ68 (cnC τ57) 72 (some (A68 (xnM (eM N m (accM z)) - 1))) = s69
    have hx69 : XfE τ68 s69 := by rw [← hs69]; exact XfE.pR (by decide)
    have hra69 : ∀ a, a ≠ (cnC τ57) → ∀ k, fIC s69 a k = fIC τ68 a k ∧ fLC s69 a k = fLC τ68 a k ∧ fRC s69 a k = fRC τ68 a k := by rw [← hs69]; exact rR_a
    have hZ69 := ZC.lo hZ68 hL68 hx69 hra69
    have hF69 := FzC.tr hF68 (FzC.lo (n := cnC σ) (m := xnM z) (E := E) (B := B) (V := V) hL68 (Nat.le_refl _) hx69 hra69)
    have hL69 : LsX N A68 (cnC σ) s69 (eM N m (accM z)) [((cnC τ57), (recZ 3 0 (zAt z.1) 0 (zAt z.1) (-1) 0 (xnM z : Int) ((xnM (eM N m (accM z)) : Int) - 1) (-1) (-1) (-1) []), none)] := by rw [← hs69]; exact LsX.s72 hL68 (opA_p (by omega)).symm (by omega)
    have hle69 : cnC σ ≤ cnC s69 := by rw [hx69.2.2]; exact hle68
    have c70 : (Int32.ofInt 1).toInt = 1 := by decide
    intro w71 τ71 o71 q71
    obtain ⟨rfl, hZ71, hf71⟩ := q71 (N, E, A68, B, V, (eM N m (accM z)), 1) ⟨_, rfl, hZ69, by omega, (k2 (by omega)).2⟩
    have hF71 := FzC.tr hF69 (FzC.mo hf71 hle69 (hF69).2.2.1.1.1)
    have hL71 := LsX.fz hL69 hf71
    have hle71 : cnC σ ≤ cnC τ71 := Nat.le_trans hle69 (hf71).1
    try dsimp only [Option.toList, List.cons_append, List.nil_append, s1C, s2C, dlC, kyC, Nat.beq, lkC, rcd, rno, rsw]
    intro w72 τ72 o72 q72
    have hh72 := LsX.hd hL71
    obtain ⟨rfl, hZ72, hpo72, hnx72⟩ := q72 (N, E, A68, B, V, (xpM 1 (eM N m (accM z))), (recZ 3 0 (zAt z.1) (zAt (eM N m (accM z)).1) (zAt z.1) (-1) 0 (xnM z : Int) ((xnM (eM N m (accM z)) : Int) - 1) (-1) (-1) (-1) [])) ⟨_, rfl, hZ71, ⟨hh72.1.1.2, hh72.1.2.1, hh72.1.2.2.1⟩, (by show zAt (eM N m (accM z)).1 = zAt (xpY 1 (eM N m (accM z)).1) - 1; rw [(xp_nz (k2 (by omega)).2).2, (acc_n (by rw [← (xp_nz (k2 (by omega)).2).2]; exact (k2 (by omega)).2)).2.2]; show _ = zAt (eM N m (accM z)).1 + 1 - 1; omega), ⟨fun a ha => absurd ha List.not_mem_nil, trivial⟩⟩
    have hnx72 := hnx72.trans hh72.1.2.2.2
    have hF72 := FzC.tr hF71 (FzC.pu (x := (recZ 3 0 (zAt z.1) (zAt (eM N m (accM z)).1) (zAt z.1) (-1) 0 (xnM z : Int) ((xnM (eM N m (accM z)) : Int) - 1) (-1) (-1) (-1) [])) hpo72 hh72.1.1.1 hle71 (Int.le_refl _) hZ71.1.2.2.2.2.2.1.2.1)
    have hL72 := LsX.pu (x := (recZ 3 0 (zAt z.1) (zAt (eM N m (accM z)).1) (zAt z.1) (-1) 0 (xnM z : Int) ((xnM (eM N m (accM z)) : Int) - 1) (-1) (-1) (-1) [])) hh72.2.1 hpo72 hh72.2.2
    have hle72 : cnC σ ≤ cnC τ72 := Nat.le_trans hle71 hpo72.1
    try dsimp only [Option.toList, List.cons_append, List.nil_append, s1C, s2C, dlC, kyC, Nat.beq, lkC, rcd, rno, rsw]
    try dsimp only [Qz_readBehindOpen]
    exact ExQ.pu (by show op2M (oM N m) (eM N m) (rbM z) (accM z) = _; unfold op2M; rw [if_neg (by omega)]; rfl) hZ72 hF72 hnx72 rfl rfl (by have := hx68; have e8 : xnM (accM z) = xnM z := rfl; first | omega | (have e7 : xnM (xpM 1 (typM (accM z))) = xnM z := rfl; omega) | (have e7 : xnM (xpM 1 (eM N m (accM z))) = xnM (eM N m (accM z)) := rfl; omega))
  · have g60 := (neI (x := r59) (y := 0) h60 : ¬ (r59 : Int32).toInt = (0 : Int32).toInt)
    have z0_ : (0 : Int32).toInt = 0 := rfl
    refine hB _ _ _ _ _ (fun m73 hm73 => ?_)
    dsimp only [ucgo, ucwp, ucsC, uqC, uoC, ctC, rfd, KX7_readBehindOpen, KX7_readBehindOpen_0, KX7_readBehindOpen_30, KX7_readBehindOpen_76, lkC, s1C, s2C, dlC, kyC, Nat.beq, Nat.ble, rcd, rno, rsw, Nat.reduceAdd, Nat.reduceBEq, Nat.reduceDiv, List.drop, List.take, List.reverse, List.reverseAux, Int.toNat, Option.toList, List.append, List.cons_append, List.nil_append, zg213, zg240, zg242]
    generalize hs74 : nOC τ57 52 (nfC 2) 0 = s74
    have hZ74 : ZC N E A B V s74 (accM z) := ZC.nw hZ57 (fun a ha k => by rw [← hs74]; exact nO_a (Nat.ne_of_lt ha)) (by rw [← hs74]; exact ⟨rfl, rfl, rfl⟩) (by rw [← hs74]; exact Nat.le_succ _)
    have c75 : (Int32.ofInt 5).toInt = 5 := by decide
    have c76 : (Int32.ofInt 0).toInt = 0 := by decide
    intro w77 τ77 o77 q77
    obtain ⟨rfl, hi77⟩ := q77 (N, E, A, B, V, (accM z)) ⟨_, _, _, _, _, rfl⟩
    obtain ⟨hnw77, hg77, hg2_77⟩ := NwX.mk (A := A) (kk := 5) (ss := 0) (ff := (zAt z.1)) (tt := (xnM z : Int)) hs74 hi77 (by omega) (by omega) (by omega) (by omega)
    have hZ77 := ZC.nw hZ57 hg77 hg2_77 (by rw [hnw77.1.2]; exact Nat.le_succ _)
    have hf77 : FzC (cnC τ57) (xnM (accM z)) E A A B B V V (accM z) (accM z) τ57 τ77 := FzC.nw hg77 hg2_77.1 (by rw [hnw77.1.2]; exact Nat.le_succ _) (Nat.le_refl _)
    have hF77 := FzC.tr hF57 (FzC.mo hf77 hle57 (hF57).2.2.1.1.1)
    have hL77 := LsX.fz (LsX.nil (N := N) (A := A) (n0 := cnC σ) (σ := τ57) (z := (accM z))) hf77
    have hle77 : cnC σ ≤ cnC τ77 := Nat.le_trans hle57 (hf77).1
    have hLn77 : LsX N A (cnC σ) τ77 (accM z) [((cnC τ57), (recZ 5 0 (zAt z.1) 0 (zAt z.1) (-1) 0 (xnM z : Int) (-1) (-1) (-1) (-1) []), none)] := LsX.nw hL77 (fun q hq => ((LsX.nil (N := N) (A := A) (n0 := cnC σ) (σ := τ57) (z := (accM z))).1 q hq).1.2.1) hnw77 hle57 (by unfold oprX recZ; dsimp only; omega) (by show ¬ ((5 : Int) = 0 ∨ (5 : Int) = 1); omega) (fun i hi => (hZ57.2.2.2.1.1.2 i hi).2)
    try dsimp only [Option.toList, List.cons_append, List.nil_append, s1C, s2C, dlC, kyC, Nat.beq, lkC, rcd, rno, rsw]
    intro w78 τ78 o78 q78
    obtain ⟨r78, rfl, hr78, hrt78, hZ78, hf78⟩ := q78 (N, E, A, B, V, (accM z)) ⟨rfl, hZ77, (k1 (by omega)).1⟩
    have hF78 := FzC.tr hF77 (FzC.mo hf78 hle77 (hF77).2.2.1.1.1)
    have hL78 := LsX.fz hLn77 hf78
    have hle78 : cnC σ ≤ cnC τ78 := Nat.le_trans hle77 (hf78).1
    try dsimp only [Option.toList, List.cons_append, List.nil_append, s1C, s2C, dlC, kyC, Nat.beq, lkC, rcd, rno, rsw]
    intro a79 e79 ob79 fk79
    cases e79
    clear fk79 ob79
    generalize hs79 : pIC τ78 (cnC τ57) 69 r78 = s79
    have hx79 : XfE τ78 s79 := by rw [← hs79]; exact XfE.pI (by decide)
    have hra79 : ∀ a, a ≠ (cnC τ57) → ∀ k, fIC s79 a k = fIC τ78 a k ∧ fLC s79 a k = fLC τ78 a k ∧ fRC s79 a k = fRC τ78 a k := by rw [← hs79]; exact rI_a
    have hZ79 := ZC.lo hZ78 hL78 hx79 hra79
    have hF79 := FzC.tr hF78 (FzC.lo (n := cnC σ) (m := xnM z) (E := E) (B := B) (V := V) hL78 (Nat.le_refl _) hx79 hra79)
    have hL79 : LsX N A (cnC σ) s79 (typM (accM z)) [((cnC τ57), (recZ 5 0 (zAt z.1) 0 (zAt z.1) (-1) (codY (accM z).1 - 50) (xnM z : Int) (-1) (-1) (-1) (-1) []), none)] := by rw [← hs79]; exact LsX.s69 hL78 (by omega)
    have hle79 : cnC σ ≤ cnC s79 := by rw [hx79.2.2]; exact hle78
    have c80 : (Int32.ofInt 1).toInt = 1 := by decide
    intro w81 τ81 o81 q81
    obtain ⟨rfl, hZ81, hf81⟩ := q81 (N, E, A, B, V, (typM (accM z)), 1) ⟨_, rfl, hZ79, by omega, (k1 (by omega)).2.1⟩
    have hF81 := FzC.tr hF79 (FzC.mo hf81 hle79 (hF79).2.2.1.1.1)
    have hL81 := LsX.fz hL79 hf81
    have hle81 : cnC σ ≤ cnC τ81 := Nat.le_trans hle79 (hf81).1
    try dsimp only [Option.toList, List.cons_append, List.nil_append, s1C, s2C, dlC, kyC, Nat.beq, lkC, rcd, rno, rsw]
    have c82 : (Int32.ofInt 1).toInt = 1 := by decide
    have u83 := tiC p1
    have a83 : (p1 + (Int32.ofInt 1)).toInt = p1.toInt + 1 := addC (by omega) (by omega) (by omega)
    intro w84 τ84 o84 q84
    obtain ⟨A84, rfl, hZ84, hf84, ht84, hx84⟩ : ExQ N E A B V (xpM 1 (typM (accM z))) (oM N m 0 (xpM 1 (typM (accM z)))) τ81 w84 τ84 := q84 (N, E, A, B, V, (xpM 1 (typM (accM z))), m) ⟨_, rfl, hZ81, by omega, (k1 (by omega)).2.2⟩
    have hF84 := FzC.tr hF81 (FzC.mo hf84 hle81 (hF81).2.2.1.1.1)
    have hL84 := LsX.fz hL81 hf84
    have hle84 : cnC σ ≤ cnC τ84 := Nat.le_trans hle81 (hf84).1
    try dsimp only [Option.toList, List.cons_append, List.nil_append, s1C, s2C, dlC, kyC, Nat.beq, lkC, rcd, rno, rsw]
    intro a85 e85 ob85 fk85
    cases e85
    clear fk85 ob85
    generalize hs85 : pRC τ84 (cnC τ57) 72 (some (A84 (xnM (oM N m 0 (xpM 1 (typM (accM z)))) - 1))) = s85
    have hx85 : XfE τ84 s85 := by rw [← hs85]; exact XfE.pR (by decide)
    have hra85 : ∀ a, a ≠ (cnC τ57) → ∀ k, fIC s85 a k = fIC τ84 a k ∧ fLC s85 a k = fLC τ84 a k ∧ fRC s85 a k = fRC τ84 a k := by rw [← hs85]; exact rR_a
    have hZ85 := ZC.lo hZ84 hL84 hx85 hra85
    have hF85 := FzC.tr hF84 (FzC.lo (n := cnC σ) (m := xnM z) (E := E) (B := B) (V := V) hL84 (Nat.le_refl _) hx85 hra85)
    have hL85 : LsX N A84 (cnC σ) s85 (oM N m 0 (xpM 1 (typM (accM z)))) [((cnC τ57), (recZ 5 0 (zAt z.1) 0 (zAt z.1) (-1) (codY (accM z).1 - 50) (xnM z : Int) ((xnM (oM N m 0 (xpM 1 (typM (accM z)))) : Int) - 1) (-1) (-1) (-1) []), none)] := by rw [← hs85]; exact LsX.s72 hL84 (opA_p (by omega)).symm (by omega)
    have hle85 : cnC σ ≤ cnC s85 := by rw [hx85.2.2]; exact hle84
    intro w86 τ86 o86 q86
    have hh86 := LsX.hd hL85
    obtain ⟨rfl, hZ86, hpo86, hnx86⟩ := q86 (N, E, A84, B, V, (oM N m 0 (xpM 1 (typM (accM z)))), (recZ 5 0 (zAt z.1) (zAt (oM N m 0 (xpM 1 (typM (accM z)))).1 - 1) (zAt z.1) (-1) (codY (accM z).1 - 50) (xnM z : Int) ((xnM (oM N m 0 (xpM 1 (typM (accM z)))) : Int) - 1) (-1) (-1) (-1) [])) ⟨_, rfl, hZ85, ⟨hh86.1.1.2, hh86.1.2.1, hh86.1.2.2.1⟩, rfl, ⟨fun a ha => absurd ha List.not_mem_nil, trivial⟩⟩
    have hnx86 := hnx86.trans hh86.1.2.2.2
    have hF86 := FzC.tr hF85 (FzC.pu (x := (recZ 5 0 (zAt z.1) (zAt (oM N m 0 (xpM 1 (typM (accM z)))).1 - 1) (zAt z.1) (-1) (codY (accM z).1 - 50) (xnM z : Int) ((xnM (oM N m 0 (xpM 1 (typM (accM z)))) : Int) - 1) (-1) (-1) (-1) [])) hpo86 hh86.1.1.1 hle85 (Int.le_refl _) hZ85.1.2.2.2.2.2.1.2.1)
    have hL86 := LsX.pu (x := (recZ 5 0 (zAt z.1) (zAt (oM N m 0 (xpM 1 (typM (accM z)))).1 - 1) (zAt z.1) (-1) (codY (accM z).1 - 50) (xnM z : Int) ((xnM (oM N m 0 (xpM 1 (typM (accM z)))) : Int) - 1) (-1) (-1) (-1) [])) hh86.2.1 hpo86 hh86.2.2
    have hle86 : cnC σ ≤ cnC τ86 := Nat.le_trans hle85 hpo86.1
    try dsimp only [Option.toList, List.cons_append, List.nil_append, s1C, s2C, dlC, kyC, Nat.beq, lkC, rcd, rno, rsw]
    try dsimp only [Qz_readBehindOpen]
    exact ExQ.pu (by show op2M (oM N m) (eM N m) (rbM z) (accM z) = _; unfold op2M; rw [if_pos (by omega)]; rfl) hZ86 hF86 hnx86 rfl rfl (by have := hx84; have e8 : xnM (accM z) = xnM z := rfl; first | omega | (have e7 : xnM (xpM 1 (typM (accM z))) = xnM z := rfl; omega) | (have e7 : xnM (xpM 1 (eM N m (accM z))) = xnM (eM N m (accM z)) := rfl; omega))
set_option maxHeartbeats 4000000 in
theorem pz_readName (y : (Int → Int) × (Nat → Nat) × (Nat → Nat) × (Nat → Nat) × (Nat → Nat) × ZS × Nat) : PbC KX7_readName [(126, TrP, EqC 126), (162, TrP, EqC 162), (140, TrP, EqC 140), (128, TrP, EqC 128), (161, TrP, EqC 161), (176, TrP, EqC 176)] [(126, Uz_codeBehind), (162, Uz_opened), (140, Uz_meant), (128, Uz_accept), (161, Uz_put), (176, Uz_readCall)] (fun As σ => Pz_readName y As σ ∧ cnC σ ≤ 1000000 ∧ ∃ w τ, uqC quL 175 As σ w τ) (Qz_readName y) := by
  obtain ⟨N, E, A, B, V, z, n⟩ := y
  rintro As σ ⟨⟨p1, rfl, hZ, hd, hn, hc80, hft⟩, hcn, _, _, hQ⟩ K hB hW n_
  have hH : HI0 σ ∧ TyC σ (E 0) 8 := hQ
  have hat := hZ.at0 hH
  obtain ⟨m, rfl⟩ : ∃ m, n = m + 1 := ⟨n - 1, by omega⟩
  have j1 : cobY z.1 = 0 → nmeM N m (eM N m) z = ca2M m (eM N m) (rbM z) (accM (accM z)) := fun q => by unfold nmeM; rw [if_pos q]
  have j2 : (cobY z.1 = 41 ∨ cobY z.1 = 42) → nmeM N m (eM N m) z = puM (posZ (lkM N z (zAt z.1)) (xnM z) z.1) (accM (accM z)) := fun q => by unfold nmeM; rw [if_neg (by omega), if_pos q]
  have j3 : ¬ cobY z.1 = 0 → ¬ (cobY z.1 = 41 ∨ cobY z.1 = 42) → nmeM N m (eM N m) z = puM (namZ (lkM N z (zAt z.1)) (xnM z) z.1) (accM z) := fun q1 q2 => by unfold nmeM; rw [if_neg q1, if_neg q2]
  have hft : zFt (nmeM N m (eM N m) z).1 = 0 := hft
  have f2 : (cobY z.1 = 41 ∨ cobY z.1 = 42) → zFt (accM (accM z)).1 = 0 ∧ zFt (accM z).1 = 0 := fun q => by
    rw [j2 q] at hft
    exact ⟨hft, (gd_acc _).z hft⟩
  have f3 : ¬ cobY z.1 = 0 → ¬ (cobY z.1 = 41 ∨ cobY z.1 = 42) → zFt (accM z).1 = 0 := fun q1 q2 => by
    rw [j3 q1 q2] at hft
    exact hft
  change K n_ 0 [(0, .inr (.inr (some (E 0)))), (1, .inl p1)] [] σ
  refine hB _ _ _ _ _ (fun m51 hm51 => ?_)
  dsimp only [ucgo, ucwp, ucsC, uqC, uoC, ctC, rfd, KX7_readName, KX7_readName_0, KX7_readName_9, KX7_readName_15, KX7_readName_21, KX7_readName_27, KX7_readName_31, KX7_readName_32, KX7_readName_38, KX7_readName_43, KX7_readName_44, KX7_readName_48, KX7_readName_52, KX7_readName_53, KX7_readName_79, KX7_readName_83, lkC, s1C, s2C, dlC, kyC, Nat.beq, Nat.ble, rcd, rno, rsw, Nat.reduceAdd, Nat.reduceBEq, Nat.reduceDiv, List.drop, List.take, List.reverse, List.reverseAux, Int.toNat, Option.toList, List.append, List.cons_append, List.nil_append, zg242]
  intro w52 τ52 o52 q52
  obtain ⟨c52, rfl, hc52, rfl⟩ := q52 (N, E, A, B, V, z) ⟨rfl, hZ⟩
  try dsimp only [Option.toList, List.cons_append, List.nil_append, s1C, s2C, dlC, kyC, Nat.beq, lkC, rcd, rno, rsw]
  refine ⟨fun h53 => ?_, fun h53 => ?_⟩
  · have g53 := (neI (x := c52) (y := 0) h53 : ¬ (c52 : Int32).toInt = (0 : Int32).toInt)
    have z0_ : (0 : Int32).toInt = 0 := rfl
    refine hB _ _ _ _ _ (fun m54 hm54 => ?_)
    dsimp only [ucgo, ucwp, ucsC, uqC, uoC, ctC, rfd, KX7_readName, KX7_readName_0, KX7_readName_9, KX7_readName_15, KX7_readName_21, KX7_readName_27, KX7_readName_31, KX7_readName_32, KX7_readName_38, KX7_readName_43, KX7_readName_44, KX7_readName_48, KX7_readName_52, KX7_readName_53, KX7_readName_79, KX7_readName_83, lkC, s1C, s2C, dlC, kyC, Nat.beq, Nat.ble, rcd, rno, rsw, Nat.reduceAdd, Nat.reduceBEq, Nat.reduceDiv, List.drop, List.take, List.reverse, List.reverseAux, Int.toNat, Option.toList, List.append, List.cons_append, List.nil_append, zg242]
    have c55 : (Int32.ofInt 41).toInt = 41 := by decide
    refine ⟨fun h56 => ?_, fun h56 => ?_⟩
    · have g56 := (eqI (x := c52) (y := (Int32.ofInt 41)) h56 : (c52 : Int32).toInt = ((Int32.ofInt 41) : Int32).toInt)
      refine hB _ _ _ _ _ (fun m57 hm57 => ?_)
      dsimp only [ucgo, ucwp, ucsC, uqC, uoC, ctC, rfd, KX7_readName, KX7_readName_0, KX7_readName_9, KX7_readName_15, KX7_readName_21, KX7_readName_27, KX7_readName_31, KX7_readName_32, KX7_readName_38, KX7_readName_43, KX7_readName_44, KX7_readName_48, KX7_readName_52, KX7_readName_53, KX7_readName_79, KX7_readName_83, lkC, s1C, s2C, dlC, kyC, Nat.beq, Nat.ble, rcd, rno, rsw, Nat.reduceAdd, Nat.reduceBEq, Nat.reduceDiv, List.drop, List.take, List.reverse, List.reverseAux, Int.toNat, Option.toList, List.append, List.cons_append, List.nil_append, zg242]
      have c58 : (Int32.ofInt 1).toInt = 1 := by decide
      refine hB _ _ _ _ _ (fun m59 hm59 => ?_)
      dsimp only [ucgo, ucwp, ucsC, uqC, uoC, ctC, rfd, KX7_readName, KX7_readName_0, KX7_readName_9, KX7_readName_15, KX7_readName_21, KX7_readName_27, KX7_readName_31, KX7_readName_32, KX7_readName_38, KX7_readName_43, KX7_readName_44, KX7_readName_48, KX7_readName_52, KX7_readName_53, KX7_readName_79, KX7_readName_83, lkC, s1C, s2C, dlC, kyC, Nat.beq, Nat.ble, rcd, rno, rsw, Nat.reduceAdd, Nat.reduceBEq, Nat.reduceDiv, List.drop, List.take, List.reverse, List.reverseAux, Int.toNat, Option.toList, List.append, List.cons_append, List.nil_append, zg242]
      refine ⟨fun h60 => ?_, fun h60 => ?_⟩
      · exact absurd h60 (by decide)
      · have g60 := (neI (x := (Int32.ofInt 1)) (y := 0) h60 : ¬ ((Int32.ofInt 1) : Int32).toInt = (0 : Int32).toInt)
        have z0_ : (0 : Int32).toInt = 0 := rfl
        refine hB _ _ _ _ _ (fun m61 hm61 => ?_)
        dsimp only [ucgo, ucwp, ucsC, uqC, uoC, ctC, rfd, KX7_readName, KX7_readName_0, KX7_readName_9, KX7_readName_15, KX7_readName_21, KX7_readName_27, KX7_readName_31, KX7_readName_32, KX7_readName_38, KX7_readName_43, KX7_readName_44, KX7_readName_48, KX7_readName_52, KX7_readName_53, KX7_readName_79, KX7_readName_83, lkC, s1C, s2C, dlC, kyC, Nat.beq, Nat.ble, rcd, rno, rsw, Nat.reduceAdd, Nat.reduceBEq, Nat.reduceDiv, List.drop, List.take, List.reverse, List.reverseAux, Int.toNat, Option.toList, List.append, List.cons_append, List.nil_append, zg242]
        have c62 : (Int32.ofInt 6).toInt = 6 := by decide
        refine hB _ _ _ _ _ (fun m63 hm63 => ?_)
        dsimp only [ucgo, ucwp, ucsC, uqC, uoC, ctC, rfd, KX7_readName, KX7_readName_0, KX7_readName_9, KX7_readName_15, KX7_readName_21, KX7_readName_27, KX7_readName_31, KX7_readName_32, KX7_readName_38, KX7_readName_43, KX7_readName_44, KX7_readName_48, KX7_readName_52, KX7_readName_53, KX7_readName_79, KX7_readName_83, lkC, s1C, s2C, dlC, kyC, Nat.beq, Nat.ble, rcd, rno, rsw, Nat.reduceAdd, Nat.reduceBEq, Nat.reduceDiv, List.drop, List.take, List.reverse, List.reverseAux, Int.toNat, Option.toList, List.append, List.cons_append, List.nil_append, zg242]
        refine ⟨fun h64 => ?_, fun h64 => ?_⟩
        · exact absurd h64 (by decide)
        · have g64 := (neI (x := (Int32.ofInt 1)) (y := 0) h64 : ¬ ((Int32.ofInt 1) : Int32).toInt = (0 : Int32).toInt)
          have z0_ : (0 : Int32).toInt = 0 := rfl
          refine hB _ _ _ _ _ (fun m65 hm65 => ?_)
          dsimp only [ucgo, ucwp, ucsC, uqC, uoC, ctC, rfd, KX7_readName, KX7_readName_0, KX7_readName_9, KX7_readName_15, KX7_readName_21, KX7_readName_27, KX7_readName_31, KX7_readName_32, KX7_readName_38, KX7_readName_43, KX7_readName_44, KX7_readName_48, KX7_readName_52, KX7_readName_53, KX7_readName_79, KX7_readName_83, lkC, s1C, s2C, dlC, kyC, Nat.beq, Nat.ble, rcd, rno, rsw, Nat.reduceAdd, Nat.reduceBEq, Nat.reduceDiv, List.drop, List.take, List.reverse, List.reverseAux, Int.toNat, Option.toList, List.append, List.cons_append, List.nil_append, zg242]
          refine hB _ _ _ _ _ (fun m66 hm66 => ?_)
          dsimp only [ucgo, ucwp, ucsC, uqC, uoC, ctC, rfd, KX7_readName, KX7_readName_0, KX7_readName_9, KX7_readName_15, KX7_readName_21, KX7_readName_27, KX7_readName_31, KX7_readName_32, KX7_readName_38, KX7_readName_43, KX7_readName_44, KX7_readName_48, KX7_readName_52, KX7_readName_53, KX7_readName_79, KX7_readName_83, lkC, s1C, s2C, dlC, kyC, Nat.beq, Nat.ble, rcd, rno, rsw, Nat.reduceAdd, Nat.reduceBEq, Nat.reduceDiv, List.drop, List.take, List.reverse, List.reverseAux, Int.toNat, Option.toList, List.append, List.cons_append, List.nil_append, zg242]
          intro w67 τ67 o67 q67
          obtain ⟨rfl, hZ67, hf67, hnw67⟩ := q67 (N, E, A, B, V, z, 6, (cobY z.1)) ⟨_, _, rfl, hZ, by omega, by omega⟩
          have hF67 := FzC.tr (FzC.rf (n := cnC σ) (m := xnM z) (E := E) (A := A) (B := B) (V := V) (z := z) (σ := σ)) (FzC.mo hf67 (Nat.le_refl (cnC σ)) ((FzC.rf (n := cnC σ) (m := xnM z) (E := E) (A := A) (B := B) (V := V) (z := z) (σ := σ))).2.2.1.1.1)
          have hL67 := LsX.fz (LsX.nil (N := N) (A := A) (n0 := cnC σ) (σ := σ) (z := z)) hf67
          have hle67 : cnC σ ≤ cnC τ67 := Nat.le_trans (Nat.le_refl (cnC σ)) (hf67).1
          have hLn67 : LsX N A (cnC σ) τ67 z [((cnC σ), (recZ 6 (cobY z.1) (zAt z.1) 0 (zAt z.1) (-1) 0 (xnM z) (-1) (-1) (-1) (-1) []), none)] := LsX.nw hL67 (fun q hq => ((LsX.nil (N := N) (A := A) (n0 := cnC σ) (σ := σ) (z := z)).1 q hq).1.2.1) hnw67 (Nat.le_refl (cnC σ)) opX_o (by show ¬ ((6 : Int) = 0 ∨ (6 : Int) = 1); omega) (fun i hi => (hZ.2.2.2.1.1.2 i hi).2)
          try dsimp only [Option.toList, List.cons_append, List.nil_append, s1C, s2C, dlC, kyC, Nat.beq, lkC, rcd, rno, rsw]
          intro a68 e68 ob68
          cases e68
          have f69 : (fIC τ67 (E 0) 242).toInt = zAt z.1 := hZ67.2.1.1.1
          intro w70 τ70 o70 q70
          obtain ⟨r70, rfl, hr70, hZ70, hf70, hmn70⟩ := q70 (N, E, A, B, V, z, (zAt z.1)) ⟨_, rfl, hZ67, by omega, by omega⟩
          have hF70 := FzC.tr hF67 (FzC.mo hf70 hle67 (hF67).2.2.1.1.1)
          have hL70 := LsX.fz hLn67 hf70
          have hle70 : cnC σ ≤ cnC τ70 := Nat.le_trans hle67 (hf70).1
          try dsimp only [Option.toList, List.cons_append, List.nil_append, s1C, s2C, dlC, kyC, Nat.beq, lkC, rcd, rno, rsw]
          intro a71 e71 ob71 fk71
          cases e71
          clear fk71 ob71
          generalize hs71 : pIC τ70 (cnC σ) 67 r70 = s71
          have hx71 : XfE τ70 s71 := by rw [← hs71]; exact XfE.pI (by decide)
          have hra71 : ∀ a, a ≠ (cnC σ) → ∀ k, fIC s71 a k = fIC τ70 a k ∧ fLC s71 a k = fLC τ70 a k ∧ fRC s71 a k = fRC τ70 a k := by rw [← hs71]; exact rI_a
          have hZ71 := ZC.lo hZ70 hL70 hx71 hra71
          have hF71 := FzC.tr hF70 (FzC.lo (n := cnC σ) (m := xnM z) (E := E) (B := B) (V := V) hL70 (Nat.le_refl _) hx71 hra71)
          have hL71 : LsX N A (cnC σ) s71 z [((cnC σ), (recZ 6 (cobY z.1) (zAt z.1) 0 (zAt z.1) (lkM N z (zAt z.1)) 0 (xnM z) (-1) (-1) (-1) (-1) []), none)] := by rw [← hs71]; exact LsX.s67 hL70 (by omega)
          have hle71 : cnC σ ≤ cnC s71 := by rw [hx71.2.2]; exact hle70
          intro w72 τ72 o72 q72
          obtain ⟨rfl, hZ72, hf72⟩ := q72 (N, E, A, B, V, z) ⟨rfl, hZ71, (f2 (by omega)).2⟩
          have hF72 := FzC.tr hF71 (FzC.mo hf72 hle71 (hF71).2.2.1.1.1)
          have hL72 := LsX.fz hL71 hf72
          have hle72 : cnC σ ≤ cnC τ72 := Nat.le_trans hle71 (hf72).1
          try dsimp only [Option.toList, List.cons_append, List.nil_append, s1C, s2C, dlC, kyC, Nat.beq, lkC, rcd, rno, rsw]
          refine ⟨fun h73 => ?_, fun h73 => ?_⟩
          · exact absurd h73 (by decide)
          · have g73 := (neI (x := (Int32.ofInt 1)) (y := 0) h73 : ¬ ((Int32.ofInt 1) : Int32).toInt = (0 : Int32).toInt)
            have z0_ : (0 : Int32).toInt = 0 := rfl
            refine hB _ _ _ _ _ (fun m74 hm74 => ?_)
            dsimp only [ucgo, ucwp, ucsC, uqC, uoC, ctC, rfd, KX7_readName, KX7_readName_0, KX7_readName_9, KX7_readName_15, KX7_readName_21, KX7_readName_27, KX7_readName_31, KX7_readName_32, KX7_readName_38, KX7_readName_43, KX7_readName_44, KX7_readName_48, KX7_readName_52, KX7_readName_53, KX7_readName_79, KX7_readName_83, lkC, s1C, s2C, dlC, kyC, Nat.beq, Nat.ble, rcd, rno, rsw, Nat.reduceAdd, Nat.reduceBEq, Nat.reduceDiv, List.drop, List.take, List.reverse, List.reverseAux, Int.toNat, Option.toList, List.append, List.cons_append, List.nil_append, zg242]
            intro w75 τ75 o75 q75
            obtain ⟨rfl, hZ75, hf75⟩ := q75 (N, E, A, B, V, (accM z)) ⟨rfl, hZ72, (f2 (by omega)).1⟩
            have hF75 := FzC.tr hF72 (FzC.mo hf75 hle72 (hF72).2.2.1.1.1)
            have hL75 := LsX.fz hL72 hf75
            have hle75 : cnC σ ≤ cnC τ75 := Nat.le_trans hle72 (hf75).1
            try dsimp only [Option.toList, List.cons_append, List.nil_append, s1C, s2C, dlC, kyC, Nat.beq, lkC, rcd, rno, rsw]
            refine hB _ _ _ _ _ (fun m76 hm76 => ?_)
            dsimp only [ucgo, ucwp, ucsC, uqC, uoC, ctC, rfd, KX7_readName, KX7_readName_0, KX7_readName_9, KX7_readName_15, KX7_readName_21, KX7_readName_27, KX7_readName_31, KX7_readName_32, KX7_readName_38, KX7_readName_43, KX7_readName_44, KX7_readName_48, KX7_readName_52, KX7_readName_53, KX7_readName_79, KX7_readName_83, lkC, s1C, s2C, dlC, kyC, Nat.beq, Nat.ble, rcd, rno, rsw, Nat.reduceAdd, Nat.reduceBEq, Nat.reduceDiv, List.drop, List.take, List.reverse, List.reverseAux, Int.toNat, Option.toList, List.append, List.cons_append, List.nil_append, zg242]
            intro w77 τ77 o77 q77
            have hh77 := LsX.hd hL75
            obtain ⟨rfl, hZ77, hpo77, hnx77⟩ := q77 (N, E, A, B, V, (accM (accM z)), (recZ 6 (cobY z.1) (zAt z.1) (zAt z.1 + 1) (zAt z.1) (lkM N z (zAt z.1)) 0 (xnM z) (-1) (-1) (-1) (-1) [])) ⟨_, rfl, hZ75, ⟨hh77.1.1.2, hh77.1.2.1, hh77.1.2.2.1⟩, (by show zAt z.1 + 1 = zAt (accY (accM z).1) - 1; rw [(acc_n (f2 (by omega)).1).2.2]; show _ = zAt (accY z.1) + 1 - 1; rw [(acc_n (f2 (by omega)).2).2.2]; show _ = zAt z.1 + 1 + 1 - 1; omega), ⟨fun a ha => absurd ha List.not_mem_nil, trivial⟩⟩
            have hnx77 := hnx77.trans hh77.1.2.2.2
            have hF77 := FzC.tr hF75 (FzC.pu (x := (recZ 6 (cobY z.1) (zAt z.1) (zAt z.1 + 1) (zAt z.1) (lkM N z (zAt z.1)) 0 (xnM z) (-1) (-1) (-1) (-1) [])) hpo77 hh77.1.1.1 hle75 (Int.le_refl _) hZ75.1.2.2.2.2.2.1.2.1)
            have hL77 := LsX.pu (x := (recZ 6 (cobY z.1) (zAt z.1) (zAt z.1 + 1) (zAt z.1) (lkM N z (zAt z.1)) 0 (xnM z) (-1) (-1) (-1) (-1) [])) hh77.2.1 hpo77 hh77.2.2
            have hle77 : cnC σ ≤ cnC τ77 := Nat.le_trans hle75 hpo77.1
            try dsimp only [Option.toList, List.cons_append, List.nil_append, s1C, s2C, dlC, kyC, Nat.beq, lkC, rcd, rno, rsw]
            try dsimp only [Qz_readName]
            exact ExQ.pu (j2 (by omega)) hZ77 hF77 hnx77 rfl rfl (Nat.le_refl _)
    · have g56 := (neI (x := c52) (y := (Int32.ofInt 41)) h56 : ¬ (c52 : Int32).toInt = ((Int32.ofInt 41) : Int32).toInt)
      refine hB _ _ _ _ _ (fun m78 hm78 => ?_)
      dsimp only [ucgo, ucwp, ucsC, uqC, uoC, ctC, rfd, KX7_readName, KX7_readName_0, KX7_readName_9, KX7_readName_15, KX7_readName_21, KX7_readName_27, KX7_readName_31, KX7_readName_32, KX7_readName_38, KX7_readName_43, KX7_readName_44, KX7_readName_48, KX7_readName_52, KX7_readName_53, KX7_readName_79, KX7_readName_83, lkC, s1C, s2C, dlC, kyC, Nat.beq, Nat.ble, rcd, rno, rsw, Nat.reduceAdd, Nat.reduceBEq, Nat.reduceDiv, List.drop, List.take, List.reverse, List.reverseAux, Int.toNat, Option.toList, List.append, List.cons_append, List.nil_append, zg242]
      have c79 : (Int32.ofInt 42).toInt = 42 := by decide
      refine ⟨fun h80 => ?_, fun h80 => ?_⟩
      · have g80 := (neI (x := c52) (y := (Int32.ofInt 42)) h80 : ¬ (c52 : Int32).toInt = ((Int32.ofInt 42) : Int32).toInt)
        refine hB _ _ _ _ _ (fun m81 hm81 => ?_)
        dsimp only [ucgo, ucwp, ucsC, uqC, uoC, ctC, rfd, KX7_readName, KX7_readName_0, KX7_readName_9, KX7_readName_15, KX7_readName_21, KX7_readName_27, KX7_readName_31, KX7_readName_32, KX7_readName_38, KX7_readName_43, KX7_readName_44, KX7_readName_48, KX7_readName_52, KX7_readName_53, KX7_readName_79, KX7_readName_83, lkC, s1C, s2C, dlC, kyC, Nat.beq, Nat.ble, rcd, rno, rsw, Nat.reduceAdd, Nat.reduceBEq, Nat.reduceDiv, List.drop, List.take, List.reverse, List.reverseAux, Int.toNat, Option.toList, List.append, List.cons_append, List.nil_append, zg242]
        have c82 : (Int32.ofInt 0).toInt = 0 := by decide
        refine hB _ _ _ _ _ (fun m83 hm83 => ?_)
        dsimp only [ucgo, ucwp, ucsC, uqC, uoC, ctC, rfd, KX7_readName, KX7_readName_0, KX7_readName_9, KX7_readName_15, KX7_readName_21, KX7_readName_27, KX7_readName_31, KX7_readName_32, KX7_readName_38, KX7_readName_43, KX7_readName_44, KX7_readName_48, KX7_readName_52, KX7_readName_53, KX7_readName_79, KX7_readName_83, lkC, s1C, s2C, dlC, kyC, Nat.beq, Nat.ble, rcd, rno, rsw, Nat.reduceAdd, Nat.reduceBEq, Nat.reduceDiv, List.drop, List.take, List.reverse, List.reverseAux, Int.toNat, Option.toList, List.append, List.cons_append, List.nil_append, zg242]
        refine ⟨fun h84 => ?_, fun h84 => ?_⟩
        · have g84 := (eqI (x := (Int32.ofInt 0)) (y := 0) h84 : ((Int32.ofInt 0) : Int32).toInt = (0 : Int32).toInt)
          have z0_ : (0 : Int32).toInt = 0 := rfl
          refine hB _ _ _ _ _ (fun m85 hm85 => ?_)
          dsimp only [ucgo, ucwp, ucsC, uqC, uoC, ctC, rfd, KX7_readName, KX7_readName_0, KX7_readName_9, KX7_readName_15, KX7_readName_21, KX7_readName_27, KX7_readName_31, KX7_readName_32, KX7_readName_38, KX7_readName_43, KX7_readName_44, KX7_readName_48, KX7_readName_52, KX7_readName_53, KX7_readName_79, KX7_readName_83, lkC, s1C, s2C, dlC, kyC, Nat.beq, Nat.ble, rcd, rno, rsw, Nat.reduceAdd, Nat.reduceBEq, Nat.reduceDiv, List.drop, List.take, List.reverse, List.reverseAux, Int.toNat, Option.toList, List.append, List.cons_append, List.nil_append, zg242]
          have c86 : (Int32.ofInt 2).toInt = 2 := by decide
          refine hB _ _ _ _ _ (fun m87 hm87 => ?_)
          dsimp only [ucgo, ucwp, ucsC, uqC, uoC, ctC, rfd, KX7_readName, KX7_readName_0, KX7_readName_9, KX7_readName_15, KX7_readName_21, KX7_readName_27, KX7_readName_31, KX7_readName_32, KX7_readName_38, KX7_readName_43, KX7_readName_44, KX7_readName_48, KX7_readName_52, KX7_readName_53, KX7_readName_79, KX7_readName_83, lkC, s1C, s2C, dlC, kyC, Nat.beq, Nat.ble, rcd, rno, rsw, Nat.reduceAdd, Nat.reduceBEq, Nat.reduceDiv, List.drop, List.take, List.reverse, List.reverseAux, Int.toNat, Option.toList, List.append, List.cons_append, List.nil_append, zg242]
          refine ⟨fun h88 => ?_, fun h88 => ?_⟩
          · have g88 := (eqI (x := (Int32.ofInt 0)) (y := 0) h88 : ((Int32.ofInt 0) : Int32).toInt = (0 : Int32).toInt)
            have z0_ : (0 : Int32).toInt = 0 := rfl
            refine hB _ _ _ _ _ (fun m89 hm89 => ?_)
            dsimp only [ucgo, ucwp, ucsC, uqC, uoC, ctC, rfd, KX7_readName, KX7_readName_0, KX7_readName_9, KX7_readName_15, KX7_readName_21, KX7_readName_27, KX7_readName_31, KX7_readName_32, KX7_readName_38, KX7_readName_43, KX7_readName_44, KX7_readName_48, KX7_readName_52, KX7_readName_53, KX7_readName_79, KX7_readName_83, lkC, s1C, s2C, dlC, kyC, Nat.beq, Nat.ble, rcd, rno, rsw, Nat.reduceAdd, Nat.reduceBEq, Nat.reduceDiv, List.drop, List.take, List.reverse, List.reverseAux, Int.toNat, Option.toList, List.append, List.cons_append, List.nil_append, zg242]
            have c90 : (Int32.ofInt (-1)).toInt = -1 := by decide
            refine hB _ _ _ _ _ (fun m91 hm91 => ?_)
            dsimp only [ucgo, ucwp, ucsC, uqC, uoC, ctC, rfd, KX7_readName, KX7_readName_0, KX7_readName_9, KX7_readName_15, KX7_readName_21, KX7_readName_27, KX7_readName_31, KX7_readName_32, KX7_readName_38, KX7_readName_43, KX7_readName_44, KX7_readName_48, KX7_readName_52, KX7_readName_53, KX7_readName_79, KX7_readName_83, lkC, s1C, s2C, dlC, kyC, Nat.beq, Nat.ble, rcd, rno, rsw, Nat.reduceAdd, Nat.reduceBEq, Nat.reduceDiv, List.drop, List.take, List.reverse, List.reverseAux, Int.toNat, Option.toList, List.append, List.cons_append, List.nil_append, zg242]
            intro w92 τ92 o92 q92
            obtain ⟨rfl, hZ92, hf92, hnw92⟩ := q92 (N, E, A, B, V, z, 2, (-1)) ⟨_, _, rfl, hZ, by omega, by omega⟩
            have hF92 := FzC.tr (FzC.rf (n := cnC σ) (m := xnM z) (E := E) (A := A) (B := B) (V := V) (z := z) (σ := σ)) (FzC.mo hf92 (Nat.le_refl (cnC σ)) ((FzC.rf (n := cnC σ) (m := xnM z) (E := E) (A := A) (B := B) (V := V) (z := z) (σ := σ))).2.2.1.1.1)
            have hL92 := LsX.fz (LsX.nil (N := N) (A := A) (n0 := cnC σ) (σ := σ) (z := z)) hf92
            have hle92 : cnC σ ≤ cnC τ92 := Nat.le_trans (Nat.le_refl (cnC σ)) (hf92).1
            have hLn92 : LsX N A (cnC σ) τ92 z [((cnC σ), (recZ 2 (-1) (zAt z.1) 0 (zAt z.1) (-1) 0 (xnM z) (-1) (-1) (-1) (-1) []), none)] := LsX.nw hL92 (fun q hq => ((LsX.nil (N := N) (A := A) (n0 := cnC σ) (σ := σ) (z := z)).1 q hq).1.2.1) hnw92 (Nat.le_refl (cnC σ)) opX_o (by show ¬ ((2 : Int) = 0 ∨ (2 : Int) = 1); omega) (fun i hi => (hZ.2.2.2.1.1.2 i hi).2)
            try dsimp only [Option.toList, List.cons_append, List.nil_append, s1C, s2C, dlC, kyC, Nat.beq, lkC, rcd, rno, rsw]
            intro a93 e93 ob93
            cases e93
            have f94 : (fIC τ92 (E 0) 242).toInt = zAt z.1 := hZ92.2.1.1.1
            intro w95 τ95 o95 q95
            obtain ⟨r95, rfl, hr95, hZ95, hf95, hmn95⟩ := q95 (N, E, A, B, V, z, (zAt z.1)) ⟨_, rfl, hZ92, by omega, by omega⟩
            have hF95 := FzC.tr hF92 (FzC.mo hf95 hle92 (hF92).2.2.1.1.1)
            have hL95 := LsX.fz hLn92 hf95
            have hle95 : cnC σ ≤ cnC τ95 := Nat.le_trans hle92 (hf95).1
            try dsimp only [Option.toList, List.cons_append, List.nil_append, s1C, s2C, dlC, kyC, Nat.beq, lkC, rcd, rno, rsw]
            intro a96 e96 ob96 fk96
            cases e96
            clear fk96 ob96
            generalize hs96 : pIC τ95 (cnC σ) 67 r95 = s96
            have hx96 : XfE τ95 s96 := by rw [← hs96]; exact XfE.pI (by decide)
            have hra96 : ∀ a, a ≠ (cnC σ) → ∀ k, fIC s96 a k = fIC τ95 a k ∧ fLC s96 a k = fLC τ95 a k ∧ fRC s96 a k = fRC τ95 a k := by rw [← hs96]; exact rI_a
            have hZ96 := ZC.lo hZ95 hL95 hx96 hra96
            have hF96 := FzC.tr hF95 (FzC.lo (n := cnC σ) (m := xnM z) (E := E) (B := B) (V := V) hL95 (Nat.le_refl _) hx96 hra96)
            have hL96 : LsX N A (cnC σ) s96 z [((cnC σ), (recZ 2 (-1) (zAt z.1) 0 (zAt z.1) (lkM N z (zAt z.1)) 0 (xnM z) (-1) (-1) (-1) (-1) []), none)] := by rw [← hs96]; exact LsX.s67 hL95 (by omega)
            have hle96 : cnC σ ≤ cnC s96 := by rw [hx96.2.2]; exact hle95
            intro w97 τ97 o97 q97
            obtain ⟨rfl, hZ97, hf97⟩ := q97 (N, E, A, B, V, z) ⟨rfl, hZ96, (f3 (by omega) (by omega))⟩
            have hF97 := FzC.tr hF96 (FzC.mo hf97 hle96 (hF96).2.2.1.1.1)
            have hL97 := LsX.fz hL96 hf97
            have hle97 : cnC σ ≤ cnC τ97 := Nat.le_trans hle96 (hf97).1
            try dsimp only [Option.toList, List.cons_append, List.nil_append, s1C, s2C, dlC, kyC, Nat.beq, lkC, rcd, rno, rsw]
            refine ⟨fun h98 => ?_, fun h98 => ?_⟩
            · have g98 := (eqI (x := (Int32.ofInt 0)) (y := 0) h98 : ((Int32.ofInt 0) : Int32).toInt = (0 : Int32).toInt)
              have z0_ : (0 : Int32).toInt = 0 := rfl
              refine hB _ _ _ _ _ (fun m99 hm99 => ?_)
              dsimp only [ucgo, ucwp, ucsC, uqC, uoC, ctC, rfd, KX7_readName, KX7_readName_0, KX7_readName_9, KX7_readName_15, KX7_readName_21, KX7_readName_27, KX7_readName_31, KX7_readName_32, KX7_readName_38, KX7_readName_43, KX7_readName_44, KX7_readName_48, KX7_readName_52, KX7_readName_53, KX7_readName_79, KX7_readName_83, lkC, s1C, s2C, dlC, kyC, Nat.beq, Nat.ble, rcd, rno, rsw, Nat.reduceAdd, Nat.reduceBEq, Nat.reduceDiv, List.drop, List.take, List.reverse, List.reverseAux, Int.toNat, Option.toList, List.append, List.cons_append, List.nil_append, zg242]
              intro w100 τ100 o100 q100
              have hh100 := LsX.hd hL97
              obtain ⟨rfl, hZ100, hpo100, hnx100⟩ := q100 (N, E, A, B, V, (accM z), (recZ 2 (-1) (zAt z.1) (zAt z.1) (zAt z.1) (lkM N z (zAt z.1)) 0 (xnM z) (-1) (-1) (-1) (-1) [])) ⟨_, rfl, hZ97, ⟨hh100.1.1.2, hh100.1.2.1, hh100.1.2.2.1⟩, (by show zAt z.1 = zAt (accY z.1) - 1; rw [(acc_n (f3 (by omega) (by omega))).2.2]; show _ = zAt z.1 + 1 - 1; omega), ⟨fun a ha => absurd ha List.not_mem_nil, trivial⟩⟩
              have hnx100 := hnx100.trans hh100.1.2.2.2
              have hF100 := FzC.tr hF97 (FzC.pu (x := (recZ 2 (-1) (zAt z.1) (zAt z.1) (zAt z.1) (lkM N z (zAt z.1)) 0 (xnM z) (-1) (-1) (-1) (-1) [])) hpo100 hh100.1.1.1 hle97 (Int.le_refl _) hZ97.1.2.2.2.2.2.1.2.1)
              have hL100 := LsX.pu (x := (recZ 2 (-1) (zAt z.1) (zAt z.1) (zAt z.1) (lkM N z (zAt z.1)) 0 (xnM z) (-1) (-1) (-1) (-1) [])) hh100.2.1 hpo100 hh100.2.2
              have hle100 : cnC σ ≤ cnC τ100 := Nat.le_trans hle97 hpo100.1
              try dsimp only [Option.toList, List.cons_append, List.nil_append, s1C, s2C, dlC, kyC, Nat.beq, lkC, rcd, rno, rsw]
              try dsimp only [Qz_readName]
              exact ExQ.pu (j3 (by omega) (by omega)) hZ100 hF100 hnx100 rfl rfl (Nat.le_refl _)
            · exact absurd h98 (by decide)
          · exact absurd h88 (by decide)
        · exact absurd h84 (by decide)
      · have g80 := (eqI (x := c52) (y := (Int32.ofInt 42)) h80 : (c52 : Int32).toInt = ((Int32.ofInt 42) : Int32).toInt)
        refine hB _ _ _ _ _ (fun m101 hm101 => ?_)
        dsimp only [ucgo, ucwp, ucsC, uqC, uoC, ctC, rfd, KX7_readName, KX7_readName_0, KX7_readName_9, KX7_readName_15, KX7_readName_21, KX7_readName_27, KX7_readName_31, KX7_readName_32, KX7_readName_38, KX7_readName_43, KX7_readName_44, KX7_readName_48, KX7_readName_52, KX7_readName_53, KX7_readName_79, KX7_readName_83, lkC, s1C, s2C, dlC, kyC, Nat.beq, Nat.ble, rcd, rno, rsw, Nat.reduceAdd, Nat.reduceBEq, Nat.reduceDiv, List.drop, List.take, List.reverse, List.reverseAux, Int.toNat, Option.toList, List.append, List.cons_append, List.nil_append, zg242]
        have c102 : (Int32.ofInt 1).toInt = 1 := by decide
        refine hB _ _ _ _ _ (fun m103 hm103 => ?_)
        dsimp only [ucgo, ucwp, ucsC, uqC, uoC, ctC, rfd, KX7_readName, KX7_readName_0, KX7_readName_9, KX7_readName_15, KX7_readName_21, KX7_readName_27, KX7_readName_31, KX7_readName_32, KX7_readName_38, KX7_readName_43, KX7_readName_44, KX7_readName_48, KX7_readName_52, KX7_readName_53, KX7_readName_79, KX7_readName_83, lkC, s1C, s2C, dlC, kyC, Nat.beq, Nat.ble, rcd, rno, rsw, Nat.reduceAdd, Nat.reduceBEq, Nat.reduceDiv, List.drop, List.take, List.reverse, List.reverseAux, Int.toNat, Option.toList, List.append, List.cons_append, List.nil_append, zg242]
        refine ⟨fun h104 => ?_, fun h104 => ?_⟩
        · exact absurd h104 (by decide)
        · have g104 := (neI (x := (Int32.ofInt 1)) (y := 0) h104 : ¬ ((Int32.ofInt 1) : Int32).toInt = (0 : Int32).toInt)
          have z0_ : (0 : Int32).toInt = 0 := rfl
          refine hB _ _ _ _ _ (fun m105 hm105 => ?_)
          dsimp only [ucgo, ucwp, ucsC, uqC, uoC, ctC, rfd, KX7_readName, KX7_readName_0, KX7_readName_9, KX7_readName_15, KX7_readName_21, KX7_readName_27, KX7_readName_31, KX7_readName_32, KX7_readName_38, KX7_readName_43, KX7_readName_44, KX7_readName_48, KX7_readName_52, KX7_readName_53, KX7_readName_79, KX7_readName_83, lkC, s1C, s2C, dlC, kyC, Nat.beq, Nat.ble, rcd, rno, rsw, Nat.reduceAdd, Nat.reduceBEq, Nat.reduceDiv, List.drop, List.take, List.reverse, List.reverseAux, Int.toNat, Option.toList, List.append, List.cons_append, List.nil_append, zg242]
          have c106 : (Int32.ofInt 6).toInt = 6 := by decide
          refine hB _ _ _ _ _ (fun m107 hm107 => ?_)
          dsimp only [ucgo, ucwp, ucsC, uqC, uoC, ctC, rfd, KX7_readName, KX7_readName_0, KX7_readName_9, KX7_readName_15, KX7_readName_21, KX7_readName_27, KX7_readName_31, KX7_readName_32, KX7_readName_38, KX7_readName_43, KX7_readName_44, KX7_readName_48, KX7_readName_52, KX7_readName_53, KX7_readName_79, KX7_readName_83, lkC, s1C, s2C, dlC, kyC, Nat.beq, Nat.ble, rcd, rno, rsw, Nat.reduceAdd, Nat.reduceBEq, Nat.reduceDiv, List.drop, List.take, List.reverse, List.reverseAux, Int.toNat, Option.toList, List.append, List.cons_append, List.nil_append, zg242]
          refine ⟨fun h108 => ?_, fun h108 => ?_⟩
          · exact absurd h108 (by decide)
          · have g108 := (neI (x := (Int32.ofInt 1)) (y := 0) h108 : ¬ ((Int32.ofInt 1) : Int32).toInt = (0 : Int32).toInt)
            have z0_ : (0 : Int32).toInt = 0 := rfl
            refine hB _ _ _ _ _ (fun m109 hm109 => ?_)
            dsimp only [ucgo, ucwp, ucsC, uqC, uoC, ctC, rfd, KX7_readName, KX7_readName_0, KX7_readName_9, KX7_readName_15, KX7_readName_21, KX7_readName_27, KX7_readName_31, KX7_readName_32, KX7_readName_38, KX7_readName_43, KX7_readName_44, KX7_readName_48, KX7_readName_52, KX7_readName_53, KX7_readName_79, KX7_readName_83, lkC, s1C, s2C, dlC, kyC, Nat.beq, Nat.ble, rcd, rno, rsw, Nat.reduceAdd, Nat.reduceBEq, Nat.reduceDiv, List.drop, List.take, List.reverse, List.reverseAux, Int.toNat, Option.toList, List.append, List.cons_append, List.nil_append, zg242]
            refine hB _ _ _ _ _ (fun m110 hm110 => ?_)
            dsimp only [ucgo, ucwp, ucsC, uqC, uoC, ctC, rfd, KX7_readName, KX7_readName_0, KX7_readName_9, KX7_readName_15, KX7_readName_21, KX7_readName_27, KX7_readName_31, KX7_readName_32, KX7_readName_38, KX7_readName_43, KX7_readName_44, KX7_readName_48, KX7_readName_52, KX7_readName_53, KX7_readName_79, KX7_readName_83, lkC, s1C, s2C, dlC, kyC, Nat.beq, Nat.ble, rcd, rno, rsw, Nat.reduceAdd, Nat.reduceBEq, Nat.reduceDiv, List.drop, List.take, List.reverse, List.reverseAux, Int.toNat, Option.toList, List.append, List.cons_append, List.nil_append, zg242]
            intro w111 τ111 o111 q111
            obtain ⟨rfl, hZ111, hf111, hnw111⟩ := q111 (N, E, A, B, V, z, 6, (cobY z.1)) ⟨_, _, rfl, hZ, by omega, by omega⟩
            have hF111 := FzC.tr (FzC.rf (n := cnC σ) (m := xnM z) (E := E) (A := A) (B := B) (V := V) (z := z) (σ := σ)) (FzC.mo hf111 (Nat.le_refl (cnC σ)) ((FzC.rf (n := cnC σ) (m := xnM z) (E := E) (A := A) (B := B) (V := V) (z := z) (σ := σ))).2.2.1.1.1)
            have hL111 := LsX.fz (LsX.nil (N := N) (A := A) (n0 := cnC σ) (σ := σ) (z := z)) hf111
            have hle111 : cnC σ ≤ cnC τ111 := Nat.le_trans (Nat.le_refl (cnC σ)) (hf111).1
            have hLn111 : LsX N A (cnC σ) τ111 z [((cnC σ), (recZ 6 (cobY z.1) (zAt z.1) 0 (zAt z.1) (-1) 0 (xnM z) (-1) (-1) (-1) (-1) []), none)] := LsX.nw hL111 (fun q hq => ((LsX.nil (N := N) (A := A) (n0 := cnC σ) (σ := σ) (z := z)).1 q hq).1.2.1) hnw111 (Nat.le_refl (cnC σ)) opX_o (by show ¬ ((6 : Int) = 0 ∨ (6 : Int) = 1); omega) (fun i hi => (hZ.2.2.2.1.1.2 i hi).2)
            try dsimp only [Option.toList, List.cons_append, List.nil_append, s1C, s2C, dlC, kyC, Nat.beq, lkC, rcd, rno, rsw]
            intro a112 e112 ob112
            cases e112
            have f113 : (fIC τ111 (E 0) 242).toInt = zAt z.1 := hZ111.2.1.1.1
            intro w114 τ114 o114 q114
            obtain ⟨r114, rfl, hr114, hZ114, hf114, hmn114⟩ := q114 (N, E, A, B, V, z, (zAt z.1)) ⟨_, rfl, hZ111, by omega, by omega⟩
            have hF114 := FzC.tr hF111 (FzC.mo hf114 hle111 (hF111).2.2.1.1.1)
            have hL114 := LsX.fz hLn111 hf114
            have hle114 : cnC σ ≤ cnC τ114 := Nat.le_trans hle111 (hf114).1
            try dsimp only [Option.toList, List.cons_append, List.nil_append, s1C, s2C, dlC, kyC, Nat.beq, lkC, rcd, rno, rsw]
            intro a115 e115 ob115 fk115
            cases e115
            clear fk115 ob115
            generalize hs115 : pIC τ114 (cnC σ) 67 r114 = s115
            have hx115 : XfE τ114 s115 := by rw [← hs115]; exact XfE.pI (by decide)
            have hra115 : ∀ a, a ≠ (cnC σ) → ∀ k, fIC s115 a k = fIC τ114 a k ∧ fLC s115 a k = fLC τ114 a k ∧ fRC s115 a k = fRC τ114 a k := by rw [← hs115]; exact rI_a
            have hZ115 := ZC.lo hZ114 hL114 hx115 hra115
            have hF115 := FzC.tr hF114 (FzC.lo (n := cnC σ) (m := xnM z) (E := E) (B := B) (V := V) hL114 (Nat.le_refl _) hx115 hra115)
            have hL115 : LsX N A (cnC σ) s115 z [((cnC σ), (recZ 6 (cobY z.1) (zAt z.1) 0 (zAt z.1) (lkM N z (zAt z.1)) 0 (xnM z) (-1) (-1) (-1) (-1) []), none)] := by rw [← hs115]; exact LsX.s67 hL114 (by omega)
            have hle115 : cnC σ ≤ cnC s115 := by rw [hx115.2.2]; exact hle114
            intro w116 τ116 o116 q116
            obtain ⟨rfl, hZ116, hf116⟩ := q116 (N, E, A, B, V, z) ⟨rfl, hZ115, (f2 (by omega)).2⟩
            have hF116 := FzC.tr hF115 (FzC.mo hf116 hle115 (hF115).2.2.1.1.1)
            have hL116 := LsX.fz hL115 hf116
            have hle116 : cnC σ ≤ cnC τ116 := Nat.le_trans hle115 (hf116).1
            try dsimp only [Option.toList, List.cons_append, List.nil_append, s1C, s2C, dlC, kyC, Nat.beq, lkC, rcd, rno, rsw]
            refine ⟨fun h117 => ?_, fun h117 => ?_⟩
            · exact absurd h117 (by decide)
            · have g117 := (neI (x := (Int32.ofInt 1)) (y := 0) h117 : ¬ ((Int32.ofInt 1) : Int32).toInt = (0 : Int32).toInt)
              have z0_ : (0 : Int32).toInt = 0 := rfl
              refine hB _ _ _ _ _ (fun m118 hm118 => ?_)
              dsimp only [ucgo, ucwp, ucsC, uqC, uoC, ctC, rfd, KX7_readName, KX7_readName_0, KX7_readName_9, KX7_readName_15, KX7_readName_21, KX7_readName_27, KX7_readName_31, KX7_readName_32, KX7_readName_38, KX7_readName_43, KX7_readName_44, KX7_readName_48, KX7_readName_52, KX7_readName_53, KX7_readName_79, KX7_readName_83, lkC, s1C, s2C, dlC, kyC, Nat.beq, Nat.ble, rcd, rno, rsw, Nat.reduceAdd, Nat.reduceBEq, Nat.reduceDiv, List.drop, List.take, List.reverse, List.reverseAux, Int.toNat, Option.toList, List.append, List.cons_append, List.nil_append, zg242]
              intro w119 τ119 o119 q119
              obtain ⟨rfl, hZ119, hf119⟩ := q119 (N, E, A, B, V, (accM z)) ⟨rfl, hZ116, (f2 (by omega)).1⟩
              have hF119 := FzC.tr hF116 (FzC.mo hf119 hle116 (hF116).2.2.1.1.1)
              have hL119 := LsX.fz hL116 hf119
              have hle119 : cnC σ ≤ cnC τ119 := Nat.le_trans hle116 (hf119).1
              try dsimp only [Option.toList, List.cons_append, List.nil_append, s1C, s2C, dlC, kyC, Nat.beq, lkC, rcd, rno, rsw]
              refine hB _ _ _ _ _ (fun m120 hm120 => ?_)
              dsimp only [ucgo, ucwp, ucsC, uqC, uoC, ctC, rfd, KX7_readName, KX7_readName_0, KX7_readName_9, KX7_readName_15, KX7_readName_21, KX7_readName_27, KX7_readName_31, KX7_readName_32, KX7_readName_38, KX7_readName_43, KX7_readName_44, KX7_readName_48, KX7_readName_52, KX7_readName_53, KX7_readName_79, KX7_readName_83, lkC, s1C, s2C, dlC, kyC, Nat.beq, Nat.ble, rcd, rno, rsw, Nat.reduceAdd, Nat.reduceBEq, Nat.reduceDiv, List.drop, List.take, List.reverse, List.reverseAux, Int.toNat, Option.toList, List.append, List.cons_append, List.nil_append, zg242]
              intro w121 τ121 o121 q121
              have hh121 := LsX.hd hL119
              obtain ⟨rfl, hZ121, hpo121, hnx121⟩ := q121 (N, E, A, B, V, (accM (accM z)), (recZ 6 (cobY z.1) (zAt z.1) (zAt z.1 + 1) (zAt z.1) (lkM N z (zAt z.1)) 0 (xnM z) (-1) (-1) (-1) (-1) [])) ⟨_, rfl, hZ119, ⟨hh121.1.1.2, hh121.1.2.1, hh121.1.2.2.1⟩, (by show zAt z.1 + 1 = zAt (accY (accM z).1) - 1; rw [(acc_n (f2 (by omega)).1).2.2]; show _ = zAt (accY z.1) + 1 - 1; rw [(acc_n (f2 (by omega)).2).2.2]; show _ = zAt z.1 + 1 + 1 - 1; omega), ⟨fun a ha => absurd ha List.not_mem_nil, trivial⟩⟩
              have hnx121 := hnx121.trans hh121.1.2.2.2
              have hF121 := FzC.tr hF119 (FzC.pu (x := (recZ 6 (cobY z.1) (zAt z.1) (zAt z.1 + 1) (zAt z.1) (lkM N z (zAt z.1)) 0 (xnM z) (-1) (-1) (-1) (-1) [])) hpo121 hh121.1.1.1 hle119 (Int.le_refl _) hZ119.1.2.2.2.2.2.1.2.1)
              have hL121 := LsX.pu (x := (recZ 6 (cobY z.1) (zAt z.1) (zAt z.1 + 1) (zAt z.1) (lkM N z (zAt z.1)) 0 (xnM z) (-1) (-1) (-1) (-1) [])) hh121.2.1 hpo121 hh121.2.2
              have hle121 : cnC σ ≤ cnC τ121 := Nat.le_trans hle119 hpo121.1
              try dsimp only [Option.toList, List.cons_append, List.nil_append, s1C, s2C, dlC, kyC, Nat.beq, lkC, rcd, rno, rsw]
              try dsimp only [Qz_readName]
              exact ExQ.pu (j2 (by omega)) hZ121 hF121 hnx121 rfl rfl (Nat.le_refl _)
  · have g53 := (eqI (x := c52) (y := 0) h53 : (c52 : Int32).toInt = (0 : Int32).toInt)
    have z0_ : (0 : Int32).toInt = 0 := rfl
    refine hB _ _ _ _ _ (fun m122 hm122 => ?_)
    dsimp only [ucgo, ucwp, ucsC, uqC, uoC, ctC, rfd, KX7_readName, KX7_readName_0, KX7_readName_9, KX7_readName_15, KX7_readName_21, KX7_readName_27, KX7_readName_31, KX7_readName_32, KX7_readName_38, KX7_readName_43, KX7_readName_44, KX7_readName_48, KX7_readName_52, KX7_readName_53, KX7_readName_79, KX7_readName_83, lkC, s1C, s2C, dlC, kyC, Nat.beq, Nat.ble, rcd, rno, rsw, Nat.reduceAdd, Nat.reduceBEq, Nat.reduceDiv, List.drop, List.take, List.reverse, List.reverseAux, Int.toNat, Option.toList, List.append, List.cons_append, List.nil_append, zg242]
    intro w123 τ123 o123 q123
    obtain ⟨A123, rfl, hZ123, hf123, ht123, hx123⟩ : ExQ N E A B V z (ca2M m (eM N m) (rbM z) (accM (accM z))) σ w123 τ123 := q123 (N, E, A, B, V, z, (m + 1)) ⟨_, rfl, hZ, by omega, by omega, (by omega), (by show zFt (ca2M m (eM N m) (rbM z) (accM (accM z))).1 = 0; rw [← j1 (by omega)]; exact hft)⟩
    have hF123 := FzC.tr (FzC.rf (n := cnC σ) (m := xnM z) (E := E) (A := A) (B := B) (V := V) (z := z) (σ := σ)) (FzC.mo hf123 (Nat.le_refl (cnC σ)) ((FzC.rf (n := cnC σ) (m := xnM z) (E := E) (A := A) (B := B) (V := V) (z := z) (σ := σ))).2.2.1.1.1)
    have hL123 := LsX.fz (LsX.nil (N := N) (A := A) (n0 := cnC σ) (σ := σ) (z := z)) hf123
    have hle123 : cnC σ ≤ cnC τ123 := Nat.le_trans (Nat.le_refl (cnC σ)) (hf123).1
    try dsimp only [Option.toList, List.cons_append, List.nil_append, s1C, s2C, dlC, kyC, Nat.beq, lkC, rcd, rno, rsw]
    try dsimp only [Qz_readName]
    show ExQ N E A B V z (nmeM N m (eM N m) z) σ _ _
    rw [j1 (by omega)]
    exact ⟨A123, rfl, hZ123, hF123, ht123, hx123⟩
set_option maxHeartbeats 4000000 in
theorem pz_readCountAhead (y : (Int → Int) × (Nat → Nat) × (Nat → Nat) × (Nat → Nat) × (Nat → Nat) × ZS) : PbC KX7_readCountAhead [(125, TrP, EqC 125), (162, TrP, EqC 162), (128, TrP, EqC 128), (129, TrP, EqC 129), (161, TrP, EqC 161), (140, TrP, EqC 140)] [(125, Uz_code), (162, Uz_opened), (128, Uz_accept), (129, Uz_expect), (161, Uz_put), (140, Uz_meant)] (fun As σ => Pz_readCountAhead y As σ ∧ cnC σ ≤ 1000000 ∧ ∃ w τ, uqC quL 173 As σ w τ) (Qz_readCountAhead y) := by
  obtain ⟨N, E, A, B, V, z⟩ := y
  rintro As σ ⟨⟨rfl, hZ, hc, hft⟩, hcn, _, _, hQ⟩ K hB hW n_
  have hH : HI0 σ ∧ TyC σ (E 0) 8 := hQ
  have hat := hZ.at0 hH
  have hfx : zFt (xpY 80 (accY z.1)) = 0 := hft
  have hfa : zFt (accM z).1 = 0 := (gd_xp (c := 80) _).z hfx
  have hxq := xp_nz hfx
  have haq := acc_n hfa
  have hza : zAt (accM z).1 = zAt z.1 + 1 := by show zAt (accY z.1) = _; rw [haq.2.2]; rfl
  change K n_ 0 [(0, .inr (.inr (some (E 0))))] [] σ
  refine hB _ _ _ _ _ (fun m51 hm51 => ?_)
  dsimp only [ucgo, ucwp, ucsC, uqC, uoC, ctC, rfd, KX7_readCountAhead, KX7_readCountAhead_0, KX7_readCountAhead_33, KX7_readCountAhead_44, KX7_readCountAhead_45, lkC, s1C, s2C, dlC, kyC, Nat.beq, Nat.ble, rcd, rno, rsw, Nat.reduceAdd, Nat.reduceBEq, Nat.reduceDiv, List.drop, List.take, List.reverse, List.reverseAux, Int.toNat, Option.toList, List.append, List.cons_append, List.nil_append, zg242]
  have c52 : (Int32.ofInt 6).toInt = 6 := by decide
  intro w53 τ53 o53 q53
  obtain ⟨c53, rfl, hc53, rfl⟩ := q53 (N, E, A, B, V, z) ⟨rfl, hZ⟩
  try dsimp only [Option.toList, List.cons_append, List.nil_append, s1C, s2C, dlC, kyC, Nat.beq, lkC, rcd, rno, rsw]
  intro w54 τ54 o54 q54
  obtain ⟨rfl, hZ54, hf54, hnw54⟩ := q54 (N, E, A, B, V, z, 6, (codY z.1)) ⟨_, _, rfl, hZ, by omega, by omega⟩
  have hF54 := FzC.tr (FzC.rf (n := cnC σ) (m := xnM z) (E := E) (A := A) (B := B) (V := V) (z := z) (σ := σ)) (FzC.mo hf54 (Nat.le_refl (cnC σ)) ((FzC.rf (n := cnC σ) (m := xnM z) (E := E) (A := A) (B := B) (V := V) (z := z) (σ := σ))).2.2.1.1.1)
  have hL54 := LsX.fz (LsX.nil (N := N) (A := A) (n0 := cnC σ) (σ := σ) (z := z)) hf54
  have hle54 : cnC σ ≤ cnC τ54 := Nat.le_trans (Nat.le_refl (cnC σ)) (hf54).1
  have hLn54 : LsX N A (cnC σ) τ54 z [((cnC σ), (recZ 6 (codY z.1) (zAt z.1) 0 (zAt z.1) (-1) 0 (xnM z) (-1) (-1) (-1) (-1) []), none)] := LsX.nw hL54 (fun q hq => ((LsX.nil (N := N) (A := A) (n0 := cnC σ) (σ := σ) (z := z)).1 q hq).1.2.1) hnw54 (Nat.le_refl (cnC σ)) opX_o (by show ¬ ((6 : Int) = 0 ∨ (6 : Int) = 1); omega) (fun i hi => (hZ.2.2.2.1.1.2 i hi).2)
  try dsimp only [Option.toList, List.cons_append, List.nil_append, s1C, s2C, dlC, kyC, Nat.beq, lkC, rcd, rno, rsw]
  intro w55 τ55 o55 q55
  obtain ⟨rfl, hZ55, hf55⟩ := q55 (N, E, A, B, V, z) ⟨rfl, hZ54, hfa⟩
  have hF55 := FzC.tr hF54 (FzC.mo hf55 hle54 (hF54).2.2.1.1.1)
  have hL55 := LsX.fz hLn54 hf55
  have hle55 : cnC σ ≤ cnC τ55 := Nat.le_trans hle54 (hf55).1
  try dsimp only [Option.toList, List.cons_append, List.nil_append, s1C, s2C, dlC, kyC, Nat.beq, lkC, rcd, rno, rsw]
  intro a56 e56 ob56
  cases e56
  have f57 : (fIC τ55 (E 0) 242).toInt = zAt (accM z).1 := hZ55.2.1.1.1
  intro a58 e58 ob58 fk58
  cases e58
  clear fk58 ob58
  generalize hs58 : pIC τ55 (cnC σ) 66 (fIC τ55 (E 0) 242) = s58
  have hx58 : XfE τ55 s58 := by rw [← hs58]; exact XfE.pI (by decide)
  have hra58 : ∀ a, a ≠ (cnC σ) → ∀ k, fIC s58 a k = fIC τ55 a k ∧ fLC s58 a k = fLC τ55 a k ∧ fRC s58 a k = fRC τ55 a k := by rw [← hs58]; exact rI_a
  have hZ58 := ZC.lo hZ55 hL55 hx58 hra58
  have hF58 := FzC.tr hF55 (FzC.lo (n := cnC σ) (m := xnM z) (E := E) (B := B) (V := V) hL55 (Nat.le_refl _) hx58 hra58)
  have hL58 : LsX N A (cnC σ) s58 (accM z) [((cnC σ), (recZ 6 (codY z.1) (zAt z.1) 0 (zAt z.1 + 1) (-1) 0 (xnM z) (-1) (-1) (-1) (-1) []), none)] := by rw [← hs58]; exact LsX.s66 hL55 (by omega)
  have hle58 : cnC σ ≤ cnC s58 := by rw [hx58.2.2]; exact hle55
  intro w59 τ59 o59 q59
  obtain ⟨c59, rfl, hc59, rfl⟩ := q59 (N, E, A, B, V, (accM z)) ⟨rfl, hZ58⟩
  try dsimp only [Option.toList, List.cons_append, List.nil_append, s1C, s2C, dlC, kyC, Nat.beq, lkC, rcd, rno, rsw]
  have c60 : (Int32.ofInt 80).toInt = 80 := by decide
  refine ⟨fun h61 => ?_, fun h61 => ?_⟩
  · have g61 := (neI (x := c59) (y := (Int32.ofInt 80)) h61 : ¬ (c59 : Int32).toInt = ((Int32.ofInt 80) : Int32).toInt)
    exfalso
    have := hxq.1
    have e9 : codY (accM z).1 = codY (accY z.1) := rfl
    omega
  · have g61 := (eqI (x := c59) (y := (Int32.ofInt 80)) h61 : (c59 : Int32).toInt = ((Int32.ofInt 80) : Int32).toInt)
    refine hB _ _ _ _ _ (fun m62 hm62 => ?_)
    dsimp only [ucgo, ucwp, ucsC, uqC, uoC, ctC, rfd, KX7_readCountAhead, KX7_readCountAhead_0, KX7_readCountAhead_33, KX7_readCountAhead_44, KX7_readCountAhead_45, lkC, s1C, s2C, dlC, kyC, Nat.beq, Nat.ble, rcd, rno, rsw, Nat.reduceAdd, Nat.reduceBEq, Nat.reduceDiv, List.drop, List.take, List.reverse, List.reverseAux, Int.toNat, Option.toList, List.append, List.cons_append, List.nil_append, zg242]
    intro a63 e63 ob63
    cases e63
    have f64 : (fIC s58 (E 0) 242).toInt = zAt (accM z).1 := hZ58.2.1.1.1
    intro w65 τ65 o65 q65
    obtain ⟨r65, rfl, hr65, hZ65, hf65, hmn65⟩ := q65 (N, E, A, B, V, (accM z), (zAt z.1 + 1)) ⟨_, rfl, hZ58, by omega, by omega⟩
    have hF65 := FzC.tr hF58 (FzC.mo hf65 hle58 (hF58).2.2.1.1.1)
    have hL65 := LsX.fz hL58 hf65
    have hle65 : cnC σ ≤ cnC τ65 := Nat.le_trans hle58 (hf65).1
    try dsimp only [Option.toList, List.cons_append, List.nil_append, s1C, s2C, dlC, kyC, Nat.beq, lkC, rcd, rno, rsw]
    refine hB _ _ _ _ _ (fun m66 hm66 => ?_)
    dsimp only [ucgo, ucwp, ucsC, uqC, uoC, ctC, rfd, KX7_readCountAhead, KX7_readCountAhead_0, KX7_readCountAhead_33, KX7_readCountAhead_44, KX7_readCountAhead_45, lkC, s1C, s2C, dlC, kyC, Nat.beq, Nat.ble, rcd, rno, rsw, Nat.reduceAdd, Nat.reduceBEq, Nat.reduceDiv, List.drop, List.take, List.reverse, List.reverseAux, Int.toNat, Option.toList, List.append, List.cons_append, List.nil_append, zg242]
    intro a67 e67 ob67 fk67
    cases e67
    clear fk67 ob67
    generalize hs67 : pIC τ65 (cnC σ) 67 r65 = s67
    have hx67 : XfE τ65 s67 := by rw [← hs67]; exact XfE.pI (by decide)
    have hra67 : ∀ a, a ≠ (cnC σ) → ∀ k, fIC s67 a k = fIC τ65 a k ∧ fLC s67 a k = fLC τ65 a k ∧ fRC s67 a k = fRC τ65 a k := by rw [← hs67]; exact rI_a
    have hZ67 := ZC.lo hZ65 hL65 hx67 hra67
    have hF67 := FzC.tr hF65 (FzC.lo (n := cnC σ) (m := xnM z) (E := E) (B := B) (V := V) hL65 (Nat.le_refl _) hx67 hra67)
    have hL67 : LsX N A (cnC σ) s67 (accM z) [((cnC σ), (recZ 6 (codY z.1) (zAt z.1) 0 (zAt z.1 + 1) (lkM N (accM z) (zAt z.1 + 1)) 0 (xnM z) (-1) (-1) (-1) (-1) []), none)] := by rw [← hs67]; exact LsX.s67 hL65 (by omega)
    have hle67 : cnC σ ≤ cnC s67 := by rw [hx67.2.2]; exact hle65
    have c68 : (Int32.ofInt 80).toInt = 80 := by decide
    intro w69 τ69 o69 q69
    obtain ⟨rfl, hZ69, hf69⟩ := q69 (N, E, A, B, V, (accM z), 80) ⟨_, rfl, hZ67, by omega, hfx⟩
    have hF69 := FzC.tr hF67 (FzC.mo hf69 hle67 (hF67).2.2.1.1.1)
    have hL69 := LsX.fz hL67 hf69
    have hle69 : cnC σ ≤ cnC τ69 := Nat.le_trans hle67 (hf69).1
    try dsimp only [Option.toList, List.cons_append, List.nil_append, s1C, s2C, dlC, kyC, Nat.beq, lkC, rcd, rno, rsw]
    intro w70 τ70 o70 q70
    have hh70 := LsX.hd hL69
    obtain ⟨rfl, hZ70, hpo70, hnx70⟩ := q70 (N, E, A, B, V, (xpM 80 (accM z)), (recZ 6 (codY z.1) (zAt z.1) (zAt z.1 + 1) (zAt z.1 + 1) (lkM N (accM z) (zAt z.1 + 1)) 0 (xnM z) (-1) (-1) (-1) (-1) [])) ⟨_, rfl, hZ69, ⟨hh70.1.1.2, hh70.1.2.1, hh70.1.2.2.1⟩, (by show zAt z.1 + 1 = zAt (xpY 80 (accY z.1)) - 1; rw [hxq.2, (acc_n (by rw [← hxq.2]; exact hfx)).2.2]; show _ = zAt (accM z).1 + 1 - 1; omega), ⟨fun a ha => absurd ha List.not_mem_nil, trivial⟩⟩
    have hnx70 := hnx70.trans hh70.1.2.2.2
    have hF70 := FzC.tr hF69 (FzC.pu (x := (recZ 6 (codY z.1) (zAt z.1) (zAt z.1 + 1) (zAt z.1 + 1) (lkM N (accM z) (zAt z.1 + 1)) 0 (xnM z) (-1) (-1) (-1) (-1) [])) hpo70 hh70.1.1.1 hle69 (Int.le_refl _) hZ69.1.2.2.2.2.2.1.2.1)
    have hL70 := LsX.pu (x := (recZ 6 (codY z.1) (zAt z.1) (zAt z.1 + 1) (zAt z.1 + 1) (lkM N (accM z) (zAt z.1 + 1)) 0 (xnM z) (-1) (-1) (-1) (-1) [])) hh70.2.1 hpo70 hh70.2.2
    have hle70 : cnC σ ≤ cnC τ70 := Nat.le_trans hle69 hpo70.1
    try dsimp only [Option.toList, List.cons_append, List.nil_append, s1C, s2C, dlC, kyC, Nat.beq, lkC, rcd, rno, rsw]
    try dsimp only [Qz_readCountAhead]
    exact ExQ.pu rfl hZ70 hF70 hnx70 rfl rfl (Nat.le_refl _)
theorem wz_readCountAhead : ∀ (L : Nat) (As : List AvC) (σ : CsC) (w : Option AvC) (τ : CsC), EvF L 173 As σ w τ → Uz_readCountAhead As σ w τ := by
  intro L
  cases L with
  | zero => exact fun _ _ _ _ h => h.elim
  | succ L => exact fun As σ w τ h y hy => EvF.us (cs := [125, 162, 128, 129, 161, 140]) (pz_readCountAhead y) rfl (List.forall_mem_cons.2 ⟨wz_code L, List.forall_mem_cons.2 ⟨wz_opened L, List.forall_mem_cons.2 ⟨wz_accept L, List.forall_mem_cons.2 ⟨wz_expect L, List.forall_mem_cons.2 ⟨wz_put L, List.forall_mem_cons.2 ⟨wz_meant L, fun _ h => absurd h List.not_mem_nil⟩⟩⟩⟩⟩⟩) h hy
