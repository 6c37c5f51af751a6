/-! read: the class's -/
abbrev Uz_rdq : CqC := fun As σ w τ => (Q_X7_readProgram As σ w τ ∧ U_readProgram As σ w τ) ∧ Uz_readProgram As σ w τ ∧ Uz_rgProgram As σ w τ
theorem wz_rdq : ∀ (L : Nat) (As : List AvC) (σ : CsC) (w : Option AvC) (τ : CsC), EvF L 123 As σ w τ → Uz_rdq As σ w τ := fun L As σ w τ h => ⟨h.m, wz_readProgram L As σ w τ h, wz_rgProgram L As σ w τ h⟩
abbrev Uz_jdq : CqC := fun As σ w τ => Q_X3_judgeProgram As σ w τ ∧ Uz_judgeProgram As σ w τ
theorem wz_jdq : ∀ (L : Nat) (As : List AvC) (σ : CsC) (w : Option AvC) (τ : CsC), EvF L 49 As σ w τ → Uz_jdq As σ w τ := fun L As σ w τ h => ⟨h.m, wz_judgeProgram L As σ w τ h⟩
abbrev Uz_lyq : CqC := fun As σ w τ => Q_X0_lay As σ w τ
theorem wz_lyq : ∀ (L : Nat) (As : List AvC) (σ : CsC) (w : Option AvC) (τ : CsC), EvF L 1 As σ w τ → Uz_lyq As σ w τ := fun L As σ w τ h => h.m
abbrev Uz_fpq : CqC := fun As σ w τ => Q_X7_faultPlace As σ w τ
theorem wz_fpq : ∀ (L : Nat) (As : List AvC) (σ : CsC) (w : Option AvC) (τ : CsC), EvF L 124 As σ w τ → Uz_fpq As σ w τ := fun L As σ w τ h => h.m
theorem rdx_b {r : Int32} {a : Int} (h : r.toInt = a) (g : ¬ r.toInt = (0 : Int32).toInt) : ¬ a = 0 := fun q => g (by rw [h, q]; rfl)
theorem rdx_g {r : Int32} {a : Int} (h : r.toInt = a) (g : r.toInt = (0 : Int32).toInt) : a = 0 := by rw [← h, g]; rfl
theorem AnF.sm2 {σ τ1 τ : CsC} {P : Nat} (h : AnF σ τ1 P) (m : SmC τ1 τ) : AnF σ τ P := by
  obtain ⟨h1, h2, ⟨h3, h4⟩, h5⟩ := h
  refine ⟨by rw [m.2.2.1]; exact h1, fun a ha t k hk => ?_, ⟨by rw [(m.1 P 217 (by decide)).1]; exact h3, fun k a b => ((m.1 P k (by omega)).2.2).trans (h4 k a b)⟩, fun k c a b e => ?_⟩
  · have q := List.elem_iff.mp hk
    simp only [anX, List.mem_cons, List.not_mem_nil, or_false] at q
    have e := m.1 a k (by omega)
    have h := h2 a ha t k hk
    exact ⟨e.1.trans h.1, e.2.1.trans h.2.1, e.2.2.trans h.2.2⟩
  · obtain ⟨q1, q2⟩ := h5 k c a b e
    refine ⟨((m.1 c 2 (by decide)).1).trans q1, fun i hi => ?_⟩
    have q := q2 i hi
    unfold elC at q ⊢
    rw [(m.1 c 1 (by decide)).2.2, m.2.1.2.2]
    exact q
abbrev Pz_read : ((Int → Int) × (Nat → Nat) × (Nat → Nat) × (Nat → Nat) × (Nat → Nat) × ZS × TxY × TxY × Nat × LzY × Nat × Nat) → CpC := fun y As σ => match y with
  | (N, E, A, B, V, z, x, y0, m0, lz, P, P1) => ∃ (p0 : Nat), As = [.inr (.inr (some p0))] ∧ (HIC σ) ∧ (Pp_read (x, y0, m0, lz) [.inr (.inr (some p0))] σ) ∧ (fRC σ p0 363 = some P ∧ fRC σ p0 364 = some P1) ∧ (PpC σ P P1)
abbrev Qz_read : ((Int → Int) × (Nat → Nat) × (Nat → Nat) × (Nat → Nat) × (Nat → Nat) × ZS × TxY × TxY × Nat × LzY × Nat × Nat) → CqC := fun y As σ w τ => match y, As with
  | (N, E, A, B, V, z, x, y0, m0, lz, P, P1), [.inr (.inr (some p0))] => ((∀ s n, Z0Y s → TkS x s n → ¬ zFt (prlY 11 s) = 0) → (fRC τ p0 363 = some P ∧ fRC τ p0 364 = some P1) ∧ PpC τ P P1 ∧ AnF σ τ P) ∧ (∀ U, RfX x U → (fRC τ p0 363 = some P1 ∧ fRC τ p0 364 = some P) ∧ PpC τ P1 P ∧ PgA x τ P1)
  | _, _ => True
abbrev Uz_read : CqC := fun As σ w τ => ∀ y, Pz_read y As σ → Qz_read y As σ w τ
set_option maxHeartbeats 4000000 in
theorem pz_read (y : (Int → Int) × (Nat → Nat) × (Nat → Nat) × (Nat → Nat) × (Nat → Nat) × ZS × TxY × TxY × Nat × LzY × Nat × Nat) : PbC KX11_read [(123, TrP, EqC 123), (49, TrP, EqC 49), (234, TrP, EqC 234), (1, TrP, EqC 1), (124, TrP, EqC 124)] [(123, Uz_rdq), (49, Uz_jdq), (1, Uz_lyq), (124, Uz_fpq)] (fun As σ => Pz_read y As σ ∧ cnC σ ≤ 1000000 ∧ ∃ w τ, uqC quL 204 As σ w τ) (Qz_read y) := by
  obtain ⟨N, E, A, B, V, z, x, y0, m0, lz, P, P1⟩ := y
  rintro As σ ⟨⟨p0, rfl, H0, hpr, hPP, hpp⟩, hcn, _, _, hQ⟩ K hB hW n_
  have hH : HI0 σ ∧ TyC σ p0 12 := hQ
  have h0 := hH.2
  replace hpr : (cnC σ < 1000000 ∧ x.2 = (fIC σ p0 369).toInt ∧ (∀ c, fRC σ p0 360 = some c → ∀ j : Nat, (j : Int) < x.2 → (eIC σ c j &&& 255).toInt = x.1 j) ∧ okY x) ∧ W2C σ p0 ∧ DsC σ p0 ∧ TcP σ p0 y0 m0 ∧ DlC σ p0 ∧ LcP σ p0 lz := hpr
  obtain ⟨⟨hcn9, hx2, hxb, hok⟩, hw2, hds, ⟨P0, t0, hP0, ht0, hTc0⟩, hdl, P9, la, lb, hP9, hLs0⟩ := hpr
  obtain ⟨P_, t, c, P', t', c', hW0⟩ := hw2.t H0 h0
  obtain rfl : P_ = P0 := Option.some.inj (hW0.2.1.1.symm.trans hP0)
  obtain rfl : t = t0 := Option.some.inj (hW0.2.2.1.2.1.symm.trans ht0)
  obtain rfl : P_ = P9 := Option.some.inj (hW0.2.1.1.symm.trans hP9)
  obtain rfl : P_ = P := Option.some.inj (hW0.2.1.1.symm.trans hPP.1)
  obtain rfl : P' = P1 := Option.some.inj (hW0.2.1.2.symm.trans hPP.2)
  obtain ⟨e363, e364⟩ := hPP
  have hD0 := hds.d hW0
  have hE0 := hdl.d hW0
  have hAp := ApC.mk H0 hW0.2.2.1.tt hW0.2.2.2.tt hD0
  have t7 : TyC σ P_ 7 := WP.ty hW0.2.2.1
  have t7' : TyC σ P' 7 := WP.ty hW0.2.2.2
  have tt' : TyC σ t' 10 := hW0.2.2.2.tt
  have e210 : fRC σ P' 210 = some t' := hW0.2.2.2.2.1
  obtain ⟨tp, -, e360, t101, hal⟩ := cg360 H0.1 h0
  obtain ⟨rd, -, e365, t8⟩ := cg365 H0.1 h0
  obtain ⟨Jd, -, e366, t4⟩ := cg366 H0.1 h0
  obtain ⟨cd, -, e367, tc1⟩ := cg367 H0.1 h0
  change K n_ 0 [(0, .inr (.inr (some p0)))] [] σ
  refine hB _ _ _ _ _ (fun m51 hm51 => ?_)
  dsimp only [ucgo, ucwp, ucsC, uqC, uoC, ctC, rfd, KX11_read, KX11_read_0, KX11_read_29, KX11_read_45, KX11_read_95, KX11_read_106, lkC, s1C, s2C, dlC, kyC, Nat.beq, Nat.ble, rcd, rno, rsw, Nat.reduceAdd, Nat.reduceBEq, Nat.reduceDiv, List.drop, List.take, List.reverse, List.reverseAux, Int.toNat, Option.toList, List.append, List.cons_append, List.nil_append, zg211, zg217, zg360, zg363, zg364, zg365, zg366, zg367, zg369]
  intro a52 e52 ob52
  cases e52
  intro a53 e53 ob53
  cases e53
  intro a54 e54 ob54
  cases e54
  intro a55 e55 ob55
  cases e55
  rw [e365]
  try dsimp only
  intro w56 τ56 o56 q56
  rw [e364, e360] at o56 q56
  obtain ⟨⟨hq1, hu1⟩, hz1, hr1⟩ := q56
  have hRp : RpC rd P' t' (kyR σ rd P' t') σ τ56 := hr1 (fun _ => 0, fun _ => 0, fun _ => 0, fun _ => 0, fun _ => 0, z, t') ⟨_, _, _, _, rfl, t7', e210⟩
  have hzz : (∀ s n, Z0Y s → TkS x s n → zFt (prlY 11 s) = 0) → _ := fun hno => (hz1 (fun _ => 0, fun _ => 0, fun _ => 0, fun _ => 0, fun _ => 0, z, x) ⟨_, _, _, _, rfl, t7', t101, hcn9, hal, ⟨hx2, hxb tp e360, hok⟩, fun t9 h9 => by
    obtain rfl : t' = t9 := Option.some.inj (e210.symm.trans h9)
    exact fun k hk j hj => by
      obtain rfl : c' = k := Option.some.inj (hW0.2.2.2.2.2.2.1.symm.trans hk)
      exact hW0.2.2.2.2.2.2.2.2 j hj, hno⟩).2
  obtain ⟨⟨tk, nn, f241, ftk, hCu⟩, hTv, la2, lb2, hLs1⟩ := hu1 (x, t, y0, m0, P_, lz) ⟨⟨hcn9, hx2, hxb tp e360, hok⟩, fun y2 hy => by
    obtain rfl : t' = y2 := Option.some.inj (e210.symm.trans hy)
    exact ⟨fun k hk j hj => by
      obtain rfl : c' = k := Option.some.inj (hW0.2.2.2.2.2.2.1.symm.trans hk)
      exact hW0.2.2.2.2.2.2.2.2 j hj, hAp, RwU.mk H0 hW0.2.2.1.tt, hTc0⟩, hW0.2.2.1.pg, la, lb, hLs0, fun q => hE0 211 (Or.inl rfl) la la hLs0.1.1.1 q rfl, fun q => hE0 212 (Or.inr rfl) lb lb hLs0.1.1.2 q rfl⟩
  obtain rfl : t' = tk := Option.some.inj (e210.symm.trans ftk)
  obtain ⟨r, rfl, HI1, ex1, r0, r3, -, -, f240, s, hZ, hRe, hFt⟩ := hq1
  have hTk := TkS.mk hCu f241 hRe
  have h1 : TyC τ56 p0 12 := h0.x ex1
  have k363 : fRC τ56 p0 363 = some P_ := (h0.mr ex1 rfl).trans e363
  have k364 : fRC τ56 p0 364 = some P' := (h0.mr ex1 rfl).trans e364
  have k365 : fRC τ56 p0 365 = some rd := (h0.mr ex1 rfl).trans e365
  have k366 : fRC τ56 p0 366 = some Jd := (h0.mr ex1 rfl).trans e366
  have k367 : fRC τ56 p0 367 = some cd := (h0.mr ex1 rfl).trans e367
  have m1 : SmC τ56 τ56 := SmC.rf
  try dsimp only [Option.toList, List.cons_append, List.nil_append, s1C, s2C, dlC, kyC, Nat.beq, lkC, rcd, rno, rsw]
  have c57 : (Int32.ofInt 0).toInt = 0 := by decide
  intro a58 e58 ob58 fk58
  cases e58
  clear fk58 ob58
  generalize hs58 : pIC τ56 p0 369 (Int32.ofInt 0) = s58
  have m_58 : SmC τ56 s58 := m1.tr (by rw [← hs58]; exact SmC.pI (by decide))
  have k363_58 : fRC s58 p0 363 = some P_ := by rw [← hs58]; exact k363
  have k364_58 : fRC s58 p0 364 = some P' := by rw [← hs58]; exact k364
  have k365_58 : fRC s58 p0 365 = some rd := by rw [← hs58]; exact k365
  have k366_58 : fRC s58 p0 366 = some Jd := by rw [← hs58]; exact k366
  have k367_58 : fRC s58 p0 367 = some cd := by rw [← hs58]; exact k367
  refine ⟨fun h59 => ?_, fun h59 => ?_⟩
  · have g59 := (eqI (x := r) (y := 0) h59 : (r : Int32).toInt = (0 : Int32).toInt)
    have z0_ : (0 : Int32).toInt = 0 := rfl
    refine hB _ _ _ _ _ (fun m60 hm60 => ?_)
    dsimp only [ucgo, ucwp, ucsC, uqC, uoC, ctC, rfd, KX11_read, KX11_read_0, KX11_read_29, KX11_read_45, KX11_read_95, KX11_read_106, lkC, s1C, s2C, dlC, kyC, Nat.beq, Nat.ble, rcd, rno, rsw, Nat.reduceAdd, Nat.reduceBEq, Nat.reduceDiv, List.drop, List.take, List.reverse, List.reverseAux, Int.toNat, Option.toList, List.append, List.cons_append, List.nil_append, zg211, zg217, zg360, zg363, zg364, zg365, zg366, zg367, zg369]
    intro a61 e61 ob61
    cases e61
    intro a62 e62 ob62
    cases e62
    intro a63 e63 ob63 fk63
    cases e63
    clear fk63 ob63
    generalize hs63 : pRC s58 p0 363 (fRC s58 p0 364) = s63
    have m_63 : SmC τ56 s63 := m_58.tr (by rw [← hs63]; exact SmC.pR (by decide))
    have k363_63 : fRC s63 p0 363 = some P' := by rw [← hs63]; exact fR_pRs.trans k364_58
    have k364_63 : fRC s63 p0 364 = some P' := by rw [← hs63]; exact (fR_pR (Or.inl (by decide))).trans k364_58
    have k365_63 : fRC s63 p0 365 = some rd := by rw [← hs63]; exact (fR_pR (Or.inl (by decide))).trans k365_58
    have k366_63 : fRC s63 p0 366 = some Jd := by rw [← hs63]; exact (fR_pR (Or.inl (by decide))).trans k366_58
    have k367_63 : fRC s63 p0 367 = some cd := by rw [← hs63]; exact (fR_pR (Or.inl (by decide))).trans k367_58
    intro a64 e64 ob64 fk64
    cases e64
    clear fk64 ob64
    generalize hs64 : pRC s63 p0 364 (fRC s58 p0 363) = s64
    have m_64 : SmC τ56 s64 := m_63.tr (by rw [← hs64]; exact SmC.pR (by decide))
    have k363_64 : fRC s64 p0 363 = some P' := by rw [← hs64]; exact (fR_pR (Or.inl (by decide))).trans k363_63
    have k364_64 : fRC s64 p0 364 = some P_ := by rw [← hs64]; exact fR_pRs.trans k363_58
    have k365_64 : fRC s64 p0 365 = some rd := by rw [← hs64]; exact (fR_pR (Or.inl (by decide))).trans k365_63
    have k366_64 : fRC s64 p0 366 = some Jd := by rw [← hs64]; exact (fR_pR (Or.inl (by decide))).trans k366_63
    have k367_64 : fRC s64 p0 367 = some cd := by rw [← hs64]; exact (fR_pR (Or.inl (by decide))).trans k367_63
    have c65 : (Int32.ofInt (-2)).toInt = -2 := by decide
    intro a66 e66 ob66 fk66
    cases e66
    clear fk66 ob66
    generalize hs66 : pIC s64 p0 371 (Int32.ofInt (-2)) = s66
    have m_66 : SmC τ56 s66 := m_64.tr (by rw [← hs66]; exact SmC.pI (by decide))
    have k363_66 : fRC s66 p0 363 = some P' := by rw [← hs66]; exact k363_64
    have k364_66 : fRC s66 p0 364 = some P_ := by rw [← hs66]; exact k364_64
    have k365_66 : fRC s66 p0 365 = some rd := by rw [← hs66]; exact k365_64
    have k366_66 : fRC s66 p0 366 = some Jd := by rw [← hs66]; exact k366_64
    have k367_66 : fRC s66 p0 367 = some cd := by rw [← hs66]; exact k367_64
    have c67 : (Int32.ofInt 0).toInt = 0 := by decide
    intro a68 e68 ob68 fk68
    cases e68
    clear fk68 ob68
    generalize hs68 : pIC s66 p0 372 (Int32.ofInt 0) = s68
    have m_68 : SmC τ56 s68 := m_66.tr (by rw [← hs68]; exact SmC.pI (by decide))
    have k363_68 : fRC s68 p0 363 = some P' := by rw [← hs68]; exact k363_66
    have k364_68 : fRC s68 p0 364 = some P_ := by rw [← hs68]; exact k364_66
    have k365_68 : fRC s68 p0 365 = some rd := by rw [← hs68]; exact k365_66
    have k366_68 : fRC s68 p0 366 = some Jd := by rw [← hs68]; exact k366_66
    have k367_68 : fRC s68 p0 367 = some cd := by rw [← hs68]; exact k367_66
    intro a69 e69 ob69
    cases e69
    intro a70 e70 ob70
    cases e70
    rw [k366_68]
    try dsimp only
    intro w71 τ71 o71 q71
    rw [k363_68] at o71 q71
    have HJ : HI0 s68 ∧ TyC s68 Jd 4 := o71.1.1
    obtain ⟨hjq, hju⟩ := q71
    obtain ⟨rfl, HI2, ex2⟩ := (show Q_X3_judgeProgram [.inr (.inr (some Jd)), .inr (.inr (some P'))] s68 w71 τ71 from hjq)
    have f2 : FrE M49 s68 τ71 := o71.2
    have h6 : TyC s68 p0 12 := h1.sm (by decide) m_68
    have h2 : TyC τ71 p0 12 := h6.x ex2
    have j363 : fRC τ71 p0 363 = some P' := (h6.mr ex2 rfl).trans k363_68
    have j364 : fRC τ71 p0 364 = some P_ := (h6.mr ex2 rfl).trans k364_68
    have j365 : fRC τ71 p0 365 = some rd := (h6.mr ex2 rfl).trans k365_68
    have j366 : fRC τ71 p0 366 = some Jd := (h6.mr ex2 rfl).trans k366_68
    have j367 : fRC τ71 p0 367 = some cd := (h6.mr ex2 rfl).trans k367_68
    try dsimp only [Option.toList, List.cons_append, List.nil_append, s1C, s2C, dlC, kyC, Nat.beq, lkC, rcd, rno, rsw]
    intro a72 e72 ob72
    cases e72
    intro a73 e73 ob73
    obtain rfl : P' = a73 := Option.some.inj (j363.symm.trans e73)
    refine ⟨fun h74 => ?_, fun h74 => ?_⟩
    · have g74 := (neI (x := (fIC τ71 P' 217)) (y := 0) h74 : ¬ ((fIC τ71 P' 217) : Int32).toInt = (0 : Int32).toInt)
      have z0_ : (0 : Int32).toInt = 0 := rfl
      refine hB _ _ _ _ _ (fun m75 hm75 => ?_)
      dsimp only [ucgo, ucwp, ucsC, uqC, uoC, ctC, rfd, KX11_read, KX11_read_0, KX11_read_29, KX11_read_45, KX11_read_95, KX11_read_106, lkC, s1C, s2C, dlC, kyC, Nat.beq, Nat.ble, rcd, rno, rsw, Nat.reduceAdd, Nat.reduceBEq, Nat.reduceDiv, List.drop, List.take, List.reverse, List.reverseAux, Int.toNat, Option.toList, List.append, List.cons_append, List.nil_append, zg211, zg217, zg360, zg363, zg364, zg365, zg366, zg367, zg369]
      intro a76 e76 ob76
      cases e76
      intro a77 e77 ob77
      obtain rfl : P' = a77 := Option.some.inj (j363.symm.trans e77)
      obtain ⟨l211, -, e211, -⟩ := cg211 (HI2.1) (((t7'.x ex1).sm (by decide) m_68).x ex2)
      rw [e211]
      try dsimp only
      intro w78 τ78 o78 q78
      obtain ⟨r78, rfl, rfl, -⟩ := (show Q_Jx4a65c_size_8abf5 [.inr (.inr (some l211))] τ71 w78 τ78 from o78.1.1)
      try dsimp only [Option.toList, List.cons_append, List.nil_append, s1C, s2C, dlC, kyC, Nat.beq, lkC, rcd, rno, rsw]
      try dsimp only [Qz_read]
      have g9 := rd_end H0.1 t8 t7 t7' tt' hpp ex1 HI1.1 hRp m_68 HJ HI2.1 ex2 rfl f2 hju (Or.inl rfl) hRe f240 f241 hZ hTk hzz
      exact ⟨fun hb => absurd (rdx_g hFt g59) (hb s nn hZ hTk), fun U hU => ⟨⟨j363, j364⟩, g9.1, g9.2 U hU⟩⟩
    · have g74 := (eqI (x := (fIC τ71 P' 217)) (y := 0) h74 : ((fIC τ71 P' 217) : Int32).toInt = (0 : Int32).toInt)
      have z0_ : (0 : Int32).toInt = 0 := rfl
      refine hB _ _ _ _ _ (fun m79 hm79 => ?_)
      dsimp only [ucgo, ucwp, ucsC, uqC, uoC, ctC, rfd, KX11_read, KX11_read_0, KX11_read_29, KX11_read_45, KX11_read_95, KX11_read_106, lkC, s1C, s2C, dlC, kyC, Nat.beq, Nat.ble, rcd, rno, rsw, Nat.reduceAdd, Nat.reduceBEq, Nat.reduceDiv, List.drop, List.take, List.reverse, List.reverseAux, Int.toNat, Option.toList, List.append, List.cons_append, List.nil_append, zg211, zg217, zg360, zg363, zg364, zg365, zg366, zg367, zg369]
      intro a80 e80 ob80
      cases e80
      intro a81 e81 ob81
      cases e81
      rw [j367]
      try dsimp only
      intro w82 τ82 o82 q82
      rw [j363] at o82 q82
      obtain ⟨rfl, HI3, ex3⟩ := (show Q_X0_lay [.inr (.inr (some cd)), .inr (.inr (some P'))] τ71 w82 τ82 from q82)
      have f3 : FrE M01 τ71 τ82 := o82.2
      have l363 : fRC τ82 p0 363 = some P' := (h2.mr ex3 rfl).trans j363
      have l364 : fRC τ82 p0 364 = some P_ := (h2.mr ex3 rfl).trans j364
      have l365 : fRC τ82 p0 365 = some rd := (h2.mr ex3 rfl).trans j365
      have l366 : fRC τ82 p0 366 = some Jd := (h2.mr ex3 rfl).trans j366
      have l367 : fRC τ82 p0 367 = some cd := (h2.mr ex3 rfl).trans j367
      try dsimp only [Option.toList, List.cons_append, List.nil_append, s1C, s2C, dlC, kyC, Nat.beq, lkC, rcd, rno, rsw]
      refine hB _ _ _ _ _ (fun m83 hm83 => ?_)
      dsimp only [ucgo, ucwp, ucsC, uqC, uoC, ctC, rfd, KX11_read, KX11_read_0, KX11_read_29, KX11_read_45, KX11_read_95, KX11_read_106, lkC, s1C, s2C, dlC, kyC, Nat.beq, Nat.ble, rcd, rno, rsw, Nat.reduceAdd, Nat.reduceBEq, Nat.reduceDiv, List.drop, List.take, List.reverse, List.reverseAux, Int.toNat, Option.toList, List.append, List.cons_append, List.nil_append, zg211, zg217, zg360, zg363, zg364, zg365, zg366, zg367, zg369]
      intro a84 e84 ob84
      cases e84
      intro a85 e85 ob85
      obtain rfl : P' = a85 := Option.some.inj (l363.symm.trans e85)
      obtain ⟨l211, -, e211, -⟩ := cg211 (HI3.1) ((((t7'.x ex1).sm (by decide) m_68).x ex2).x ex3)
      rw [e211]
      try dsimp only
      intro w86 τ86 o86 q86
      obtain ⟨r86, rfl, rfl, -⟩ := (show Q_Jx4a65c_size_8abf5 [.inr (.inr (some l211))] τ82 w86 τ86 from o86.1.1)
      try dsimp only [Option.toList, List.cons_append, List.nil_append, s1C, s2C, dlC, kyC, Nat.beq, lkC, rcd, rno, rsw]
      try dsimp only [Qz_read]
      have g9 := rd_end H0.1 t8 t7 t7' tt' hpp ex1 HI1.1 hRp m_68 HJ HI2.1 ex2 rfl f2 hju (Or.inr ⟨_, f3, ex3, rfl, rfl⟩) hRe f240 f241 hZ hTk hzz
      exact ⟨fun hb => absurd (rdx_g hFt g59) (hb s nn hZ hTk), fun U hU => ⟨⟨l363, l364⟩, g9.1, g9.2 U hU⟩⟩
  · have g59 := (neI (x := r) (y := 0) h59 : ¬ (r : Int32).toInt = (0 : Int32).toInt)
    have z0_ : (0 : Int32).toInt = 0 := rfl
    refine hB _ _ _ _ _ (fun m87 hm87 => ?_)
    dsimp only [ucgo, ucwp, ucsC, uqC, uoC, ctC, rfd, KX11_read, KX11_read_0, KX11_read_29, KX11_read_45, KX11_read_95, KX11_read_106, lkC, s1C, s2C, dlC, kyC, Nat.beq, Nat.ble, rcd, rno, rsw, Nat.reduceAdd, Nat.reduceBEq, Nat.reduceDiv, List.drop, List.take, List.reverse, List.reverseAux, Int.toNat, Option.toList, List.append, List.cons_append, List.nil_append, zg211, zg217, zg360, zg363, zg364, zg365, zg366, zg367, zg369]
    intro a88 e88 ob88
    cases e88
    rw [k365_58]
    try dsimp only
    intro w89 τ89 o89 q89
    obtain ⟨r89, rfl, rfl⟩ := (show Q_X7_faultPlace [.inr (.inr (some rd))] s58 w89 τ89 from q89)
    try dsimp only [Option.toList, List.cons_append, List.nil_append, s1C, s2C, dlC, kyC, Nat.beq, lkC, rcd, rno, rsw]
    intro a90 e90 ob90 fk90
    cases e90
    clear fk90 ob90
    generalize hs90 : pIC s58 p0 371 r89 = s90
    have m_90 : SmC τ56 s90 := m_58.tr (by rw [← hs90]; exact SmC.pI (by decide))
    have k363_90 : fRC s90 p0 363 = some P_ := by rw [← hs90]; exact k363_58
    have k364_90 : fRC s90 p0 364 = some P' := by rw [← hs90]; exact k364_58
    have k365_90 : fRC s90 p0 365 = some rd := by rw [← hs90]; exact k365_58
    have k366_90 : fRC s90 p0 366 = some Jd := by rw [← hs90]; exact k366_58
    have k367_90 : fRC s90 p0 367 = some cd := by rw [← hs90]; exact k367_58
    have c91 : (Int32.ofInt (-10)).toInt = -10 := by decide
    have u92 := tiC (Int32.ofInt (-10))
    have a92 : ((Int32.ofInt (-10)) - r).toInt = (-10) - r.toInt := subC (by omega) (by omega) (by omega)
    try dsimp only [Qz_read]
    exact ⟨fun hb => ⟨⟨k363_90, k364_90⟩, (hpp.rp H0.1 t8 t7 t7' hRp).sm HI1.1 (t7.x ex1) (t7'.x ex1) m_90, (AnF.rp H0.1 t8 t7 t7' hRp hpp.1).1.sm2 m_90⟩, fun U hU => absurd (hU.1 s nn hZ hTk).1.1.1 (rdx_b hFt g59)⟩
theorem wz_read : ∀ (L : Nat) (As : List AvC) (σ : CsC) (w : Option AvC) (τ : CsC), EvF L 204 As σ w τ → Uz_read As σ w τ := by
  intro L
  cases L with
  | zero => exact fun _ _ _ _ h => h.elim
  | succ L => exact fun As σ w τ h y hy => EvF.us (cs := [123, 49, 234, 1, 124]) (pz_read y) rfl (List.forall_mem_cons.2 ⟨wz_rdq L, List.forall_mem_cons.2 ⟨wz_jdq L, List.forall_mem_cons.2 ⟨fun _ _ _ _ _ => trivial, List.forall_mem_cons.2 ⟨wz_lyq L, List.forall_mem_cons.2 ⟨wz_fpq L, fun _ h => absurd h List.not_mem_nil⟩⟩⟩⟩⟩) h hy
