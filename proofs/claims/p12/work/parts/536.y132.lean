/-! the class's constructor -/
/-- a program that was made: its lists between lo and hi -/
def BpC (lo hi : Nat) (σ : CsC) (P : Nat) : Prop := (OiQ σ P ∧ P < cnC σ) ∧ fIC σ P 217 = 0 ∧ ∀ k, 211 ≤ k → k ≤ 214 → ∃ a, fRC σ P k = some a ∧ (lo ≤ a ∧ a < hi ∧ a < cnC σ) ∧ fIC σ a 2 = 0
theorem BpC.al {lo hi P : Nat} {σ τ : CsC} (h : BpC lo hi σ P) (a : AlC (cnC σ) σ τ) : BpC lo hi τ P := by
  obtain ⟨⟨h1, h2⟩, h3, h4⟩ := h
  have p := (a.2 P h2).1
  refine ⟨⟨h1.al a h2, Nat.lt_of_lt_of_le h2 a.1⟩, (p 217 (by decide) (by decide)).1.trans h3, fun k k1 k2 => ?_⟩
  obtain ⟨b, e1, ⟨e2, e3, e4⟩, e5⟩ := h4 k k1 k2
  exact ⟨b, (p k (by omega) (by omega)).2.trans e1, ⟨e2, e3, Nat.lt_of_lt_of_le e4 a.1⟩, ((a.2 b e4).1 2 (by decide) (by decide)).1.trans e5⟩
theorem BpC.sm {lo hi P : Nat} {σ τ : CsC} (h : BpC lo hi σ P) (m : SmC σ τ) : BpC lo hi τ P := by
  obtain ⟨⟨⟨o, i, h1, ⟨h2, h2'⟩, h3⟩, h4⟩, h5, h6⟩ := h
  have mk : ∀ {e x}, MkC σ e x → MkC τ e x := fun {e x} q => by
    obtain ⟨q1, q2, q3, r, ⟨q4, q5, q6⟩, q7⟩ := q
    exact ⟨by rw [(m.1 x 181 (by decide)).2.1]; exact q1, by rw [(m.1 x 182 (by decide)).1]; exact q2, by rw [(m.1 x 185 (by decide)).1]; exact q3, r, ⟨(m.1 x 183 (by decide)).2.2.trans q4, by rw [m.2.2.1]; exact q5, q6⟩, by rw [m.2.1.1]; exact q7⟩
  refine ⟨⟨⟨o, i, ⟨(m.1 P 215 (by decide)).2.2.trans h1.1, (m.1 P 216 (by decide)).2.2.trans h1.2⟩, ⟨mk h2, mk h2'⟩, by rw [m.2.2.1]; exact h3⟩, by rw [m.2.2.1]; exact h4⟩, ((m.1 P 217 (by decide)).1).trans h5, fun k k1 k2 => ?_⟩
  obtain ⟨b, e1, e2, e3⟩ := h6 k k1 k2
  exact ⟨b, (m.1 P k (by omega)).2.2.trans e1, by rw [m.2.2.1]; exact e2, (m.1 b 2 (by decide)).1.trans e3⟩
theorem BpC.mk {σ s τ : CsC} {lo hi P : Nat} (hz : fIC s P 217 = 0) (h : Ip6 P s τ) (hP : P < cnC s) (hc : lo ≤ cnC s) (hh : cnC τ ≤ hi) : BpC lo hi τ P := ⟨⟨h.2.2.1, Nat.lt_of_lt_of_le hP h.1.1⟩, h.2.1.trans hz, fun k k1 k2 => by
  obtain ⟨a, e1, ⟨e2, e3⟩, e4⟩ := h.2.2.2 k k1 k2
  exact ⟨a, e1, ⟨by omega, by omega, e3⟩, e4⟩⟩
/-- the class's first state -/
def Ip11 (p0 : Nat) (τ : CsC) : Prop := ∃ P P' h, (fRC τ p0 363 = some P ∧ fRC τ p0 364 = some P') ∧ P ≠ P' ∧ (∃ l, BpC l h τ P) ∧ ∃ m, BpC h m τ P'
theorem al_kp {σ τ : CsC} {p0 k : Nat} {v : Option Nat} (a : AlC (cnC σ) σ τ) (hp : p0 < cnC σ) (hk : k < 900 ∧ k ≠ 185) (e : fRC σ p0 k = v) : fRC τ p0 k = v := ((a.2 p0 hp).1 k hk.1 hk.2).2.trans e
abbrev Uz_i7q : CqC := fun As σ w τ => Q_X7_init As σ w τ
theorem wz_i7q : ∀ (L : Nat) (As : List AvC) (σ : CsC) (w : Option AvC) (τ : CsC), EvF L 122 As σ w τ → Uz_i7q As σ w τ := fun L As σ w τ h => h.m
abbrev Uz_i3q : CqC := fun As σ w τ => Q_X3_init As σ w τ
theorem wz_i3q : ∀ (L : Nat) (As : List AvC) (σ : CsC) (w : Option AvC) (τ : CsC), EvF L 48 As σ w τ → Uz_i3q As σ w τ := fun L As σ w τ h => h.m
abbrev Uz_i0q : CqC := fun As σ w τ => Q_X0_init As σ w τ
theorem wz_i0q : ∀ (L : Nat) (As : List AvC) (σ : CsC) (w : Option AvC) (τ : CsC), EvF L 0 As σ w τ → Uz_i0q As σ w τ := fun L As σ w τ h => h.m
abbrev Uz_i4q : CqC := fun As σ w τ => Q_X4_init As σ w τ
theorem wz_i4q : ∀ (L : Nat) (As : List AvC) (σ : CsC) (w : Option AvC) (τ : CsC), EvF L 87 As σ w τ → Uz_i4q As σ w τ := fun L As σ w τ h => h.m
theorem SmC.we {σ τ : CsC} (w : WeC σ τ) (tg : tgC τ = tgC σ) (gh : ghC τ = ghC σ) : SmC σ τ := ⟨fun a k _ => by rw [we_i w, we_l w, we_r w]; exact ⟨rfl, rfl, rfl⟩, ⟨we_ei w, we_el w, we_er w⟩, we_c w, tg, gh⟩
theorem Ip11.we {p0 : Nat} {σ τ : CsC} (h : Ip11 p0 σ) (w : WeC σ τ) : Ip11 p0 τ := by
  obtain ⟨P, P', m, h1, h2, ⟨l, h3⟩, n, h4⟩ := h
  have bp : ∀ {lo hi Q}, BpC lo hi σ Q → BpC lo hi τ Q := fun {lo hi Q} q => by
    unfold BpC OiQ MkC at *
    rw [we_c w, we_i w, we_r w, we_l w, we_ei w]
    exact q
  exact ⟨P, P', m, by rw [we_r w]; exact h1, h2, ⟨l, bp h3⟩, n, bp h4⟩
abbrev Pz_cini : ((Int → Int) × (Nat → Nat) × (Nat → Nat) × (Nat → Nat) × (Nat → Nat) × ZS) → CpC := fun y As σ => match y with
  | (N, E, A, B, V, z) => ∃ (p0 : Nat), As = [.inr (.inr (some p0))] ∧ (p0 < cnC σ)
abbrev Qz_cini : ((Int → Int) × (Nat → Nat) × (Nat → Nat) × (Nat → Nat) × (Nat → Nat) × ZS) → CqC := fun y As σ w τ => match y, As with
  | (N, E, A, B, V, z), [.inr (.inr (some p0))] => w = none ∧ Ip11 p0 τ
  | _, _ => True
abbrev Uz_cini : CqC := fun As σ w τ => ∀ y, Pz_cini y As σ → Qz_cini y As σ w τ
set_option maxHeartbeats 4000000 in
theorem pz_cini (y : (Int → Int) × (Nat → Nat) × (Nat → Nat) × (Nat → Nat) × (Nat → Nat) × ZS) : PbC KX11_init [(116, TrP, EqC 116), (122, TrP, EqC 122), (48, TrP, EqC 48), (0, TrP, EqC 0), (87, TrP, EqC 87)] [(116, Uz_pgini), (122, Uz_i7q), (48, Uz_i3q), (0, Uz_i0q), (87, Uz_i4q)] (fun As σ => Pz_cini y As σ ∧ cnC σ ≤ 1000000 ∧ ∃ w τ, uqC quL 200 As σ w τ) (Qz_cini y) := by
  obtain ⟨N, E, A, B, V, z⟩ := y
  rintro As σ ⟨⟨p0, rfl, hp⟩, hcn, _, _, hQ⟩ K hB hW n_
  change K n_ 0 [(0, .inr (.inr (some p0)))] [] σ
  refine hB _ _ _ _ _ (fun m51 hm51 => ?_)
  dsimp only [ucgo, ucwp, ucsC, uqC, uoC, ctC, rfd, KX11_init, KX11_init_0, lkC, s1C, s2C, dlC, kyC, Nat.beq, Nat.ble, rcd, rno, rsw, Nat.reduceAdd, Nat.reduceBEq, Nat.reduceDiv, List.drop, List.take, List.reverse, List.reverseAux, Int.toNat, Option.toList, List.append, List.cons_append, List.nil_append, zg363, zg364, zg367]
  have c52 : (Int32.ofInt 2500).toInt = 2500 := by decide
  intro y1_53 y2_53
  generalize hs53 : nAC σ 101 (Int32.ofInt 2500).toNatClampNeg 0 = s53
  have al_53 : AlC (cnC σ) σ s53 := by rw [← hs53]; exact AlC.nA
  have lt_53 : p0 < cnC s53 := Nat.lt_of_lt_of_le hp al_53.1
  intro a54 e54 ob54 fk54
  cases e54
  clear fk54 ob54
  generalize hs54 : pRC s53 p0 360 (some (cnC σ)) = s54
  have m_54 : SmC s53 s54 := by rw [← hs54]; exact SmC.pR (by decide)
  have k360_54 : fRC s54 p0 360 = some (cnC σ) := by rw [← hs54]; exact fR_pRs
  have lt_54 : p0 < cnC s54 := by rw [← hs54]; exact lt_53
  have c55 : (Int32.ofInt 40).toInt = 40 := by decide
  intro y1_56 y2_56
  generalize hs56 : nAC s54 100 (Int32.ofInt 40).toNatClampNeg 0 = s56
  have al_56 : AlC (cnC s54) s54 s56 := by rw [← hs56]; exact AlC.nA
  have k360_56 : fRC s56 p0 360 = some (cnC σ) := al_kp al_56 lt_54 (by decide) k360_54
  have lt_56 : p0 < cnC s56 := Nat.lt_of_lt_of_le lt_54 al_56.1
  intro a57 e57 ob57 fk57
  cases e57
  clear fk57 ob57
  generalize hs57 : pRC s56 p0 361 (some (cnC s54)) = s57
  have m_57 : SmC s56 s57 := by rw [← hs57]; exact SmC.pR (by decide)
  have k360_57 : fRC s57 p0 360 = some (cnC σ) := by rw [← hs57]; exact (fR_pR (Or.inl (by decide))).trans k360_56
  have k361_57 : fRC s57 p0 361 = some (cnC s54) := by rw [← hs57]; exact fR_pRs
  have lt_57 : p0 < cnC s57 := by rw [← hs57]; exact lt_56
  have c58 : (Int32.ofInt 6).toInt = 6 := by decide
  intro y1_59 y2_59
  generalize hs59 : nAC s57 102 (Int32.ofInt 6).toNatClampNeg 0 = s59
  have al_59 : AlC (cnC s57) s57 s59 := by rw [← hs59]; exact AlC.nA
  have k360_59 : fRC s59 p0 360 = some (cnC σ) := al_kp al_59 lt_57 (by decide) k360_57
  have k361_59 : fRC s59 p0 361 = some (cnC s54) := al_kp al_59 lt_57 (by decide) k361_57
  have lt_59 : p0 < cnC s59 := Nat.lt_of_lt_of_le lt_57 al_59.1
  intro a60 e60 ob60 fk60
  cases e60
  clear fk60 ob60
  generalize hs60 : pRC s59 p0 362 (some (cnC s57)) = s60
  have m_60 : SmC s59 s60 := by rw [← hs60]; exact SmC.pR (by decide)
  have k360_60 : fRC s60 p0 360 = some (cnC σ) := by rw [← hs60]; exact (fR_pR (Or.inl (by decide))).trans k360_59
  have k361_60 : fRC s60 p0 361 = some (cnC s54) := by rw [← hs60]; exact (fR_pR (Or.inl (by decide))).trans k361_59
  have k362_60 : fRC s60 p0 362 = some (cnC s57) := by rw [← hs60]; exact fR_pRs
  have lt_60 : p0 < cnC s60 := by rw [← hs60]; exact lt_59
  generalize hs61 : nOC s60 57 (nfC 7) 0 = s61
  have al_61 : AlC (cnC s60) s60 s61 := by rw [← hs61]; exact AlC.nO
  have k360_61 : fRC s61 p0 360 = some (cnC σ) := al_kp al_61 lt_60 (by decide) k360_60
  have k361_61 : fRC s61 p0 361 = some (cnC s54) := al_kp al_61 lt_60 (by decide) k361_60
  have k362_61 : fRC s61 p0 362 = some (cnC s57) := al_kp al_61 lt_60 (by decide) k362_60
  have lt_61 : p0 < cnC s61 := Nat.lt_of_lt_of_le lt_60 al_61.1
  intro w62 τ62 o62 q62
  obtain ⟨rfl, ip62⟩ := q62 (fun _ => 0, fun _ => 0, fun _ => 0, fun _ => 0, fun _ => 0, z) ⟨_, rfl, by rw [← hs61]; exact Nat.lt_succ_self _⟩
  have lx62 : cnC s60 < cnC s61 := by rw [← hs61]; exact Nat.lt_succ_self _
  have z62 : fIC s61 (cnC s60) 217 = 0 := by
    rw [← hs61]
    show u1C s60.2.2.1.1 (cnC s60) (fun _ => 0) (cnC s60) 217 = 0
    rw [u1C_eq]
  have nx62 : AlC (cnC s60) s60 τ62 := AlC.ne (t := 57) (N := nfC 7) (g := 0) (by
    rw [hs61]
    exact ⟨ip62.1.1, fun a ha hn => ip62.1.2 a ha hn⟩)
  have k360_62 : fRC τ62 p0 360 = some (cnC σ) := al_kp nx62 lt_60 (by decide) k360_60
  have k361_62 : fRC τ62 p0 361 = some (cnC s54) := al_kp nx62 lt_60 (by decide) k361_60
  have k362_62 : fRC τ62 p0 362 = some (cnC s57) := al_kp nx62 lt_60 (by decide) k362_60
  have lt_62 : p0 < cnC τ62 := Nat.lt_of_lt_of_le lt_60 nx62.1
  have bp9_62 : BpC 0 (cnC τ62) τ62 (cnC s60) := BpC.mk (σ := s61) z62 ip62 lx62 (Nat.zero_le _) (Nat.le_refl _)
  try dsimp only [Option.toList, List.cons_append, List.nil_append, s1C, s2C, dlC, kyC, Nat.beq, lkC, rcd, rno, rsw]
  intro a63 e63 ob63 fk63
  cases e63
  clear fk63 ob63
  generalize hs63 : pRC τ62 p0 363 (some (cnC s60)) = s63
  have m_63 : SmC τ62 s63 := by rw [← hs63]; exact SmC.pR (by decide)
  have bp0_63 : BpC (0) (cnC τ62) s63 (cnC s60) := bp9_62.sm m_63
  have k360_63 : fRC s63 p0 360 = some (cnC σ) := by rw [← hs63]; exact (fR_pR (Or.inl (by decide))).trans k360_62
  have k361_63 : fRC s63 p0 361 = some (cnC s54) := by rw [← hs63]; exact (fR_pR (Or.inl (by decide))).trans k361_62
  have k362_63 : fRC s63 p0 362 = some (cnC s57) := by rw [← hs63]; exact (fR_pR (Or.inl (by decide))).trans k362_62
  have k363_63 : fRC s63 p0 363 = some (cnC s60) := by rw [← hs63]; exact fR_pRs
  have lt_63 : p0 < cnC s63 := by rw [← hs63]; exact lt_62
  generalize hs64 : nOC s63 57 (nfC 7) 0 = s64
  have al_64 : AlC (cnC s63) s63 s64 := by rw [← hs64]; exact AlC.nO
  have bp0_64 : BpC (0) (cnC τ62) s64 (cnC s60) := bp0_63.al al_64
  have k360_64 : fRC s64 p0 360 = some (cnC σ) := al_kp al_64 lt_63 (by decide) k360_63
  have k361_64 : fRC s64 p0 361 = some (cnC s54) := al_kp al_64 lt_63 (by decide) k361_63
  have k362_64 : fRC s64 p0 362 = some (cnC s57) := al_kp al_64 lt_63 (by decide) k362_63
  have k363_64 : fRC s64 p0 363 = some (cnC s60) := al_kp al_64 lt_63 (by decide) k363_63
  have lt_64 : p0 < cnC s64 := Nat.lt_of_lt_of_le lt_63 al_64.1
  intro w65 τ65 o65 q65
  obtain ⟨rfl, ip65⟩ := q65 (fun _ => 0, fun _ => 0, fun _ => 0, fun _ => 0, fun _ => 0, z) ⟨_, rfl, by rw [← hs64]; exact Nat.lt_succ_self _⟩
  have lx65 : cnC s63 < cnC s64 := by rw [← hs64]; exact Nat.lt_succ_self _
  have z65 : fIC s64 (cnC s63) 217 = 0 := by
    rw [← hs64]
    show u1C s63.2.2.1.1 (cnC s63) (fun _ => 0) (cnC s63) 217 = 0
    rw [u1C_eq]
  have nx65 : AlC (cnC s63) s63 τ65 := AlC.ne (t := 57) (N := nfC 7) (g := 0) (by
    rw [hs64]
    exact ⟨ip65.1.1, fun a ha hn => ip65.1.2 a ha hn⟩)
  have bp0_65 : BpC (0) (cnC τ62) τ65 (cnC s60) := bp0_63.al nx65
  have k360_65 : fRC τ65 p0 360 = some (cnC σ) := al_kp nx65 lt_63 (by decide) k360_63
  have k361_65 : fRC τ65 p0 361 = some (cnC s54) := al_kp nx65 lt_63 (by decide) k361_63
  have k362_65 : fRC τ65 p0 362 = some (cnC s57) := al_kp nx65 lt_63 (by decide) k362_63
  have k363_65 : fRC τ65 p0 363 = some (cnC s60) := al_kp nx65 lt_63 (by decide) k363_63
  have lt_65 : p0 < cnC τ65 := Nat.lt_of_lt_of_le lt_63 nx65.1
  have bp9_65 : BpC (cnC τ62) (cnC τ65) τ65 (cnC s63) := BpC.mk (σ := s64) z65 ip65 lx65 (Nat.le_of_lt (Nat.lt_of_le_of_lt (by rw [← hs63]; exact Nat.le_refl _) lx65)) (Nat.le_refl _)
  have hne : cnC s60 ≠ cnC s63 := Nat.ne_of_lt ((bp0_63.1.2 : _ < cnC s63))
  try dsimp only [Option.toList, List.cons_append, List.nil_append, s1C, s2C, dlC, kyC, Nat.beq, lkC, rcd, rno, rsw]
  intro a66 e66 ob66 fk66
  cases e66
  clear fk66 ob66
  generalize hs66 : pRC τ65 p0 364 (some (cnC s63)) = s66
  have m_66 : SmC τ65 s66 := by rw [← hs66]; exact SmC.pR (by decide)
  have bp0_66 : BpC (0) (cnC τ62) s66 (cnC s60) := bp0_65.sm m_66
  have bp1_66 : BpC (cnC τ62) (cnC τ65) s66 (cnC s63) := bp9_65.sm m_66
  have k360_66 : fRC s66 p0 360 = some (cnC σ) := by rw [← hs66]; exact (fR_pR (Or.inl (by decide))).trans k360_65
  have k361_66 : fRC s66 p0 361 = some (cnC s54) := by rw [← hs66]; exact (fR_pR (Or.inl (by decide))).trans k361_65
  have k362_66 : fRC s66 p0 362 = some (cnC s57) := by rw [← hs66]; exact (fR_pR (Or.inl (by decide))).trans k362_65
  have k363_66 : fRC s66 p0 363 = some (cnC s60) := by rw [← hs66]; exact (fR_pR (Or.inl (by decide))).trans k363_65
  have k364_66 : fRC s66 p0 364 = some (cnC s63) := by rw [← hs66]; exact fR_pRs
  have lt_66 : p0 < cnC s66 := by rw [← hs66]; exact lt_65
  generalize hs67 : nOC s66 58 (nfC 8) 0 = s67
  have al_67 : AlC (cnC s66) s66 s67 := by rw [← hs67]; exact AlC.nO
  have bp0_67 : BpC (0) (cnC τ62) s67 (cnC s60) := bp0_66.al al_67
  have bp1_67 : BpC (cnC τ62) (cnC τ65) s67 (cnC s63) := bp1_66.al al_67
  have k360_67 : fRC s67 p0 360 = some (cnC σ) := al_kp al_67 lt_66 (by decide) k360_66
  have k361_67 : fRC s67 p0 361 = some (cnC s54) := al_kp al_67 lt_66 (by decide) k361_66
  have k362_67 : fRC s67 p0 362 = some (cnC s57) := al_kp al_67 lt_66 (by decide) k362_66
  have k363_67 : fRC s67 p0 363 = some (cnC s60) := al_kp al_67 lt_66 (by decide) k363_66
  have k364_67 : fRC s67 p0 364 = some (cnC s63) := al_kp al_67 lt_66 (by decide) k364_66
  have lt_67 : p0 < cnC s67 := Nat.lt_of_lt_of_le lt_66 al_67.1
  intro a68 e68 ob68
  cases e68
  intro w69 τ69 o69 q69
  rw [k364_67] at q69
  obtain ⟨rfl, -, ex69, -⟩ := q69
  have nx69 : NoxC (cnC s66) (cnC s67) s67 τ69 := NoxC.xt (M := []) (M' := [240, 241]) o69.2 ex69 rfl rfl
  have al69 : AlC (cnC s66) s66 τ69 := by
    rw [← hs67] at nx69
    exact AlC.ne nx69
  have bp0_69 : BpC (0) (cnC τ62) τ69 (cnC s60) := bp0_66.al al69
  have bp1_69 : BpC (cnC τ62) (cnC τ65) τ69 (cnC s63) := bp1_66.al al69
  have k360_69 : fRC τ69 p0 360 = some (cnC σ) := al_kp al69 lt_66 (by decide) k360_66
  have k361_69 : fRC τ69 p0 361 = some (cnC s54) := al_kp al69 lt_66 (by decide) k361_66
  have k362_69 : fRC τ69 p0 362 = some (cnC s57) := al_kp al69 lt_66 (by decide) k362_66
  have k363_69 : fRC τ69 p0 363 = some (cnC s60) := al_kp al69 lt_66 (by decide) k363_66
  have k364_69 : fRC τ69 p0 364 = some (cnC s63) := al_kp al69 lt_66 (by decide) k364_66
  have lt_69 : p0 < cnC τ69 := Nat.lt_of_lt_of_le lt_66 al69.1
  try dsimp only [Option.toList, List.cons_append, List.nil_append, s1C, s2C, dlC, kyC, Nat.beq, lkC, rcd, rno, rsw]
  intro a70 e70 ob70 fk70
  cases e70
  clear fk70 ob70
  generalize hs70 : pRC τ69 p0 365 (some (cnC s66)) = s70
  have m_70 : SmC τ69 s70 := by rw [← hs70]; exact SmC.pR (by decide)
  have bp0_70 : BpC (0) (cnC τ62) s70 (cnC s60) := bp0_69.sm m_70
  have bp1_70 : BpC (cnC τ62) (cnC τ65) s70 (cnC s63) := bp1_69.sm m_70
  have k360_70 : fRC s70 p0 360 = some (cnC σ) := by rw [← hs70]; exact (fR_pR (Or.inl (by decide))).trans k360_69
  have k361_70 : fRC s70 p0 361 = some (cnC s54) := by rw [← hs70]; exact (fR_pR (Or.inl (by decide))).trans k361_69
  have k362_70 : fRC s70 p0 362 = some (cnC s57) := by rw [← hs70]; exact (fR_pR (Or.inl (by decide))).trans k362_69
  have k363_70 : fRC s70 p0 363 = some (cnC s60) := by rw [← hs70]; exact (fR_pR (Or.inl (by decide))).trans k363_69
  have k364_70 : fRC s70 p0 364 = some (cnC s63) := by rw [← hs70]; exact (fR_pR (Or.inl (by decide))).trans k364_69
  have k365_70 : fRC s70 p0 365 = some (cnC s66) := by rw [← hs70]; exact fR_pRs
  have lt_70 : p0 < cnC s70 := by rw [← hs70]; exact lt_69
  generalize hs71 : nOC s70 54 (nfC 4) 0 = s71
  have al_71 : AlC (cnC s70) s70 s71 := by rw [← hs71]; exact AlC.nO
  have bp0_71 : BpC (0) (cnC τ62) s71 (cnC s60) := bp0_70.al al_71
  have bp1_71 : BpC (cnC τ62) (cnC τ65) s71 (cnC s63) := bp1_70.al al_71
  have k360_71 : fRC s71 p0 360 = some (cnC σ) := al_kp al_71 lt_70 (by decide) k360_70
  have k361_71 : fRC s71 p0 361 = some (cnC s54) := al_kp al_71 lt_70 (by decide) k361_70
  have k362_71 : fRC s71 p0 362 = some (cnC s57) := al_kp al_71 lt_70 (by decide) k362_70
  have k363_71 : fRC s71 p0 363 = some (cnC s60) := al_kp al_71 lt_70 (by decide) k363_70
  have k364_71 : fRC s71 p0 364 = some (cnC s63) := al_kp al_71 lt_70 (by decide) k364_70
  have k365_71 : fRC s71 p0 365 = some (cnC s66) := al_kp al_71 lt_70 (by decide) k365_70
  have lt_71 : p0 < cnC s71 := Nat.lt_of_lt_of_le lt_70 al_71.1
  intro a72 e72 ob72
  cases e72
  intro w73 τ73 o73 q73
  rw [k363_71] at q73
  obtain ⟨rfl, -, ex73, -⟩ := q73
  have nx73 : NoxC (cnC s70) (cnC s71) s71 τ73 := NoxC.xt (M := [999]) (M' := [90, 93, 120, 121]) o73.2 ex73 rfl rfl
  have al73 : AlC (cnC s70) s70 τ73 := by
    rw [← hs71] at nx73
    exact AlC.ne nx73
  have bp0_73 : BpC (0) (cnC τ62) τ73 (cnC s60) := bp0_70.al al73
  have bp1_73 : BpC (cnC τ62) (cnC τ65) τ73 (cnC s63) := bp1_70.al al73
  have k360_73 : fRC τ73 p0 360 = some (cnC σ) := al_kp al73 lt_70 (by decide) k360_70
  have k361_73 : fRC τ73 p0 361 = some (cnC s54) := al_kp al73 lt_70 (by decide) k361_70
  have k362_73 : fRC τ73 p0 362 = some (cnC s57) := al_kp al73 lt_70 (by decide) k362_70
  have k363_73 : fRC τ73 p0 363 = some (cnC s60) := al_kp al73 lt_70 (by decide) k363_70
  have k364_73 : fRC τ73 p0 364 = some (cnC s63) := al_kp al73 lt_70 (by decide) k364_70
  have k365_73 : fRC τ73 p0 365 = some (cnC s66) := al_kp al73 lt_70 (by decide) k365_70
  have lt_73 : p0 < cnC τ73 := Nat.lt_of_lt_of_le lt_70 al73.1
  try dsimp only [Option.toList, List.cons_append, List.nil_append, s1C, s2C, dlC, kyC, Nat.beq, lkC, rcd, rno, rsw]
  intro a74 e74 ob74 fk74
  cases e74
  clear fk74 ob74
  generalize hs74 : pRC τ73 p0 366 (some (cnC s70)) = s74
  have m_74 : SmC τ73 s74 := by rw [← hs74]; exact SmC.pR (by decide)
  have bp0_74 : BpC (0) (cnC τ62) s74 (cnC s60) := bp0_73.sm m_74
  have bp1_74 : BpC (cnC τ62) (cnC τ65) s74 (cnC s63) := bp1_73.sm m_74
  have k360_74 : fRC s74 p0 360 = some (cnC σ) := by rw [← hs74]; exact (fR_pR (Or.inl (by decide))).trans k360_73
  have k361_74 : fRC s74 p0 361 = some (cnC s54) := by rw [← hs74]; exact (fR_pR (Or.inl (by decide))).trans k361_73
  have k362_74 : fRC s74 p0 362 = some (cnC s57) := by rw [← hs74]; exact (fR_pR (Or.inl (by decide))).trans k362_73
  have k363_74 : fRC s74 p0 363 = some (cnC s60) := by rw [← hs74]; exact (fR_pR (Or.inl (by decide))).trans k363_73
  have k364_74 : fRC s74 p0 364 = some (cnC s63) := by rw [← hs74]; exact (fR_pR (Or.inl (by decide))).trans k364_73
  have k365_74 : fRC s74 p0 365 = some (cnC s66) := by rw [← hs74]; exact (fR_pR (Or.inl (by decide))).trans k365_73
  have k366_74 : fRC s74 p0 366 = some (cnC s70) := by rw [← hs74]; exact fR_pRs
  have lt_74 : p0 < cnC s74 := by rw [← hs74]; exact lt_73
  generalize hs75 : nOC s74 51 (nfC 1) 0 = s75
  have al_75 : AlC (cnC s74) s74 s75 := by rw [← hs75]; exact AlC.nO
  have bp0_75 : BpC (0) (cnC τ62) s75 (cnC s60) := bp0_74.al al_75
  have bp1_75 : BpC (cnC τ62) (cnC τ65) s75 (cnC s63) := bp1_74.al al_75
  have k360_75 : fRC s75 p0 360 = some (cnC σ) := al_kp al_75 lt_74 (by decide) k360_74
  have k361_75 : fRC s75 p0 361 = some (cnC s54) := al_kp al_75 lt_74 (by decide) k361_74
  have k362_75 : fRC s75 p0 362 = some (cnC s57) := al_kp al_75 lt_74 (by decide) k362_74
  have k363_75 : fRC s75 p0 363 = some (cnC s60) := al_kp al_75 lt_74 (by decide) k363_74
  have k364_75 : fRC s75 p0 364 = some (cnC s63) := al_kp al_75 lt_74 (by decide) k364_74
  have k365_75 : fRC s75 p0 365 = some (cnC s66) := al_kp al_75 lt_74 (by decide) k365_74
  have k366_75 : fRC s75 p0 366 = some (cnC s70) := al_kp al_75 lt_74 (by decide) k366_74
  have lt_75 : p0 < cnC s75 := Nat.lt_of_lt_of_le lt_74 al_75.1
  intro a76 e76 ob76
  cases e76
  intro w77 τ77 o77 q77
  rw [k363_75] at q77
  obtain ⟨rfl, -, ex77, -⟩ := q77
  have nx77 : NoxC (cnC s74) (cnC s75) s75 τ77 := NoxC.xt (M := [999]) (M' := [30, 31, 32, 33, 35, 36, 270, 271, 272, 273, 274, 280, 287, 288]) o77.2 ex77 rfl rfl
  have al77 : AlC (cnC s74) s74 τ77 := by
    rw [← hs75] at nx77
    exact AlC.ne nx77
  have bp0_77 : BpC (0) (cnC τ62) τ77 (cnC s60) := bp0_74.al al77
  have bp1_77 : BpC (cnC τ62) (cnC τ65) τ77 (cnC s63) := bp1_74.al al77
  have k360_77 : fRC τ77 p0 360 = some (cnC σ) := al_kp al77 lt_74 (by decide) k360_74
  have k361_77 : fRC τ77 p0 361 = some (cnC s54) := al_kp al77 lt_74 (by decide) k361_74
  have k362_77 : fRC τ77 p0 362 = some (cnC s57) := al_kp al77 lt_74 (by decide) k362_74
  have k363_77 : fRC τ77 p0 363 = some (cnC s60) := al_kp al77 lt_74 (by decide) k363_74
  have k364_77 : fRC τ77 p0 364 = some (cnC s63) := al_kp al77 lt_74 (by decide) k364_74
  have k365_77 : fRC τ77 p0 365 = some (cnC s66) := al_kp al77 lt_74 (by decide) k365_74
  have k366_77 : fRC τ77 p0 366 = some (cnC s70) := al_kp al77 lt_74 (by decide) k366_74
  have lt_77 : p0 < cnC τ77 := Nat.lt_of_lt_of_le lt_74 al77.1
  try dsimp only [Option.toList, List.cons_append, List.nil_append, s1C, s2C, dlC, kyC, Nat.beq, lkC, rcd, rno, rsw]
  intro a78 e78 ob78 fk78
  cases e78
  clear fk78 ob78
  generalize hs78 : pRC τ77 p0 367 (some (cnC s74)) = s78
  have m_78 : SmC τ77 s78 := by rw [← hs78]; exact SmC.pR (by decide)
  have bp0_78 : BpC (0) (cnC τ62) s78 (cnC s60) := bp0_77.sm m_78
  have bp1_78 : BpC (cnC τ62) (cnC τ65) s78 (cnC s63) := bp1_77.sm m_78
  have k360_78 : fRC s78 p0 360 = some (cnC σ) := by rw [← hs78]; exact (fR_pR (Or.inl (by decide))).trans k360_77
  have k361_78 : fRC s78 p0 361 = some (cnC s54) := by rw [← hs78]; exact (fR_pR (Or.inl (by decide))).trans k361_77
  have k362_78 : fRC s78 p0 362 = some (cnC s57) := by rw [← hs78]; exact (fR_pR (Or.inl (by decide))).trans k362_77
  have k363_78 : fRC s78 p0 363 = some (cnC s60) := by rw [← hs78]; exact (fR_pR (Or.inl (by decide))).trans k363_77
  have k364_78 : fRC s78 p0 364 = some (cnC s63) := by rw [← hs78]; exact (fR_pR (Or.inl (by decide))).trans k364_77
  have k365_78 : fRC s78 p0 365 = some (cnC s66) := by rw [← hs78]; exact (fR_pR (Or.inl (by decide))).trans k365_77
  have k366_78 : fRC s78 p0 366 = some (cnC s70) := by rw [← hs78]; exact (fR_pR (Or.inl (by decide))).trans k366_77
  have k367_78 : fRC s78 p0 367 = some (cnC s74) := by rw [← hs78]; exact fR_pRs
  have lt_78 : p0 < cnC s78 := by rw [← hs78]; exact lt_77
  generalize hs79 : nOC s78 55 (nfC 5) 0 = s79
  have al_79 : AlC (cnC s78) s78 s79 := by rw [← hs79]; exact AlC.nO
  have bp0_79 : BpC (0) (cnC τ62) s79 (cnC s60) := bp0_78.al al_79
  have bp1_79 : BpC (cnC τ62) (cnC τ65) s79 (cnC s63) := bp1_78.al al_79
  have k360_79 : fRC s79 p0 360 = some (cnC σ) := al_kp al_79 lt_78 (by decide) k360_78
  have k361_79 : fRC s79 p0 361 = some (cnC s54) := al_kp al_79 lt_78 (by decide) k361_78
  have k362_79 : fRC s79 p0 362 = some (cnC s57) := al_kp al_79 lt_78 (by decide) k362_78
  have k363_79 : fRC s79 p0 363 = some (cnC s60) := al_kp al_79 lt_78 (by decide) k363_78
  have k364_79 : fRC s79 p0 364 = some (cnC s63) := al_kp al_79 lt_78 (by decide) k364_78
  have k365_79 : fRC s79 p0 365 = some (cnC s66) := al_kp al_79 lt_78 (by decide) k365_78
  have k366_79 : fRC s79 p0 366 = some (cnC s70) := al_kp al_79 lt_78 (by decide) k366_78
  have k367_79 : fRC s79 p0 367 = some (cnC s74) := al_kp al_79 lt_78 (by decide) k367_78
  have lt_79 : p0 < cnC s79 := Nat.lt_of_lt_of_le lt_78 al_79.1
  intro a80 e80 ob80
  cases e80
  intro w81 τ81 o81 q81
  rw [k367_79] at q81
  obtain ⟨rfl, -, ex81, -⟩ := q81
  have nx81 : NoxC (cnC s78) (cnC s79) s79 τ81 := NoxC.xt (M := [999]) (M' := [150, 151, 152, 153, 154, 155, 156, 157, 158, 159]) o81.2 ex81 rfl rfl
  have al81 : AlC (cnC s78) s78 τ81 := by
    rw [← hs79] at nx81
    exact AlC.ne nx81
  have bp0_81 : BpC (0) (cnC τ62) τ81 (cnC s60) := bp0_78.al al81
  have bp1_81 : BpC (cnC τ62) (cnC τ65) τ81 (cnC s63) := bp1_78.al al81
  have k360_81 : fRC τ81 p0 360 = some (cnC σ) := al_kp al81 lt_78 (by decide) k360_78
  have k361_81 : fRC τ81 p0 361 = some (cnC s54) := al_kp al81 lt_78 (by decide) k361_78
  have k362_81 : fRC τ81 p0 362 = some (cnC s57) := al_kp al81 lt_78 (by decide) k362_78
  have k363_81 : fRC τ81 p0 363 = some (cnC s60) := al_kp al81 lt_78 (by decide) k363_78
  have k364_81 : fRC τ81 p0 364 = some (cnC s63) := al_kp al81 lt_78 (by decide) k364_78
  have k365_81 : fRC τ81 p0 365 = some (cnC s66) := al_kp al81 lt_78 (by decide) k365_78
  have k366_81 : fRC τ81 p0 366 = some (cnC s70) := al_kp al81 lt_78 (by decide) k366_78
  have k367_81 : fRC τ81 p0 367 = some (cnC s74) := al_kp al81 lt_78 (by decide) k367_78
  have lt_81 : p0 < cnC τ81 := Nat.lt_of_lt_of_le lt_78 al81.1
  try dsimp only [Option.toList, List.cons_append, List.nil_append, s1C, s2C, dlC, kyC, Nat.beq, lkC, rcd, rno, rsw]
  intro a82 e82 ob82 fk82
  cases e82
  clear fk82 ob82
  generalize hs82 : pRC τ81 p0 368 (some (cnC s78)) = s82
  have m_82 : SmC τ81 s82 := by rw [← hs82]; exact SmC.pR (by decide)
  have bp0_82 : BpC (0) (cnC τ62) s82 (cnC s60) := bp0_81.sm m_82
  have bp1_82 : BpC (cnC τ62) (cnC τ65) s82 (cnC s63) := bp1_81.sm m_82
  have k360_82 : fRC s82 p0 360 = some (cnC σ) := by rw [← hs82]; exact (fR_pR (Or.inl (by decide))).trans k360_81
  have k361_82 : fRC s82 p0 361 = some (cnC s54) := by rw [← hs82]; exact (fR_pR (Or.inl (by decide))).trans k361_81
  have k362_82 : fRC s82 p0 362 = some (cnC s57) := by rw [← hs82]; exact (fR_pR (Or.inl (by decide))).trans k362_81
  have k363_82 : fRC s82 p0 363 = some (cnC s60) := by rw [← hs82]; exact (fR_pR (Or.inl (by decide))).trans k363_81
  have k364_82 : fRC s82 p0 364 = some (cnC s63) := by rw [← hs82]; exact (fR_pR (Or.inl (by decide))).trans k364_81
  have k365_82 : fRC s82 p0 365 = some (cnC s66) := by rw [← hs82]; exact (fR_pR (Or.inl (by decide))).trans k365_81
  have k366_82 : fRC s82 p0 366 = some (cnC s70) := by rw [← hs82]; exact (fR_pR (Or.inl (by decide))).trans k366_81
  have k367_82 : fRC s82 p0 367 = some (cnC s74) := by rw [← hs82]; exact (fR_pR (Or.inl (by decide))).trans k367_81
  have k368_82 : fRC s82 p0 368 = some (cnC s78) := by rw [← hs82]; exact fR_pRs
  have lt_82 : p0 < cnC s82 := by rw [← hs82]; exact lt_81
  have c83 : (Int32.ofInt (-2)).toInt = -2 := by decide
  intro a84 e84 ob84 fk84
  cases e84
  clear fk84 ob84
  generalize hs84 : pIC s82 p0 371 (Int32.ofInt (-2)) = s84
  have m_84 : SmC s82 s84 := by rw [← hs84]; exact SmC.pI (by decide)
  have bp0_84 : BpC (0) (cnC τ62) s84 (cnC s60) := bp0_82.sm m_84
  have bp1_84 : BpC (cnC τ62) (cnC τ65) s84 (cnC s63) := bp1_82.sm m_84
  have k360_84 : fRC s84 p0 360 = some (cnC σ) := by rw [← hs84]; exact k360_82
  have k361_84 : fRC s84 p0 361 = some (cnC s54) := by rw [← hs84]; exact k361_82
  have k362_84 : fRC s84 p0 362 = some (cnC s57) := by rw [← hs84]; exact k362_82
  have k363_84 : fRC s84 p0 363 = some (cnC s60) := by rw [← hs84]; exact k363_82
  have k364_84 : fRC s84 p0 364 = some (cnC s63) := by rw [← hs84]; exact k364_82
  have k365_84 : fRC s84 p0 365 = some (cnC s66) := by rw [← hs84]; exact k365_82
  have k366_84 : fRC s84 p0 366 = some (cnC s70) := by rw [← hs84]; exact k366_82
  have k367_84 : fRC s84 p0 367 = some (cnC s74) := by rw [← hs84]; exact k367_82
  have k368_84 : fRC s84 p0 368 = some (cnC s78) := by rw [← hs84]; exact k368_82
  have lt_84 : p0 < cnC s84 := by rw [← hs84]; exact lt_82
  try dsimp only [Qz_cini]
  intro τ hwe
  have hI : Ip11 p0 s84 := ⟨_, _, _, ⟨k363_84, k364_84⟩, hne, ⟨_, bp0_84⟩, ⟨_, bp1_84⟩⟩
  exact ⟨rfl, hI.we hwe⟩
theorem wz_cini : ∀ (L : Nat) (As : List AvC) (σ : CsC) (w : Option AvC) (τ : CsC), EvF L 200 As σ w τ → Uz_cini As σ w τ := by
  intro L
  cases L with
  | zero => exact fun _ _ _ _ h => h.elim
  | succ L => exact fun As σ w τ h y hy => EvF.us (cs := [116, 122, 48, 0, 87]) (pz_cini y) rfl (List.forall_mem_cons.2 ⟨wz_pgini L, List.forall_mem_cons.2 ⟨wz_i7q L, List.forall_mem_cons.2 ⟨wz_i3q L, List.forall_mem_cons.2 ⟨wz_i0q L, List.forall_mem_cons.2 ⟨wz_i4q L, fun _ h => absurd h List.not_mem_nil⟩⟩⟩⟩⟩) h hy
