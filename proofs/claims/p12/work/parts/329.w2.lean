/-! what a token is worth: cutOne -/
def WoC (x : TxY) (i : Int) (v : Int64) : Prop := ((oneY x i).2 = 80 → v.toInt = kyY (naY x i).2) ∧ ((oneY x i).2 = 81 ∨ (oneY x i).2 = 82 → v = Int64.ofInt (nvY x (x.2 - i).toNat i 0)) ∧ ((oneY x i).2 = 83 → v.toInt = btY x (i + 1))
theorem wt_n9 {x : TxY} {i : Int} {v : Int64} (h : isLY (btY x i)) (hv : v.toInt = kyY (naY x i).2) : WoC x i v := by
  have e : (oneY x i).2 = 85 ∨ (oneY x i).2 ≤ 80 := by
    rw [on_n h]
    split
    · exact Or.inl rfl
    · exact Or.inr wc_rg.2
  exact ⟨fun _ => hv, fun q => by omega, fun q => by omega⟩
theorem wt_d9 {x : TxY} {i : Int} {v : Int64} (h : ¬ isLY (btY x i)) (h2 : isDY (btY x i)) (hv : v = Int64.ofInt (nvY x (x.2 - i).toNat i 0)) : WoC x i v := by
  have e : (oneY x i).2 = 85 ∨ (oneY x i).2 = 82 ∨ (oneY x i).2 = 81 := by
    rw [on_d h h2]
    split
    · exact Or.inl rfl
    · split
      · exact Or.inr (Or.inl rfl)
      · exact Or.inr (Or.inr rfl)
  exact ⟨fun q => by omega, fun _ => hv, fun q => by omega⟩
theorem wt_c9 {x : TxY} {i : Int} {v : Int64} (h : ¬ isLY (btY x i)) (h2 : ¬ isDY (btY x i)) (h3 : btY x i = 39) (hv : v.toInt = btY x (i + 1)) : WoC x i v := by
  have e : (oneY x i).2 = 85 ∨ (oneY x i).2 = 83 := by
    rw [on_c h h2 h3]
    split
    · exact Or.inr rfl
    · exact Or.inl rfl
  exact ⟨fun q => by omega, fun q => by omega, fun _ => hv⟩
theorem wt_s9 {x : TxY} {i : Int} {v : Int64} (h : ¬ isLY (btY x i)) (h2 : ¬ isDY (btY x i)) (h3 : ¬ btY x i = 39) : WoC x i v := by
  have e : (oneY x i).2 = 85 ∨ (oneY x i).2 ≤ 42 := by
    rw [on_s h h2 h3]
    rcases sgn_rg (b := btY x i) (c := btY x (i + 1)) (d := btY x (i + 1 + 1)) (e := btY x (i + 1 + 1 + 1)) with q | q
    · exact Or.inr q.2
    · exact Or.inl (by rw [show sgAY x i = (0, 85) from q])
  exact ⟨fun q => by omega, fun q => by omega, fun q => by omega⟩
abbrev Pz_cutOne : ((Int → Int) × (Nat → Nat) × (Nat → Nat) × (Nat → Nat) × (Nat → Nat) × ZS × TxY × Nat × Nat) → CpC := fun y As σ => match y with
  | (N, E, A, B, V, z, x, r, c) => ∃ (p0 : Nat) (p1 : Int32), As = [.inr (.inr (some p0)), .inl p1] ∧ (fRC σ p0 304 = some r) ∧ ((fIC σ p0 305).toInt = (c : Int)) ∧ (TxC σ p0 x) ∧ (0 ≤ p1.toInt ∧ p1.toInt < x.2)
abbrev Qz_cutOne : ((Int → Int) × (Nat → Nat) × (Nat → Nat) × (Nat → Nat) × (Nat → Nat) × ZS × TxY × Nat × Nat) → CqC := fun y As σ w τ => match y, As with
  | (N, E, A, B, V, z, x, r, c), [.inr (.inr (some p0)), .inl p1] => ∀ rr, w = some (.inl rr) → LwC r c σ τ ∧ (0 < rr.toInt → WoC x p1.toInt (eLC τ r c))
  | _, _ => True
abbrev Uz_cutOne : CqC := fun As σ w τ => ∀ y, Pz_cutOne y As σ → Qz_cutOne y As σ w τ
set_option maxHeartbeats 4000000 in
theorem pz_cutOne (y : (Int → Int) × (Nat → Nat) × (Nat → Nat) × (Nat → Nat) × (Nat → Nat) × ZS × TxY × Nat × Nat) : PbC KX9_cutOne [(189, TrP, EqC 189), (192, TrP, EqC 192), (193, TrP, EqC 193), (197, TrP, EqC 197), (196, TrP, EqC 196), (195, TrP, EqC 195), (194, TrP, EqC 194)] [(196, Uz_cutCharacter), (195, Uz_cutNumber), (194, Uz_cutName)] (fun As σ => Pz_cutOne y As σ ∧ cnC σ ≤ 1000000 ∧ ∃ w τ, uqC quL 191 As σ w τ) (Qz_cutOne y) := by
  obtain ⟨N, E, A, B, V, z, x, r, c⟩ := y
  rintro As σ ⟨⟨p0, p1, rfl, hr, hc, hx, hp⟩, hcn, _, _, hQ⟩ K hB hW n_
  have hx3 := hx.2.2.2.2
  change K n_ 0 [(0, .inr (.inr (some p0))), (1, .inl p1)] [] σ
  refine hB _ _ _ _ _ (fun m51 hm51 => ?_)
  dsimp only [ucgo, ucwp, ucsC, uqC, uoC, ctC, rfd, KX9_cutOne, KX9_cutOne_0, KX9_cutOne_13, KX9_cutOne_19, KX9_cutOne_26, KX9_cutOne_32, KX9_cutOne_38, KX9_cutOne_46, KX9_cutOne_51, lkC, s1C, s2C, dlC, kyC, Nat.beq, Nat.ble, rcd, rno, rsw, Nat.reduceAdd, Nat.reduceBEq, Nat.reduceDiv, List.drop, List.take, List.reverse, List.reverseAux, Int.toNat, Option.toList, List.append, List.cons_append, List.nil_append]
  intro w52 τ52 o52 q52
  obtain ⟨hb52, hu52⟩ : Q_X9_byteAt [.inr (.inr (some p0)), .inl p1] σ w52 τ52 ∧ U_byteAt [.inr (.inr (some p0)), .inl p1] σ w52 τ52 := o52.1.1
  obtain ⟨r52, rfl, rfl⟩ := hb52
  have b52 : r52.toInt = btY x p1.toInt := (hu52 x hx r52 rfl).trans (by first | rfl | rw [show (p1 : Int32).toInt = p1.toInt from by omega])
  try dsimp only [Option.toList, List.cons_append, List.nil_append, s1C, s2C, dlC, kyC, Nat.beq, lkC, rcd, rno, rsw]
  intro w53 τ53 o53 q53
  obtain ⟨hb53, hu53⟩ : Q_X9_isLetter [.inl r52] σ w53 τ53 ∧ U_isLetter [.inl r52] σ w53 τ53 := o53.1.1
  obtain ⟨r53, rfl, rfl, -, -⟩ := hb53
  have d53 := ltrI (hu53 () trivial r53 rfl)
  try dsimp only [Option.toList, List.cons_append, List.nil_append, s1C, s2C, dlC, kyC, Nat.beq, lkC, rcd, rno, rsw]
  refine ⟨fun h54 => ?_, fun h54 => ?_⟩
  · have g54 := (eqI (x := r53) (y := 0) h54 : (r53 : Int32).toInt = (0 : Int32).toInt)
    have z0_ : (0 : Int32).toInt = 0 := rfl
    refine hB _ _ _ _ _ (fun m55 hm55 => ?_)
    dsimp only [ucgo, ucwp, ucsC, uqC, uoC, ctC, rfd, KX9_cutOne, KX9_cutOne_0, KX9_cutOne_13, KX9_cutOne_19, KX9_cutOne_26, KX9_cutOne_32, KX9_cutOne_38, KX9_cutOne_46, KX9_cutOne_51, lkC, s1C, s2C, dlC, kyC, Nat.beq, Nat.ble, rcd, rno, rsw, Nat.reduceAdd, Nat.reduceBEq, Nat.reduceDiv, List.drop, List.take, List.reverse, List.reverseAux, Int.toNat, Option.toList, List.append, List.cons_append, List.nil_append]
    intro w56 τ56 o56 q56
    obtain ⟨hb56, hu56⟩ : Q_X9_isDigit [.inl r52] σ w56 τ56 ∧ U_isDigit [.inl r52] σ w56 τ56 := o56.1.1
    obtain ⟨r56, rfl, rfl, -, -⟩ := hb56
    have d56 := digI (hu56 () trivial r56 rfl)
    try dsimp only [Option.toList, List.cons_append, List.nil_append, s1C, s2C, dlC, kyC, Nat.beq, lkC, rcd, rno, rsw]
    refine ⟨fun h57 => ?_, fun h57 => ?_⟩
    · have g57 := (eqI (x := r56) (y := 0) h57 : (r56 : Int32).toInt = (0 : Int32).toInt)
      have z0_ : (0 : Int32).toInt = 0 := rfl
      refine hB _ _ _ _ _ (fun m58 hm58 => ?_)
      dsimp only [ucgo, ucwp, ucsC, uqC, uoC, ctC, rfd, KX9_cutOne, KX9_cutOne_0, KX9_cutOne_13, KX9_cutOne_19, KX9_cutOne_26, KX9_cutOne_32, KX9_cutOne_38, KX9_cutOne_46, KX9_cutOne_51, lkC, s1C, s2C, dlC, kyC, Nat.beq, Nat.ble, rcd, rno, rsw, Nat.reduceAdd, Nat.reduceBEq, Nat.reduceDiv, List.drop, List.take, List.reverse, List.reverseAux, Int.toNat, Option.toList, List.append, List.cons_append, List.nil_append]
      have c59 : (Int32.ofInt 39).toInt = 39 := by decide
      refine ⟨fun h60 => ?_, fun h60 => ?_⟩
      · have g60 := (neI (x := r52) (y := (Int32.ofInt 39)) h60 : ¬ (r52 : Int32).toInt = ((Int32.ofInt 39) : Int32).toInt)
        refine hB _ _ _ _ _ (fun m61 hm61 => ?_)
        dsimp only [ucgo, ucwp, ucsC, uqC, uoC, ctC, rfd, KX9_cutOne, KX9_cutOne_0, KX9_cutOne_13, KX9_cutOne_19, KX9_cutOne_26, KX9_cutOne_32, KX9_cutOne_38, KX9_cutOne_46, KX9_cutOne_51, lkC, s1C, s2C, dlC, kyC, Nat.beq, Nat.ble, rcd, rno, rsw, Nat.reduceAdd, Nat.reduceBEq, Nat.reduceDiv, List.drop, List.take, List.reverse, List.reverseAux, Int.toNat, Option.toList, List.append, List.cons_append, List.nil_append]
        intro w62 τ62 o62 q62
        obtain ⟨hb62, -⟩ : Q_X9_cutSign [.inr (.inr (some p0)), .inl p1] σ w62 τ62 ∧ U_cutSign [.inr (.inr (some p0)), .inl p1] σ w62 τ62 := o62.1.1
        obtain ⟨r62, rfl, -⟩ := hb62
        try dsimp only [Option.toList, List.cons_append, List.nil_append, s1C, s2C, dlC, kyC, Nat.beq, lkC, rcd, rno, rsw]
        refine hB _ _ _ _ _ (fun m63 hm63 => ?_)
        dsimp only [ucgo, ucwp, ucsC, uqC, uoC, ctC, rfd, KX9_cutOne, KX9_cutOne_0, KX9_cutOne_13, KX9_cutOne_19, KX9_cutOne_26, KX9_cutOne_32, KX9_cutOne_38, KX9_cutOne_46, KX9_cutOne_51, lkC, s1C, s2C, dlC, kyC, Nat.beq, Nat.ble, rcd, rno, rsw, Nat.reduceAdd, Nat.reduceBEq, Nat.reduceDiv, List.drop, List.take, List.reverse, List.reverseAux, Int.toNat, Option.toList, List.append, List.cons_append, List.nil_append]
        try dsimp only [Qz_cutOne]
        intro rr e9
        cases e9
        exact ⟨fun a j ha _ => by rw [(o62.2.2 rfl a ha).2.2.1 rfl], fun q => wt_s9 (lt0 (by omega)) (dg0 (by omega)) (by omega)⟩
      · have g60 := (eqI (x := r52) (y := (Int32.ofInt 39)) h60 : (r52 : Int32).toInt = ((Int32.ofInt 39) : Int32).toInt)
        refine hB _ _ _ _ _ (fun m64 hm64 => ?_)
        dsimp only [ucgo, ucwp, ucsC, uqC, uoC, ctC, rfd, KX9_cutOne, KX9_cutOne_0, KX9_cutOne_13, KX9_cutOne_19, KX9_cutOne_26, KX9_cutOne_32, KX9_cutOne_38, KX9_cutOne_46, KX9_cutOne_51, lkC, s1C, s2C, dlC, kyC, Nat.beq, Nat.ble, rcd, rno, rsw, Nat.reduceAdd, Nat.reduceBEq, Nat.reduceDiv, List.drop, List.take, List.reverse, List.reverseAux, Int.toNat, Option.toList, List.append, List.cons_append, List.nil_append]
        intro w65 τ65 o65 q65
        obtain ⟨hb65, -⟩ : Q_X9_cutCharacter [.inr (.inr (some p0)), .inl p1] σ w65 τ65 ∧ U_cutCharacter [.inr (.inr (some p0)), .inl p1] σ w65 τ65 := o65.1.1
        obtain ⟨r65, rfl, -⟩ := hb65
        have u65 := q65 (N, E, A, B, V, z, x, r, c) ⟨_, _, rfl, hr, hc, hx, hp⟩ r65 rfl
        try dsimp only [Option.toList, List.cons_append, List.nil_append, s1C, s2C, dlC, kyC, Nat.beq, lkC, rcd, rno, rsw]
        refine hB _ _ _ _ _ (fun m66 hm66 => ?_)
        dsimp only [ucgo, ucwp, ucsC, uqC, uoC, ctC, rfd, KX9_cutOne, KX9_cutOne_0, KX9_cutOne_13, KX9_cutOne_19, KX9_cutOne_26, KX9_cutOne_32, KX9_cutOne_38, KX9_cutOne_46, KX9_cutOne_51, lkC, s1C, s2C, dlC, kyC, Nat.beq, Nat.ble, rcd, rno, rsw, Nat.reduceAdd, Nat.reduceBEq, Nat.reduceDiv, List.drop, List.take, List.reverse, List.reverseAux, Int.toNat, Option.toList, List.append, List.cons_append, List.nil_append]
        try dsimp only [Qz_cutOne]
        intro rr e9
        cases e9
        exact ⟨u65.1, fun q => wt_c9 (lt0 (by omega)) (dg0 (by omega)) (by omega) (u65.2 q)⟩
    · have g57 := (neI (x := r56) (y := 0) h57 : ¬ (r56 : Int32).toInt = (0 : Int32).toInt)
      have z0_ : (0 : Int32).toInt = 0 := rfl
      refine hB _ _ _ _ _ (fun m67 hm67 => ?_)
      dsimp only [ucgo, ucwp, ucsC, uqC, uoC, ctC, rfd, KX9_cutOne, KX9_cutOne_0, KX9_cutOne_13, KX9_cutOne_19, KX9_cutOne_26, KX9_cutOne_32, KX9_cutOne_38, KX9_cutOne_46, KX9_cutOne_51, lkC, s1C, s2C, dlC, kyC, Nat.beq, Nat.ble, rcd, rno, rsw, Nat.reduceAdd, Nat.reduceBEq, Nat.reduceDiv, List.drop, List.take, List.reverse, List.reverseAux, Int.toNat, Option.toList, List.append, List.cons_append, List.nil_append]
      intro w68 τ68 o68 q68
      obtain ⟨hb68, -⟩ : Q_X9_cutNumber [.inr (.inr (some p0)), .inl p1] σ w68 τ68 ∧ U_cutNumber [.inr (.inr (some p0)), .inl p1] σ w68 τ68 := o68.1.1
      obtain ⟨r68, rfl, -⟩ := hb68
      have u68 := q68 (N, E, A, B, V, z, x, r, c) ⟨_, _, rfl, hr, hc, hx, hp⟩ r68 rfl
      try dsimp only [Option.toList, List.cons_append, List.nil_append, s1C, s2C, dlC, kyC, Nat.beq, lkC, rcd, rno, rsw]
      try dsimp only [Qz_cutOne]
      intro rr e9
      cases e9
      exact ⟨u68.1, fun q => wt_d9 (lt0 (by omega)) (dg1 (by omega)) (u68.2 q)⟩
  · have g54 := (neI (x := r53) (y := 0) h54 : ¬ (r53 : Int32).toInt = (0 : Int32).toInt)
    have z0_ : (0 : Int32).toInt = 0 := rfl
    refine hB _ _ _ _ _ (fun m69 hm69 => ?_)
    dsimp only [ucgo, ucwp, ucsC, uqC, uoC, ctC, rfd, KX9_cutOne, KX9_cutOne_0, KX9_cutOne_13, KX9_cutOne_19, KX9_cutOne_26, KX9_cutOne_32, KX9_cutOne_38, KX9_cutOne_46, KX9_cutOne_51, lkC, s1C, s2C, dlC, kyC, Nat.beq, Nat.ble, rcd, rno, rsw, Nat.reduceAdd, Nat.reduceBEq, Nat.reduceDiv, List.drop, List.take, List.reverse, List.reverseAux, Int.toNat, Option.toList, List.append, List.cons_append, List.nil_append]
    intro w70 τ70 o70 q70
    obtain ⟨hb70, -⟩ : Q_X9_cutName [.inr (.inr (some p0)), .inl p1] σ w70 τ70 ∧ U_cutName [.inr (.inr (some p0)), .inl p1] σ w70 τ70 := o70.1.1
    obtain ⟨r70, rfl, -⟩ := hb70
    have u70 := q70 (N, E, A, B, V, z, x, r, c) ⟨_, _, rfl, hr, hc, hx, hp⟩ r70 rfl
    try dsimp only [Option.toList, List.cons_append, List.nil_append, s1C, s2C, dlC, kyC, Nat.beq, lkC, rcd, rno, rsw]
    try dsimp only [Qz_cutOne]
    intro rr e9
    cases e9
    exact ⟨u70.1, fun q => wt_n9 (lt1 (by omega)) (u70.2 q)⟩
theorem wz_cutOne : ∀ (L : Nat) (As : List AvC) (σ : CsC) (w : Option AvC) (τ : CsC), EvF L 191 As σ w τ → Uz_cutOne As σ w τ := by
  intro L
  cases L with
  | zero => exact fun _ _ _ _ h => h.elim
  | succ L => exact fun As σ w τ h y hy => EvF.us (cs := [189, 192, 193, 197, 196, 195, 194]) (pz_cutOne y) rfl (List.forall_mem_cons.2 ⟨fun _ _ _ _ _ => trivial, List.forall_mem_cons.2 ⟨fun _ _ _ _ _ => trivial, List.forall_mem_cons.2 ⟨fun _ _ _ _ _ => trivial, List.forall_mem_cons.2 ⟨fun _ _ _ _ _ => trivial, List.forall_mem_cons.2 ⟨wz_cutCharacter L, List.forall_mem_cons.2 ⟨wz_cutNumber L, List.forall_mem_cons.2 ⟨wz_cutName L, fun _ h => absurd h List.not_mem_nil⟩⟩⟩⟩⟩⟩⟩) h hy
