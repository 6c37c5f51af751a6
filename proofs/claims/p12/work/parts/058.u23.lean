theorem digI {r c : Int} (h : r = if isDY c then 1 else 0) : (r = 1 ∧ 48 ≤ c ∧ c ≤ 57) ∨ (r = 0 ∧ ¬ (48 ≤ c ∧ c ≤ 57)) := by
  split at h
  next q => exact Or.inl ⟨h, q⟩
  next q => exact Or.inr ⟨h, q⟩
theorem TxC.on {σ τ : CsC} {p0 : Nat} {x : TxY} (h : TxC σ p0 x) (e1 : fIC τ = fIC σ) (e2 : fRC τ = fRC σ) (e3 : ∀ a, fRC σ p0 307 = some a → eIC τ a = eIC σ a) : TxC τ p0 x := by
  refine ⟨by rw [e1]; exact h.1, fun a ha j hj => ?_, h.2.2⟩
  rw [e2] at ha
  rw [e3 a ha]
  exact h.2.1 a ha j hj
theorem OnC.q2 {σ τ : CsC} {p0 c : Nat} {u : Int} {v : Int32} (h : OnC σ τ p0 u) (hc : fRC σ p0 302 = some c) : OnC σ (qIC τ c (upd (eIC τ c) (fIC σ p0 305).toNatClampNeg v)) p0 v.toInt := by
  refine ⟨h.1, h.2.1, fun d hd => ?_⟩
  obtain rfl : c = d := Option.some.inj (hc.symm.trans hd)
  refine ⟨?_, fun a j hn => ?_⟩
  · show (u1C τ.2.2.2.1 c (upd (eIC τ c) (fIC σ p0 305).toNatClampNeg v) c (fIC σ p0 305).toNatClampNeg).toInt = _
    rw [u1C_eq]; unfold upd; rw [if_pos rfl]
  · show u1C τ.2.2.2.1 c (upd (eIC τ c) (fIC σ p0 305).toNatClampNeg v) a j = _
    rw [← (h.2.2 c hc).2 a j hn]
    by_cases ha : a = c
    · subst ha
      rw [u1C_eq]
      have hj : ¬ j = (fIC σ p0 305).toNatClampNeg := fun q => hn ⟨rfl, q⟩
      unfold upd; rw [if_neg hj]
    · rw [u1C_ne ha]; rfl
theorem OnC.p {σ τ : CsC} {p0 c : Nat} {v : Int32} (e1 : fIC τ = fIC σ) (e2 : fRC τ = fRC σ) (e3 : eIC τ = eIC σ) (hc : fRC σ p0 302 = some c) : OnC σ (qIC τ c (upd (eIC τ c) (fIC σ p0 305).toNatClampNeg v)) p0 v.toInt := by
  have h := OnC.q (v := v) hc
  refine ⟨e1, e2, fun d hd => ⟨?_, fun a j hn => ?_⟩⟩
  · have := (h.2.2 d hd).1
    have e4 : eIC (qIC τ c (upd (eIC τ c) (fIC σ p0 305).toNatClampNeg v)) = eIC (qIC σ c (upd (eIC σ c) (fIC σ p0 305).toNatClampNeg v)) := by
      show u1C (eIC τ) c (upd (eIC τ c) (fIC σ p0 305).toNatClampNeg v) = u1C (eIC σ) c (upd (eIC σ c) (fIC σ p0 305).toNatClampNeg v)
      rw [e3]
    rw [e4]; exact this
  · have := (h.2.2 d hd).2 a j hn
    have e4 : eIC (qIC τ c (upd (eIC τ c) (fIC σ p0 305).toNatClampNeg v)) = eIC (qIC σ c (upd (eIC σ c) (fIC σ p0 305).toNatClampNeg v)) := by
      show u1C (eIC τ) c (upd (eIC τ c) (fIC σ p0 305).toNatClampNeg v) = u1C (eIC σ) c (upd (eIC σ c) (fIC σ p0 305).toNatClampNeg v)
      rw [e3]
    rw [e4]; exact this
def nuY (x : TxY) (i : Int) : Int := ndY x (x.2 - i).toNat i
abbrev Qp_cutNumber (x : TxY) : CqC := fun As σ w τ => match As with
  | [.inr (.inr (some p0)), .inl p1] => ∀ r, w = some (.inl r) → (19 < nuY x p1.toInt - p1.toInt ∧ r.toInt = 0 ∧ SaC σ τ) ∨ (¬ 19 < nuY x p1.toInt - p1.toInt ∧ btY x (nuY x p1.toInt) = 76 ∧ r.toInt = nuY x p1.toInt + 1 - p1.toInt ∧ OnC σ τ p0 82) ∨ (¬ 19 < nuY x p1.toInt - p1.toInt ∧ ¬ btY x (nuY x p1.toInt) = 76 ∧ r.toInt = nuY x p1.toInt - p1.toInt ∧ OnC σ τ p0 81)
  | _ => True
theorem p_cutNumber (x : TxY) : PbC KX9_cutNumber [(189, P_X9_byteAt, Q_X9_byteAt), (193, P_X9_isDigit, Q_X9_isDigit)] [(189, U_byteAt), (193, U_isDigit)] (fun As σ => P_X9_cutNumber As σ ∧ Pp_cut x As σ) (Qp_cutNumber x) := by
  rintro As σ ⟨⟨p0, p1, rfl, H0, h0, -, -⟩, hx⟩ K hB hW n
  replace hx : TxC σ p0 x ∧ 0 ≤ p1.toInt ∧ p1.toInt < x.2 := hx
  obtain ⟨hx, hp0, hp1⟩ := hx
  have hx1 := hx.1
  have hx3 := hx.2.2.2.2
  have z0 := z0I
  obtain ⟨a0, -, ea0, ta0⟩ := cg307 H0.1 h0
  change K n 0 [(0, .inr (.inr (some p0))), (1, .inl p1)] [] σ
  generalize hE : nuY x p1.toInt = E
  have t45 : ∀ (n : Nat) (i : Int32) (v : Int64), p1.toInt ≤ i.toInt → i.toInt ≤ x.2 → i.toInt = E → K n 45 [(0, .inr (.inr (some p0))), (1, .inl p1), (2, .inl i), (3, .inr (.inl v))] [] σ := by
    intro n i v hi0 hi1 hiE
    refine hB _ _ _ _ _ (fun m1 hm1 => ?_)
    dsimp only [ucgo, ucwp, ucsC, uqC, uoC, ctC, rfd, KX9_cutNumber, KX9_cutNumber_0, KX9_cutNumber_4, KX9_cutNumber_12, KX9_cutNumber_23, KX9_cutNumber_45, KX9_cutNumber_53, KX9_cutNumber_55, KX9_cutNumber_86, KX9_cutNumber_100, lkC, s1C, s2C, dlC, kyC, Nat.beq, rcd, rno, Nat.reduceAdd, Nat.reduceBEq, Nat.reduceDiv, List.drop, List.take, List.reverse, List.reverseAux, Int.toNat, Option.toList, List.append, List.cons_append, List.nil_append, fI_qI, fR_qI, fL_qI, fI_qL, fR_qL, fL_qL, ug302, ug304, ug305, ug308]
    have a2 : (i - p1).toInt = i.toInt - p1.toInt := subC (by omega) (by omega) (by omega)
    have c3 : (Int32.ofInt 19).toInt = 19 := by decide
    refine ⟨fun h4 => ?_, fun h4 => ?_⟩
    · have g4 := leI (x := (i - p1)) (y := (Int32.ofInt 19)) h4
      refine hB _ _ _ _ _ (fun m5 hm5 => ?_)
      dsimp only [ucgo, ucwp, ucsC, uqC, uoC, ctC, rfd, KX9_cutNumber, KX9_cutNumber_0, KX9_cutNumber_4, KX9_cutNumber_12, KX9_cutNumber_23, KX9_cutNumber_45, KX9_cutNumber_53, KX9_cutNumber_55, KX9_cutNumber_86, KX9_cutNumber_100, lkC, s1C, s2C, dlC, kyC, Nat.beq, rcd, rno, Nat.reduceAdd, Nat.reduceBEq, Nat.reduceDiv, List.drop, List.take, List.reverse, List.reverseAux, Int.toNat, Option.toList, List.append, List.cons_append, List.nil_append, fI_qI, fR_qI, fL_qI, fI_qL, fR_qL, fL_qL, ug302, ug304, ug305, ug308]
      intro a6 e6 ob6
      cases e6
      intro a7 e7 ob7
      cases e7
      intro a8 e8 t8 v8
      intro a9 e9 ob9
      cases e9
      intro a10 e10 ob10
      cases e10
      have c11 : (Int32.ofInt 81).toInt = 81 := by decide
      intro a12 e12 t12 v12
      intro w13 τ13 o13 q13
      obtain ⟨r13, rfl, rfl⟩ := o13
      have b13 : r13.toInt = btY x i.toInt := (q13 x (hx.on rfl rfl (fun a ha => u1C_ne (fun q => absurd ((congrArg (tgC σ) ((Option.some.inj (ea0.symm.trans ha)).trans q)).symm.trans ta0.2.1) (by rw [show tgC σ a12 = 100 from t12.2]; decide)))) r13 rfl).trans (by first | rfl | rw [show (i : Int32).toInt = i.toInt from by omega])
      dsimp only [Option.toList, List.cons_append, List.nil_append, s1C, s2C, dlC, kyC, Nat.beq, lkC, rcd, rno]
      have c14 : (Int32.ofInt 76).toInt = 76 := by decide
      refine ⟨fun h15 => ?_, fun h15 => ?_⟩
      · have g15 := (neI (x := r13) (y := (Int32.ofInt 76)) h15 : ¬ (r13 : Int32).toInt = ((Int32.ofInt 76) : Int32).toInt)
        refine hB _ _ _ _ _ (fun m16 hm16 => ?_)
        dsimp only [ucgo, ucwp, ucsC, uqC, uoC, ctC, rfd, KX9_cutNumber, KX9_cutNumber_0, KX9_cutNumber_4, KX9_cutNumber_12, KX9_cutNumber_23, KX9_cutNumber_45, KX9_cutNumber_53, KX9_cutNumber_55, KX9_cutNumber_86, KX9_cutNumber_100, lkC, s1C, s2C, dlC, kyC, Nat.beq, rcd, rno, Nat.reduceAdd, Nat.reduceBEq, Nat.reduceDiv, List.drop, List.take, List.reverse, List.reverseAux, Int.toNat, Option.toList, List.append, List.cons_append, List.nil_append, fI_qI, fR_qI, fL_qI, fI_qL, fR_qL, fL_qL, ug302, ug304, ug305, ug308]
        have a17 : (i - p1).toInt = i.toInt - p1.toInt := subC (by omega) (by omega) (by omega)
        intro r9 e9
        cases e9
        exact Or.inr (Or.inr ⟨by omega, by rw [hE, ← hiE]; omega, by omega, OnC.p rfl rfl rfl e12⟩)
      · have g15 := (eqI (x := r13) (y := (Int32.ofInt 76)) h15 : (r13 : Int32).toInt = ((Int32.ofInt 76) : Int32).toInt)
        refine hB _ _ _ _ _ (fun m18 hm18 => ?_)
        dsimp only [ucgo, ucwp, ucsC, uqC, uoC, ctC, rfd, KX9_cutNumber, KX9_cutNumber_0, KX9_cutNumber_4, KX9_cutNumber_12, KX9_cutNumber_23, KX9_cutNumber_45, KX9_cutNumber_53, KX9_cutNumber_55, KX9_cutNumber_86, KX9_cutNumber_100, lkC, s1C, s2C, dlC, kyC, Nat.beq, rcd, rno, Nat.reduceAdd, Nat.reduceBEq, Nat.reduceDiv, List.drop, List.take, List.reverse, List.reverseAux, Int.toNat, Option.toList, List.append, List.cons_append, List.nil_append, fI_qI, fR_qI, fL_qI, fI_qL, fR_qL, fL_qL, ug302, ug304, ug305, ug308]
        intro a19 e19 ob19
        cases e19
        intro a20 e20 ob20
        cases e20
        have c21 : (Int32.ofInt 82).toInt = 82 := by decide
        intro a22 e22 t22 v22
        have c23 : (Int32.ofInt 1).toInt = 1 := by decide
        have a24 : (i + (Int32.ofInt 1)).toInt = i.toInt + 1 := addC (by omega) (by omega) (by omega)
        refine hB _ _ _ _ _ (fun m25 hm25 => ?_)
        dsimp only [ucgo, ucwp, ucsC, uqC, uoC, ctC, rfd, KX9_cutNumber, KX9_cutNumber_0, KX9_cutNumber_4, KX9_cutNumber_12, KX9_cutNumber_23, KX9_cutNumber_45, KX9_cutNumber_53, KX9_cutNumber_55, KX9_cutNumber_86, KX9_cutNumber_100, lkC, s1C, s2C, dlC, kyC, Nat.beq, rcd, rno, Nat.reduceAdd, Nat.reduceBEq, Nat.reduceDiv, List.drop, List.take, List.reverse, List.reverseAux, Int.toNat, Option.toList, List.append, List.cons_append, List.nil_append, fI_qI, fR_qI, fL_qI, fI_qL, fR_qL, fL_qL, ug302, ug304, ug305, ug308]
        have a26 : ((i + (Int32.ofInt 1)) - p1).toInt = (i.toInt + 1) - p1.toInt := subC (by omega) (by omega) (by omega)
        intro r9 e9
        cases e9
        exact Or.inr (Or.inl ⟨by omega, by rw [hE, ← hiE]; omega, by omega, (OnC.p rfl rfl rfl e12).q2 e22⟩)
    · have g4 := nleI (x := (i - p1)) (y := (Int32.ofInt 19)) h4
      refine hB _ _ _ _ _ (fun m27 hm27 => ?_)
      dsimp only [ucgo, ucwp, ucsC, uqC, uoC, ctC, rfd, KX9_cutNumber, KX9_cutNumber_0, KX9_cutNumber_4, KX9_cutNumber_12, KX9_cutNumber_23, KX9_cutNumber_45, KX9_cutNumber_53, KX9_cutNumber_55, KX9_cutNumber_86, KX9_cutNumber_100, lkC, s1C, s2C, dlC, kyC, Nat.beq, rcd, rno, Nat.reduceAdd, Nat.reduceBEq, Nat.reduceDiv, List.drop, List.take, List.reverse, List.reverseAux, Int.toNat, Option.toList, List.append, List.cons_append, List.nil_append, fI_qI, fR_qI, fL_qI, fI_qL, fR_qL, fL_qL, ug302, ug304, ug305, ug308]
      have c28 : (Int32.ofInt 0).toInt = 0 := by decide
      intro r9 e9
      cases e9
      exact Or.inl ⟨by omega, rfl, SaC.rf⟩
  have L4 : ∀ (n : Nat) (i : Int32) (v : Int64), p1.toInt ≤ i.toInt → i.toInt ≤ x.2 → ndY x (x.2 - i.toInt).toNat i.toInt = E → K n 4 [(0, .inr (.inr (some p0))), (1, .inl p1), (2, .inl i), (3, .inr (.inl v))] [] σ := by
    intro n
    induction n using Nat.strongRecOn with
    | _ n ih =>
      intro i v hi0 hi1 hb
      refine hB _ _ _ _ _ (fun m101 hm101 => ?_)
      dsimp only [ucgo, ucwp, ucsC, uqC, uoC, ctC, rfd, KX9_cutNumber, KX9_cutNumber_0, KX9_cutNumber_4, KX9_cutNumber_12, KX9_cutNumber_23, KX9_cutNumber_45, KX9_cutNumber_53, KX9_cutNumber_55, KX9_cutNumber_86, KX9_cutNumber_100, lkC, s1C, s2C, dlC, kyC, Nat.beq, rcd, rno, Nat.reduceAdd, Nat.reduceBEq, Nat.reduceDiv, List.drop, List.take, List.reverse, List.reverseAux, Int.toNat, Option.toList, List.append, List.cons_append, List.nil_append, fI_qI, fR_qI, fL_qI, fI_qL, fR_qL, fL_qL, ug302, ug304, ug305, ug308]
      intro a102 e102 ob102
      cases e102
      refine ⟨fun h103 => ?_, fun h103 => ?_⟩
      · have g103 := leI (x := (fIC σ p0 308)) (y := i) h103
        refine hW _ _ _ _ _ _ (List.forall_mem_cons.2 ⟨List.Mem.head _, List.forall_mem_cons.2 ⟨List.Mem.tail _ (List.Mem.head _), List.forall_mem_cons.2 ⟨List.Mem.tail _ (List.Mem.tail _ (List.Mem.head _)), List.forall_mem_cons.2 ⟨List.Mem.tail _ (List.Mem.tail _ (List.Mem.tail _ (List.Mem.head _))), fun _ h => absurd h List.not_mem_nil⟩⟩⟩⟩) (t45 _ i v hi0 hi1 ?_)
        first
          | (rw [fu_z (x := x) (i := i.toInt) (by omega)] at hb; exact hb)
          | (rw [fu_s (x := x) (i := i.toInt) (by omega), ndY, if_neg (by show ¬ (48 ≤ _ ∧ _ ≤ 57); omega)] at hb; exact hb)
      · have g103 := nleI (x := (fIC σ p0 308)) (y := i) h103
        refine hB _ _ _ _ _ (fun m104 hm104 => ?_)
        dsimp only [ucgo, ucwp, ucsC, uqC, uoC, ctC, rfd, KX9_cutNumber, KX9_cutNumber_0, KX9_cutNumber_4, KX9_cutNumber_12, KX9_cutNumber_23, KX9_cutNumber_45, KX9_cutNumber_53, KX9_cutNumber_55, KX9_cutNumber_86, KX9_cutNumber_100, lkC, s1C, s2C, dlC, kyC, Nat.beq, rcd, rno, Nat.reduceAdd, Nat.reduceBEq, Nat.reduceDiv, List.drop, List.take, List.reverse, List.reverseAux, Int.toNat, Option.toList, List.append, List.cons_append, List.nil_append, fI_qI, fR_qI, fL_qI, fI_qL, fR_qL, fL_qL, ug302, ug304, ug305, ug308]
        intro w105 τ105 o105 q105
        obtain ⟨r105, rfl, rfl⟩ := o105
        have b105 : r105.toInt = btY x i.toInt := (q105 x hx r105 rfl).trans (by first | rfl | rw [show (i : Int32).toInt = i.toInt from by omega])
        dsimp only [Option.toList, List.cons_append, List.nil_append, s1C, s2C, dlC, kyC, Nat.beq, lkC, rcd, rno]
        intro w106 τ106 o106 q106
        obtain ⟨r106, rfl, rfl, -, -⟩ := o106
        have d106 := digI (q106 () trivial r106 rfl)
        dsimp only [Option.toList, List.cons_append, List.nil_append, s1C, s2C, dlC, kyC, Nat.beq, lkC, rcd, rno]
        refine ⟨fun h107 => ?_, fun h107 => ?_⟩
        · have g107 := (eqI (x := r106) (y := 0) h107 : (r106 : Int32).toInt = (0 : Int32).toInt)
          refine hW _ _ _ _ _ _ (List.forall_mem_cons.2 ⟨List.Mem.head _, List.forall_mem_cons.2 ⟨List.Mem.tail _ (List.Mem.head _), List.forall_mem_cons.2 ⟨List.Mem.tail _ (List.Mem.tail _ (List.Mem.head _)), List.forall_mem_cons.2 ⟨List.Mem.tail _ (List.Mem.tail _ (List.Mem.tail _ (List.Mem.head _))), fun _ h => absurd h List.not_mem_nil⟩⟩⟩⟩) (t45 _ i v hi0 hi1 ?_)
          first
            | (rw [fu_z (x := x) (i := i.toInt) (by omega)] at hb; exact hb)
            | (rw [fu_s (x := x) (i := i.toInt) (by omega), ndY, if_neg (by show ¬ (48 ≤ _ ∧ _ ≤ 57); omega)] at hb; exact hb)
        · have g107 := (neI (x := r106) (y := 0) h107 : ¬ (r106 : Int32).toInt = (0 : Int32).toInt)
          refine hB _ _ _ _ _ (fun m108 hm108 => ?_)
          dsimp only [ucgo, ucwp, ucsC, uqC, uoC, ctC, rfd, KX9_cutNumber, KX9_cutNumber_0, KX9_cutNumber_4, KX9_cutNumber_12, KX9_cutNumber_23, KX9_cutNumber_45, KX9_cutNumber_53, KX9_cutNumber_55, KX9_cutNumber_86, KX9_cutNumber_100, lkC, s1C, s2C, dlC, kyC, Nat.beq, rcd, rno, Nat.reduceAdd, Nat.reduceBEq, Nat.reduceDiv, List.drop, List.take, List.reverse, List.reverseAux, Int.toNat, Option.toList, List.append, List.cons_append, List.nil_append, fI_qI, fR_qI, fL_qI, fI_qL, fR_qL, fL_qL, ug302, ug304, ug305, ug308]
          intro w109 τ109 o109 q109
          obtain ⟨r109, rfl, rfl⟩ := o109
          have b109 : r109.toInt = btY x i.toInt := (q109 x hx r109 rfl).trans (by first | rfl | rw [show (i : Int32).toInt = i.toInt from by omega])
          dsimp only [Option.toList, List.cons_append, List.nil_append, s1C, s2C, dlC, kyC, Nat.beq, lkC, rcd, rno]
          have c110 : (Int32.ofInt 48).toInt = 48 := by decide
          have a111 : (r109 - (Int32.ofInt 48)).toInt = (btY x i.toInt) - 48 := subC (by omega) (by omega) (by omega)
          have c112 : (Int32.ofInt 1).toInt = 1 := by decide
          have a113 : (i + (Int32.ofInt 1)).toInt = i.toInt + 1 := addC (by omega) (by omega) (by omega)
          refine hW _ _ _ _ _ _ (List.forall_mem_cons.2 ⟨List.Mem.tail _ (List.Mem.tail _ (List.Mem.head _)), List.forall_mem_cons.2 ⟨List.Mem.tail _ (List.Mem.tail _ (List.Mem.tail _ (List.Mem.head _))), List.forall_mem_cons.2 ⟨List.Mem.head _, List.forall_mem_cons.2 ⟨List.Mem.tail _ (List.Mem.head _), fun _ h => absurd h List.not_mem_nil⟩⟩⟩⟩) (ih _ (by omega) (i + (Int32.ofInt 1)) ((v * (Int64.ofInt 10)) + (r109 - (Int32.ofInt 48)).toInt64) (by omega) (by omega) ?_)
          rw [fu_s (x := x) (i := i.toInt) (by omega), ndY, if_pos (by show 48 ≤ _ ∧ _ ≤ 57; omega)] at hb
          rw [show ((i + (Int32.ofInt 1)) : Int32).toInt = (i.toInt + 1) from by omega]
          exact hb
  refine hB _ _ _ _ _ (fun m1 hm1 => ?_)
  dsimp only [ucgo, ucwp, ucsC, uqC, uoC, ctC, rfd, KX9_cutNumber, KX9_cutNumber_0, KX9_cutNumber_4, KX9_cutNumber_12, KX9_cutNumber_23, KX9_cutNumber_45, KX9_cutNumber_53, KX9_cutNumber_55, KX9_cutNumber_86, KX9_cutNumber_100, lkC, s1C, s2C, dlC, kyC, Nat.beq, rcd, rno, Nat.reduceAdd, Nat.reduceBEq, Nat.reduceDiv, List.drop, List.take, List.reverse, List.reverseAux, Int.toNat, Option.toList, List.append, List.cons_append, List.nil_append, fI_qI, fR_qI, fL_qI, fI_qL, fR_qL, fL_qL, ug302, ug304, ug305, ug308]
  exact hW _ _ _ _ _ _ (List.forall_mem_cons.2 ⟨List.Mem.tail _ (List.Mem.tail _ (List.Mem.head _)), List.forall_mem_cons.2 ⟨List.Mem.tail _ (List.Mem.tail _ (List.Mem.tail _ (List.Mem.head _))), List.forall_mem_cons.2 ⟨List.Mem.tail _ (List.Mem.head _), List.forall_mem_cons.2 ⟨List.Mem.head _, fun _ h => absurd h List.not_mem_nil⟩⟩⟩⟩) (L4 _ p1 _ (Int.le_refl _) (by omega) hE)
abbrev U_cutNumber : CqC := fun As σ w τ => ∀ x, Pp_cut x As σ → Qp_cutNumber x As σ w τ
theorem n_cutNumber (l : Launch) : CMetC l 2 195 P_X9_cutNumber (fun As σ w τ => Q_X9_cutNumber As σ w τ ∧ U_cutNumber As σ w τ) := CMetC.of KX9_cutNumber (uc2C [(189, P_X9_byteAt, Q_X9_byteAt), (193, P_X9_isDigit, Q_X9_isDigit)] [(189, U_byteAt), (193, U_isDigit)]) hX9_cutNumber (by decide) (by decide) okX9_cutNumber (cc1C (n_byteAt l) (by decide) (cc1C (n_isDigit l) (by decide) cc0C)) lg_X9_cutNumber (b_X9_cutNumber.and p_cutNumber)
