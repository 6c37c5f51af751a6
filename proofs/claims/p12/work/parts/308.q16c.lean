set_option maxHeartbeats 4000000 in
theorem pz_readLabel (y : (Int → Int) × (Nat → Nat) × (Nat → Nat) × (Nat → Nat) × (Nat → Nat) × ZS × Nat) : PbC KX7_readLabel [(142, TrP, EqC 142), (128, TrP, EqC 128), (129, TrP, EqC 129), (148, TrP, EqC 148)] [(142, Uz_begin), (128, Uz_accept), (129, Uz_expect), (148, Uz_readInner)] (fun As σ => Pz_readLabel y As σ ∧ cnC σ ≤ 1000000 ∧ ∃ w τ, uqC quL 151 As σ w τ) (Qz_readLabel y) := by
  obtain ⟨N, E, A, B, V, z, n⟩ := y
  rintro As σ ⟨⟨p1, rfl, hZ, hd, hn, hft⟩, hcn, _, _, hQ⟩ K hB hW n_
  have hH : HI0 σ ∧ TyC σ (E 0) 8 := hQ
  have hat := hZ.at0 hH
  have h1 : zFt (stM N (n - 1) (arM ((snM z : Nat) : Int) (xpM 6 (accM (seM (snM z) (sLk (zAt z.1)) (coM 41 (tnM z) 0 (zAt z.1) (bgH 6 n z))))))).1 = 0 := hft
  have h0 : zFt (xpM 6 (accM (seM (snM z) (sLk (zAt z.1)) (coM 41 (tnM z) 0 (zAt z.1) (bgH 6 n z))))).1 = 0 := by
    have h9 := h1
    rw [lf_st] at h9
    exact (gd_st _).z h9
  have ha : zFt (accM (seM (snM z) (sLk (zAt z.1)) (coM 41 (tnM z) 0 (zAt z.1) (bgH 6 n z)))).1 = 0 := GpY.z (gd_xp (c := 6) _) h0
  have hk : (xpM 6 (accM (seM (snM z) (sLk (zAt z.1)) (coM 41 (tnM z) 0 (zAt z.1) (bgH 6 n z))))).2.2.2.1.2 = z.2.2.2.1.2 := rfl
  have hsn : snM (xpM 6 (accM (seM (snM z) (sLk (zAt z.1)) (coM 41 (tnM z) 0 (zAt z.1) (bgH 6 n z))))) = snM z + 1 := rfl
  change K n_ 0 [(0, .inr (.inr (some (E 0)))), (1, .inl p1)] [] σ
  refine hB _ _ _ _ _ (fun m51 hm51 => ?_)
  dsimp only [ucgo, ucwp, ucsC, uqC, uoC, ctC, rfd, KX7_readLabel, KX7_readLabel_0, lkC, s1C, s2C, dlC, kyC, Nat.beq, Nat.ble, rcd, rno, rsw, Nat.reduceAdd, Nat.reduceBEq, Nat.reduceDiv, List.drop, List.take, List.reverse, List.reverseAux, Int.toNat, Option.toList, List.append, List.cons_append, List.nil_append, zg241, zg242, zg303]
  have c52 : (Int32.ofInt 6).toInt = 6 := by decide
  intro w53 τ53 o53 q53
  obtain ⟨rfl, hZ53, hf53⟩ := q53 (N, E, A, B, V, z, 6, (lvN n)) ⟨_, _, rfl, hZ, by omega, by unfold lvN; omega⟩
  have hF53 := FzC.tr (FzC.rf (n := cnC σ) (m := xnM z) (E := E) (A := A) (B := B) (V := V) (z := z) (σ := σ)) (FzC.mo hf53 (Nat.le_refl (cnC σ)) ((FzC.rf (n := cnC σ) (m := xnM z) (E := E) (A := A) (B := B) (V := V) (z := z) (σ := σ))).2.2.1.1.1)
  have hle53 : cnC σ ≤ cnC τ53 := Nat.le_trans (Nat.le_refl (cnC σ)) (hf53).1
  have hb53 : (upA B (snM z) (cnC σ)) (snM z) = cnC σ := upA_e
  have hl53 : snM z < snM (beM 6 (lvN n) z) := Nat.lt_succ_self _
  have ho53 : cnC σ ≤ cnC σ := (Nat.le_refl (cnC σ))
  have hh53 : (reS (beM 6 (lvN n) z) (snM z)).1 = (6, zAt z.1, (lvN n), z.2.2.2.1.2) ∧ (reS (beM 6 (lvN n) z) (snM z)).2.1 = z.2.2.2.1.1 := by rw [beM_e]; exact ⟨rfl, rfl⟩
  have hZ54 : ZC N E A (upA B (snM z) (cnC σ)) V τ53 (bgM 6 n z) := ZC.co hZ53
  have hF54 : FzC (cnC σ) (xnM z) E A A B (upA B (snM z) (cnC σ)) V V z (bgM 6 n z) σ τ53 := FzC.co hF53
  have hZ55 : ZC N E A (upA B (snM z) (cnC σ)) V τ53 (bgH 6 n z) := ZC.th hZ54
  have hF55 : FzC (cnC σ) (xnM z) E A A B (upA B (snM z) (cnC σ)) V V z (bgH 6 n z) σ τ53 := FzC.th hF54
  have hZ56 : ZC N E A (upA B (snM z) (cnC σ)) V τ53 (coM 41 (tnM z) 0 (zAt z.1) (bgH 6 n z)) := ZC.co hZ55
  have hF56 : FzC (cnC σ) (xnM z) E A A B (upA B (snM z) (cnC σ)) V V z (coM 41 (tnM z) 0 (zAt z.1) (bgH 6 n z)) σ τ53 := FzC.co hF55
  try dsimp only [Option.toList, List.cons_append, List.nil_append, s1C, s2C, dlC, kyC, Nat.beq, lkC, rcd, rno, rsw]
  intro a57 e57 ob57
  cases e57
  have f58 : (fIC τ53 (E 0) 242).toInt = zAt (coM 41 (tnM z) 0 (zAt z.1) (bgH 6 n z)).1 := hZ56.2.1.1.1
  intro a59 e59 ob59 fk59
  cases e59
  clear fk59 ob59
  generalize hs59 : pIC τ53 (cnC σ) 280 (fIC τ53 (E 0) 242) = s59
  have hx59 : SfE (cnC σ) τ53 s59 := by rw [← hs59]; exact SfE.pI (by decide)
  have hZ59 : ZC N E A (upA B (snM z) (cnC σ)) V s59 (seM (snM z) (sLk (zAt z.1)) (coM 41 (tnM z) 0 (zAt z.1) (bgH 6 n z))) := by rw [← hs59]; exact ZC.s280 hZ56 hl53 hb53 (by have e9 : zAt (coM 41 (tnM z) 0 (zAt z.1) (bgH 6 n z)).1 = zAt z.1 := rfl; omega)
  have hF59 : FzC (cnC σ) (xnM z) E A A B (upA B (snM z) (cnC σ)) V V z (seM (snM z) (sLk (zAt z.1)) (coM 41 (tnM z) 0 (zAt z.1) (bgH 6 n z))) σ s59 := FzC.se hF56 ho53 hx59 (fun _ => ⟨rfl, rfl⟩)
  have hle59 : cnC σ ≤ cnC s59 := by rw [hx59.2.2]; exact hle53
  have hh59_J : (reS (seM (snM z) (sLk (zAt z.1)) (coM 41 (tnM z) 0 (zAt z.1) (bgH 6 n z))) (snM z)).1 = (6, zAt z.1, (lvN n), z.2.2.2.1.2) ∧ (reS (seM (snM z) (sLk (zAt z.1)) (coM 41 (tnM z) 0 (zAt z.1) (bgH 6 n z))) (snM z)).2.1 = z.2.2.2.1.1 := by rw [seM_e]; exact hh53
  intro a60 e60 ob60
  cases e60
  intro a61 e61 ob61
  obtain rfl : E 2 = a61 := Option.some.inj (hZ59.1.1.2.symm.trans e61)
  intro a62 e62 ob62
  cases e62
  have f63 : (fIC s59 (E 0) 242).toInt = zAt (seM (snM z) (sLk (zAt z.1)) (coM 41 (tnM z) 0 (zAt z.1) (bgH 6 n z))).1 := hZ59.2.1.1.1
  have c64 : (Int32.ofInt 200).toInt = 200 := by decide
  intro a65 e65 t65 v65
  obtain rfl : E 303 = a65 := Option.some.inj (hZ59.1.2.2.1.2.1.symm.trans e65)
  generalize hs65 : qIC s59 (E 303) (upd (eIC s59 (E 303)) (fIC s59 (E 0) 242).toNatClampNeg (Int32.ofInt 200)) = s65
  have hZ65 : ZC N E A (upA B (snM z) (cnC σ)) V s65 (seM (snM z) (sLk (zAt z.1)) (coM 41 (tnM z) 0 (zAt z.1) (bgH 6 n z))) := by rw [← hs65]; exact hZ59.mn
  have hF65 := FzC.tr hF59 (show FzC (cnC σ) (xnM z) E A A (upA B (snM z) (cnC σ)) (upA B (snM z) (cnC σ)) V V (seM (snM z) (sLk (zAt z.1)) (coM 41 (tnM z) 0 (zAt z.1) (bgH 6 n z))) (seM (snM z) (sLk (zAt z.1)) (coM 41 (tnM z) 0 (zAt z.1) (bgH 6 n z))) s59 s65 by rw [← hs65]; exact FzC.mn (by rw [nT_toNat]; omega))
  have hle65 : cnC σ ≤ cnC s65 := by rw [← hs65]; exact hle59
  intro w66 τ66 o66 q66
  obtain ⟨rfl, hZ66, hf66⟩ := q66 (N, E, A, (upA B (snM z) (cnC σ)), V, (seM (snM z) (sLk (zAt z.1)) (coM 41 (tnM z) 0 (zAt z.1) (bgH 6 n z)))) ⟨rfl, hZ65, ha⟩
  have hF66 := FzC.tr hF65 (FzC.mo hf66 hle65 (hF65).2.2.1.1.1)
  have hle66 : cnC σ ≤ cnC τ66 := Nat.le_trans hle65 (hf66).1
  have hb66_J : (upA B (snM z) (cnC σ)) (snM z) = (cnC σ) := (hf66.2.2.2.1.1.2 (snM z) (show snM z < snM (seM (snM z) (sLk (zAt z.1)) (coM 41 (tnM z) 0 (zAt z.1) (bgH 6 n z))) from hl53)).1.trans hb53
  have hl66_J : snM z < snM (accM (seM (snM z) (sLk (zAt z.1)) (coM 41 (tnM z) 0 (zAt z.1) (bgH 6 n z)))) := Nat.lt_of_lt_of_le (show snM z < snM (seM (snM z) (sLk (zAt z.1)) (coM 41 (tnM z) 0 (zAt z.1) (bgH 6 n z))) from hl53) hf66.2.2.2.1.1.1
  have hh66_J : (reS (accM (seM (snM z) (sLk (zAt z.1)) (coM 41 (tnM z) 0 (zAt z.1) (bgH 6 n z)))) (snM z)).1 = (6, zAt z.1, (lvN n), z.2.2.2.1.2) ∧ (reS (accM (seM (snM z) (sLk (zAt z.1)) (coM 41 (tnM z) 0 (zAt z.1) (bgH 6 n z)))) (snM z)).2.1 = z.2.2.2.1.1 := ⟨(hf66.2.2.2.1.1.2 (snM z) (show snM z < snM (seM (snM z) (sLk (zAt z.1)) (coM 41 (tnM z) 0 (zAt z.1) (bgH 6 n z))) from hl53)).2.1.trans hh59_J.1, (hf66.2.2.2.1.1.2 (snM z) (show snM z < snM (seM (snM z) (sLk (zAt z.1)) (coM 41 (tnM z) 0 (zAt z.1) (bgH 6 n z))) from hl53)).2.2.trans hh59_J.2⟩
  try dsimp only [Option.toList, List.cons_append, List.nil_append, s1C, s2C, dlC, kyC, Nat.beq, lkC, rcd, rno, rsw]
  have c67 : (Int32.ofInt 6).toInt = 6 := by decide
  intro w68 τ68 o68 q68
  obtain ⟨rfl, hZ68, hf68⟩ := q68 (N, E, A, (upA B (snM z) (cnC σ)), V, (accM (seM (snM z) (sLk (zAt z.1)) (coM 41 (tnM z) 0 (zAt z.1) (bgH 6 n z)))), 6) ⟨_, rfl, hZ66, by omega, h0⟩
  have hF68 := FzC.tr hF66 (FzC.mo hf68 hle66 (hF66).2.2.1.1.1)
  have hle68 : cnC σ ≤ cnC τ68 := Nat.le_trans hle66 (hf68).1
  have hb68_J : (upA B (snM z) (cnC σ)) (snM z) = (cnC σ) := (hf68.2.2.2.1.1.2 (snM z) hl66_J).1.trans hb66_J
  have hl68_J : snM z < snM (xpM 6 (accM (seM (snM z) (sLk (zAt z.1)) (coM 41 (tnM z) 0 (zAt z.1) (bgH 6 n z))))) := Nat.lt_of_lt_of_le hl66_J hf68.2.2.2.1.1.1
  have hh68_J : (reS (xpM 6 (accM (seM (snM z) (sLk (zAt z.1)) (coM 41 (tnM z) 0 (zAt z.1) (bgH 6 n z))))) (snM z)).1 = (6, zAt z.1, (lvN n), z.2.2.2.1.2) ∧ (reS (xpM 6 (accM (seM (snM z) (sLk (zAt z.1)) (coM 41 (tnM z) 0 (zAt z.1) (bgH 6 n z))))) (snM z)).2.1 = z.2.2.2.1.1 := ⟨(hf68.2.2.2.1.1.2 (snM z) hl66_J).2.1.trans hh66_J.1, (hf68.2.2.2.1.1.2 (snM z) hl66_J).2.2.trans hh66_J.2⟩
  try dsimp only [Option.toList, List.cons_append, List.nil_append, s1C, s2C, dlC, kyC, Nat.beq, lkC, rcd, rno, rsw]
  intro w69 τ69 o69 q69
  obtain ⟨A69, B69, V69, rfl, hZ69, hf69, hs69⟩ : ∃ A' B' V' : Nat → Nat, w69 = some (.inr (.inr (some (B' (snM (xpM 6 (accM (seM (snM z) (sLk (zAt z.1)) (coM 41 (tnM z) 0 (zAt z.1) (bgH 6 n z)))))))))) ∧ ZC N E A' B' V' τ69 (arM (xpM 6 (accM (seM (snM z) (sLk (zAt z.1)) (coM 41 (tnM z) 0 (zAt z.1) (bgH 6 n z))))).2.2.2.1.2 (stM N (n - 1) (arM ((snM z : Nat) : Int) (xpM 6 (accM (seM (snM z) (sLk (zAt z.1)) (coM 41 (tnM z) 0 (zAt z.1) (bgH 6 n z)))))))) ∧ FzC (cnC τ68) (xnM (xpM 6 (accM (seM (snM z) (sLk (zAt z.1)) (coM 41 (tnM z) 0 (zAt z.1) (bgH 6 n z)))))) E A A' (upA B (snM z) (cnC σ)) B' V V' (xpM 6 (accM (seM (snM z) (sLk (zAt z.1)) (coM 41 (tnM z) 0 (zAt z.1) (bgH 6 n z))))) (arM (xpM 6 (accM (seM (snM z) (sLk (zAt z.1)) (coM 41 (tnM z) 0 (zAt z.1) (bgH 6 n z))))).2.2.2.1.2 (stM N (n - 1) (arM ((snM z : Nat) : Int) (xpM 6 (accM (seM (snM z) (sLk (zAt z.1)) (coM 41 (tnM z) 0 (zAt z.1) (bgH 6 n z)))))))) τ68 τ69 ∧ snM (xpM 6 (accM (seM (snM z) (sLk (zAt z.1)) (coM 41 (tnM z) 0 (zAt z.1) (bgH 6 n z))))) < snM (stM N (n - 1) (arM ((snM z : Nat) : Int) (xpM 6 (accM (seM (snM z) (sLk (zAt z.1)) (coM 41 (tnM z) 0 (zAt z.1) (bgH 6 n z))))))) := q69 (N, E, A, (upA B (snM z) (cnC σ)), V, (xpM 6 (accM (seM (snM z) (sLk (zAt z.1)) (coM 41 (tnM z) 0 (zAt z.1) (bgH 6 n z))))), n, snM z) ⟨_, _, rfl, hZ68, by omega, by omega, hl68_J, hb68_J.symm, h1⟩
  have hF69 := FzC.tr hF68 (FzC.mo hf69 hle68 (hF68).2.2.1.1.1)
  have hle69 : cnC σ ≤ cnC τ69 := Nat.le_trans hle68 (hf69).1
  have hb69_J : B69 (snM z) = (cnC σ) := (hf69.2.2.2.1.1.2 (snM z) hl68_J).1.trans hb68_J
  have hl69_J : snM z < snM (arM (xpM 6 (accM (seM (snM z) (sLk (zAt z.1)) (coM 41 (tnM z) 0 (zAt z.1) (bgH 6 n z))))).2.2.2.1.2 (stM N (n - 1) (arM ((snM z : Nat) : Int) (xpM 6 (accM (seM (snM z) (sLk (zAt z.1)) (coM 41 (tnM z) 0 (zAt z.1) (bgH 6 n z)))))))) := Nat.lt_of_lt_of_le hl68_J hf69.2.2.2.1.1.1
  have hh69_J : (reS (arM (xpM 6 (accM (seM (snM z) (sLk (zAt z.1)) (coM 41 (tnM z) 0 (zAt z.1) (bgH 6 n z))))).2.2.2.1.2 (stM N (n - 1) (arM ((snM z : Nat) : Int) (xpM 6 (accM (seM (snM z) (sLk (zAt z.1)) (coM 41 (tnM z) 0 (zAt z.1) (bgH 6 n z)))))))) (snM z)).1 = (6, zAt z.1, (lvN n), z.2.2.2.1.2) ∧ (reS (arM (xpM 6 (accM (seM (snM z) (sLk (zAt z.1)) (coM 41 (tnM z) 0 (zAt z.1) (bgH 6 n z))))).2.2.2.1.2 (stM N (n - 1) (arM ((snM z : Nat) : Int) (xpM 6 (accM (seM (snM z) (sLk (zAt z.1)) (coM 41 (tnM z) 0 (zAt z.1) (bgH 6 n z)))))))) (snM z)).2.1 = z.2.2.2.1.1 := ⟨(hf69.2.2.2.1.1.2 (snM z) hl68_J).2.1.trans hh68_J.1, (hf69.2.2.2.1.1.2 (snM z) hl68_J).2.2.trans hh68_J.2⟩
  try dsimp only [Option.toList, List.cons_append, List.nil_append, s1C, s2C, dlC, kyC, Nat.beq, lkC, rcd, rno, rsw]
  intro a70 e70 ob70 fk70
  cases e70
  clear fk70 ob70
  generalize hs70 : pRC τ69 (cnC σ) 276 (some (B69 (snM (xpM 6 (accM (seM (snM z) (sLk (zAt z.1)) (coM 41 (tnM z) 0 (zAt z.1) (bgH 6 n z)))))))) = s70
  have hx70 : SfE (cnC σ) τ69 s70 := by rw [← hs70]; exact SfE.pR (by decide)
  have hZ70 : ZC N E A69 B69 V69 s70 (seM (snM z) (sBd ((snM (xpM 6 (accM (seM (snM z) (sLk (zAt z.1)) (coM 41 (tnM z) 0 (zAt z.1) (bgH 6 n z))))) : Nat) : Int)) (arM (xpM 6 (accM (seM (snM z) (sLk (zAt z.1)) (coM 41 (tnM z) 0 (zAt z.1) (bgH 6 n z))))).2.2.2.1.2 (stM N (n - 1) (arM ((snM z : Nat) : Int) (xpM 6 (accM (seM (snM z) (sLk (zAt z.1)) (coM 41 (tnM z) 0 (zAt z.1) (bgH 6 n z))))))))) := by rw [← hs70]; exact ZC.s276 hZ69 hl69_J hb69_J (opA_k).symm (Int.ofNat_lt.mpr hs69)
  have hF70 : FzC (cnC σ) (xnM z) E A A69 B B69 V V69 z (seM (snM z) (sBd ((snM (xpM 6 (accM (seM (snM z) (sLk (zAt z.1)) (coM 41 (tnM z) 0 (zAt z.1) (bgH 6 n z))))) : Nat) : Int)) (arM (xpM 6 (accM (seM (snM z) (sLk (zAt z.1)) (coM 41 (tnM z) 0 (zAt z.1) (bgH 6 n z))))).2.2.2.1.2 (stM N (n - 1) (arM ((snM z : Nat) : Int) (xpM 6 (accM (seM (snM z) (sLk (zAt z.1)) (coM 41 (tnM z) 0 (zAt z.1) (bgH 6 n z))))))))) σ s70 := FzC.se hF69 ho53 hx70 (fun _ => ⟨rfl, rfl⟩)
  have hle70 : cnC σ ≤ cnC s70 := by rw [hx70.2.2]; exact hle69
  have hh70_J : (reS (seM (snM z) (sBd ((snM (xpM 6 (accM (seM (snM z) (sLk (zAt z.1)) (coM 41 (tnM z) 0 (zAt z.1) (bgH 6 n z))))) : Nat) : Int)) (arM (xpM 6 (accM (seM (snM z) (sLk (zAt z.1)) (coM 41 (tnM z) 0 (zAt z.1) (bgH 6 n z))))).2.2.2.1.2 (stM N (n - 1) (arM ((snM z : Nat) : Int) (xpM 6 (accM (seM (snM z) (sLk (zAt z.1)) (coM 41 (tnM z) 0 (zAt z.1) (bgH 6 n z))))))))) (snM z)).1 = (6, zAt z.1, (lvN n), z.2.2.2.1.2) ∧ (reS (seM (snM z) (sBd ((snM (xpM 6 (accM (seM (snM z) (sLk (zAt z.1)) (coM 41 (tnM z) 0 (zAt z.1) (bgH 6 n z))))) : Nat) : Int)) (arM (xpM 6 (accM (seM (snM z) (sLk (zAt z.1)) (coM 41 (tnM z) 0 (zAt z.1) (bgH 6 n z))))).2.2.2.1.2 (stM N (n - 1) (arM ((snM z : Nat) : Int) (xpM 6 (accM (seM (snM z) (sLk (zAt z.1)) (coM 41 (tnM z) 0 (zAt z.1) (bgH 6 n z))))))))) (snM z)).2.1 = z.2.2.2.1.1 := by rw [seM_e]; exact hh69_J
  have hez71 : (seM (snM z) (sBd ((snM (xpM 6 (accM (seM (snM z) (sLk (zAt z.1)) (coM 41 (tnM z) 0 (zAt z.1) (bgH 6 n z))))) : Nat) : Int)) (arM (xpM 6 (accM (seM (snM z) (sLk (zAt z.1)) (coM 41 (tnM z) 0 (zAt z.1) (bgH 6 n z))))).2.2.2.1.2 (stM N (n - 1) (arM ((snM z : Nat) : Int) (xpM 6 (accM (seM (snM z) (sLk (zAt z.1)) (coM 41 (tnM z) 0 (zAt z.1) (bgH 6 n z))))))))) = (bdM (snM z) (snM z + 1) (stM N (n - 1) (arM ((snM z : Nat) : Int) (xpM 6 (accM (seM (snM z) (sLk (zAt z.1)) (coM 41 (tnM z) 0 (zAt z.1) (bgH 6 n z)))))))) := by
    exact bd_eq (by rw [hsn]) (by
      unfold paS
      have q := hh70_J.1
      rw [seM_e] at q
      have q2 : (reS (stM N (n - 1) (arM ((snM z : Nat) : Int) (xpM 6 (accM (seM (snM z) (sLk (zAt z.1)) (coM 41 (tnM z) 0 (zAt z.1) (bgH 6 n z))))))) (snM z)).1 = _ := q
      rw [q2]
      exact hk.symm)
  have hZ72 : ZC N E A69 B69 V69 s70 (bdM (snM z) (snM z + 1) (stM N (n - 1) (arM ((snM z : Nat) : Int) (xpM 6 (accM (seM (snM z) (sLk (zAt z.1)) (coM 41 (tnM z) 0 (zAt z.1) (bgH 6 n z)))))))) := (by rw [← hez71]; exact hZ70)
  have hF72 : FzC (cnC σ) (xnM z) E A A69 B B69 V V69 z (bdM (snM z) (snM z + 1) (stM N (n - 1) (arM ((snM z : Nat) : Int) (xpM 6 (accM (seM (snM z) (sLk (zAt z.1)) (coM 41 (tnM z) 0 (zAt z.1) (bgH 6 n z)))))))) σ s70 := (by rw [← hez71]; exact hF70)
  have hlq70_J : snM z < snM (bdM (snM z) (snM z + 1) (stM N (n - 1) (arM ((snM z : Nat) : Int) (xpM 6 (accM (seM (snM z) (sLk (zAt z.1)) (coM 41 (tnM z) 0 (zAt z.1) (bgH 6 n z)))))))) := by rw [← hez71]; exact (show snM z < snM (seM (snM z) (sBd ((snM (xpM 6 (accM (seM (snM z) (sLk (zAt z.1)) (coM 41 (tnM z) 0 (zAt z.1) (bgH 6 n z))))) : Nat) : Int)) (arM (xpM 6 (accM (seM (snM z) (sLk (zAt z.1)) (coM 41 (tnM z) 0 (zAt z.1) (bgH 6 n z))))).2.2.2.1.2 (stM N (n - 1) (arM ((snM z : Nat) : Int) (xpM 6 (accM (seM (snM z) (sLk (zAt z.1)) (coM 41 (tnM z) 0 (zAt z.1) (bgH 6 n z))))))))) from hl69_J)
  have hhq70_J : (reS (bdM (snM z) (snM z + 1) (stM N (n - 1) (arM ((snM z : Nat) : Int) (xpM 6 (accM (seM (snM z) (sLk (zAt z.1)) (coM 41 (tnM z) 0 (zAt z.1) (bgH 6 n z)))))))) (snM z)).1 = (6, zAt z.1, (lvN n), z.2.2.2.1.2) ∧ (reS (bdM (snM z) (snM z + 1) (stM N (n - 1) (arM ((snM z : Nat) : Int) (xpM 6 (accM (seM (snM z) (sLk (zAt z.1)) (coM 41 (tnM z) 0 (zAt z.1) (bgH 6 n z)))))))) (snM z)).2.1 = z.2.2.2.1.1 := by rw [← hez71]; exact hh70_J
  have hlq70_snMxpM6accMseMJsLkzAtz1coM41tnMz0zAtz1bgH6nz : snM (xpM 6 (accM (seM (snM z) (sLk (zAt z.1)) (coM 41 (tnM z) 0 (zAt z.1) (bgH 6 n z))))) < snM (bdM (snM z) (snM z + 1) (stM N (n - 1) (arM ((snM z : Nat) : Int) (xpM 6 (accM (seM (snM z) (sLk (zAt z.1)) (coM 41 (tnM z) 0 (zAt z.1) (bgH 6 n z)))))))) := by rw [← hez71]; exact hs69
  try dsimp only [Qz_readLabel]
  exact ⟨_, _, _, by rw [hb69_J], ZC.co (ZC.co hZ72), FzC.co (FzC.co hF72), hlq70_J⟩
set_option maxHeartbeats 4000000 in
theorem pz_readSwitch (y : (Int → Int) × (Nat → Nat) × (Nat → Nat) × (Nat → Nat) × (Nat → Nat) × ZS × Nat) : PbC KX7_readSwitch [(142, TrP, EqC 142), (128, TrP, EqC 128), (153, TrP, EqC 153), (129, TrP, EqC 129), (145, TrP, EqC 145)] [(142, Uz_begin), (128, Uz_accept), (153, Uz_readCondition), (129, Uz_expect), (145, Uz_readRow)] (fun As σ => Pz_readSwitch y As σ ∧ cnC σ ≤ 1000000 ∧ ∃ w τ, uqC quL 159 As σ w τ) (Qz_readSwitch y) := by
  obtain ⟨N, E, A, B, V, z, n⟩ := y
  rintro As σ ⟨⟨p1, rfl, hZ, hd, hn, hft⟩, hcn, _, _, hQ⟩ K hB hW n_
  have hH : HI0 σ ∧ TyC σ (E 0) 8 := hQ
  have hat := hZ.at0 hH
  have h1 : zFt (rwM N (n - 1) 1 (tnM z) (xpM 2 (arM ((snM z : Nat) : Int) (cxM 37 (tnM z) 0 (zAt z.1) (cdM N (snM z) n (accM (bgH 61 n z))))))).1.1 = 0 := GpY.z (gd_xp (c := 3) _) hft
  have h2 : zFt (xpM 2 (arM ((snM z : Nat) : Int) (cxM 37 (tnM z) 0 (zAt z.1) (cdM N (snM z) n (accM (bgH 61 n z)))))).1 = 0 := by
    have h9 := h1
    rw [lf_rw] at h9
    exact (gd_rw _).z h9
  have h3 : zFt (cdM N (snM z) n (accM (bgH 61 n z))).1 = 0 := GpY.z (gd_xp (c := 2) _) h2
  change K n_ 0 [(0, .inr (.inr (some (E 0)))), (1, .inl p1)] [] σ
  refine hB _ _ _ _ _ (fun m51 hm51 => ?_)
  dsimp only [ucgo, ucwp, ucsC, uqC, uoC, ctC, rfd, KX7_readSwitch, KX7_readSwitch_0, lkC, s1C, s2C, dlC, kyC, Nat.beq, Nat.ble, rcd, rno, rsw, Nat.reduceAdd, Nat.reduceBEq, Nat.reduceDiv, List.drop, List.take, List.reverse, List.reverseAux, Int.toNat, Option.toList, List.append, List.cons_append, List.nil_append, zg245, zg246]
  have c52 : (Int32.ofInt 61).toInt = 61 := by decide
  intro w53 τ53 o53 q53
  obtain ⟨rfl, hZ53, hf53⟩ := q53 (N, E, A, B, V, z, 61, (lvN n)) ⟨_, _, rfl, hZ, by omega, by unfold lvN; omega⟩
  have hF53 := FzC.tr (FzC.rf (n := cnC σ) (m := xnM z) (E := E) (A := A) (B := B) (V := V) (z := z) (σ := σ)) (FzC.mo hf53 (Nat.le_refl (cnC σ)) ((FzC.rf (n := cnC σ) (m := xnM z) (E := E) (A := A) (B := B) (V := V) (z := z) (σ := σ))).2.2.1.1.1)
  have hle53 : cnC σ ≤ cnC τ53 := Nat.le_trans (Nat.le_refl (cnC σ)) (hf53).1
  have hb53 : (upA B (snM z) (cnC σ)) (snM z) = cnC σ := upA_e
  have hl53 : snM z < snM (beM 61 (lvN n) z) := Nat.lt_succ_self _
  have ho53 : cnC σ ≤ cnC σ := (Nat.le_refl (cnC σ))
  have hh53 : (reS (beM 61 (lvN n) z) (snM z)).1 = (61, zAt z.1, (lvN n), z.2.2.2.1.2) ∧ (reS (beM 61 (lvN n) z) (snM z)).2.1 = z.2.2.2.1.1 := by rw [beM_e]; exact ⟨rfl, rfl⟩
  have hZ54 : ZC N E A (upA B (snM z) (cnC σ)) V τ53 (bgM 61 n z) := ZC.co hZ53
  have hF54 : FzC (cnC σ) (xnM z) E A A B (upA B (snM z) (cnC σ)) V V z (bgM 61 n z) σ τ53 := FzC.co hF53
  have hZ55 : ZC N E A (upA B (snM z) (cnC σ)) V τ53 (bgH 61 n z) := ZC.th hZ54
  have hF55 : FzC (cnC σ) (xnM z) E A A B (upA B (snM z) (cnC σ)) V V z (bgH 61 n z) σ τ53 := FzC.th hF54
  try dsimp only [Option.toList, List.cons_append, List.nil_append, s1C, s2C, dlC, kyC, Nat.beq, lkC, rcd, rno, rsw]
  intro a56 e56 ob56
  cases e56
  intro a57 e57 ob57
  cases e57
  intro w58 τ58 o58 q58
  obtain ⟨rfl, hZ58, hf58⟩ := q58 (N, E, A, (upA B (snM z) (cnC σ)), V, (bgH 61 n z)) ⟨rfl, hZ55, (cd_z h3)⟩
  have hF58 := FzC.tr hF55 (FzC.mo hf58 hle53 (hF55).2.2.1.1.1)
  have hle58 : cnC σ ≤ cnC τ58 := Nat.le_trans hle53 (hf58).1
  have hb58_J : (upA B (snM z) (cnC σ)) (snM z) = (cnC σ) := (hf58.2.2.2.1.1.2 (snM z) hl53).1.trans hb53
  have hl58_J : snM z < snM (accM (bgH 61 n z)) := Nat.lt_of_lt_of_le hl53 hf58.2.2.2.1.1.1
  have hh58_J : (reS (accM (bgH 61 n z)) (snM z)).1 = (61, zAt z.1, (lvN n), z.2.2.2.1.2) ∧ (reS (accM (bgH 61 n z)) (snM z)).2.1 = z.2.2.2.1.1 := ⟨(hf58.2.2.2.1.1.2 (snM z) hl53).2.1.trans hh53.1, (hf58.2.2.2.1.1.2 (snM z) hl53).2.2.trans hh53.2⟩
  try dsimp only [Option.toList, List.cons_append, List.nil_append, s1C, s2C, dlC, kyC, Nat.beq, lkC, rcd, rno, rsw]
  intro w59 τ59 o59 q59
  obtain ⟨rfl, A59, hZ59, hf59⟩ := q59 (N, E, A, (upA B (snM z) (cnC σ)), V, (accM (bgH 61 n z)), n, snM z) ⟨_, _, rfl, hZ58, by omega, by omega, hl58_J, hb58_J.symm, h3⟩
  rw [hb58_J] at hf59
  have hF59 := FzC.tr hF58 (FzC.mo hf59 ho53 (hF58).2.2.1.1.1)
  have hle59 : cnC σ ≤ cnC τ59 := Nat.le_trans hle58 hf59.1
  have hb59_J : (upA B (snM z) (cnC σ)) (snM z) = (cnC σ) := (hf59.2.2.2.1.1.2 (snM z) hl58_J).1.trans hb58_J
  have hl59_J : snM z < snM (cdM N (snM z) n (accM (bgH 61 n z))) := Nat.lt_of_lt_of_le hl58_J hf59.2.2.2.1.1.1
  have hh59_J : (reS (cdM N (snM z) n (accM (bgH 61 n z))) (snM z)).1 = (61, zAt z.1, (lvN n), z.2.2.2.1.2) ∧ (reS (cdM N (snM z) n (accM (bgH 61 n z))) (snM z)).2.1 = z.2.2.2.1.1 := ⟨(hf59.2.2.2.1.1.2 (snM z) hl58_J).2.1.trans hh58_J.1, (hf59.2.2.2.1.1.2 (snM z) hl58_J).2.2.trans hh58_J.2⟩
  have hZ60 : ZC N E A59 (upA B (snM z) (cnC σ)) V τ59 (cxM 37 (tnM z) 0 (zAt z.1) (cdM N (snM z) n (accM (bgH 61 n z)))) := ZC.co hZ59
  have hF60 : FzC (cnC σ) (xnM z) E A A59 B (upA B (snM z) (cnC σ)) V V z (cxM 37 (tnM z) 0 (zAt z.1) (cdM N (snM z) n (accM (bgH 61 n z)))) σ τ59 := FzC.co hF59
  try dsimp only [Option.toList, List.cons_append, List.nil_append, s1C, s2C, dlC, kyC, Nat.beq, lkC, rcd, rno, rsw]
  intro a61 e61 ob61 fk61
  cases e61
  clear fk61 ob61
  generalize hs61 : pRC τ59 (E 0) 246 (some (cnC σ)) = s61
  have hZ61 : ZC N E A59 (upA B (snM z) (cnC σ)) V s61 (arM ((snM z : Nat) : Int) (cxM 37 (tnM z) 0 (zAt z.1) (cdM N (snM z) n (accM (bgH 61 n z))))) := by rw [← hs61]; exact ZC.ar hZ60 (by rw [opA_k, hb59_J]) (Int.ofNat_lt.mpr hl59_J)
  have hF61 : FzC (cnC σ) (xnM z) E A A59 B (upA B (snM z) (cnC σ)) V V z (arM ((snM z : Nat) : Int) (cxM 37 (tnM z) 0 (zAt z.1) (cdM N (snM z) n (accM (bgH 61 n z))))) σ s61 := by rw [← hs61]; exact FzC.ar hF60
  have hle61 : cnC σ ≤ cnC s61 := by rw [← hs61]; exact hle59
  have c62 : (Int32.ofInt 2).toInt = 2 := by decide
  intro w63 τ63 o63 q63
  obtain ⟨rfl, hZ63, hf63⟩ := q63 (N, E, A59, (upA B (snM z) (cnC σ)), V, (arM ((snM z : Nat) : Int) (cxM 37 (tnM z) 0 (zAt z.1) (cdM N (snM z) n (accM (bgH 61 n z))))), 2) ⟨_, rfl, hZ61, by omega, h2⟩
  have hF63 := FzC.tr hF61 (FzC.mo hf63 hle61 (hF61).2.2.1.1.1)
  have hle63 : cnC σ ≤ cnC τ63 := Nat.le_trans hle61 (hf63).1
  have hb63_J : (upA B (snM z) (cnC σ)) (snM z) = (cnC σ) := (hf63.2.2.2.1.1.2 (snM z) hl59_J).1.trans hb59_J
  have hl63_J : snM z < snM (xpM 2 (arM ((snM z : Nat) : Int) (cxM 37 (tnM z) 0 (zAt z.1) (cdM N (snM z) n (accM (bgH 61 n z)))))) := Nat.lt_of_lt_of_le hl59_J hf63.2.2.2.1.1.1
  have hh63_J : (reS (xpM 2 (arM ((snM z : Nat) : Int) (cxM 37 (tnM z) 0 (zAt z.1) (cdM N (snM z) n (accM (bgH 61 n z)))))) (snM z)).1 = (61, zAt z.1, (lvN n), z.2.2.2.1.2) ∧ (reS (xpM 2 (arM ((snM z : Nat) : Int) (cxM 37 (tnM z) 0 (zAt z.1) (cdM N (snM z) n (accM (bgH 61 n z)))))) (snM z)).2.1 = z.2.2.2.1.1 := ⟨(hf63.2.2.2.1.1.2 (snM z) hl59_J).2.1.trans hh59_J.1, (hf63.2.2.2.1.1.2 (snM z) hl59_J).2.2.trans hh59_J.2⟩
  try dsimp only [Option.toList, List.cons_append, List.nil_append, s1C, s2C, dlC, kyC, Nat.beq, lkC, rcd, rno, rsw]
  have c64 : (Int32.ofInt 1).toInt = 1 := by decide
  have u65 := tiC p1
  have a65 : (p1 + (Int32.ofInt 1)).toInt = p1.toInt + 1 := addC (by omega) (by omega) (by omega)
  have c66 : (Int32.ofInt 1).toInt = 1 := by decide
  intro w67 τ67 o67 q67
  obtain ⟨A67, B67, V67, rfl, hZ67, hf67, hs67⟩ : ∃ A' B' V' : Nat → Nat, w67 = some (.inr (.inr (opA B' (rwM N (n - 1) 1 (tnM z) (xpM 2 (arM ((snM z : Nat) : Int) (cxM 37 (tnM z) 0 (zAt z.1) (cdM N (snM z) n (accM (bgH 61 n z))))))).2))) ∧ ZC N E A' B' V' τ67 (rwM N (n - 1) 1 (tnM z) (xpM 2 (arM ((snM z : Nat) : Int) (cxM 37 (tnM z) 0 (zAt z.1) (cdM N (snM z) n (accM (bgH 61 n z))))))).1 ∧ FzC (cnC τ63) (xnM (xpM 2 (arM ((snM z : Nat) : Int) (cxM 37 (tnM z) 0 (zAt z.1) (cdM N (snM z) n (accM (bgH 61 n z))))))) E A59 A' (upA B (snM z) (cnC σ)) B' V V' (xpM 2 (arM ((snM z : Nat) : Int) (cxM 37 (tnM z) 0 (zAt z.1) (cdM N (snM z) n (accM (bgH 61 n z)))))) (rwM N (n - 1) 1 (tnM z) (xpM 2 (arM ((snM z : Nat) : Int) (cxM 37 (tnM z) 0 (zAt z.1) (cdM N (snM z) n (accM (bgH 61 n z))))))).1 τ63 τ67 ∧ (rwM N (n - 1) 1 (tnM z) (xpM 2 (arM ((snM z : Nat) : Int) (cxM 37 (tnM z) 0 (zAt z.1) (cdM N (snM z) n (accM (bgH 61 n z))))))).2 < (snM (rwM N (n - 1) 1 (tnM z) (xpM 2 (arM ((snM z : Nat) : Int) (cxM 37 (tnM z) 0 (zAt z.1) (cdM N (snM z) n (accM (bgH 61 n z))))))).1 : Int) := q67 (N, E, A59, (upA B (snM z) (cnC σ)), V, (xpM 2 (arM ((snM z : Nat) : Int) (cxM 37 (tnM z) 0 (zAt z.1) (cdM N (snM z) n (accM (bgH 61 n z)))))), (n - 1), 1, (tnM z)) ⟨_, _, rfl, hZ63, by omega, by omega, by omega, h1⟩
  have hF67 := FzC.tr hF63 (FzC.mo hf67 hle63 (hF63).2.2.1.1.1)
  have hle67 : cnC σ ≤ cnC τ67 := Nat.le_trans hle63 (hf67).1
  have hb67_J : B67 (snM z) = (cnC σ) := (hf67.2.2.2.1.1.2 (snM z) hl63_J).1.trans hb63_J
  have hl67_J : snM z < snM (rwM N (n - 1) 1 (tnM z) (xpM 2 (arM ((snM z : Nat) : Int) (cxM 37 (tnM z) 0 (zAt z.1) (cdM N (snM z) n (accM (bgH 61 n z))))))).1 := Nat.lt_of_lt_of_le hl63_J hf67.2.2.2.1.1.1
  have hh67_J : (reS (rwM N (n - 1) 1 (tnM z) (xpM 2 (arM ((snM z : Nat) : Int) (cxM 37 (tnM z) 0 (zAt z.1) (cdM N (snM z) n (accM (bgH 61 n z))))))).1 (snM z)).1 = (61, zAt z.1, (lvN n), z.2.2.2.1.2) ∧ (reS (rwM N (n - 1) 1 (tnM z) (xpM 2 (arM ((snM z : Nat) : Int) (cxM 37 (tnM z) 0 (zAt z.1) (cdM N (snM z) n (accM (bgH 61 n z))))))).1 (snM z)).2.1 = z.2.2.2.1.1 := ⟨(hf67.2.2.2.1.1.2 (snM z) hl63_J).2.1.trans hh63_J.1, (hf67.2.2.2.1.1.2 (snM z) hl63_J).2.2.trans hh63_J.2⟩
  try dsimp only [Option.toList, List.cons_append, List.nil_append, s1C, s2C, dlC, kyC, Nat.beq, lkC, rcd, rno, rsw]
  intro a68 e68 ob68 fk68
  cases e68
  clear fk68 ob68
  generalize hs68 : pRC τ67 (cnC σ) 276 (opA B67 (rwM N (n - 1) 1 (tnM z) (xpM 2 (arM ((snM z : Nat) : Int) (cxM 37 (tnM z) 0 (zAt z.1) (cdM N (snM z) n (accM (bgH 61 n z))))))).2) = s68
  have hx68 : SfE (cnC σ) τ67 s68 := by rw [← hs68]; exact SfE.pR (by decide)
  have hZ68 : ZC N E A67 B67 V67 s68 (seM (snM z) (sBd (rwM N (n - 1) 1 (tnM z) (xpM 2 (arM ((snM z : Nat) : Int) (cxM 37 (tnM z) 0 (zAt z.1) (cdM N (snM z) n (accM (bgH 61 n z))))))).2) (rwM N (n - 1) 1 (tnM z) (xpM 2 (arM ((snM z : Nat) : Int) (cxM 37 (tnM z) 0 (zAt z.1) (cdM N (snM z) n (accM (bgH 61 n z))))))).1) := by rw [← hs68]; exact ZC.s276 hZ67 hl67_J hb67_J rfl hs67
  have hF68 : FzC (cnC σ) (xnM z) E A A67 B B67 V V67 z (seM (snM z) (sBd (rwM N (n - 1) 1 (tnM z) (xpM 2 (arM ((snM z : Nat) : Int) (cxM 37 (tnM z) 0 (zAt z.1) (cdM N (snM z) n (accM (bgH 61 n z))))))).2) (rwM N (n - 1) 1 (tnM z) (xpM 2 (arM ((snM z : Nat) : Int) (cxM 37 (tnM z) 0 (zAt z.1) (cdM N (snM z) n (accM (bgH 61 n z))))))).1) σ s68 := FzC.se hF67 ho53 hx68 (fun _ => ⟨rfl, rfl⟩)
  have hle68 : cnC σ ≤ cnC s68 := by rw [hx68.2.2]; exact hle67
  have hh68_J : (reS (seM (snM z) (sBd (rwM N (n - 1) 1 (tnM z) (xpM 2 (arM ((snM z : Nat) : Int) (cxM 37 (tnM z) 0 (zAt z.1) (cdM N (snM z) n (accM (bgH 61 n z))))))).2) (rwM N (n - 1) 1 (tnM z) (xpM 2 (arM ((snM z : Nat) : Int) (cxM 37 (tnM z) 0 (zAt z.1) (cdM N (snM z) n (accM (bgH 61 n z))))))).1) (snM z)).1 = (61, zAt z.1, (lvN n), z.2.2.2.1.2) ∧ (reS (seM (snM z) (sBd (rwM N (n - 1) 1 (tnM z) (xpM 2 (arM ((snM z : Nat) : Int) (cxM 37 (tnM z) 0 (zAt z.1) (cdM N (snM z) n (accM (bgH 61 n z))))))).2) (rwM N (n - 1) 1 (tnM z) (xpM 2 (arM ((snM z : Nat) : Int) (cxM 37 (tnM z) 0 (zAt z.1) (cdM N (snM z) n (accM (bgH 61 n z))))))).1) (snM z)).2.1 = z.2.2.2.1.1 := by rw [seM_e]; exact hh67_J
  have c69 : (Int32.ofInt 3).toInt = 3 := by decide
  intro w70 τ70 o70 q70
  obtain ⟨rfl, hZ70, hf70⟩ := q70 (N, E, A67, B67, V67, (seM (snM z) (sBd (rwM N (n - 1) 1 (tnM z) (xpM 2 (arM ((snM z : Nat) : Int) (cxM 37 (tnM z) 0 (zAt z.1) (cdM N (snM z) n (accM (bgH 61 n z))))))).2) (rwM N (n - 1) 1 (tnM z) (xpM 2 (arM ((snM z : Nat) : Int) (cxM 37 (tnM z) 0 (zAt z.1) (cdM N (snM z) n (accM (bgH 61 n z))))))).1), 3) ⟨_, rfl, hZ68, by omega, hft⟩
  have hF70 := FzC.tr hF68 (FzC.mo hf70 hle68 (hF68).2.2.1.1.1)
  have hle70 : cnC σ ≤ cnC τ70 := Nat.le_trans hle68 (hf70).1
  have hb70_J : B67 (snM z) = (cnC σ) := (hf70.2.2.2.1.1.2 (snM z) (show snM z < snM (seM (snM z) (sBd (rwM N (n - 1) 1 (tnM z) (xpM 2 (arM ((snM z : Nat) : Int) (cxM 37 (tnM z) 0 (zAt z.1) (cdM N (snM z) n (accM (bgH 61 n z))))))).2) (rwM N (n - 1) 1 (tnM z) (xpM 2 (arM ((snM z : Nat) : Int) (cxM 37 (tnM z) 0 (zAt z.1) (cdM N (snM z) n (accM (bgH 61 n z))))))).1) from hl67_J)).1.trans hb67_J
  have hl70_J : snM z < snM (xpM 3 (seM (snM z) (sBd (rwM N (n - 1) 1 (tnM z) (xpM 2 (arM ((snM z : Nat) : Int) (cxM 37 (tnM z) 0 (zAt z.1) (cdM N (snM z) n (accM (bgH 61 n z))))))).2) (rwM N (n - 1) 1 (tnM z) (xpM 2 (arM ((snM z : Nat) : Int) (cxM 37 (tnM z) 0 (zAt z.1) (cdM N (snM z) n (accM (bgH 61 n z))))))).1)) := Nat.lt_of_lt_of_le (show snM z < snM (seM (snM z) (sBd (rwM N (n - 1) 1 (tnM z) (xpM 2 (arM ((snM z : Nat) : Int) (cxM 37 (tnM z) 0 (zAt z.1) (cdM N (snM z) n (accM (bgH 61 n z))))))).2) (rwM N (n - 1) 1 (tnM z) (xpM 2 (arM ((snM z : Nat) : Int) (cxM 37 (tnM z) 0 (zAt z.1) (cdM N (snM z) n (accM (bgH 61 n z))))))).1) from hl67_J) hf70.2.2.2.1.1.1
  have hh70_J : (reS (xpM 3 (seM (snM z) (sBd (rwM N (n - 1) 1 (tnM z) (xpM 2 (arM ((snM z : Nat) : Int) (cxM 37 (tnM z) 0 (zAt z.1) (cdM N (snM z) n (accM (bgH 61 n z))))))).2) (rwM N (n - 1) 1 (tnM z) (xpM 2 (arM ((snM z : Nat) : Int) (cxM 37 (tnM z) 0 (zAt z.1) (cdM N (snM z) n (accM (bgH 61 n z))))))).1)) (snM z)).1 = (61, zAt z.1, (lvN n), z.2.2.2.1.2) ∧ (reS (xpM 3 (seM (snM z) (sBd (rwM N (n - 1) 1 (tnM z) (xpM 2 (arM ((snM z : Nat) : Int) (cxM 37 (tnM z) 0 (zAt z.1) (cdM N (snM z) n (accM (bgH 61 n z))))))).2) (rwM N (n - 1) 1 (tnM z) (xpM 2 (arM ((snM z : Nat) : Int) (cxM 37 (tnM z) 0 (zAt z.1) (cdM N (snM z) n (accM (bgH 61 n z))))))).1)) (snM z)).2.1 = z.2.2.2.1.1 := ⟨(hf70.2.2.2.1.1.2 (snM z) (show snM z < snM (seM (snM z) (sBd (rwM N (n - 1) 1 (tnM z) (xpM 2 (arM ((snM z : Nat) : Int) (cxM 37 (tnM z) 0 (zAt z.1) (cdM N (snM z) n (accM (bgH 61 n z))))))).2) (rwM N (n - 1) 1 (tnM z) (xpM 2 (arM ((snM z : Nat) : Int) (cxM 37 (tnM z) 0 (zAt z.1) (cdM N (snM z) n (accM (bgH 61 n z))))))).1) from hl67_J)).2.1.trans hh68_J.1, (hf70.2.2.2.1.1.2 (snM z) (show snM z < snM (seM (snM z) (sBd (rwM N (n - 1) 1 (tnM z) (xpM 2 (arM ((snM z : Nat) : Int) (cxM 37 (tnM z) 0 (zAt z.1) (cdM N (snM z) n (accM (bgH 61 n z))))))).2) (rwM N (n - 1) 1 (tnM z) (xpM 2 (arM ((snM z : Nat) : Int) (cxM 37 (tnM z) 0 (zAt z.1) (cdM N (snM z) n (accM (bgH 61 n z))))))).1) from hl67_J)).2.2.trans hh68_J.2⟩
  try dsimp only [Option.toList, List.cons_append, List.nil_append, s1C, s2C, dlC, kyC, Nat.beq, lkC, rcd, rno, rsw]
  intro a71 e71 ob71 fk71
  cases e71
  clear fk71 ob71
  generalize hs71 : pLC τ70 (E 0) 245 (fLC τ53 (E 0) 245) = s71
  have hZ71 : ZC N E A67 B67 V67 s71 (veM (zAt (rwM N (n - 1) 1 (tnM z) (xpM 2 (arM ((snM z : Nat) : Int) (cxM 37 (tnM z) 0 (zAt z.1) (cdM N (snM z) n (accM (bgH 61 n z))))))).1.1) z.2.2.2.1.1 (xpM 3 (seM (snM z) (sBd (rwM N (n - 1) 1 (tnM z) (xpM 2 (arM ((snM z : Nat) : Int) (cxM 37 (tnM z) 0 (zAt z.1) (cdM N (snM z) n (accM (bgH 61 n z))))))).2) (rwM N (n - 1) 1 (tnM z) (xpM 2 (arM ((snM z : Nat) : Int) (cxM 37 (tnM z) 0 (zAt z.1) (cdM N (snM z) n (accM (bgH 61 n z))))))).1))) := by
    rw [← hs71]
    exact ZC.kn hZ70 ⟨rfl, rfl, rfl⟩ ⟨rfl, rfl⟩ hZ55.2.1.2.1 (fun q hq => by
      have a := hZ.2.2.2.2.2.2.2.1 q hq
      have b := hF70.2.2.2.2.1
      exact ⟨a.1, by omega, by rw [(b.2 q.1.toNat (by omega)).2]; exact a.2.2⟩) hZ.2.2.2.2.2.2.2.2.1
  have hF71 : FzC (cnC σ) (xnM z) E A A67 B B67 V V67 z (veM (zAt (rwM N (n - 1) 1 (tnM z) (xpM 2 (arM ((snM z : Nat) : Int) (cxM 37 (tnM z) 0 (zAt z.1) (cdM N (snM z) n (accM (bgH 61 n z))))))).1.1) z.2.2.2.1.1 (xpM 3 (seM (snM z) (sBd (rwM N (n - 1) 1 (tnM z) (xpM 2 (arM ((snM z : Nat) : Int) (cxM 37 (tnM z) 0 (zAt z.1) (cdM N (snM z) n (accM (bgH 61 n z))))))).2) (rwM N (n - 1) 1 (tnM z) (xpM 2 (arM ((snM z : Nat) : Int) (cxM 37 (tnM z) 0 (zAt z.1) (cdM N (snM z) n (accM (bgH 61 n z))))))).1))) σ s71 := by rw [← hs71]; exact FzC.kn hF70 ⟨rfl, rfl, rfl⟩
  have hle71 : cnC σ ≤ cnC s71 := by rw [← hs71]; exact hle70
  intro a72 e72 ob72 fk72
  cases e72
  clear fk72 ob72
  generalize hs72 : pRC s71 (E 0) 246 (fRC τ53 (E 0) 246) = s72
  have hZ72 : ZC N E A67 B67 V67 s72 (arM z.2.2.2.1.2 (veM (zAt (rwM N (n - 1) 1 (tnM z) (xpM 2 (arM ((snM z : Nat) : Int) (cxM 37 (tnM z) 0 (zAt z.1) (cdM N (snM z) n (accM (bgH 61 n z))))))).1.1) z.2.2.2.1.1 (xpM 3 (seM (snM z) (sBd (rwM N (n - 1) 1 (tnM z) (xpM 2 (arM ((snM z : Nat) : Int) (cxM 37 (tnM z) 0 (zAt z.1) (cdM N (snM z) n (accM (bgH 61 n z))))))).2) (rwM N (n - 1) 1 (tnM z) (xpM 2 (arM ((snM z : Nat) : Int) (cxM 37 (tnM z) 0 (zAt z.1) (cdM N (snM z) n (accM (bgH 61 n z))))))).1)))) := by rw [← hs72]; exact ZC.ar hZ71 (hZ55.2.1.2.2.1.trans ((opA_c (fun i hi => ((hF55).2.2.2.1.1.2 i hi).1) hZ.2.1.2.2.2).trans (opA_c (fun i hi => (hF71.2.2.2.1.1.2 i hi).1) hZ.2.1.2.2.2).symm)) (by have := hZ.2.1.2.2.2; have := hF71.2.2.2.1.1.1; omega)
  have hF72 : FzC (cnC σ) (xnM z) E A A67 B B67 V V67 z (arM z.2.2.2.1.2 (veM (zAt (rwM N (n - 1) 1 (tnM z) (xpM 2 (arM ((snM z : Nat) : Int) (cxM 37 (tnM z) 0 (zAt z.1) (cdM N (snM z) n (accM (bgH 61 n z))))))).1.1) z.2.2.2.1.1 (xpM 3 (seM (snM z) (sBd (rwM N (n - 1) 1 (tnM z) (xpM 2 (arM ((snM z : Nat) : Int) (cxM 37 (tnM z) 0 (zAt z.1) (cdM N (snM z) n (accM (bgH 61 n z))))))).2) (rwM N (n - 1) 1 (tnM z) (xpM 2 (arM ((snM z : Nat) : Int) (cxM 37 (tnM z) 0 (zAt z.1) (cdM N (snM z) n (accM (bgH 61 n z))))))).1)))) σ s72 := by rw [← hs72]; exact FzC.ar hF71
  have hle72 : cnC σ ≤ cnC s72 := by rw [← hs72]; exact hle71
  try dsimp only [Qz_readSwitch]
  have hez : (arM z.2.2.2.1.2 (veM (zAt (rwM N (n - 1) 1 (tnM z) (xpM 2 (arM ((snM z : Nat) : Int) (cxM 37 (tnM z) 0 (zAt z.1) (cdM N (snM z) n (accM (bgH 61 n z))))))).1.1) z.2.2.2.1.1 (xpM 3 (seM (snM z) (sBd (rwM N (n - 1) 1 (tnM z) (xpM 2 (arM ((snM z : Nat) : Int) (cxM 37 (tnM z) 0 (zAt z.1) (cdM N (snM z) n (accM (bgH 61 n z))))))).2) (rwM N (n - 1) 1 (tnM z) (xpM 2 (arM ((snM z : Nat) : Int) (cxM 37 (tnM z) 0 (zAt z.1) (cdM N (snM z) n (accM (bgH 61 n z))))))).1)))) = xpM 3 (veM (zAt (rwM N (n - 1) 1 (tnM z) (xpM 2 (arM ((snM z : Nat) : Int) (cxM 37 (tnM z) 0 (zAt z.1) (cdM N (snM z) n (accM (bgH 61 n z))))))).1.1) (knS (rwM N (n - 1) 1 (tnM z) (xpM 2 (arM ((snM z : Nat) : Int) (cxM 37 (tnM z) 0 (zAt z.1) (cdM N (snM z) n (accM (bgH 61 n z))))))).1 (snM z)) (unM (snM z) (seM (snM z) (sBd (rwM N (n - 1) 1 (tnM z) (xpM 2 (arM ((snM z : Nat) : Int) (cxM 37 (tnM z) 0 (zAt z.1) (cdM N (snM z) n (accM (bgH 61 n z))))))).2) (rwM N (n - 1) 1 (tnM z) (xpM 2 (arM ((snM z : Nat) : Int) (cxM 37 (tnM z) 0 (zAt z.1) (cdM N (snM z) n (accM (bgH 61 n z))))))).1))) := by
    rw [show knS (rwM N (n - 1) 1 (tnM z) (xpM 2 (arM ((snM z : Nat) : Int) (cxM 37 (tnM z) 0 (zAt z.1) (cdM N (snM z) n (accM (bgH 61 n z))))))).1 (snM z) = z.2.2.2.1.1 from hh67_J.2]
    exact blk_eq (by unfold paS; rw [hh67_J.1])
  have hZe := hZ72
  have hFe := hF72
  have hle_ : snM z < snM (arM z.2.2.2.1.2 (veM (zAt (rwM N (n - 1) 1 (tnM z) (xpM 2 (arM ((snM z : Nat) : Int) (cxM 37 (tnM z) 0 (zAt z.1) (cdM N (snM z) n (accM (bgH 61 n z))))))).1.1) z.2.2.2.1.1 (xpM 3 (seM (snM z) (sBd (rwM N (n - 1) 1 (tnM z) (xpM 2 (arM ((snM z : Nat) : Int) (cxM 37 (tnM z) 0 (zAt z.1) (cdM N (snM z) n (accM (bgH 61 n z))))))).2) (rwM N (n - 1) 1 (tnM z) (xpM 2 (arM ((snM z : Nat) : Int) (cxM 37 (tnM z) 0 (zAt z.1) (cdM N (snM z) n (accM (bgH 61 n z))))))).1)))) := hl70_J
  rw [hez] at hZe hFe hle_
  exact ⟨_, _, _, by rw [hb70_J], ZC.co (ZC.co hZe), FzC.co (FzC.co hFe), hle_⟩
