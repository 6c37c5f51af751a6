set_option maxHeartbeats 4000000 in
theorem pz_readWhile (y : (Int → Int) × (Nat → Nat) × (Nat → Nat) × (Nat → Nat) × (Nat → Nat) × ZS × Nat) : PbC KX7_readWhile [(142, TrP, EqC 142), (128, TrP, EqC 128), (153, TrP, EqC 153), (148, TrP, EqC 148)] [(142, Uz_begin), (128, Uz_accept), (153, Uz_readCondition), (148, Uz_readInner)] (fun As σ => Pz_readWhile y As σ ∧ cnC σ ≤ 1000000 ∧ ∃ w τ, uqC quL 155 As σ w τ) (Qz_readWhile y) := by
  obtain ⟨N, E, A, B, V, z, n⟩ := y
  rintro As σ ⟨⟨p1, rfl, hZ, hd, hn, hft⟩, hcn, _, _, hQ⟩ K hB hW n_
  have hH : HI0 σ ∧ TyC σ (E 0) 8 := hQ
  have hat := hZ.at0 hH
  have h1 : zFt (stM N (n - 1) (arM ((snM z : Nat) : Int) (cxM 27 (tnM z) 0 (zAt z.1) (cdM N (snM z) n (accM (coM 26 (tnM z) 0 (zAt z.1) (bgH 58 n z))))))).1 = 0 := hft
  have h2 : zFt (cdM N (snM z) n (accM (coM 26 (tnM z) 0 (zAt z.1) (bgH 58 n z)))).1 = 0 := by
    have h9 := h1
    rw [lf_st] at h9
    exact (gd_st _).z h9
  have hk : (cxM 27 (tnM z) 0 (zAt z.1) (cdM N (snM z) n (accM (coM 26 (tnM z) 0 (zAt z.1) (bgH 58 n z))))).2.2.2.1.2 = z.2.2.2.1.2 := by
    show (cdM N (snM z) n (accM (coM 26 (tnM z) 0 (zAt z.1) (bgH 58 n z)))).2.2.2.1.2 = _
    rw [cd_k.1]
    rfl
  have hsn : snM (cxM 27 (tnM z) 0 (zAt z.1) (cdM N (snM z) n (accM (coM 26 (tnM z) 0 (zAt z.1) (bgH 58 n z))))) = snM z + 1 := by
    show snM (cdM N (snM z) n (accM (coM 26 (tnM z) 0 (zAt z.1) (bgH 58 n z)))) = _
    rw [cd_k.2]
    rfl
  change K n_ 0 [(0, .inr (.inr (some (E 0)))), (1, .inl p1)] [] σ
  refine hB _ _ _ _ _ (fun m51 hm51 => ?_)
  dsimp only [ucgo, ucwp, ucsC, uqC, uoC, ctC, rfd, KX7_readWhile, KX7_readWhile_0, lkC, s1C, s2C, dlC, kyC, Nat.beq, Nat.ble, rcd, rno, rsw, Nat.reduceAdd, Nat.reduceBEq, Nat.reduceDiv, List.drop, List.take, List.reverse, List.reverseAux, Int.toNat, Option.toList, List.append, List.cons_append, List.nil_append]
  have c52 : (Int32.ofInt 58).toInt = 58 := by decide
  intro w53 τ53 o53 q53
  obtain ⟨rfl, hZ53, hf53⟩ := q53 (N, E, A, B, V, z, 58, (lvN n)) ⟨_, _, rfl, hZ, by omega, by unfold lvN; omega⟩
  have hF53 := FzC.tr (FzC.rf (n := cnC σ) (m := xnM z) (E := E) (A := A) (B := B) (V := V) (z := z) (σ := σ)) (FzC.mo hf53 (Nat.le_refl (cnC σ)) ((FzC.rf (n := cnC σ) (m := xnM z) (E := E) (A := A) (B := B) (V := V) (z := z) (σ := σ))).2.2.1.1.1)
  have hle53 : cnC σ ≤ cnC τ53 := Nat.le_trans (Nat.le_refl (cnC σ)) (hf53).1
  have hb53 : (upA B (snM z) (cnC σ)) (snM z) = cnC σ := upA_e
  have hl53 : snM z < snM (beM 58 (lvN n) z) := Nat.lt_succ_self _
  have ho53 : cnC σ ≤ cnC σ := (Nat.le_refl (cnC σ))
  have hh53 : (reS (beM 58 (lvN n) z) (snM z)).1 = (58, zAt z.1, (lvN n), z.2.2.2.1.2) ∧ (reS (beM 58 (lvN n) z) (snM z)).2.1 = z.2.2.2.1.1 := by rw [beM_e]; exact ⟨rfl, rfl⟩
  have hZ54 : ZC N E A (upA B (snM z) (cnC σ)) V τ53 (bgM 58 n z) := ZC.co hZ53
  have hF54 : FzC (cnC σ) (xnM z) E A A B (upA B (snM z) (cnC σ)) V V z (bgM 58 n z) σ τ53 := FzC.co hF53
  have hZ55 : ZC N E A (upA B (snM z) (cnC σ)) V τ53 (bgH 58 n z) := ZC.th hZ54
  have hF55 : FzC (cnC σ) (xnM z) E A A B (upA B (snM z) (cnC σ)) V V z (bgH 58 n z) σ τ53 := FzC.th hF54
  try dsimp only [Option.toList, List.cons_append, List.nil_append, s1C, s2C, dlC, kyC, Nat.beq, lkC, rcd, rno, rsw]
  intro w56 τ56 o56 q56
  have hZ57 : ZC N E A (upA B (snM z) (cnC σ)) V τ53 (coM 26 (tnM z) 0 (zAt z.1) (bgH 58 n z)) := ZC.co hZ55
  have hF57 : FzC (cnC σ) (xnM z) E A A B (upA B (snM z) (cnC σ)) V V z (coM 26 (tnM z) 0 (zAt z.1) (bgH 58 n z)) σ τ53 := FzC.co hF55
  obtain ⟨rfl, hZ56, hf56⟩ := q56 (N, E, A, (upA B (snM z) (cnC σ)), V, (coM 26 (tnM z) 0 (zAt z.1) (bgH 58 n z))) ⟨rfl, hZ57, (cd_z h2)⟩
  have hF56 := FzC.tr hF57 (FzC.mo hf56 hle53 (hF57).2.2.1.1.1)
  have hle56 : cnC σ ≤ cnC τ56 := Nat.le_trans hle53 (hf56).1
  have hb56_J : (upA B (snM z) (cnC σ)) (snM z) = (cnC σ) := (hf56.2.2.2.1.1.2 (snM z) hl53).1.trans hb53
  have hl56_J : snM z < snM (accM (coM 26 (tnM z) 0 (zAt z.1) (bgH 58 n z))) := Nat.lt_of_lt_of_le hl53 hf56.2.2.2.1.1.1
  have hh56_J : (reS (accM (coM 26 (tnM z) 0 (zAt z.1) (bgH 58 n z))) (snM z)).1 = (58, zAt z.1, (lvN n), z.2.2.2.1.2) ∧ (reS (accM (coM 26 (tnM z) 0 (zAt z.1) (bgH 58 n z))) (snM z)).2.1 = z.2.2.2.1.1 := ⟨(hf56.2.2.2.1.1.2 (snM z) hl53).2.1.trans hh53.1, (hf56.2.2.2.1.1.2 (snM z) hl53).2.2.trans hh53.2⟩
  try dsimp only [Option.toList, List.cons_append, List.nil_append, s1C, s2C, dlC, kyC, Nat.beq, lkC, rcd, rno, rsw]
  intro w58 τ58 o58 q58
  obtain ⟨rfl, A58, hZ58, hf58⟩ := q58 (N, E, A, (upA B (snM z) (cnC σ)), V, (accM (coM 26 (tnM z) 0 (zAt z.1) (bgH 58 n z))), n, snM z) ⟨_, _, rfl, hZ56, by omega, by omega, hl56_J, hb56_J.symm, h2⟩
  rw [hb56_J] at hf58
  have hF58 := FzC.tr hF56 (FzC.mo hf58 ho53 (hF56).2.2.1.1.1)
  have hle58 : cnC σ ≤ cnC τ58 := Nat.le_trans hle56 hf58.1
  have hb58_J : (upA B (snM z) (cnC σ)) (snM z) = (cnC σ) := (hf58.2.2.2.1.1.2 (snM z) hl56_J).1.trans hb56_J
  have hl58_J : snM z < snM (cdM N (snM z) n (accM (coM 26 (tnM z) 0 (zAt z.1) (bgH 58 n z)))) := Nat.lt_of_lt_of_le hl56_J hf58.2.2.2.1.1.1
  have hh58_J : (reS (cdM N (snM z) n (accM (coM 26 (tnM z) 0 (zAt z.1) (bgH 58 n z)))) (snM z)).1 = (58, zAt z.1, (lvN n), z.2.2.2.1.2) ∧ (reS (cdM N (snM z) n (accM (coM 26 (tnM z) 0 (zAt z.1) (bgH 58 n z)))) (snM z)).2.1 = z.2.2.2.1.1 := ⟨(hf58.2.2.2.1.1.2 (snM z) hl56_J).2.1.trans hh56_J.1, (hf58.2.2.2.1.1.2 (snM z) hl56_J).2.2.trans hh56_J.2⟩
  have hZ59 : ZC N E A58 (upA B (snM z) (cnC σ)) V τ58 (cxM 27 (tnM z) 0 (zAt z.1) (cdM N (snM z) n (accM (coM 26 (tnM z) 0 (zAt z.1) (bgH 58 n z))))) := ZC.co hZ58
  have hF59 : FzC (cnC σ) (xnM z) E A A58 B (upA B (snM z) (cnC σ)) V V z (cxM 27 (tnM z) 0 (zAt z.1) (cdM N (snM z) n (accM (coM 26 (tnM z) 0 (zAt z.1) (bgH 58 n z))))) σ τ58 := FzC.co hF58
  try dsimp only [Option.toList, List.cons_append, List.nil_append, s1C, s2C, dlC, kyC, Nat.beq, lkC, rcd, rno, rsw]
  intro w60 τ60 o60 q60
  obtain ⟨A60, B60, V60, rfl, hZ60, hf60, hs60⟩ : ∃ A' B' V' : Nat → Nat, w60 = some (.inr (.inr (some (B' (snM (cxM 27 (tnM z) 0 (zAt z.1) (cdM N (snM z) n (accM (coM 26 (tnM z) 0 (zAt z.1) (bgH 58 n z)))))))))) ∧ ZC N E A' B' V' τ60 (arM (cxM 27 (tnM z) 0 (zAt z.1) (cdM N (snM z) n (accM (coM 26 (tnM z) 0 (zAt z.1) (bgH 58 n z))))).2.2.2.1.2 (stM N (n - 1) (arM ((snM z : Nat) : Int) (cxM 27 (tnM z) 0 (zAt z.1) (cdM N (snM z) n (accM (coM 26 (tnM z) 0 (zAt z.1) (bgH 58 n z)))))))) ∧ FzC (cnC τ58) (xnM (cxM 27 (tnM z) 0 (zAt z.1) (cdM N (snM z) n (accM (coM 26 (tnM z) 0 (zAt z.1) (bgH 58 n z)))))) E A58 A' (upA B (snM z) (cnC σ)) B' V V' (cxM 27 (tnM z) 0 (zAt z.1) (cdM N (snM z) n (accM (coM 26 (tnM z) 0 (zAt z.1) (bgH 58 n z))))) (arM (cxM 27 (tnM z) 0 (zAt z.1) (cdM N (snM z) n (accM (coM 26 (tnM z) 0 (zAt z.1) (bgH 58 n z))))).2.2.2.1.2 (stM N (n - 1) (arM ((snM z : Nat) : Int) (cxM 27 (tnM z) 0 (zAt z.1) (cdM N (snM z) n (accM (coM 26 (tnM z) 0 (zAt z.1) (bgH 58 n z)))))))) τ58 τ60 ∧ snM (cxM 27 (tnM z) 0 (zAt z.1) (cdM N (snM z) n (accM (coM 26 (tnM z) 0 (zAt z.1) (bgH 58 n z))))) < snM (stM N (n - 1) (arM ((snM z : Nat) : Int) (cxM 27 (tnM z) 0 (zAt z.1) (cdM N (snM z) n (accM (coM 26 (tnM z) 0 (zAt z.1) (bgH 58 n z))))))) := q60 (N, E, A58, (upA B (snM z) (cnC σ)), V, (cxM 27 (tnM z) 0 (zAt z.1) (cdM N (snM z) n (accM (coM 26 (tnM z) 0 (zAt z.1) (bgH 58 n z))))), n, snM z) ⟨_, _, rfl, hZ59, by omega, by omega, hl58_J, hb58_J.symm, h1⟩
  have hF60 := FzC.tr hF59 (FzC.mo hf60 hle58 (hF59).2.2.1.1.1)
  have hle60 : cnC σ ≤ cnC τ60 := Nat.le_trans hle58 (hf60).1
  have hb60_J : B60 (snM z) = (cnC σ) := (hf60.2.2.2.1.1.2 (snM z) hl58_J).1.trans hb58_J
  have hl60_J : snM z < snM (arM (cxM 27 (tnM z) 0 (zAt z.1) (cdM N (snM z) n (accM (coM 26 (tnM z) 0 (zAt z.1) (bgH 58 n z))))).2.2.2.1.2 (stM N (n - 1) (arM ((snM z : Nat) : Int) (cxM 27 (tnM z) 0 (zAt z.1) (cdM N (snM z) n (accM (coM 26 (tnM z) 0 (zAt z.1) (bgH 58 n z)))))))) := Nat.lt_of_lt_of_le hl58_J hf60.2.2.2.1.1.1
  have hh60_J : (reS (arM (cxM 27 (tnM z) 0 (zAt z.1) (cdM N (snM z) n (accM (coM 26 (tnM z) 0 (zAt z.1) (bgH 58 n z))))).2.2.2.1.2 (stM N (n - 1) (arM ((snM z : Nat) : Int) (cxM 27 (tnM z) 0 (zAt z.1) (cdM N (snM z) n (accM (coM 26 (tnM z) 0 (zAt z.1) (bgH 58 n z)))))))) (snM z)).1 = (58, zAt z.1, (lvN n), z.2.2.2.1.2) ∧ (reS (arM (cxM 27 (tnM z) 0 (zAt z.1) (cdM N (snM z) n (accM (coM 26 (tnM z) 0 (zAt z.1) (bgH 58 n z))))).2.2.2.1.2 (stM N (n - 1) (arM ((snM z : Nat) : Int) (cxM 27 (tnM z) 0 (zAt z.1) (cdM N (snM z) n (accM (coM 26 (tnM z) 0 (zAt z.1) (bgH 58 n z)))))))) (snM z)).2.1 = z.2.2.2.1.1 := ⟨(hf60.2.2.2.1.1.2 (snM z) hl58_J).2.1.trans hh58_J.1, (hf60.2.2.2.1.1.2 (snM z) hl58_J).2.2.trans hh58_J.2⟩
  try dsimp only [Option.toList, List.cons_append, List.nil_append, s1C, s2C, dlC, kyC, Nat.beq, lkC, rcd, rno, rsw]
  intro a61 e61 ob61 fk61
  cases e61
  clear fk61 ob61
  generalize hs61 : pRC τ60 (cnC σ) 276 (some (B60 (snM (cxM 27 (tnM z) 0 (zAt z.1) (cdM N (snM z) n (accM (coM 26 (tnM z) 0 (zAt z.1) (bgH 58 n z)))))))) = s61
  have hx61 : SfE (cnC σ) τ60 s61 := by rw [← hs61]; exact SfE.pR (by decide)
  have hZ61 : ZC N E A60 B60 V60 s61 (seM (snM z) (sBd ((snM (cxM 27 (tnM z) 0 (zAt z.1) (cdM N (snM z) n (accM (coM 26 (tnM z) 0 (zAt z.1) (bgH 58 n z))))) : Nat) : Int)) (arM (cxM 27 (tnM z) 0 (zAt z.1) (cdM N (snM z) n (accM (coM 26 (tnM z) 0 (zAt z.1) (bgH 58 n z))))).2.2.2.1.2 (stM N (n - 1) (arM ((snM z : Nat) : Int) (cxM 27 (tnM z) 0 (zAt z.1) (cdM N (snM z) n (accM (coM 26 (tnM z) 0 (zAt z.1) (bgH 58 n z))))))))) := by rw [← hs61]; exact ZC.s276 hZ60 hl60_J hb60_J (opA_k).symm (Int.ofNat_lt.mpr hs60)
  have hF61 : FzC (cnC σ) (xnM z) E A A60 B B60 V V60 z (seM (snM z) (sBd ((snM (cxM 27 (tnM z) 0 (zAt z.1) (cdM N (snM z) n (accM (coM 26 (tnM z) 0 (zAt z.1) (bgH 58 n z))))) : Nat) : Int)) (arM (cxM 27 (tnM z) 0 (zAt z.1) (cdM N (snM z) n (accM (coM 26 (tnM z) 0 (zAt z.1) (bgH 58 n z))))).2.2.2.1.2 (stM N (n - 1) (arM ((snM z : Nat) : Int) (cxM 27 (tnM z) 0 (zAt z.1) (cdM N (snM z) n (accM (coM 26 (tnM z) 0 (zAt z.1) (bgH 58 n z))))))))) σ s61 := FzC.se hF60 ho53 hx61 (fun _ => ⟨rfl, rfl⟩)
  have hle61 : cnC σ ≤ cnC s61 := by rw [hx61.2.2]; exact hle60
  have hh61_J : (reS (seM (snM z) (sBd ((snM (cxM 27 (tnM z) 0 (zAt z.1) (cdM N (snM z) n (accM (coM 26 (tnM z) 0 (zAt z.1) (bgH 58 n z))))) : Nat) : Int)) (arM (cxM 27 (tnM z) 0 (zAt z.1) (cdM N (snM z) n (accM (coM 26 (tnM z) 0 (zAt z.1) (bgH 58 n z))))).2.2.2.1.2 (stM N (n - 1) (arM ((snM z : Nat) : Int) (cxM 27 (tnM z) 0 (zAt z.1) (cdM N (snM z) n (accM (coM 26 (tnM z) 0 (zAt z.1) (bgH 58 n z))))))))) (snM z)).1 = (58, zAt z.1, (lvN n), z.2.2.2.1.2) ∧ (reS (seM (snM z) (sBd ((snM (cxM 27 (tnM z) 0 (zAt z.1) (cdM N (snM z) n (accM (coM 26 (tnM z) 0 (zAt z.1) (bgH 58 n z))))) : Nat) : Int)) (arM (cxM 27 (tnM z) 0 (zAt z.1) (cdM N (snM z) n (accM (coM 26 (tnM z) 0 (zAt z.1) (bgH 58 n z))))).2.2.2.1.2 (stM N (n - 1) (arM ((snM z : Nat) : Int) (cxM 27 (tnM z) 0 (zAt z.1) (cdM N (snM z) n (accM (coM 26 (tnM z) 0 (zAt z.1) (bgH 58 n z))))))))) (snM z)).2.1 = z.2.2.2.1.1 := by rw [seM_e]; exact hh60_J
  have hez62 : (seM (snM z) (sBd ((snM (cxM 27 (tnM z) 0 (zAt z.1) (cdM N (snM z) n (accM (coM 26 (tnM z) 0 (zAt z.1) (bgH 58 n z))))) : Nat) : Int)) (arM (cxM 27 (tnM z) 0 (zAt z.1) (cdM N (snM z) n (accM (coM 26 (tnM z) 0 (zAt z.1) (bgH 58 n z))))).2.2.2.1.2 (stM N (n - 1) (arM ((snM z : Nat) : Int) (cxM 27 (tnM z) 0 (zAt z.1) (cdM N (snM z) n (accM (coM 26 (tnM z) 0 (zAt z.1) (bgH 58 n z))))))))) = (bdM (snM z) (snM z + 1) (stM N (n - 1) (arM ((snM z : Nat) : Int) (cxM 27 (tnM z) 0 (zAt z.1) (cdM N (snM z) n (accM (coM 26 (tnM z) 0 (zAt z.1) (bgH 58 n z)))))))) := by
    exact bd_eq (by rw [hsn]) (by
      unfold paS
      have q := hh61_J.1
      rw [seM_e] at q
      have q2 : (reS (stM N (n - 1) (arM ((snM z : Nat) : Int) (cxM 27 (tnM z) 0 (zAt z.1) (cdM N (snM z) n (accM (coM 26 (tnM z) 0 (zAt z.1) (bgH 58 n z))))))) (snM z)).1 = _ := q
      rw [q2]
      exact hk.symm)
  have hZ63 : ZC N E A60 B60 V60 s61 (bdM (snM z) (snM z + 1) (stM N (n - 1) (arM ((snM z : Nat) : Int) (cxM 27 (tnM z) 0 (zAt z.1) (cdM N (snM z) n (accM (coM 26 (tnM z) 0 (zAt z.1) (bgH 58 n z)))))))) := (by rw [← hez62]; exact hZ61)
  have hF63 : FzC (cnC σ) (xnM z) E A A60 B B60 V V60 z (bdM (snM z) (snM z + 1) (stM N (n - 1) (arM ((snM z : Nat) : Int) (cxM 27 (tnM z) 0 (zAt z.1) (cdM N (snM z) n (accM (coM 26 (tnM z) 0 (zAt z.1) (bgH 58 n z)))))))) σ s61 := (by rw [← hez62]; exact hF61)
  have hlq61_J : snM z < snM (bdM (snM z) (snM z + 1) (stM N (n - 1) (arM ((snM z : Nat) : Int) (cxM 27 (tnM z) 0 (zAt z.1) (cdM N (snM z) n (accM (coM 26 (tnM z) 0 (zAt z.1) (bgH 58 n z)))))))) := by rw [← hez62]; exact (show snM z < snM (seM (snM z) (sBd ((snM (cxM 27 (tnM z) 0 (zAt z.1) (cdM N (snM z) n (accM (coM 26 (tnM z) 0 (zAt z.1) (bgH 58 n z))))) : Nat) : Int)) (arM (cxM 27 (tnM z) 0 (zAt z.1) (cdM N (snM z) n (accM (coM 26 (tnM z) 0 (zAt z.1) (bgH 58 n z))))).2.2.2.1.2 (stM N (n - 1) (arM ((snM z : Nat) : Int) (cxM 27 (tnM z) 0 (zAt z.1) (cdM N (snM z) n (accM (coM 26 (tnM z) 0 (zAt z.1) (bgH 58 n z))))))))) from hl60_J)
  have hhq61_J : (reS (bdM (snM z) (snM z + 1) (stM N (n - 1) (arM ((snM z : Nat) : Int) (cxM 27 (tnM z) 0 (zAt z.1) (cdM N (snM z) n (accM (coM 26 (tnM z) 0 (zAt z.1) (bgH 58 n z)))))))) (snM z)).1 = (58, zAt z.1, (lvN n), z.2.2.2.1.2) ∧ (reS (bdM (snM z) (snM z + 1) (stM N (n - 1) (arM ((snM z : Nat) : Int) (cxM 27 (tnM z) 0 (zAt z.1) (cdM N (snM z) n (accM (coM 26 (tnM z) 0 (zAt z.1) (bgH 58 n z)))))))) (snM z)).2.1 = z.2.2.2.1.1 := by rw [← hez62]; exact hh61_J
  have hlq61_snMcxM27tnMz0zAtz1cdMNJnaccMcoM26tnMz0zAtz1bgH58nz : snM (cxM 27 (tnM z) 0 (zAt z.1) (cdM N (snM z) n (accM (coM 26 (tnM z) 0 (zAt z.1) (bgH 58 n z))))) < snM (bdM (snM z) (snM z + 1) (stM N (n - 1) (arM ((snM z : Nat) : Int) (cxM 27 (tnM z) 0 (zAt z.1) (cdM N (snM z) n (accM (coM 26 (tnM z) 0 (zAt z.1) (bgH 58 n z)))))))) := by rw [← hez62]; exact hs60
  try dsimp only [Qz_readWhile]
  exact ⟨_, _, _, by rw [hb60_J], ZC.co (ZC.co hZ63), FzC.co (FzC.co hF63), hlq61_J⟩
set_option maxHeartbeats 4000000 in
theorem pz_readDo (y : (Int → Int) × (Nat → Nat) × (Nat → Nat) × (Nat → Nat) × (Nat → Nat) × ZS × Nat) : PbC KX7_readDo [(142, TrP, EqC 142), (128, TrP, EqC 128), (148, TrP, EqC 148), (129, TrP, EqC 129), (153, TrP, EqC 153)] [(142, Uz_begin), (128, Uz_accept), (148, Uz_readInner), (129, Uz_expect), (153, Uz_readCondition)] (fun As σ => Pz_readDo y As σ ∧ cnC σ ≤ 1000000 ∧ ∃ w τ, uqC quL 156 As σ w τ) (Qz_readDo y) := by
  obtain ⟨N, E, A, B, V, z, n⟩ := y
  rintro As σ ⟨⟨p1, rfl, hZ, hd, hn, hft⟩, hcn, _, _, hQ⟩ K hB hW n_
  have hH : HI0 σ ∧ TyC σ (E 0) 8 := hQ
  have hat := hZ.at0 hH
  obtain ⟨x1, hx1⟩ : ∃ t, t = (stM N (n - 1) (arM ((snM z : Nat) : Int) (accM (coM 29 (tnM z) 0 (zAt z.1) (bgH 59 n z))))) := ⟨_, rfl⟩
  have h4 : zFt (xpM 4 (cdM N (snM z) n (coM 30 (tnM z) 0 (fiS x1 (snM z)) (xpM 58 (bdM (snM z) (snM z + 1) x1))))).1 = 0 := by rw [hx1]; exact hft
  have h3 : zFt (cdM N (snM z) n (coM 30 (tnM z) 0 (fiS x1 (snM z)) (xpM 58 (bdM (snM z) (snM z + 1) x1)))).1 = 0 := GpY.z (gd_xp (c := 4) _) h4
  have h6 : zFt (coM 30 (tnM z) 0 (fiS x1 (snM z)) (xpM 58 (bdM (snM z) (snM z + 1) x1))).1 = 0 := cd_z h3
  have h5 : zFt (xpM 58 (bdM (snM z) (snM z + 1) x1)).1 = 0 := h6
  have h1 : zFt x1.1 = 0 := GpY.z (gd_xp (c := 58) _) h5
  have h0 : zFt (accM (coM 29 (tnM z) 0 (zAt z.1) (bgH 59 n z))).1 = 0 := by
    have h9 := h1
    rw [hx1, lf_st] at h9
    exact (gd_st _).z h9
  have hk : (accM (coM 29 (tnM z) 0 (zAt z.1) (bgH 59 n z))).2.2.2.1.2 = z.2.2.2.1.2 := rfl
  have hsn : snM (accM (coM 29 (tnM z) 0 (zAt z.1) (bgH 59 n z))) = snM z + 1 := rfl
  change K n_ 0 [(0, .inr (.inr (some (E 0)))), (1, .inl p1)] [] σ
  refine hB _ _ _ _ _ (fun m51 hm51 => ?_)
  dsimp only [ucgo, ucwp, ucsC, uqC, uoC, ctC, rfd, KX7_readDo, KX7_readDo_0, lkC, s1C, s2C, dlC, kyC, Nat.beq, Nat.ble, rcd, rno, rsw, Nat.reduceAdd, Nat.reduceBEq, Nat.reduceDiv, List.drop, List.take, List.reverse, List.reverseAux, Int.toNat, Option.toList, List.append, List.cons_append, List.nil_append]
  have c52 : (Int32.ofInt 59).toInt = 59 := by decide
  intro w53 τ53 o53 q53
  obtain ⟨rfl, hZ53, hf53⟩ := q53 (N, E, A, B, V, z, 59, (lvN n)) ⟨_, _, rfl, hZ, by omega, by unfold lvN; omega⟩
  have hF53 := FzC.tr (FzC.rf (n := cnC σ) (m := xnM z) (E := E) (A := A) (B := B) (V := V) (z := z) (σ := σ)) (FzC.mo hf53 (Nat.le_refl (cnC σ)) ((FzC.rf (n := cnC σ) (m := xnM z) (E := E) (A := A) (B := B) (V := V) (z := z) (σ := σ))).2.2.1.1.1)
  have hle53 : cnC σ ≤ cnC τ53 := Nat.le_trans (Nat.le_refl (cnC σ)) (hf53).1
  have hb53 : (upA B (snM z) (cnC σ)) (snM z) = cnC σ := upA_e
  have hl53 : snM z < snM (beM 59 (lvN n) z) := Nat.lt_succ_self _
  have ho53 : cnC σ ≤ cnC σ := (Nat.le_refl (cnC σ))
  have hh53 : (reS (beM 59 (lvN n) z) (snM z)).1 = (59, zAt z.1, (lvN n), z.2.2.2.1.2) ∧ (reS (beM 59 (lvN n) z) (snM z)).2.1 = z.2.2.2.1.1 := by rw [beM_e]; exact ⟨rfl, rfl⟩
  have hZ54 : ZC N E A (upA B (snM z) (cnC σ)) V τ53 (bgM 59 n z) := ZC.co hZ53
  have hF54 : FzC (cnC σ) (xnM z) E A A B (upA B (snM z) (cnC σ)) V V z (bgM 59 n z) σ τ53 := FzC.co hF53
  have hZ55 : ZC N E A (upA B (snM z) (cnC σ)) V τ53 (bgH 59 n z) := ZC.th hZ54
  have hF55 : FzC (cnC σ) (xnM z) E A A B (upA B (snM z) (cnC σ)) V V z (bgH 59 n z) σ τ53 := FzC.th hF54
  try dsimp only [Option.toList, List.cons_append, List.nil_append, s1C, s2C, dlC, kyC, Nat.beq, lkC, rcd, rno, rsw]
  intro w56 τ56 o56 q56
  have hZ57 : ZC N E A (upA B (snM z) (cnC σ)) V τ53 (coM 29 (tnM z) 0 (zAt z.1) (bgH 59 n z)) := ZC.co hZ55
  have hF57 : FzC (cnC σ) (xnM z) E A A B (upA B (snM z) (cnC σ)) V V z (coM 29 (tnM z) 0 (zAt z.1) (bgH 59 n z)) σ τ53 := FzC.co hF55
  obtain ⟨rfl, hZ56, hf56⟩ := q56 (N, E, A, (upA B (snM z) (cnC σ)), V, (coM 29 (tnM z) 0 (zAt z.1) (bgH 59 n z))) ⟨rfl, hZ57, h0⟩
  have hF56 := FzC.tr hF57 (FzC.mo hf56 hle53 (hF57).2.2.1.1.1)
  have hle56 : cnC σ ≤ cnC τ56 := Nat.le_trans hle53 (hf56).1
  have hb56_J : (upA B (snM z) (cnC σ)) (snM z) = (cnC σ) := (hf56.2.2.2.1.1.2 (snM z) hl53).1.trans hb53
  have hl56_J : snM z < snM (accM (coM 29 (tnM z) 0 (zAt z.1) (bgH 59 n z))) := Nat.lt_of_lt_of_le hl53 hf56.2.2.2.1.1.1
  have hh56_J : (reS (accM (coM 29 (tnM z) 0 (zAt z.1) (bgH 59 n z))) (snM z)).1 = (59, zAt z.1, (lvN n), z.2.2.2.1.2) ∧ (reS (accM (coM 29 (tnM z) 0 (zAt z.1) (bgH 59 n z))) (snM z)).2.1 = z.2.2.2.1.1 := ⟨(hf56.2.2.2.1.1.2 (snM z) hl53).2.1.trans hh53.1, (hf56.2.2.2.1.1.2 (snM z) hl53).2.2.trans hh53.2⟩
  try dsimp only [Option.toList, List.cons_append, List.nil_append, s1C, s2C, dlC, kyC, Nat.beq, lkC, rcd, rno, rsw]
  intro w58 τ58 o58 q58
  obtain ⟨A58, B58, V58, rfl, hZ58, hf58, hs58⟩ : ∃ A' B' V' : Nat → Nat, w58 = some (.inr (.inr (some (B' (snM (accM (coM 29 (tnM z) 0 (zAt z.1) (bgH 59 n z)))))))) ∧ ZC N E A' B' V' τ58 (arM (accM (coM 29 (tnM z) 0 (zAt z.1) (bgH 59 n z))).2.2.2.1.2 (stM N (n - 1) (arM ((snM z : Nat) : Int) (accM (coM 29 (tnM z) 0 (zAt z.1) (bgH 59 n z)))))) ∧ FzC (cnC τ56) (xnM (accM (coM 29 (tnM z) 0 (zAt z.1) (bgH 59 n z)))) E A A' (upA B (snM z) (cnC σ)) B' V V' (accM (coM 29 (tnM z) 0 (zAt z.1) (bgH 59 n z))) (arM (accM (coM 29 (tnM z) 0 (zAt z.1) (bgH 59 n z))).2.2.2.1.2 (stM N (n - 1) (arM ((snM z : Nat) : Int) (accM (coM 29 (tnM z) 0 (zAt z.1) (bgH 59 n z)))))) τ56 τ58 ∧ snM (accM (coM 29 (tnM z) 0 (zAt z.1) (bgH 59 n z))) < snM (stM N (n - 1) (arM ((snM z : Nat) : Int) (accM (coM 29 (tnM z) 0 (zAt z.1) (bgH 59 n z))))) := q58 (N, E, A, (upA B (snM z) (cnC σ)), V, (accM (coM 29 (tnM z) 0 (zAt z.1) (bgH 59 n z))), n, snM z) ⟨_, _, rfl, hZ56, by omega, by omega, hl56_J, hb56_J.symm, (by rw [← hx1]; exact h1)⟩
  rw [← hx1] at hZ58 hf58 hs58
  have hF58 := FzC.tr hF56 (FzC.mo hf58 hle56 (hF56).2.2.1.1.1)
  have hle58 : cnC σ ≤ cnC τ58 := Nat.le_trans hle56 (hf58).1
  have hb58_J : B58 (snM z) = (cnC σ) := (hf58.2.2.2.1.1.2 (snM z) hl56_J).1.trans hb56_J
  have hl58_J : snM z < snM (arM (accM (coM 29 (tnM z) 0 (zAt z.1) (bgH 59 n z))).2.2.2.1.2 x1) := Nat.lt_of_lt_of_le hl56_J hf58.2.2.2.1.1.1
  have hh58_J : (reS (arM (accM (coM 29 (tnM z) 0 (zAt z.1) (bgH 59 n z))).2.2.2.1.2 x1) (snM z)).1 = (59, zAt z.1, (lvN n), z.2.2.2.1.2) ∧ (reS (arM (accM (coM 29 (tnM z) 0 (zAt z.1) (bgH 59 n z))).2.2.2.1.2 x1) (snM z)).2.1 = z.2.2.2.1.1 := ⟨(hf58.2.2.2.1.1.2 (snM z) hl56_J).2.1.trans hh56_J.1, (hf58.2.2.2.1.1.2 (snM z) hl56_J).2.2.trans hh56_J.2⟩
  try dsimp only [Option.toList, List.cons_append, List.nil_append, s1C, s2C, dlC, kyC, Nat.beq, lkC, rcd, rno, rsw]
  intro a59 e59 ob59 fk59
  cases e59
  clear fk59 ob59
  generalize hs59 : pRC τ58 (cnC σ) 276 (some (B58 (snM (accM (coM 29 (tnM z) 0 (zAt z.1) (bgH 59 n z)))))) = s59
  have hx59 : SfE (cnC σ) τ58 s59 := by rw [← hs59]; exact SfE.pR (by decide)
  have hZ59 : ZC N E A58 B58 V58 s59 (seM (snM z) (sBd ((snM (accM (coM 29 (tnM z) 0 (zAt z.1) (bgH 59 n z))) : Nat) : Int)) (arM (accM (coM 29 (tnM z) 0 (zAt z.1) (bgH 59 n z))).2.2.2.1.2 x1)) := by rw [← hs59]; exact ZC.s276 hZ58 hl58_J hb58_J (opA_k).symm (Int.ofNat_lt.mpr hs58)
  have hF59 : FzC (cnC σ) (xnM z) E A A58 B B58 V V58 z (seM (snM z) (sBd ((snM (accM (coM 29 (tnM z) 0 (zAt z.1) (bgH 59 n z))) : Nat) : Int)) (arM (accM (coM 29 (tnM z) 0 (zAt z.1) (bgH 59 n z))).2.2.2.1.2 x1)) σ s59 := FzC.se hF58 ho53 hx59 (fun _ => ⟨rfl, rfl⟩)
  have hle59 : cnC σ ≤ cnC s59 := by rw [hx59.2.2]; exact hle58
  have hh59_J : (reS (seM (snM z) (sBd ((snM (accM (coM 29 (tnM z) 0 (zAt z.1) (bgH 59 n z))) : Nat) : Int)) (arM (accM (coM 29 (tnM z) 0 (zAt z.1) (bgH 59 n z))).2.2.2.1.2 x1)) (snM z)).1 = (59, zAt z.1, (lvN n), z.2.2.2.1.2) ∧ (reS (seM (snM z) (sBd ((snM (accM (coM 29 (tnM z) 0 (zAt z.1) (bgH 59 n z))) : Nat) : Int)) (arM (accM (coM 29 (tnM z) 0 (zAt z.1) (bgH 59 n z))).2.2.2.1.2 x1)) (snM z)).2.1 = z.2.2.2.1.1 := by rw [seM_e]; exact hh58_J
  have hez60 : (seM (snM z) (sBd ((snM (accM (coM 29 (tnM z) 0 (zAt z.1) (bgH 59 n z))) : Nat) : Int)) (arM (accM (coM 29 (tnM z) 0 (zAt z.1) (bgH 59 n z))).2.2.2.1.2 x1)) = (bdM (snM z) (snM z + 1) x1) := by
    exact bd_eq (by rw [hsn]) (by
      unfold paS
      have q := hh59_J.1
      rw [seM_e] at q
      have q2 : (reS x1 (snM z)).1 = _ := q
      rw [q2]
      exact hk.symm)
  have hZ61 : ZC N E A58 B58 V58 s59 (bdM (snM z) (snM z + 1) x1) := (by rw [← hez60]; exact hZ59)
  have hF61 : FzC (cnC σ) (xnM z) E A A58 B B58 V V58 z (bdM (snM z) (snM z + 1) x1) σ s59 := (by rw [← hez60]; exact hF59)
  have hlq59_J : snM z < snM (bdM (snM z) (snM z + 1) x1) := by rw [← hez60]; exact (show snM z < snM (seM (snM z) (sBd ((snM (accM (coM 29 (tnM z) 0 (zAt z.1) (bgH 59 n z))) : Nat) : Int)) (arM (accM (coM 29 (tnM z) 0 (zAt z.1) (bgH 59 n z))).2.2.2.1.2 x1)) from hl58_J)
  have hhq59_J : (reS (bdM (snM z) (snM z + 1) x1) (snM z)).1 = (59, zAt z.1, (lvN n), z.2.2.2.1.2) ∧ (reS (bdM (snM z) (snM z + 1) x1) (snM z)).2.1 = z.2.2.2.1.1 := by rw [← hez60]; exact hh59_J
  have hlq59_snMaccMcoM29tnMz0zAtz1bgH59nz : snM (accM (coM 29 (tnM z) 0 (zAt z.1) (bgH 59 n z))) < snM (bdM (snM z) (snM z + 1) x1) := by rw [← hez60]; exact hs58
  have c62 : (Int32.ofInt 58).toInt = 58 := by decide
  intro w63 τ63 o63 q63
  obtain ⟨rfl, hZ63, hf63⟩ := q63 (N, E, A58, B58, V58, (bdM (snM z) (snM z + 1) x1), 58) ⟨_, rfl, hZ61, by omega, h5⟩
  have hF63 := FzC.tr hF61 (FzC.mo hf63 hle59 (hF61).2.2.1.1.1)
  have hle63 : cnC σ ≤ cnC τ63 := Nat.le_trans hle59 (hf63).1
  have hb63_J : B58 (snM z) = (cnC σ) := (hf63.2.2.2.1.1.2 (snM z) hlq59_J).1.trans hb58_J
  have hl63_J : snM z < snM (xpM 58 (bdM (snM z) (snM z + 1) x1)) := Nat.lt_of_lt_of_le hlq59_J hf63.2.2.2.1.1.1
  have hh63_J : (reS (xpM 58 (bdM (snM z) (snM z + 1) x1)) (snM z)).1 = (59, zAt z.1, (lvN n), z.2.2.2.1.2) ∧ (reS (xpM 58 (bdM (snM z) (snM z + 1) x1)) (snM z)).2.1 = z.2.2.2.1.1 := ⟨(hf63.2.2.2.1.1.2 (snM z) hlq59_J).2.1.trans hhq59_J.1, (hf63.2.2.2.1.1.2 (snM z) hlq59_J).2.2.trans hhq59_J.2⟩
  have hb63_snMaccMcoM29tnMz0zAtz1bgH59nz : B58 (snM (accM (coM 29 (tnM z) 0 (zAt z.1) (bgH 59 n z)))) = (B58 (snM (accM (coM 29 (tnM z) 0 (zAt z.1) (bgH 59 n z))))) := (hf63.2.2.2.1.1.2 (snM (accM (coM 29 (tnM z) 0 (zAt z.1) (bgH 59 n z)))) hlq59_snMaccMcoM29tnMz0zAtz1bgH59nz).1.trans rfl
  have hl63_snMaccMcoM29tnMz0zAtz1bgH59nz : snM (accM (coM 29 (tnM z) 0 (zAt z.1) (bgH 59 n z))) < snM (xpM 58 (bdM (snM z) (snM z + 1) x1)) := Nat.lt_of_lt_of_le hlq59_snMaccMcoM29tnMz0zAtz1bgH59nz hf63.2.2.2.1.1.1
  have hZ64 : ZC N E A58 B58 V58 τ63 (coM 30 (tnM z) 0 (fiS x1 (snM z)) (xpM 58 (bdM (snM z) (snM z + 1) x1))) := ZC.co hZ63
  have hF64 : FzC (cnC σ) (xnM z) E A A58 B B58 V V58 z (coM 30 (tnM z) 0 (fiS x1 (snM z)) (xpM 58 (bdM (snM z) (snM z + 1) x1))) σ τ63 := FzC.co hF63
  try dsimp only [Option.toList, List.cons_append, List.nil_append, s1C, s2C, dlC, kyC, Nat.beq, lkC, rcd, rno, rsw]
  intro w65 τ65 o65 q65
  obtain ⟨rfl, A65, hZ65, hf65⟩ := q65 (N, E, A58, B58, V58, (coM 30 (tnM z) 0 (fiS x1 (snM z)) (xpM 58 (bdM (snM z) (snM z + 1) x1))), n, snM z) ⟨_, _, rfl, hZ64, by omega, by omega, hl63_J, hb63_J.symm, h3⟩
  rw [hb63_J] at hf65
  have hF65 := FzC.tr hF64 (FzC.mo hf65 ho53 (hF64).2.2.1.1.1)
  have hle65 : cnC σ ≤ cnC τ65 := Nat.le_trans hle63 hf65.1
  have hb65_J : B58 (snM z) = (cnC σ) := (hf65.2.2.2.1.1.2 (snM z) hl63_J).1.trans hb63_J
  have hl65_J : snM z < snM (cdM N (snM z) n (coM 30 (tnM z) 0 (fiS x1 (snM z)) (xpM 58 (bdM (snM z) (snM z + 1) x1)))) := Nat.lt_of_lt_of_le hl63_J hf65.2.2.2.1.1.1
  have hh65_J : (reS (cdM N (snM z) n (coM 30 (tnM z) 0 (fiS x1 (snM z)) (xpM 58 (bdM (snM z) (snM z + 1) x1)))) (snM z)).1 = (59, zAt z.1, (lvN n), z.2.2.2.1.2) ∧ (reS (cdM N (snM z) n (coM 30 (tnM z) 0 (fiS x1 (snM z)) (xpM 58 (bdM (snM z) (snM z + 1) x1)))) (snM z)).2.1 = z.2.2.2.1.1 := ⟨(hf65.2.2.2.1.1.2 (snM z) hl63_J).2.1.trans hh63_J.1, (hf65.2.2.2.1.1.2 (snM z) hl63_J).2.2.trans hh63_J.2⟩
  have hb65_snMaccMcoM29tnMz0zAtz1bgH59nz : B58 (snM (accM (coM 29 (tnM z) 0 (zAt z.1) (bgH 59 n z)))) = (B58 (snM (accM (coM 29 (tnM z) 0 (zAt z.1) (bgH 59 n z))))) := (hf65.2.2.2.1.1.2 (snM (accM (coM 29 (tnM z) 0 (zAt z.1) (bgH 59 n z)))) hl63_snMaccMcoM29tnMz0zAtz1bgH59nz).1.trans hb63_snMaccMcoM29tnMz0zAtz1bgH59nz
  have hl65_snMaccMcoM29tnMz0zAtz1bgH59nz : snM (accM (coM 29 (tnM z) 0 (zAt z.1) (bgH 59 n z))) < snM (cdM N (snM z) n (coM 30 (tnM z) 0 (fiS x1 (snM z)) (xpM 58 (bdM (snM z) (snM z + 1) x1)))) := Nat.lt_of_lt_of_le hl63_snMaccMcoM29tnMz0zAtz1bgH59nz hf65.2.2.2.1.1.1
  try dsimp only [Option.toList, List.cons_append, List.nil_append, s1C, s2C, dlC, kyC, Nat.beq, lkC, rcd, rno, rsw]
  have c66 : (Int32.ofInt 4).toInt = 4 := by decide
  intro w67 τ67 o67 q67
  obtain ⟨rfl, hZ67, hf67⟩ := q67 (N, E, A65, B58, V58, (cdM N (snM z) n (coM 30 (tnM z) 0 (fiS x1 (snM z)) (xpM 58 (bdM (snM z) (snM z + 1) x1)))), 4) ⟨_, rfl, hZ65, by omega, h4⟩
  have hF67 := FzC.tr hF65 (FzC.mo hf67 hle65 (hF65).2.2.1.1.1)
  have hle67 : cnC σ ≤ cnC τ67 := Nat.le_trans hle65 (hf67).1
  have hb67_J : B58 (snM z) = (cnC σ) := (hf67.2.2.2.1.1.2 (snM z) hl65_J).1.trans hb65_J
  have hl67_J : snM z < snM (xpM 4 (cdM N (snM z) n (coM 30 (tnM z) 0 (fiS x1 (snM z)) (xpM 58 (bdM (snM z) (snM z + 1) x1))))) := Nat.lt_of_lt_of_le hl65_J hf67.2.2.2.1.1.1
  have hh67_J : (reS (xpM 4 (cdM N (snM z) n (coM 30 (tnM z) 0 (fiS x1 (snM z)) (xpM 58 (bdM (snM z) (snM z + 1) x1))))) (snM z)).1 = (59, zAt z.1, (lvN n), z.2.2.2.1.2) ∧ (reS (xpM 4 (cdM N (snM z) n (coM 30 (tnM z) 0 (fiS x1 (snM z)) (xpM 58 (bdM (snM z) (snM z + 1) x1))))) (snM z)).2.1 = z.2.2.2.1.1 := ⟨(hf67.2.2.2.1.1.2 (snM z) hl65_J).2.1.trans hh65_J.1, (hf67.2.2.2.1.1.2 (snM z) hl65_J).2.2.trans hh65_J.2⟩
  have hb67_snMaccMcoM29tnMz0zAtz1bgH59nz : B58 (snM (accM (coM 29 (tnM z) 0 (zAt z.1) (bgH 59 n z)))) = (B58 (snM (accM (coM 29 (tnM z) 0 (zAt z.1) (bgH 59 n z))))) := (hf67.2.2.2.1.1.2 (snM (accM (coM 29 (tnM z) 0 (zAt z.1) (bgH 59 n z)))) hl65_snMaccMcoM29tnMz0zAtz1bgH59nz).1.trans hb65_snMaccMcoM29tnMz0zAtz1bgH59nz
  have hl67_snMaccMcoM29tnMz0zAtz1bgH59nz : snM (accM (coM 29 (tnM z) 0 (zAt z.1) (bgH 59 n z))) < snM (xpM 4 (cdM N (snM z) n (coM 30 (tnM z) 0 (fiS x1 (snM z)) (xpM 58 (bdM (snM z) (snM z + 1) x1))))) := Nat.lt_of_lt_of_le hl65_snMaccMcoM29tnMz0zAtz1bgH59nz hf67.2.2.2.1.1.1
  try dsimp only [Option.toList, List.cons_append, List.nil_append, s1C, s2C, dlC, kyC, Nat.beq, lkC, rcd, rno, rsw]
  try dsimp only [Qz_readDo]
  show SeQ N E A B V z (doE N n (snM z) (tnM z) (cnM z) (stM N (n - 1) (arM ((snM z : Nat) : Int) (accM (coM 29 (tnM z) 0 (zAt z.1) (bgH 59 n z)))))) σ _ _
  rw [← hx1]
  exact ⟨_, _, _, by rw [hb67_J], ZC.co (ZC.co hZ67), FzC.co (FzC.co hF67), hl67_J⟩
