section LWK
variable {p : Program} {l : Launch} {e : Env} {s : State} {m : MethodId} {args : Array Value} {below : List Frame} {meth : Method} {c : Code} {H : Heap} {locs : List Loc} {Q : State → Prop} {b L : Nat} {xs : Nat → Int32} {Ts : List Cond} {A0 : Nat → Prop} {D : va_G} {ad ad2 : Nat → Nat} {kA cA : Nat → ClassId} {σ : CsC} {h a n : Nat} {ρ : RS} {i : Int32} {ls : Array Slot} {R : Room} {cells slots : Nat}
set_option maxRecDepth 20000 in
theorem lk_means (C : LcX p s m args c b L xs Ts A0 D ad kA cA) (hl : lv_has ls 4 [(3, .int i), (2, .ref h), (1, .ref (ad a)), (0, .ref b)]) (hi : 0 ≤ i.toInt ∧ i.toInt + 6 ≤ L) (hw : LwI A0 D ad kA σ h ad2 cA ρ H) (hS : va_S A0 s.heap H locs) (hI : IvL a n σ) (hn : n < 512) (hR : IV ρ) (hJ2 : JL a σ ρ ∧ JqD a σ ρ) (K : ∀ (σ1 : CsC) (ρ1 : RS) (H1 : Heap) (locs1 : List Loc), LwI A0 D ad kA σ1 h ad2 cA ρ1 H1 → va_S A0 s.heap H1 locs1 → IvL a (n + 1) σ1 → IV ρ1 → JL a σ1 ρ1 ∧ JqD a σ1 ρ1 → W p l e room_1 s m args below meth c H1 locs1 (cnC σ1 + 200) (slC σ1 + 200000) Q (F0 m 671 ls [])) : W p l e room_1 s m args below meth c H locs (cnC σ + 200) (slC σ + 200000) Q (F0 m 371 ls []) := by
  obtain ⟨S, -, hA, ⟨hK1, hK2, hEv⟩, hGC, hGR, hGL⟩ := id C
  obtain ⟨hx, hb, hml, hown, hts⟩ := id S
  obtain ⟨hJ, hQD⟩ := hJ2
  obtain ⟨h1, h2, h3, h4, h5, h6⟩ := id hI
  refine lv_aload_n hx hb dL_law_371 rfl (lv_at hl 2 rfl) ?_
  refine lcell (k := 1) (kv := 1) C (lv_at hl 3 rfl) (lv_at hl 0 rfl) hi hS (by decide) (by decide) dL_law_372 dL_law_373 dL_law_374 dL_law_375 dL_law_376 ?_
  obtain ⟨hp, hq⟩ := ls_means hI hn (xs (i + 1).toNatClampNeg)
  have hroom : 1 + 1 ≤ room_1.frames ∧ 8 + (rX11_means.2.2.1 + 11) + 100 * 1 ≤ room_1.locals := by decide
  refine W.eq (g2 := F0 m 377 ls ((([.inl (xs (i + 1).toNatClampNeg)] : List AvC).map (cvC ad)).reverse ++ .ref (ad a) :: [])) rfl (lwC (As := [.inl (xs (i + 1).toNatClampNeg)]) (rest := []) (P := P_X11_means) (Qm := Q_X11_means) S (m_X11_means l) hX11_means (lgoC hX11_means (hGL _ (by simp [lwL, rX11_means])) rfl (by decide) (by decide +kernel) hGC) hroom hw hS hA hK1 hEv h3 (by decide) (h2.ob (by decide)) hp rfl hl.1 (by decide) dL_law_377 ⟨?_, ?_⟩ (fun w τ H1 locs1 hq1 hw1 hS1 g1 => ?_))
  · show cnC σ + 200 + (cpC σ - cnC σ) ≤ 600000; have := h3.2.2.1.1; omega
  · show slC σ + 200000 + (spC σ - slC σ) ≤ 7302250; have := h3.2.2.1.2; omega
  obtain ⟨hI1, hE, hK, r, rfl⟩ := hq w τ hq1 g1
  have e1 : cnC σ + 200 + (cnC τ - cnC σ) = cnC τ + 200 := by have := g1.1.1; omega
  have e2 : slC σ + 200000 + (slC τ - slC σ) = slC τ + 200000 := by have := g1.1.2; omega
  rw [e1, e2]
  refine W.eq (g2 := F0 m 380 ls [.int r]) rfl ?_
  refine lv_pop hx hb dL_law_380 rfl ?_
  refine lv_aload_n hx hb dL_law_381 rfl (lv_at hl 1 rfl) ?_
  refine lcell (k := 1) (kv := 1) C (lv_at hl 3 rfl) (lv_at hl 0 rfl) hi hS1 (by decide) (by decide) dL_law_382 dL_law_383 dL_law_384 dL_law_385 dL_law_386 ?_
  refine W.eq (g2 := F0 m 387 ls ((([.int (xs (i + 1).toNatClampNeg)] : List Value).map (rcv h ad2)).reverse ++ .ref h :: [])) rfl (lwR (As := [.int (xs (i + 1).toNatClampNeg)]) (rest := []) (P := Pi_means) (Qm := (fun As σ w τ => Qi_means As σ w τ ∧ EvM 133 As σ w τ)) S (i8_means l) (row := _) rfl (lgoR (μ := 133) rfl (hGL _ (by simp [lwL])) hGR) (by decide) hw1 hS1 hA hK2 hR rfl hl.1 (Nat.le_of_ble_eq_true rfl) dL_law_387 ⟨?_, ?_⟩ (fun w2 ρ1 H2 locs2 hq2 hw2 hS2 => ?_))
  · show cnC τ + 200 ≤ 600000; have := hI1.2.2.1.2.2.1.1; have := hI1.2.2.2.1.1; omega
  · show slC τ + 200000 ≤ 7302250; have := hI1.2.2.1.2.2.1.2; have := hI1.2.2.2.1.2; omega
  obtain ⟨⟨hans2, hR1, hE2⟩, h8⟩ := hq2
  obtain ⟨r2, rfl⟩ := hans2
  have hJ1 : JL a τ ρ1 := hJ.k hK (by rw [hE.1, hE2.1]; exact hJ.1) (by rw [hE.2, hE2.2.1]; exact hJ.2.1) (by rw [hE.1]; exact Int.le_refl _) hE2.2.2.1 hE2.2.2.2
  obtain ⟨_, _, hst⟩ := id hq1
  have hQ1 : JqD a τ ρ1 := hQD.k h1.1 h2 (by rw [← hst]; exact CkK.rf) (hE2.2.2.2).2.1 (hE2.2.2.2).2.2 (fun _ q => q.means hR.1.1.1 h8)
  refine W.eq (g2 := F0 m 390 ls [.int r2]) rfl ?_
  refine lv_pop hx hb dL_law_390 rfl ?_
  exact lv_goto (tgt := 671) hx hb dL_law_391 (by decide) (K τ ρ1 H2 locs2 hw2 hS2 hI1 hR1 ⟨hJ1, hQ1⟩)
set_option maxRecDepth 20000 in
theorem lk_type (C : LcX p s m args c b L xs Ts A0 D ad kA cA) (hl : lv_has ls 4 [(3, .int i), (2, .ref h), (1, .ref (ad a)), (0, .ref b)]) (hi : 0 ≤ i.toInt ∧ i.toInt + 6 ≤ L) (hw : LwI A0 D ad kA σ h ad2 cA ρ H) (hS : va_S A0 s.heap H locs) (hI : IvL a n σ) (hn : n < 512) (hR : IV ρ) (hJ2 : JL a σ ρ ∧ JqD a σ ρ) (K : ∀ (σ1 : CsC) (ρ1 : RS) (H1 : Heap) (locs1 : List Loc), LwI A0 D ad kA σ1 h ad2 cA ρ1 H1 → va_S A0 s.heap H1 locs1 → IvL a (n + 1) σ1 → IV ρ1 → JL a σ1 ρ1 ∧ JqD a σ1 ρ1 → W p l e room_1 s m args below meth c H1 locs1 (cnC σ1 + 200) (slC σ1 + 200000) Q (F0 m 671 ls [])) : W p l e room_1 s m args below meth c H locs (cnC σ + 200) (slC σ + 200000) Q (F0 m 394 ls []) := by
  obtain ⟨S, -, hA, ⟨hK1, hK2, hEv⟩, hGC, hGR, hGL⟩ := id C
  obtain ⟨hx, hb, hml, hown, hts⟩ := id S
  obtain ⟨hJ, hQD⟩ := hJ2
  obtain ⟨h1, h2, h3, h4, h5, h6⟩ := id hI
  refine lv_aload_n hx hb dL_law_394 rfl (lv_at hl 2 rfl) ?_
  refine lcell (k := 1) (kv := 1) C (lv_at hl 3 rfl) (lv_at hl 0 rfl) hi hS (by decide) (by decide) dL_law_395 dL_law_396 dL_law_397 dL_law_398 dL_law_399 ?_
  refine lcell (k := 2) (kv := 2) C (lv_at hl 3 rfl) (lv_at hl 0 rfl) hi hS (by decide) (by decide) dL_law_400 dL_law_401 dL_law_402 dL_law_403 dL_law_404 ?_
  obtain ⟨hp, hq⟩ := ls_type hI hn (xs (i + 1).toNatClampNeg) (xs (i + 2).toNatClampNeg)
  have hroom : 12 + 1 ≤ room_1.frames ∧ 8 + (rX11_type.2.2.1 + 11) + 100 * 12 ≤ room_1.locals := by decide
  refine W.eq (g2 := F0 m 405 ls ((([.inl (xs (i + 1).toNatClampNeg), .inl (xs (i + 2).toNatClampNeg)] : List AvC).map (cvC ad)).reverse ++ .ref (ad a) :: [])) rfl (lwC (As := [.inl (xs (i + 1).toNatClampNeg), .inl (xs (i + 2).toNatClampNeg)]) (rest := []) (P := P_X11_type) (Qm := (EvQ (12 + 1) 212 Q_X11_type)) S (v_X11_type l) hX11_type (lgoC hX11_type (hGL _ (by simp [lwL, rX11_type])) rfl (by decide) (by decide +kernel) hGC) hroom hw hS hA hK1 hEv h3 (by decide) (h2.ob (by decide)) hp rfl hl.1 (by decide) dL_law_405 ⟨?_, ?_⟩ (fun w τ H1 locs1 hq1 hw1 hS1 g1 => ?_))
  · show cnC σ + 200 + (cpC σ - cnC σ) ≤ 600000; have := h3.2.2.1.1; omega
  · show slC σ + 200000 + (spC σ - slC σ) ≤ 7302250; have := h3.2.2.1.2; omega
  obtain ⟨hI1, hE, hK, r, rfl⟩ := hq w τ hq1.1 g1
  have e1 : cnC σ + 200 + (cnC τ - cnC σ) = cnC τ + 200 := by have := g1.1.1; omega
  have e2 : slC σ + 200000 + (slC τ - slC σ) = slC τ + 200000 := by have := g1.1.2; omega
  rw [e1, e2]
  refine W.eq (g2 := F0 m 408 ls [.int r]) rfl ?_
  refine lv_aload_n hx hb dL_law_408 rfl (lv_at hl 1 rfl) ?_
  refine lcell (k := 1) (kv := 1) C (lv_at hl 3 rfl) (lv_at hl 0 rfl) hi hS1 (by decide) (by decide) dL_law_409 dL_law_410 dL_law_411 dL_law_412 dL_law_413 ?_
  refine lcell (k := 2) (kv := 2) C (lv_at hl 3 rfl) (lv_at hl 0 rfl) hi hS1 (by decide) (by decide) dL_law_414 dL_law_415 dL_law_416 dL_law_417 dL_law_418 ?_
  refine W.eq (g2 := F0 m 419 ls ((([.int (xs (i + 1).toNatClampNeg), .int (xs (i + 2).toNatClampNeg)] : List Value).map (rcv h ad2)).reverse ++ .ref h :: [.int r])) rfl (lwR (As := [.int (xs (i + 1).toNatClampNeg), .int (xs (i + 2).toNatClampNeg)]) (rest := [.int r]) (P := Pi_type) (Qm := (fun As σ w τ => Qi_type As σ w τ ∧ EvM 135 As σ w τ)) S (i8_type l) (row := _) rfl (lgoR (μ := 135) rfl (hGL _ (by simp [lwL])) hGR) (by decide) hw1 hS1 hA hK2 hR rfl hl.1 (Nat.le_of_ble_eq_true rfl) dL_law_419 ⟨?_, ?_⟩ (fun w2 ρ1 H2 locs2 hq2 hw2 hS2 => ?_))
  · show cnC τ + 200 ≤ 600000; have := hI1.2.2.1.2.2.1.1; have := hI1.2.2.2.1.1; omega
  · show slC τ + 200000 ≤ 7302250; have := hI1.2.2.1.2.2.1.2; have := hI1.2.2.2.1.2; omega
  obtain ⟨⟨hans2, hR1, hE2⟩, h8⟩ := hq2
  obtain ⟨r2, rfl⟩ := hans2
  have hJ1 : JL a τ ρ1 := hJ.k hK (by rw [hE.1, hE2.1]; exact hJ.1) (by rw [hE.2, hE2.2.1]; exact hJ.2.1) (by rw [hE.1]; exact Int.le_refl _) hE2.2.2.1 hE2.2.2.2
  obtain ⟨_, _, hst⟩ := id hq1.1
  have e9 : r = r2 := hQD.type hR.1.1.1 hq1.2 h8
  have hQ1 : JqD a τ ρ1 := hQD.k h1.1 h2 (by rw [← hst]; exact CkK.rf) (hE2.2.2.2).2.1 (hE2.2.2.2).2.2 (fun _ q => q.type hR.1.1.1 h8)
  refine W.eq (g2 := F0 m 422 ls [.int r2, .int r]) rfl ?_
  exact lv_icmp_eq (tgt := 671) hx hb dL_law_422 (by decide) (fun _ => K τ ρ1 H2 locs2 hw2 hS2 hI1 hR1 ⟨hJ1, hQ1⟩) (fun hc => absurd e9 hc)
set_option maxRecDepth 20000 in
theorem lk_constant (C : LcX p s m args c b L xs Ts A0 D ad kA cA) (hl : lv_has ls 4 [(3, .int i), (2, .ref h), (1, .ref (ad a)), (0, .ref b)]) (hi : 0 ≤ i.toInt ∧ i.toInt + 6 ≤ L) (hw : LwI A0 D ad kA σ h ad2 cA ρ H) (hS : va_S A0 s.heap H locs) (hI : IvL a n σ) (hn : n < 512) (hR : IV ρ) (hJ2 : JL a σ ρ ∧ JqD a σ ρ) (K : ∀ (σ1 : CsC) (ρ1 : RS) (H1 : Heap) (locs1 : List Loc), LwI A0 D ad kA σ1 h ad2 cA ρ1 H1 → va_S A0 s.heap H1 locs1 → IvL a (n + 1) σ1 → IV ρ1 → JL a σ1 ρ1 ∧ JqD a σ1 ρ1 → W p l e room_1 s m args below meth c H1 locs1 (cnC σ1 + 200) (slC σ1 + 200000) Q (F0 m 671 ls [])) : W p l e room_1 s m args below meth c H locs (cnC σ + 200) (slC σ + 200000) Q (F0 m 427 ls []) := by
  obtain ⟨S, -, hA, ⟨hK1, hK2, hEv⟩, hGC, hGR, hGL⟩ := id C
  obtain ⟨hx, hb, hml, hown, hts⟩ := id S
  obtain ⟨hJ, hQD⟩ := hJ2
  obtain ⟨h1, h2, h3, h4, h5, h6⟩ := id hI
  refine lv_aload_n hx hb dL_law_427 rfl (lv_at hl 2 rfl) ?_
  refine lcell (k := 1) (kv := 1) C (lv_at hl 3 rfl) (lv_at hl 0 rfl) hi hS (by decide) (by decide) dL_law_428 dL_law_429 dL_law_430 dL_law_431 dL_law_432 ?_
  refine lcell (k := 2) (kv := 2) C (lv_at hl 3 rfl) (lv_at hl 0 rfl) hi hS (by decide) (by decide) dL_law_433 dL_law_434 dL_law_435 dL_law_436 dL_law_437 ?_
  obtain ⟨hp, hq⟩ := ls_constant hI hn (xs (i + 1).toNatClampNeg) (xs (i + 2).toNatClampNeg)
  have hroom : 12 + 1 ≤ room_1.frames ∧ 8 + (rX11_constant.2.2.1 + 11) + 100 * 12 ≤ room_1.locals := by decide
  refine W.eq (g2 := F0 m 438 ls ((([.inl (xs (i + 1).toNatClampNeg), .inl (xs (i + 2).toNatClampNeg)] : List AvC).map (cvC ad)).reverse ++ .ref (ad a) :: [])) rfl (lwC (As := [.inl (xs (i + 1).toNatClampNeg), .inl (xs (i + 2).toNatClampNeg)]) (rest := []) (P := P_X11_constant) (Qm := Q_X11_constant) S (m_X11_constant l) hX11_constant (lgoC hX11_constant (hGL _ (by simp [lwL, rX11_constant])) rfl (by decide) (by decide +kernel) hGC) hroom hw hS hA hK1 hEv h3 (by decide) (h2.ob (by decide)) hp rfl hl.1 (by decide) dL_law_438 ⟨?_, ?_⟩ (fun w τ H1 locs1 hq1 hw1 hS1 g1 => ?_))
  · show cnC σ + 200 + (cpC σ - cnC σ) ≤ 600000; have := h3.2.2.1.1; omega
  · show slC σ + 200000 + (spC σ - slC σ) ≤ 7302250; have := h3.2.2.1.2; omega
  obtain ⟨hI1, hE, hK, r, rfl⟩ := hq w τ hq1 g1
  have e1 : cnC σ + 200 + (cnC τ - cnC σ) = cnC τ + 200 := by have := g1.1.1; omega
  have e2 : slC σ + 200000 + (slC τ - slC σ) = slC τ + 200000 := by have := g1.1.2; omega
  rw [e1, e2]
  refine W.eq (g2 := F0 m 441 ls [.long r]) rfl ?_
  refine lv_pop2_2 hx hb dL_law_441 rfl ?_
  refine lv_aload_n hx hb dL_law_442 rfl (lv_at hl 1 rfl) ?_
  refine lcell (k := 1) (kv := 1) C (lv_at hl 3 rfl) (lv_at hl 0 rfl) hi hS1 (by decide) (by decide) dL_law_443 dL_law_444 dL_law_445 dL_law_446 dL_law_447 ?_
  refine lcell (k := 2) (kv := 2) C (lv_at hl 3 rfl) (lv_at hl 0 rfl) hi hS1 (by decide) (by decide) dL_law_448 dL_law_449 dL_law_450 dL_law_451 dL_law_452 ?_
  refine W.eq (g2 := F0 m 453 ls ((([.int (xs (i + 1).toNatClampNeg), .int (xs (i + 2).toNatClampNeg)] : List Value).map (rcv h ad2)).reverse ++ .ref h :: [])) rfl (lwR (As := [.int (xs (i + 1).toNatClampNeg), .int (xs (i + 2).toNatClampNeg)]) (rest := []) (P := Pi_constant) (Qm := (fun As σ w τ => Qi_constant As σ w τ ∧ EvM 136 As σ w τ)) S (i8_constant l) (row := _) rfl (lgoR (μ := 136) rfl (hGL _ (by simp [lwL])) hGR) (by decide) hw1 hS1 hA hK2 hR rfl hl.1 (Nat.le_of_ble_eq_true rfl) dL_law_453 ⟨?_, ?_⟩ (fun w2 ρ1 H2 locs2 hq2 hw2 hS2 => ?_))
  · show cnC τ + 200 ≤ 600000; have := hI1.2.2.1.2.2.1.1; have := hI1.2.2.2.1.1; omega
  · show slC τ + 200000 ≤ 7302250; have := hI1.2.2.1.2.2.1.2; have := hI1.2.2.2.1.2; omega
  obtain ⟨⟨hans2, hR1, hE2⟩, h8⟩ := hq2
  obtain ⟨r2, rfl⟩ := hans2
  have hJ1 : JL a τ ρ1 := hJ.k hK (by rw [hE.1, hE2.1]; exact hJ.1) (by rw [hE.2, hE2.2.1]; exact hJ.2.1) (by rw [hE.1]; exact Int.le_refl _) hE2.2.2.1 hE2.2.2.2
  obtain ⟨_, _, hst⟩ := id hq1
  have hQ1 : JqD a τ ρ1 := hQD.k h1.1 h2 (by rw [← hst]; exact CkK.rf) (hE2.2.2.2).2.1 (hE2.2.2.2).2.2 (fun _ q => q.constant hR.1.1.1 h8)
  refine W.eq (g2 := F0 m 456 ls [.long r2]) rfl ?_
  refine lv_pop2_2 hx hb dL_law_456 rfl ?_
  exact lv_goto (tgt := 671) hx hb dL_law_457 (by decide) (K τ ρ1 H2 locs2 hw2 hS2 hI1 hR1 ⟨hJ1, hQ1⟩)
set_option maxRecDepth 20000 in
theorem lk_ends (C : LcX p s m args c b L xs Ts A0 D ad kA cA) (hl : lv_has ls 4 [(3, .int i), (2, .ref h), (1, .ref (ad a)), (0, .ref b)]) (hi : 0 ≤ i.toInt ∧ i.toInt + 6 ≤ L) (hw : LwI A0 D ad kA σ h ad2 cA ρ H) (hS : va_S A0 s.heap H locs) (hI : IvL a n σ) (hn : n < 512) (hR : IV ρ) (hJ2 : JL a σ ρ ∧ JqD a σ ρ) (K : ∀ (σ1 : CsC) (ρ1 : RS) (H1 : Heap) (locs1 : List Loc), LwI A0 D ad kA σ1 h ad2 cA ρ1 H1 → va_S A0 s.heap H1 locs1 → IvL a (n + 1) σ1 → IV ρ1 → JL a σ1 ρ1 ∧ JqD a σ1 ρ1 → W p l e room_1 s m args below meth c H1 locs1 (cnC σ1 + 200) (slC σ1 + 200000) Q (F0 m 671 ls [])) : W p l e room_1 s m args below meth c H locs (cnC σ + 200) (slC σ + 200000) Q (F0 m 460 ls []) := by
  obtain ⟨S, -, hA, ⟨hK1, hK2, hEv⟩, hGC, hGR, hGL⟩ := id C
  obtain ⟨hx, hb, hml, hown, hts⟩ := id S
  obtain ⟨hJ, hQD⟩ := hJ2
  obtain ⟨h1, h2, h3, h4, h5, h6⟩ := id hI
  refine lv_aload_n hx hb dL_law_460 rfl (lv_at hl 2 rfl) ?_
  refine lcell (k := 1) (kv := 1) C (lv_at hl 3 rfl) (lv_at hl 0 rfl) hi hS (by decide) (by decide) dL_law_461 dL_law_462 dL_law_463 dL_law_464 dL_law_465 ?_
  obtain ⟨hp, hq⟩ := ls_ends hI hn (xs (i + 1).toNatClampNeg)
  have hroom : 12 + 1 ≤ room_1.frames ∧ 8 + (rX11_ends.2.2.1 + 11) + 100 * 12 ≤ room_1.locals := by decide
  refine W.eq (g2 := F0 m 466 ls ((([.inl (xs (i + 1).toNatClampNeg)] : List AvC).map (cvC ad)).reverse ++ .ref (ad a) :: [])) rfl (lwC (As := [.inl (xs (i + 1).toNatClampNeg)]) (rest := []) (P := P_X11_ends) (Qm := Q_X11_ends) S (m_X11_ends l) hX11_ends (lgoC hX11_ends (hGL _ (by simp [lwL, rX11_ends])) rfl (by decide) (by decide +kernel) hGC) hroom hw hS hA hK1 hEv h3 (by decide) (h2.ob (by decide)) hp rfl hl.1 (by decide) dL_law_466 ⟨?_, ?_⟩ (fun w τ H1 locs1 hq1 hw1 hS1 g1 => ?_))
  · show cnC σ + 200 + (cpC σ - cnC σ) ≤ 600000; have := h3.2.2.1.1; omega
  · show slC σ + 200000 + (spC σ - slC σ) ≤ 7302250; have := h3.2.2.1.2; omega
  obtain ⟨hI1, hE, hK, r, rfl⟩ := hq w τ hq1 g1
  have e1 : cnC σ + 200 + (cnC τ - cnC σ) = cnC τ + 200 := by have := g1.1.1; omega
  have e2 : slC σ + 200000 + (slC τ - slC σ) = slC τ + 200000 := by have := g1.1.2; omega
  rw [e1, e2]
  refine W.eq (g2 := F0 m 469 ls [.int r]) rfl ?_
  refine lv_pop hx hb dL_law_469 rfl ?_
  refine lv_aload_n hx hb dL_law_470 rfl (lv_at hl 1 rfl) ?_
  refine lcell (k := 1) (kv := 1) C (lv_at hl 3 rfl) (lv_at hl 0 rfl) hi hS1 (by decide) (by decide) dL_law_471 dL_law_472 dL_law_473 dL_law_474 dL_law_475 ?_
  refine W.eq (g2 := F0 m 476 ls ((([.int (xs (i + 1).toNatClampNeg)] : List Value).map (rcv h ad2)).reverse ++ .ref h :: [])) rfl (lwR (As := [.int (xs (i + 1).toNatClampNeg)]) (rest := []) (P := Pi_ends) (Qm := (fun As σ w τ => Qi_ends As σ w τ ∧ EvM 137 As σ w τ)) S (i8_ends l) (row := _) rfl (lgoR (μ := 137) rfl (hGL _ (by simp [lwL])) hGR) (by decide) hw1 hS1 hA hK2 hR rfl hl.1 (Nat.le_of_ble_eq_true rfl) dL_law_476 ⟨?_, ?_⟩ (fun w2 ρ1 H2 locs2 hq2 hw2 hS2 => ?_))
  · show cnC τ + 200 ≤ 600000; have := hI1.2.2.1.2.2.1.1; have := hI1.2.2.2.1.1; omega
  · show slC τ + 200000 ≤ 7302250; have := hI1.2.2.1.2.2.1.2; have := hI1.2.2.2.1.2; omega
  obtain ⟨⟨hans2, hR1, hE2⟩, h8⟩ := hq2
  obtain ⟨r2, rfl⟩ := hans2
  have hJ1 : JL a τ ρ1 := hJ.k hK (by rw [hE.1, hE2.1]; exact hJ.1) (by rw [hE.2, hE2.2.1]; exact hJ.2.1) (by rw [hE.1]; exact Int.le_refl _) hE2.2.2.1 hE2.2.2.2
  obtain ⟨_, _, hst⟩ := id hq1
  have hQ1 : JqD a τ ρ1 := hQD.k h1.1 h2 (by rw [← hst]; exact CkK.rf) (hE2.2.2.2).2.1 (hE2.2.2.2).2.2 (fun _ q => q.ends hR.1.1.1 h8)
  refine W.eq (g2 := F0 m 479 ls [.int r2]) rfl ?_
  refine lv_pop hx hb dL_law_479 rfl ?_
  exact lv_goto (tgt := 671) hx hb dL_law_480 (by decide) (K τ ρ1 H2 locs2 hw2 hS2 hI1 hR1 ⟨hJ1, hQ1⟩)
set_option maxRecDepth 20000 in
theorem lk_assigned (C : LcX p s m args c b L xs Ts A0 D ad kA cA) (hl : lv_has ls 4 [(3, .int i), (2, .ref h), (1, .ref (ad a)), (0, .ref b)]) (hi : 0 ≤ i.toInt ∧ i.toInt + 6 ≤ L) (hw : LwI A0 D ad kA σ h ad2 cA ρ H) (hS : va_S A0 s.heap H locs) (hI : IvL a n σ) (hn : n < 512) (hR : IV ρ) (hJ2 : JL a σ ρ ∧ JqD a σ ρ) (K : ∀ (σ1 : CsC) (ρ1 : RS) (H1 : Heap) (locs1 : List Loc), LwI A0 D ad kA σ1 h ad2 cA ρ1 H1 → va_S A0 s.heap H1 locs1 → IvL a (n + 1) σ1 → IV ρ1 → JL a σ1 ρ1 ∧ JqD a σ1 ρ1 → W p l e room_1 s m args below meth c H1 locs1 (cnC σ1 + 200) (slC σ1 + 200000) Q (F0 m 671 ls [])) : W p l e room_1 s m args below meth c H locs (cnC σ + 200) (slC σ + 200000) Q (F0 m 483 ls []) := by
  obtain ⟨S, -, hA, ⟨hK1, hK2, hEv⟩, hGC, hGR, hGL⟩ := id C
  obtain ⟨hx, hb, hml, hown, hts⟩ := id S
  obtain ⟨hJ, hQD⟩ := hJ2
  obtain ⟨h1, h2, h3, h4, h5, h6⟩ := id hI
  refine lv_aload_n hx hb dL_law_483 rfl (lv_at hl 2 rfl) ?_
  refine lcell (k := 1) (kv := 1) C (lv_at hl 3 rfl) (lv_at hl 0 rfl) hi hS (by decide) (by decide) dL_law_484 dL_law_485 dL_law_486 dL_law_487 dL_law_488 ?_
  refine lcell (k := 2) (kv := 2) C (lv_at hl 3 rfl) (lv_at hl 0 rfl) hi hS (by decide) (by decide) dL_law_489 dL_law_490 dL_law_491 dL_law_492 dL_law_493 ?_
  obtain ⟨hp, hq⟩ := ls_assigned hI hn (xs (i + 1).toNatClampNeg) (xs (i + 2).toNatClampNeg)
  have hroom : 12 + 1 ≤ room_1.frames ∧ 8 + (rX11_assigned.2.2.1 + 11) + 100 * 12 ≤ room_1.locals := by decide
  refine W.eq (g2 := F0 m 494 ls ((([.inl (xs (i + 1).toNatClampNeg), .inl (xs (i + 2).toNatClampNeg)] : List AvC).map (cvC ad)).reverse ++ .ref (ad a) :: [])) rfl (lwC (As := [.inl (xs (i + 1).toNatClampNeg), .inl (xs (i + 2).toNatClampNeg)]) (rest := []) (P := P_X11_assigned) (Qm := Q_X11_assigned) S (m_X11_assigned l) hX11_assigned (lgoC hX11_assigned (hGL _ (by simp [lwL, rX11_assigned])) rfl (by decide) (by decide +kernel) hGC) hroom hw hS hA hK1 hEv h3 (by decide) (h2.ob (by decide)) hp rfl hl.1 (by decide) dL_law_494 ⟨?_, ?_⟩ (fun w τ H1 locs1 hq1 hw1 hS1 g1 => ?_))
  · show cnC σ + 200 + (cpC σ - cnC σ) ≤ 600000; have := h3.2.2.1.1; omega
  · show slC σ + 200000 + (spC σ - slC σ) ≤ 7302250; have := h3.2.2.1.2; omega
  obtain ⟨hI1, hE, hK, r, rfl⟩ := hq w τ hq1 g1
  have e1 : cnC σ + 200 + (cnC τ - cnC σ) = cnC τ + 200 := by have := g1.1.1; omega
  have e2 : slC σ + 200000 + (slC τ - slC σ) = slC τ + 200000 := by have := g1.1.2; omega
  rw [e1, e2]
  refine W.eq (g2 := F0 m 497 ls [.int r]) rfl ?_
  refine lv_pop hx hb dL_law_497 rfl ?_
  refine lv_aload_n hx hb dL_law_498 rfl (lv_at hl 1 rfl) ?_
  refine lcell (k := 1) (kv := 1) C (lv_at hl 3 rfl) (lv_at hl 0 rfl) hi hS1 (by decide) (by decide) dL_law_499 dL_law_500 dL_law_501 dL_law_502 dL_law_503 ?_
  refine lcell (k := 2) (kv := 2) C (lv_at hl 3 rfl) (lv_at hl 0 rfl) hi hS1 (by decide) (by decide) dL_law_504 dL_law_505 dL_law_506 dL_law_507 dL_law_508 ?_
  refine W.eq (g2 := F0 m 509 ls ((([.int (xs (i + 1).toNatClampNeg), .int (xs (i + 2).toNatClampNeg)] : List Value).map (rcv h ad2)).reverse ++ .ref h :: [])) rfl (lwR (As := [.int (xs (i + 1).toNatClampNeg), .int (xs (i + 2).toNatClampNeg)]) (rest := []) (P := Pi_assigned) (Qm := (fun As σ w τ => Qi_assigned As σ w τ ∧ EvM 138 As σ w τ)) S (i8_assigned l) (row := _) rfl (lgoR (μ := 138) rfl (hGL _ (by simp [lwL])) hGR) (by decide) hw1 hS1 hA hK2 hR rfl hl.1 (Nat.le_of_ble_eq_true rfl) dL_law_509 ⟨?_, ?_⟩ (fun w2 ρ1 H2 locs2 hq2 hw2 hS2 => ?_))
  · show cnC τ + 200 ≤ 600000; have := hI1.2.2.1.2.2.1.1; have := hI1.2.2.2.1.1; omega
  · show slC τ + 200000 ≤ 7302250; have := hI1.2.2.1.2.2.1.2; have := hI1.2.2.2.1.2; omega
  obtain ⟨⟨hans2, hR1, hE2⟩, h8⟩ := hq2
  obtain ⟨r2, rfl⟩ := hans2
  have hJ1 : JL a τ ρ1 := hJ.k hK (by rw [hE.1, hE2.1]; exact hJ.1) (by rw [hE.2, hE2.2.1]; exact hJ.2.1) (by rw [hE.1]; exact Int.le_refl _) hE2.2.2.1 hE2.2.2.2
  obtain ⟨_, _, hst⟩ := id hq1
  have hQ1 : JqD a τ ρ1 := hQD.k h1.1 h2 (by rw [← hst]; exact CkK.rf) (hE2.2.2.2).2.1 (hE2.2.2.2).2.2 (fun _ q => q.assigned hR.1.1.1 h8)
  refine W.eq (g2 := F0 m 512 ls [.int r2]) rfl ?_
  refine lv_pop hx hb dL_law_512 rfl ?_
  exact lv_goto (tgt := 671) hx hb dL_law_513 (by decide) (K τ ρ1 H2 locs2 hw2 hS2 hI1 hR1 ⟨hJ1, hQ1⟩)
set_option maxRecDepth 20000 in
theorem lk_argument (C : LcX p s m args c b L xs Ts A0 D ad kA cA) (hl : lv_has ls 4 [(3, .int i), (2, .ref h), (1, .ref (ad a)), (0, .ref b)]) (hi : 0 ≤ i.toInt ∧ i.toInt + 6 ≤ L) (hw : LwI A0 D ad kA σ h ad2 cA ρ H) (hS : va_S A0 s.heap H locs) (hI : IvL a n σ) (hn : n < 512) (hR : IV ρ) (hJ2 : JL a σ ρ ∧ JqD a σ ρ) (K : ∀ (σ1 : CsC) (ρ1 : RS) (H1 : Heap) (locs1 : List Loc), LwI A0 D ad kA σ1 h ad2 cA ρ1 H1 → va_S A0 s.heap H1 locs1 → IvL a (n + 1) σ1 → IV ρ1 → JL a σ1 ρ1 ∧ JqD a σ1 ρ1 → W p l e room_1 s m args below meth c H1 locs1 (cnC σ1 + 200) (slC σ1 + 200000) Q (F0 m 671 ls [])) : W p l e room_1 s m args below meth c H locs (cnC σ + 200) (slC σ + 200000) Q (F0 m 516 ls []) := by
  obtain ⟨S, -, hA, ⟨hK1, hK2, hEv⟩, hGC, hGR, hGL⟩ := id C
  obtain ⟨hx, hb, hml, hown, hts⟩ := id S
  obtain ⟨hJ, hQD⟩ := hJ2
  obtain ⟨h1, h2, h3, h4, h5, h6⟩ := id hI
  refine lv_aload_n hx hb dL_law_516 rfl (lv_at hl 2 rfl) ?_
  refine lcell (k := 1) (kv := 1) C (lv_at hl 3 rfl) (lv_at hl 0 rfl) hi hS (by decide) (by decide) dL_law_517 dL_law_518 dL_law_519 dL_law_520 dL_law_521 ?_
  refine lcell (k := 2) (kv := 2) C (lv_at hl 3 rfl) (lv_at hl 0 rfl) hi hS (by decide) (by decide) dL_law_522 dL_law_523 dL_law_524 dL_law_525 dL_law_526 ?_
  refine lv_i2l hx hb dL_law_527 rfl ?_
  refine lv_bipush (v := 32) hx hb dL_law_528 (by decide) ?_
  refine lv_lshl hx hb dL_law_530 rfl ?_
  refine lcell (k := 3) (kv := 3) C (lv_at hl 3 rfl) (lv_at hl 0 rfl) hi hS (by decide) (by decide) dL_law_531 dL_law_532 dL_law_533 dL_law_534 dL_law_535 ?_
  refine lv_i2l hx hb dL_law_536 rfl ?_
  refine lv_ldc2 (v := 4294967295) hx hb hown (hts _ (hGL _ (by simp [lwL]))) dL_law_537 ?_
  refine lv_land hx hb dL_law_540 ?_
  refine lv_lor hx hb dL_law_541 ?_
  obtain ⟨hp, hq⟩ := ls_argument hI hn (xs (i + 1).toNatClampNeg) (((xs (i + 2).toNatClampNeg).toInt64 <<< ((32 : Int32).toInt64 &&& 63)) ||| ((xs (i + 3).toNatClampNeg).toInt64 &&& 4294967295))
  have hroom : 1 + 1 ≤ room_1.frames ∧ 8 + (rX11_argument.2.2.1 + 11) + 100 * 1 ≤ room_1.locals := by decide
  refine W.eq (g2 := F0 m 542 ls ((([.inl (xs (i + 1).toNatClampNeg), .inr (.inl (((xs (i + 2).toNatClampNeg).toInt64 <<< ((32 : Int32).toInt64 &&& 63)) ||| ((xs (i + 3).toNatClampNeg).toInt64 &&& 4294967295)))] : List AvC).map (cvC ad)).reverse ++ .ref (ad a) :: [])) rfl (lwC (As := [.inl (xs (i + 1).toNatClampNeg), .inr (.inl (((xs (i + 2).toNatClampNeg).toInt64 <<< ((32 : Int32).toInt64 &&& 63)) ||| ((xs (i + 3).toNatClampNeg).toInt64 &&& 4294967295)))]) (rest := []) (P := P_X11_argument) (Qm := (EvQ (1 + 1) 216 Q_X11_argument)) S (v_X11_argument l) hX11_argument (lgoC hX11_argument (hGL _ (by simp [lwL, rX11_argument])) rfl (by decide) (by decide +kernel) hGC) hroom hw hS hA hK1 hEv h3 (by decide) (h2.ob (by decide)) hp rfl hl.1 (by decide) dL_law_542 ⟨?_, ?_⟩ (fun w τ H1 locs1 hq1 hw1 hS1 g1 => ?_))
  · show cnC σ + 200 + (cpC σ - cnC σ) ≤ 600000; have := h3.2.2.1.1; omega
  · show slC σ + 200000 + (spC σ - slC σ) ≤ 7302250; have := h3.2.2.1.2; omega
  obtain ⟨hI1, hE, hK, r, rfl, hans⟩ := hq w τ hq1.1 g1
  have e1 : cnC σ + 200 + (cnC τ - cnC σ) = cnC τ + 200 := by have := g1.1.1; omega
  have e2 : slC σ + 200000 + (slC τ - slC σ) = slC τ + 200000 := by have := g1.1.2; omega
  rw [e1, e2]
  refine W.eq (g2 := F0 m 545 ls [.int r]) rfl ?_
  refine lv_pop hx hb dL_law_545 rfl ?_
  refine lv_aload_n hx hb dL_law_546 rfl (lv_at hl 1 rfl) ?_
  refine lcell (k := 1) (kv := 1) C (lv_at hl 3 rfl) (lv_at hl 0 rfl) hi hS1 (by decide) (by decide) dL_law_547 dL_law_548 dL_law_549 dL_law_550 dL_law_551 ?_
  refine lcell (k := 2) (kv := 2) C (lv_at hl 3 rfl) (lv_at hl 0 rfl) hi hS1 (by decide) (by decide) dL_law_552 dL_law_553 dL_law_554 dL_law_555 dL_law_556 ?_
  refine lv_i2l hx hb dL_law_557 rfl ?_
  refine lv_bipush (v := 32) hx hb dL_law_558 (by decide) ?_
  refine lv_lshl hx hb dL_law_560 rfl ?_
  refine lcell (k := 3) (kv := 3) C (lv_at hl 3 rfl) (lv_at hl 0 rfl) hi hS1 (by decide) (by decide) dL_law_561 dL_law_562 dL_law_563 dL_law_564 dL_law_565 ?_
  refine lv_i2l hx hb dL_law_566 rfl ?_
  refine lv_ldc2 (v := 4294967295) hx hb hown (hts _ (hGL _ (by simp [lwL]))) dL_law_567 ?_
  refine lv_land hx hb dL_law_570 ?_
  refine lv_lor hx hb dL_law_571 ?_
  refine W.eq (g2 := F0 m 572 ls ((([.int (xs (i + 1).toNatClampNeg), .long (((xs (i + 2).toNatClampNeg).toInt64 <<< ((32 : Int32).toInt64 &&& 63)) ||| ((xs (i + 3).toNatClampNeg).toInt64 &&& 4294967295))] : List Value).map (rcv h ad2)).reverse ++ .ref h :: [])) rfl (lwR (As := [.int (xs (i + 1).toNatClampNeg), .long (((xs (i + 2).toNatClampNeg).toInt64 <<< ((32 : Int32).toInt64 &&& 63)) ||| ((xs (i + 3).toNatClampNeg).toInt64 &&& 4294967295))]) (rest := []) (P := Pi_argument) (Qm := (fun As σ w τ => Qi_argument As σ w τ ∧ F8 σ τ)) S (i8_argument l) (row := _) rfl (lgoR (μ := 139) rfl (hGL _ (by simp [lwL])) hGR) (by decide) hw1 hS1 hA hK2 hR rfl hl.1 (Nat.le_of_ble_eq_true rfl) dL_law_572 ⟨?_, ?_⟩ (fun w2 ρ1 H2 locs2 hq2 hw2 hS2 => ?_))
  · show cnC τ + 200 ≤ 600000; have := hI1.2.2.1.2.2.1.1; have := hI1.2.2.2.1.1; omega
  · show slC τ + 200000 ≤ 7302250; have := hI1.2.2.1.2.2.1.2; have := hI1.2.2.2.1.2; omega
  obtain ⟨⟨hans2, hR1, hE2⟩, h8⟩ := hq2
  obtain ⟨r2, rfl, e9⟩ : ∃ r2 : Int32, w2 = some (.int r2) ∧ r = r2 := by
    rcases hans2 with ⟨z1, rfl⟩ | ⟨z1, rfl⟩
    · exact ⟨_, rfl, Int32.toInt_inj.mp (arg_no hans z1)⟩
    · exact ⟨_, rfl, Int32.toInt_inj.mp (arg_yes hans z1)⟩
  have hJ1 : JL a τ ρ1 := hJ.k hK (by rw [hE.1, hE2.1]; exact hJ.1) (by rw [hE.2, hE2.2.1]; exact hJ.2.1) (by rw [hE.1]; exact Int.le_refl _) hE2.2.2.1 hE2.2.2.2
  obtain ⟨_, _, _, hEx, _⟩ := id hq1.1
  have hQ1 : JqD a τ ρ1 := hQD.k h1.1 h2 (CkK.fx h1.1 h2 ((hq1.2.fr (M := [901]) (by decide +kernel))) hEx rfl rfl) (hE2.2.2.2).2.1 (hE2.2.2.2).2.2 (fun _ q => q.f8 h8)
  refine W.eq (g2 := F0 m 575 ls [.int r2]) rfl ?_
  refine lv_pop hx hb dL_law_575 rfl ?_
  exact lv_goto (tgt := 671) hx hb dL_law_576 (by decide) (K τ ρ1 H2 locs2 hw2 hS2 hI1 hR1 ⟨hJ1, hQ1⟩)
set_option maxRecDepth 20000 in
theorem lk_input (C : LcX p s m args c b L xs Ts A0 D ad kA cA) (hl : lv_has ls 4 [(3, .int i), (2, .ref h), (1, .ref (ad a)), (0, .ref b)]) (hi : 0 ≤ i.toInt ∧ i.toInt + 6 ≤ L) (hw : LwI A0 D ad kA σ h ad2 cA ρ H) (hS : va_S A0 s.heap H locs) (hI : IvL a n σ) (hn : n < 512) (hR : IV ρ) (hJ2 : JL a σ ρ ∧ JqD a σ ρ) (K : ∀ (σ1 : CsC) (ρ1 : RS) (H1 : Heap) (locs1 : List Loc), LwI A0 D ad kA σ1 h ad2 cA ρ1 H1 → va_S A0 s.heap H1 locs1 → IvL a (n + 1) σ1 → IV ρ1 → JL a σ1 ρ1 ∧ JqD a σ1 ρ1 → W p l e room_1 s m args below meth c H1 locs1 (cnC σ1 + 200) (slC σ1 + 200000) Q (F0 m 671 ls [])) : W p l e room_1 s m args below meth c H locs (cnC σ + 200) (slC σ + 200000) Q (F0 m 579 ls []) := by
  obtain ⟨S, -, hA, ⟨hK1, hK2, hEv⟩, hGC, hGR, hGL⟩ := id C
  obtain ⟨hx, hb, hml, hown, hts⟩ := id S
  obtain ⟨hJ, hQD⟩ := hJ2
  obtain ⟨h1, h2, h3, h4, h5, h6⟩ := id hI
  refine lv_aload_n hx hb dL_law_579 rfl (lv_at hl 2 rfl) ?_
  refine lcell (k := 1) (kv := 1) C (lv_at hl 3 rfl) (lv_at hl 0 rfl) hi hS (by decide) (by decide) dL_law_580 dL_law_581 dL_law_582 dL_law_583 dL_law_584 ?_
  obtain ⟨hp, hq⟩ := ls_input hI hn (xs (i + 1).toNatClampNeg)
  have hroom : 1 + 1 ≤ room_1.frames ∧ 8 + (rX11_input.2.2.1 + 11) + 100 * 1 ≤ room_1.locals := by decide
  refine W.eq (g2 := F0 m 585 ls ((([.inl (xs (i + 1).toNatClampNeg)] : List AvC).map (cvC ad)).reverse ++ .ref (ad a) :: [])) rfl (lwC (As := [.inl (xs (i + 1).toNatClampNeg)]) (rest := []) (P := P_X11_input) (Qm := (EvQ (1 + 1) 217 Q_X11_input)) S (v_X11_input l) hX11_input (lgoC hX11_input (hGL _ (by simp [lwL, rX11_input])) rfl (by decide) (by decide +kernel) hGC) hroom hw hS hA hK1 hEv h3 (by decide) (h2.ob (by decide)) hp rfl hl.1 (by decide) dL_law_585 ⟨?_, ?_⟩ (fun w τ H1 locs1 hq1 hw1 hS1 g1 => ?_))
  · show cnC σ + 200 + (cpC σ - cnC σ) ≤ 600000; have := h3.2.2.1.1; omega
  · show slC σ + 200000 + (spC σ - slC σ) ≤ 7302250; have := h3.2.2.1.2; omega
  obtain ⟨hI1, hE, hK, r, rfl, hans⟩ := hq w τ hq1.1 g1
  have e1 : cnC σ + 200 + (cnC τ - cnC σ) = cnC τ + 200 := by have := g1.1.1; omega
  have e2 : slC σ + 200000 + (slC τ - slC σ) = slC τ + 200000 := by have := g1.1.2; omega
  rw [e1, e2]
  refine W.eq (g2 := F0 m 588 ls [.int r]) rfl ?_
  refine lv_pop hx hb dL_law_588 rfl ?_
  refine lv_aload_n hx hb dL_law_589 rfl (lv_at hl 1 rfl) ?_
  refine lcell (k := 1) (kv := 1) C (lv_at hl 3 rfl) (lv_at hl 0 rfl) hi hS1 (by decide) (by decide) dL_law_590 dL_law_591 dL_law_592 dL_law_593 dL_law_594 ?_
  refine W.eq (g2 := F0 m 595 ls ((([.int (xs (i + 1).toNatClampNeg)] : List Value).map (rcv h ad2)).reverse ++ .ref h :: [])) rfl (lwR (As := [.int (xs (i + 1).toNatClampNeg)]) (rest := []) (P := Pi_input) (Qm := (fun As σ w τ => Qi_input As σ w τ ∧ F8 σ τ)) S (i8_input l) (row := _) rfl (lgoR (μ := 140) rfl (hGL _ (by simp [lwL])) hGR) (by decide) hw1 hS1 hA hK2 hR rfl hl.1 (Nat.le_of_ble_eq_true rfl) dL_law_595 ⟨?_, ?_⟩ (fun w2 ρ1 H2 locs2 hq2 hw2 hS2 => ?_))
  · show cnC τ + 200 ≤ 600000; have := hI1.2.2.1.2.2.1.1; have := hI1.2.2.2.1.1; omega
  · show slC τ + 200000 ≤ 7302250; have := hI1.2.2.1.2.2.1.2; have := hI1.2.2.2.1.2; omega
  obtain ⟨⟨hans2, hR1, hE2⟩, h8⟩ := hq2
  obtain ⟨r2, rfl, e8, e7⟩ := jl_input hR.1.2.2.2.2.1.1 hJ.2.1 hans hans2
  have e9 : r = r2 := Int32.toInt_inj.mp e8
  have hJ1 : JL a τ ρ1 := hJ.k hK (by rw [hE, hE2.1]; exact hJ.1) e7 (by rw [hE]; exact Int.le_refl _) hE2.2.1 hE2.2.2
  obtain ⟨_, _, _, hEx, _⟩ := id hq1.1
  have hQ1 : JqD a τ ρ1 := hQD.k h1.1 h2 (CkK.fx h1.1 h2 ((hq1.2.fr (M := [370, 900]) (by decide +kernel))) hEx rfl rfl) (hE2.2.2).2.1 (hE2.2.2).2.2 (fun _ q => q.f8 h8)
  refine W.eq (g2 := F0 m 598 ls [.int r2]) rfl ?_
  refine lv_pop hx hb dL_law_598 rfl ?_
  exact lv_goto (tgt := 671) hx hb dL_law_599 (by decide) (K τ ρ1 H2 locs2 hw2 hS2 hI1 hR1 ⟨hJ1, hQ1⟩)
set_option maxRecDepth 20000 in
theorem lk_drain (C : LcX p s m args c b L xs Ts A0 D ad kA cA) (hl : lv_has ls 4 [(3, .int i), (2, .ref h), (1, .ref (ad a)), (0, .ref b)]) (hi : 0 ≤ i.toInt ∧ i.toInt + 6 ≤ L) (hw : LwI A0 D ad kA σ h ad2 cA ρ H) (hS : va_S A0 s.heap H locs) (hI : IvL a n σ) (hn : n < 512) (hR : IV ρ) (hJ2 : JL a σ ρ ∧ JqD a σ ρ) (K : ∀ (σ1 : CsC) (ρ1 : RS) (H1 : Heap) (locs1 : List Loc), LwI A0 D ad kA σ1 h ad2 cA ρ1 H1 → va_S A0 s.heap H1 locs1 → IvL a (n + 1) σ1 → IV ρ1 → JL a σ1 ρ1 ∧ JqD a σ1 ρ1 → W p l e room_1 s m args below meth c H1 locs1 (cnC σ1 + 200) (slC σ1 + 200000) Q (F0 m 671 ls [])) : W p l e room_1 s m args below meth c H locs (cnC σ + 200) (slC σ + 200000) Q (F0 m 602 ls []) := by
  obtain ⟨S, -, hA, ⟨hK1, hK2, hEv⟩, hGC, hGR, hGL⟩ := id C
  obtain ⟨hx, hb, hml, hown, hts⟩ := id S
  obtain ⟨hJ, hQD⟩ := hJ2
  obtain ⟨h1, h2, h3, h4, h5, h6⟩ := id hI
  refine lv_aload_n hx hb dL_law_602 rfl (lv_at hl 2 rfl) ?_
  obtain ⟨hp, hq⟩ := ls_drain hI hn 
  have hroom : 1 + 1 ≤ room_1.frames ∧ 8 + (rX11_drain.2.2.1 + 11) + 100 * 1 ≤ room_1.locals := by decide
  refine W.eq (g2 := F0 m 603 ls ((([] : List AvC).map (cvC ad)).reverse ++ .ref (ad a) :: [])) rfl (lwC (As := []) (rest := []) (P := P_X11_drain) (Qm := (EvQ (1 + 1) 218 Q_X11_drain)) S (v_X11_drain l) hX11_drain (lgoC hX11_drain (hGL _ (by simp [lwL, rX11_drain])) rfl (by decide) (by decide +kernel) hGC) hroom hw hS hA hK1 hEv h3 (by decide) (h2.ob (by decide)) hp rfl hl.1 (by decide) dL_law_603 ⟨?_, ?_⟩ (fun w τ H1 locs1 hq1 hw1 hS1 g1 => ?_))
  · show cnC σ + 200 + (cpC σ - cnC σ) ≤ 600000; have := h3.2.2.1.1; omega
  · show slC σ + 200000 + (spC σ - slC σ) ≤ 7302250; have := h3.2.2.1.2; omega
  obtain ⟨hI1, hE, hK, r, rfl, hans⟩ := hq w τ hq1.1 g1
  have e1 : cnC σ + 200 + (cnC τ - cnC σ) = cnC τ + 200 := by have := g1.1.1; omega
  have e2 : slC σ + 200000 + (slC τ - slC σ) = slC τ + 200000 := by have := g1.1.2; omega
  rw [e1, e2]
  refine W.eq (g2 := F0 m 606 ls [.int r]) rfl ?_
  refine lv_pop hx hb dL_law_606 rfl ?_
  refine lv_aload_n hx hb dL_law_607 rfl (lv_at hl 1 rfl) ?_
  refine W.eq (g2 := F0 m 608 ls ((([] : List Value).map (rcv h ad2)).reverse ++ .ref h :: [])) rfl (lwR (As := []) (rest := []) (P := Pi_drain) (Qm := (fun As σ w τ => Qi_drain As σ w τ ∧ F8 σ τ)) S (i8_drain l) (row := _) rfl (lgoR (μ := 141) rfl (hGL _ (by simp [lwL])) hGR) (by decide) hw1 hS1 hA hK2 hR rfl hl.1 (Nat.le_of_ble_eq_true rfl) dL_law_608 ⟨?_, ?_⟩ (fun w2 ρ1 H2 locs2 hq2 hw2 hS2 => ?_))
  · show cnC τ + 200 ≤ 600000; have := hI1.2.2.1.2.2.1.1; have := hI1.2.2.2.1.1; omega
  · show slC τ + 200000 ≤ 7302250; have := hI1.2.2.1.2.2.1.2; have := hI1.2.2.2.1.2; omega
  obtain ⟨⟨hans2, hR1, hE2⟩, h8⟩ := hq2
  obtain ⟨r2, rfl, e8, e7⟩ := jl_drain hJ.2.1 hans hans2
  have e9 : r = r2 := Int32.toInt_inj.mp e8
  have hJ1 : JL a τ ρ1 := hJ.k hK (by rw [hE, hE2.1]; exact hJ.1) e7 (by rw [hE]; exact Int.le_refl _) hE2.2.1 hE2.2.2
  obtain ⟨_, _, _, hEx, _⟩ := id hq1.1
  have hQ1 : JqD a τ ρ1 := hQD.k h1.1 h2 (CkK.fx h1.1 h2 ((hq1.2.fr (M := [370]) (by decide +kernel))) hEx rfl rfl) (hE2.2.2).2.1 (hE2.2.2).2.2 (fun _ q => q.f8 h8)
  refine W.eq (g2 := F0 m 611 ls [.int r2]) rfl ?_
  refine lv_pop hx hb dL_law_611 rfl ?_
  exact lv_goto (tgt := 671) hx hb dL_law_612 (by decide) (K τ ρ1 H2 locs2 hw2 hS2 hI1 hR1 ⟨hJ1, hQ1⟩)
set_option maxRecDepth 20000 in
theorem lk_run (C : LcX p s m args c b L xs Ts A0 D ad kA cA) (hl : lv_has ls 4 [(3, .int i), (2, .ref h), (1, .ref (ad a)), (0, .ref b)]) (hi : 0 ≤ i.toInt ∧ i.toInt + 6 ≤ L) (hw : LwI A0 D ad kA σ h ad2 cA ρ H) (hS : va_S A0 s.heap H locs) (hI : IvL a n σ) (hn : n < 512) (hR : IV ρ) (hJ2 : JL a σ ρ ∧ JqD a σ ρ) (K : ∀ (σ1 : CsC) (ρ1 : RS) (H1 : Heap) (locs1 : List Loc), LwI A0 D ad kA σ1 h ad2 cA ρ1 H1 → va_S A0 s.heap H1 locs1 → IvL a (n + 1) σ1 → IV ρ1 → JL a σ1 ρ1 ∧ JqD a σ1 ρ1 → W p l e room_1 s m args below meth c H1 locs1 (cnC σ1 + 200) (slC σ1 + 200000) Q (F0 m 671 ls [])) : W p l e room_1 s m args below meth c H locs (cnC σ + 200) (slC σ + 200000) Q (F0 m 615 ls []) := by
  obtain ⟨S, -, hA, ⟨hK1, hK2, hEv⟩, hGC, hGR, hGL⟩ := id C
  obtain ⟨hx, hb, hml, hown, hts⟩ := id S
  obtain ⟨hJ, hQD⟩ := hJ2
  obtain ⟨h1, h2, h3, h4, h5, h6⟩ := id hI
  refine lv_aload_n hx hb dL_law_615 rfl (lv_at hl 2 rfl) ?_
  refine lcell (k := 1) (kv := 1) C (lv_at hl 3 rfl) (lv_at hl 0 rfl) hi hS (by decide) (by decide) dL_law_616 dL_law_617 dL_law_618 dL_law_619 dL_law_620 ?_
  refine lcell (k := 2) (kv := 2) C (lv_at hl 3 rfl) (lv_at hl 0 rfl) hi hS (by decide) (by decide) dL_law_621 dL_law_622 dL_law_623 dL_law_624 dL_law_625 ?_
  obtain ⟨hp, hq⟩ := ls_run hI hn (xs (i + 1).toNatClampNeg) (xs (i + 2).toNatClampNeg)
  have hroom : 16 + 1 ≤ room_1.frames ∧ 8 + (rX11_run.2.2.1 + 11) + 100 * 16 ≤ room_1.locals := by decide
  refine W.eq (g2 := F0 m 626 ls ((([.inl (xs (i + 1).toNatClampNeg), .inl (xs (i + 2).toNatClampNeg)] : List AvC).map (cvC ad)).reverse ++ .ref (ad a) :: [])) rfl (lwC (As := [.inl (xs (i + 1).toNatClampNeg), .inl (xs (i + 2).toNatClampNeg)]) (rest := []) (P := P_X11_run) (Qm := (EvQ (16 + 1) 219 Q_X11_run)) S (v_X11_run l) hX11_run (lgoC hX11_run (hGL _ (by simp [lwL, rX11_run])) rfl (by decide) (by decide +kernel) hGC) hroom hw hS hA hK1 hEv h3 (by decide) (h2.ob (by decide)) hp rfl hl.1 (by decide) dL_law_626 ⟨?_, ?_⟩ (fun w τ H1 locs1 hq1 hw1 hS1 g1 => ?_))
  · show cnC σ + 200 + (cpC σ - cnC σ) ≤ 600000; have := h3.2.2.1.1; omega
  · show slC σ + 200000 + (spC σ - slC σ) ≤ 7302250; have := h3.2.2.1.2; omega
  obtain ⟨hI1, hE, hK, r, rfl⟩ := hq w τ hq1.1 g1
  have e1 : cnC σ + 200 + (cnC τ - cnC σ) = cnC τ + 200 := by have := g1.1.1; omega
  have e2 : slC σ + 200000 + (slC τ - slC σ) = slC τ + 200000 := by have := g1.1.2; omega
  rw [e1, e2]
  refine W.eq (g2 := F0 m 629 ls [.int r]) rfl ?_
  refine lv_pop hx hb dL_law_629 rfl ?_
  refine lv_aload_n hx hb dL_law_630 rfl (lv_at hl 1 rfl) ?_
  refine lcell (k := 1) (kv := 1) C (lv_at hl 3 rfl) (lv_at hl 0 rfl) hi hS1 (by decide) (by decide) dL_law_631 dL_law_632 dL_law_633 dL_law_634 dL_law_635 ?_
  refine lcell (k := 2) (kv := 2) C (lv_at hl 3 rfl) (lv_at hl 0 rfl) hi hS1 (by decide) (by decide) dL_law_636 dL_law_637 dL_law_638 dL_law_639 dL_law_640 ?_
  refine W.eq (g2 := F0 m 641 ls ((([.int (xs (i + 1).toNatClampNeg), .int (xs (i + 2).toNatClampNeg)] : List Value).map (rcv h ad2)).reverse ++ .ref h :: [])) rfl (lwR (As := [.int (xs (i + 1).toNatClampNeg), .int (xs (i + 2).toNatClampNeg)]) (rest := []) (P := Pi_run) (Qm := (fun As σ w τ => Qi_run As σ w τ ∧ (τ = σ ∨ HX σ τ))) S (i8_run l) (row := _) rfl (lgoR (μ := 151) rfl (hGL _ (by simp [lwL])) hGR) (by decide) hw1 hS1 hA hK2 hR rfl hl.1 (Nat.le_of_ble_eq_true rfl) dL_law_641 ⟨?_, ?_⟩ (fun w2 ρ1 H2 locs2 hq2 hw2 hS2 => ?_))
  · show cnC τ + 200 ≤ 600000; have := hI1.2.2.1.2.2.1.1; have := hI1.2.2.2.1.1; omega
  · show slC τ + 200000 ≤ 7302250; have := hI1.2.2.1.2.2.1.2; have := hI1.2.2.2.1.2; omega
  obtain ⟨⟨hans2, hR1, hE2⟩, h8⟩ := hq2
  obtain ⟨r2, rfl⟩ := hans2
  have hJ1 : JL a τ ρ1 := hJ.k hK (by rw [hE.1, hE2.1]; exact hJ.1) (by rw [hE.2, hE2.2.1]; exact hJ.2.1) (by rw [hE.1]; exact Int.le_refl _) hE2.2.2.1 hE2.2.2.2
  obtain ⟨_, _, _, hEx⟩ := id hq1.1
  have hQ1 : JqD a τ ρ1 := hQD.k h1.1 h2 (CkK.fx h1.1 h2 ((hq1.2.fr (M := [159, 160, 161, 162, 163, 164, 165, 166, 167, 168, 169, 170, 372, 900, 901, 902]) (by decide +kernel))) hEx rfl rfl) (hE2.2.2.2).2.1 (hE2.2.2.2).2.2 (fun _ q => h8.elim (fun e => by rw [e]; exact q) (fun e => q.hx hR.1.1.1 e))
  refine W.eq (g2 := F0 m 644 ls [.int r2]) rfl ?_
  refine lv_pop hx hb dL_law_644 rfl ?_
  exact lv_goto (tgt := 671) hx hb dL_law_645 (by decide) (K τ ρ1 H2 locs2 hw2 hS2 hI1 hR1 ⟨hJ1, hQ1⟩)
set_option maxRecDepth 20000 in
theorem lk_ran (C : LcX p s m args c b L xs Ts A0 D ad kA cA) (hl : lv_has ls 4 [(3, .int i), (2, .ref h), (1, .ref (ad a)), (0, .ref b)]) (hi : 0 ≤ i.toInt ∧ i.toInt + 6 ≤ L) (hw : LwI A0 D ad kA σ h ad2 cA ρ H) (hS : va_S A0 s.heap H locs) (hI : IvL a n σ) (hn : n < 512) (hR : IV ρ) (hJ2 : JL a σ ρ ∧ JqD a σ ρ) (K : ∀ (σ1 : CsC) (ρ1 : RS) (H1 : Heap) (locs1 : List Loc), LwI A0 D ad kA σ1 h ad2 cA ρ1 H1 → va_S A0 s.heap H1 locs1 → IvL a (n + 1) σ1 → IV ρ1 → JL a σ1 ρ1 ∧ JqD a σ1 ρ1 → W p l e room_1 s m args below meth c H1 locs1 (cnC σ1 + 200) (slC σ1 + 200000) Q (F0 m 671 ls [])) : W p l e room_1 s m args below meth c H locs (cnC σ + 200) (slC σ + 200000) Q (F0 m 648 ls []) := by
  obtain ⟨S, -, hA, ⟨hK1, hK2, hEv⟩, hGC, hGR, hGL⟩ := id C
  obtain ⟨hx, hb, hml, hown, hts⟩ := id S
  obtain ⟨hJ, hQD⟩ := hJ2
  obtain ⟨h1, h2, h3, h4, h5, h6⟩ := id hI
  refine lv_aload_n hx hb dL_law_648 rfl (lv_at hl 2 rfl) ?_
  refine lcell (k := 1) (kv := 1) C (lv_at hl 3 rfl) (lv_at hl 0 rfl) hi hS (by decide) (by decide) dL_law_649 dL_law_650 dL_law_651 dL_law_652 dL_law_653 ?_
  obtain ⟨hp, hq⟩ := ls_ran hI hn (xs (i + 1).toNatClampNeg)
  have hroom : 2 + 1 ≤ room_1.frames ∧ 8 + (rX11_ran.2.2.1 + 11) + 100 * 2 ≤ room_1.locals := by decide
  refine W.eq (g2 := F0 m 654 ls ((([.inl (xs (i + 1).toNatClampNeg)] : List AvC).map (cvC ad)).reverse ++ .ref (ad a) :: [])) rfl (lwC (As := [.inl (xs (i + 1).toNatClampNeg)]) (rest := []) (P := P_X11_ran) (Qm := Q_X11_ran) S (m_X11_ran l) hX11_ran (lgoC hX11_ran (hGL _ (by simp [lwL, rX11_ran])) rfl (by decide) (by decide +kernel) hGC) hroom hw hS hA hK1 hEv h3 (by decide) (h2.ob (by decide)) hp rfl hl.1 (by decide) dL_law_654 ⟨?_, ?_⟩ (fun w τ H1 locs1 hq1 hw1 hS1 g1 => ?_))
  · show cnC σ + 200 + (cpC σ - cnC σ) ≤ 600000; have := h3.2.2.1.1; omega
  · show slC σ + 200000 + (spC σ - slC σ) ≤ 7302250; have := h3.2.2.1.2; omega
  obtain ⟨hI1, hE, hK, r, rfl⟩ := hq w τ hq1 g1
  have e1 : cnC σ + 200 + (cnC τ - cnC σ) = cnC τ + 200 := by have := g1.1.1; omega
  have e2 : slC σ + 200000 + (slC τ - slC σ) = slC τ + 200000 := by have := g1.1.2; omega
  rw [e1, e2]
  refine W.eq (g2 := F0 m 657 ls [.long r]) rfl ?_
  refine lv_pop2_2 hx hb dL_law_657 rfl ?_
  refine lv_aload_n hx hb dL_law_658 rfl (lv_at hl 1 rfl) ?_
  refine lcell (k := 1) (kv := 1) C (lv_at hl 3 rfl) (lv_at hl 0 rfl) hi hS1 (by decide) (by decide) dL_law_659 dL_law_660 dL_law_661 dL_law_662 dL_law_663 ?_
  refine W.eq (g2 := F0 m 664 ls ((([.int (xs (i + 1).toNatClampNeg)] : List Value).map (rcv h ad2)).reverse ++ .ref h :: [])) rfl (lwR (As := [.int (xs (i + 1).toNatClampNeg)]) (rest := []) (P := Pi_ran) (Qm := (fun As σ w τ => Qi_ran As σ w τ ∧ F8 σ τ)) S (i8_ran l) (row := _) rfl (lgoR (μ := 160) rfl (hGL _ (by simp [lwL])) hGR) (by decide) hw1 hS1 hA hK2 hR rfl hl.1 (Nat.le_of_ble_eq_true rfl) dL_law_664 ⟨?_, ?_⟩ (fun w2 ρ1 H2 locs2 hq2 hw2 hS2 => ?_))
  · show cnC τ + 200 ≤ 600000; have := hI1.2.2.1.2.2.1.1; have := hI1.2.2.2.1.1; omega
  · show slC τ + 200000 ≤ 7302250; have := hI1.2.2.1.2.2.1.2; have := hI1.2.2.2.1.2; omega
  obtain ⟨⟨hans2, hR1, hE2⟩, h8⟩ := hq2
  obtain ⟨r2, rfl⟩ := hans2
  have hJ1 : JL a τ ρ1 := hJ.k hK (by rw [hE.1, hE2.1]; exact hJ.1) (by rw [hE.2, hE2.2.1]; exact hJ.2.1) (by rw [hE.1]; exact Int.le_refl _) hE2.2.2.1 hE2.2.2.2
  obtain ⟨_, _, hst⟩ := id hq1
  have hQ1 : JqD a τ ρ1 := hQD.k h1.1 h2 (by rw [← hst]; exact CkK.rf) (hE2.2.2.2).2.1 (hE2.2.2.2).2.2 (fun _ q => q.f8 h8)
  refine W.eq (g2 := F0 m 667 ls [.long r2]) rfl ?_
  refine lv_pop2_2 hx hb dL_law_667 rfl ?_
  exact lv_goto (tgt := 671) hx hb dL_law_668 (by decide) (K τ ρ1 H2 locs2 hw2 hS2 hI1 hR1 ⟨hJ1, hQ1⟩)
end LWK
