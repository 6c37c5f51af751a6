/-! methods: between them, their params, their rows -/
def MZ (N : Int → Int) (σ : RS) (z : ZS) : Prop := PcM id σ z ∧ nT (gI σ 49) = tnM z ∧ EnZ (fun v => (aI σ 48 v).toInt) [] z.2.2.2.2.1 (nT (gI σ 42)) ∧ (TlZ σ z.1 ∧ NmZ N σ) ∧ (0 ≤ gI σ 49 ∧ gI σ 49 ≤ 600) ∧ KtR σ z ∧ 0 ≤ gI σ 18
/-- k: the number that its params name -/
def PZ (N : Int → Int) (σ : RS) (z : ZS) (k : Nat) : Prop := PcM id σ z ∧ (nT (gI σ 49) = tnM z ∧ k < tnM z) ∧ z.2.2.2.1.2 = -1 ∧ (∀ p ∈ z.2.2.2.1.1, 0 ≤ p.1 ∧ p.1 < (nT (gI σ 42) : Int) ∧ (aI σ 47 p.1.toNat).toInt = (k : Int)) ∧ EnZ (fun v => (aI σ 48 v).toInt) z.2.2.2.1.1 z.2.2.2.2.1 (nT (gI σ 42)) ∧ (TlZ σ z.1 ∧ NmZ N σ) ∧ (0 ≤ gI σ 49 ∧ gI σ 49 ≤ 600) ∧ KtR σ z
theorem MZ.s1 {N : Int → Int} {σ τ : RS} {z z' : ZS} (h : MZ N σ z) (e : S1 14 σ τ) (l : aL τ = aL σ) (e2 : z'.2 = z.2) (ek : zK z'.1 = zK z.1) : MZ N τ z' := by
  obtain ⟨h1, h2, h3, ⟨h4, h5⟩, h6, h7, h8⟩ := h
  have w : WeR σ τ := WeR.s1 e (by decide) l
  refine ⟨(h1.fr (e.1 18 (by decide)) (fun k _ _ _ _ => by rw [e.2])).z (by rw [e2]), ?_, ?_, ⟨h4.w w ek, h5.w w⟩, by rw [w.1.2.2.1]; exact h6, h7.s1 e e2, by rw [e.1 18 (by decide)]; exact h8⟩
  · rw [w.1.2.2.1]
    unfold tnM
    rw [e2]
    exact h2
  · rw [e.2, w.1.2.1, e2]
    exact h3
theorem PZ.s1 {N : Int → Int} {σ τ : RS} {z z' : ZS} {k : Nat} (h : PZ N σ z k) (e : S1 14 σ τ) (l : aL τ = aL σ) (e2 : z'.2 = z.2) (ek : zK z'.1 = zK z.1) : PZ N τ z' k := by
  obtain ⟨h1, ⟨h2, h2'⟩, h3, h4, h5, ⟨h6, h7⟩, h8, h9⟩ := h
  have w : WeR σ τ := WeR.s1 e (by decide) l
  have et : tnM z' = tnM z := by unfold tnM; rw [e2]
  refine ⟨(h1.fr (e.1 18 (by decide)) (fun k _ _ _ _ => by rw [e.2])).z (by rw [e2]), ⟨by rw [w.1.2.2.1, et]; exact h2, by rw [et]; exact h2'⟩, by rw [e2]; exact h3, ?_, ?_, ⟨h6.w w ek, h7.w w⟩, by rw [w.1.2.2.1]; exact h8, h9.s1 e e2⟩
  · rw [e2, w.1.2.1, e.2]
    exact h4
  · rw [e.2, w.1.2.1, e2]
    exact h5
/-- a method's NAME -/
theorem MZ.me {N : Int → Int} {σ τ : RS} {z : ZS} {ty t : Int32} {ty' : Int} (h : MZ N σ z) (e : ThZ (mzR σ ty) t τ) (l : aL τ = aL σ) : PZ N τ (me0M ty' z) (tnM z) := by
  obtain ⟨h1, h2, h3, ⟨h4, h5⟩, h6, h7, h8⟩ := h
  have e1 := e.1
  have g : ∀ k, k ≠ 49 → k ≠ 62 → gI τ k = gI σ k := fun k q1 q2 => (e1.1 k q1).trans (by show gI (sI _ 62 0) k = _; rw [gI_sI, nb_ne q2]; rfl)
  have r : ∀ k, k < 37 ∨ (40 < k ∧ k < 50) → aI τ k = aI σ k := fun k hk => (e1.2.2.2.1 k (by omega)).trans ((aI_ne (by omega)).trans ((aI_ne (by omega)).trans ((aI_ne (by omega)).trans ((aI_ne (by omega)).trans rfl))))
  have en : nT (gI τ 49) = nT (gI σ 49) + 1 := (th49 e1).trans (by rw [show gI (mzR σ ty) 49 = gI σ 49 from rfl])
  have pc : PcM id τ z := h1.fr (g 18 (by decide) (by decide)) (fun k q1 q2 _ _ => by rw [r k (by omega)])
  have kt0 : KtR (mzR σ ty) z := h7.z rfl rfl (fun a q1 q2 => (aI_ne (by omega)).trans ((aI_ne (by omega)).trans ((aI_ne (by omega)).trans ((aI_ne (by omega)).trans rfl))))
  have kt : KtR τ (thM z) := kt0.th e h2 h1.2 h8
  refine ⟨pc.z rfl, ⟨by rw [en, h2]; rfl, Nat.lt_succ_self _⟩, rfl, fun p hp => (by cases hp), ?_, ⟨?_, ?_⟩, ?_, kt.gh rfl rfl⟩
  · show EnZ _ [] z.2.2.2.2.1 _
    rw [r 48 (by omega), g 42 (by decide) (by decide)]
    exact h3
  · intro i q1 q2 q3
    rw [g 2 (by decide) (by decide)] at q1
    rw [r 3 (by omega)] at q3
    rw [r 10 (by omega)]
    exact h4 i q1 q2 q3
  · intro i j
    rw [g 2 (by decide) (by decide), r 3 (by omega), r 8 (by omega), r 5 (by omega), l]
    exact h5 i j
  · have q : gI τ 49 = gI σ 49 + 1 := e1.2.1
    have b : 0 ≤ gI σ 49 ∧ gI σ 49 < 600 := e1.2.2.2.2
    rw [q]
    lia
/-- a param -/
theorem PZ.va {N : Int → Int} {σ0 σ τ : RS} {z : ZS} {k : Nat} {ty f kk : Int32} {ty' f' : Int} (h : PZ N σ0 z k) (hσ : σ = sA σ0 39 (aI σ 39)) (e : VaR σ τ ty f) (e7 : aI τ 47 = upd (aI σ 47) (nT (gI σ 42)) kk) (e8 : aI τ 48 = upd (aI σ 48) (nT (gI σ 42)) (-2)) (l : aL τ = aL σ) (hv : (zVs z.1).length = nT (gI σ0 42)) (hk : kk.toInt = (k : Int)) : PZ N τ (padY ty' (dcM N ty' f' 1 z).1, (dcM N ty' f' 1 z).2) k := by
  obtain ⟨h1, ⟨h2, h2'⟩, h3, h4, h5, ⟨h6, h7⟩, h8, h9⟩ := h
  obtain ⟨p1, p2, p3, p4, p5⟩ := e
  have gs : ∀ j, gI σ j = gI σ0 j := fun j => by rw [hσ]; rfl
  have rs : ∀ j, j ≠ 39 → aI σ j = aI σ0 j := fun j hj => by rw [hσ]; exact aI_ne hj
  have ls : aL σ = aL σ0 := by rw [hσ]; rfl
  have en := nT_add p3.1 (show gI σ 42 < 2147483647 by lia)
  rw [gs 42] at en p2 e7 e8
  have g : ∀ j, j ≠ 14 → j ≠ 42 → gI τ j = gI σ0 j := fun j q1 q2 => (p1 j q1 q2).trans (gs j)
  have r : ∀ j, (j < 43 ∨ 48 < j) → j ≠ 39 → aI τ j = aI σ0 j := fun j hj q => (p5 j hj).trans (rs j q)
  have ek : zK (padY ty' (dcM N ty' f' 1 z).1) = zK z.1 := kK_dcl (ty := ty') (f := f') (h := 1) (s := z.1)
  have pc : PcM id τ z := h1.fr (g 18 (by decide) (by decide)) (fun j q1 q2 _ _ => by rw [r j (by omega) (by omega)])
  refine ⟨pc.z rfl, ⟨by rw [g 49 (by decide) (by decide)]; exact h2, h2'⟩, h3, ?_, ?_, ⟨?_, ?_⟩, by rw [g 49 (by decide) (by decide)]; exact h8, h9.z rfl rfl (fun a q1 q2 => r a (by omega) (by omega))⟩
  · intro p hp
    have hp : p ∈ ((((zVs z.1).length : Int), zAt z.1) :: z.2.2.2.1.1) := hp
    rw [p2, en, e7, rs 47 (by decide)]
    rcases List.mem_cons.mp hp with rfl | hp
    · refine ⟨by show (0 : Int) ≤ ((zVs z.1).length : Int); omega, by show ((zVs z.1).length : Int) < _; omega, ?_⟩
      show (upd (aI σ0 47) (nT (gI σ0 42)) kk ((zVs z.1).length : Int).toNat).toInt = _
      rw [show ((zVs z.1).length : Int).toNat = nT (gI σ0 42) by omega, upd_eq]
      exact hk
    · have q := h4 p hp
      refine ⟨q.1, by omega, ?_⟩
      rw [upd_ne (by omega)]
      exact q.2.2
  · show EnZ _ ((((zVs z.1).length : Int), zAt z.1) :: z.2.2.2.1.1) z.2.2.2.2.1 _
    rw [hv, p2, en]
    exact EnZ.va (e := fun v => (aI σ0 48 v).toInt) h5 (fun v hv => by show (aI τ 48 v).toInt = (aI σ0 48 v).toInt; rw [e8, rs 48 (by decide), upd_ne (by omega)]) (by show (aI τ 48 _).toInt = -2; rw [e8, upd_eq]; rfl)
  · intro i q1 q2 q3
    rw [g 2 (by decide) (by decide)] at q1
    rw [r 3 (by omega) (by omega)] at q3
    rw [r 10 (by omega) (by omega)]
    show (_ ∧ zK (padY ty' (dcM N ty' f' 1 z).1) i = _) ∨ (_ ∧ zK (padY ty' (dcM N ty' f' 1 z).1) i = _)
    rw [ek]
    exact h6 i q1 q2 q3
  · intro i j
    rw [g 2 (by decide) (by decide), r 3 (by omega) (by omega), r 8 (by omega) (by omega), r 5 (by omega) (by omega), l, ls]
    exact h7 i j
/-- its row begins -/
theorem PZ.bz {N : Int → Int} {σ : RS} {z : ZS} {k : Nat} {lv : Int} {x : List Int} {f : Nat → Int32} {v : Int32} (h : PZ N σ z k) (h62 : gI σ 62 = 0) : BZ N (sI (sA σ 41 f) 36 v) (arM (snM z) (beM 92 lv z)) [] [(0, snM z, (0, k), x, [])] := by
  obtain ⟨h1, ⟨h2, h2'⟩, h3, h4, h5, ⟨h6, h7⟩, h8, h9⟩ := h
  have ow : owF ((0, snM z, (0, k), x, []) : FrZ) = snM z := if_neg (show ¬ ((9 : Int) ≤ 0 ∧ (0 : Int) ≤ 11) by decide)
  have R : reS (beM 92 lv z) (snM z) = ((92, zAt z.1, lv, z.2.2.2.1.2), z.2.2.2.1.1, (-1, -1, -1, -1, -1, -1, (tnM z : Int))) := if_pos rfl
  have R' : reS (arM (snM z) (beM 92 lv z)) (snM z) = ((92, zAt z.1, lv, z.2.2.2.1.2), z.2.2.2.1.1, (-1, -1, -1, -1, -1, -1, (tnM z : Int))) := R
  have pc : PcM id (sI (sA σ 41 f) 36 v) z := (h1.a (k := 41) (by decide)).i (by decide)
  refine ⟨⟨pc.z rfl, ⟨h2, by show nT (gI σ 62) = 0; rw [h62]; rfl⟩, ⟨trivial, trivial, -1, 0, Nat.zero_le _, rfl⟩, ⟨h2', by show (0 : Int) ≤ 12; decide, trivial⟩, ?_, ?_, h5, fun p hp => (h4 p hp).2.1⟩, ⟨?_, h7, fun b hb => (by cases hb), fun b hb => (by cases hb), fun b hb h0 => ?_⟩, h8⟩
  · refine ⟨by rw [ow]; rfl, by rw [ow]; exact Nat.le_refl _, by rw [ow]; exact Nat.lt_succ_self _, by show (0 : Int) ≤ 0 ∧ (0 : Int) ≤ 12; decide, ?_, fun q => absurd q (show ¬ ((9 : Int) ≤ 0 ∧ (0 : Int) ≤ 11) by decide), fun q => absurd rfl q, fun q => absurd (show (0 : Int) = 7 from q) (by decide), fun q => absurd (show (0 : Int) = 7 from q) (by decide), ?_⟩
    · show kjS (arM (snM z) (beM 92 lv z)) (snM z) = 92
      unfold kjS
      rw [R']
    · show paS (arM (snM z) (beM 92 lv z)) (snM z) = -1
      unfold paS
      rw [R']
      exact h3
  · show ∃ seg, z.2.2.2.1.1 = seg ++ [] ∧ (∀ p ∈ seg, 0 ≤ p.1 ∧ (aI σ 47 p.1.toNat).toInt = nuF (0, snM z, (0, k), x, [])) ∧ ([] : List (Int × Int)) = []
    exact ⟨z.2.2.2.1.1, (List.append_nil _).symm, fun p hp => ⟨(h4 p hp).1, (h4 p hp).2.2⟩, rfl⟩
  · intro i q1 q2 q3
    exact h6 i q1 q2 q3
  · rcases List.mem_cons.mp hb with rfl | hb
    · exact absurd rfl h0
    · cases hb
/-- a method is read -/
theorem BZ.mz {N : Int → Int} {σ : RS} {z : ZS} (h : BZ N σ z [] []) (hK : KtR σ z) (hl : 0 < z.2.1.length) : MZ N σ z := by
  obtain ⟨⟨g1, ⟨g2, g3⟩, g4, g5, g6, g7, g8, g9⟩, ⟨h1, h2, h3⟩, h4⟩ := h
  have e : z.2.2.2.1.1 = [] := g7
  have p := g1.2
  refine ⟨g1, g2, ?_, ⟨h1, h2⟩, h4, hK, ?_⟩
  · rw [e] at g8
    exact g8
  · have p : (gI σ 18).toInt.toNat = z.2.1.length := p
    refine Int32.le_iff_toInt_le.mpr ?_
    show (0 : Int) ≤ _
    omega
theorem pa1_1M {N : Int → Int} {i : Nat} {z : ZS} (h : codY z.1 = 71) : pa1M N i z = pa2M N i (tyvY (accY z.1)) 1 (typM (accM z)) := if_pos h
theorem pa1_0M {N : Int → Int} {i : Nat} {z : ZS} (h : ¬ codY z.1 = 71) : pa1M N i z = pa2M N i (tyvY z.1) 0 (typM z) := if_neg h
theorem pa2_M {N : Int → Int} {i : Nat} {ty f : Int} {z : ZS} (h : i < 6) : pa2M N i ty f z = (padY ty (dcM N ty f 1 z).1, (dcM N ty f 1 z).2) := if_pos h
theorem pal_yM {N : Int → Int} {i : Nat} {z : ZS} (hi : i < 7) (h : codY (pa1M N i z).1 = 5) : palM N (7 - i) i z = palM N (7 - (i + 1)) (i + 1) (accM (pa1M N i z)) := by
  obtain ⟨f, hf⟩ : ∃ f, 7 - i = f + 1 := ⟨6 - i, by omega⟩
  rw [hf, palM, if_pos h, show 7 - (i + 1) = f by omega]
theorem pal_nM {N : Int → Int} {i : Nat} {z : ZS} (hi : i < 7) (h : ¬ codY (pa1M N i z).1 = 5) : palM N (7 - i) i z = pa1M N i z := by
  obtain ⟨f, hf⟩ : ∃ f, 7 - i = f + 1 := ⟨6 - i, by omega⟩
  rw [hf, palM, if_neg h]
theorem pa3_yM {N : Int → Int} {z : ZS} (h : codY z.1 = 1) : pa3M N z = z := if_pos h
theorem pa3_nM {N : Int → Int} {z : ZS} (h : ¬ codY z.1 = 1) : pa3M N z = palM N 7 0 z := if_neg h
/-- behind a method's params -/
def mbM (N : Int → Int) (m t : Int) (z : ZS) : ZS := coM 54 m 0 t (boM (rwM N 20) 21 [] z)
theorem lf_mb {N : Int → Int} {m t : Int} {z : ZS} : (mbM N m t z).1 = bdY z.1 := (lf_bo lf_rw).trans rfl
theorem mb_pc {N : Int → Int} {m t : Int} {z : ZS} {k : Nat} : mbM N m t z = pcM N [(0, snM z, (0, k), [-1, -1, -1] ++ [0, m, t], [])] 20 (xpM 2 (arM (snM z) (beM 92 (lvN 21) z))) := by
  rw [pc_newM (by decide) (by decide), ce_0]
  rfl
theorem me_yM {N : Int → Int} {z : ZS} (h1 : (50 ≤ codY z.1 ∧ codY z.1 ≤ 54) ∨ codY z.1 = 55) (h2 : codY (accY z.1) = 80) (h3 : ¬ 10 ≤ (zMs (accY z.1)).length) (h4 : zFt (accY z.1) = 0) : meM N z = mbM N (zMs (accY z.1)).length (zAt (accY z.1)) (xpM 1 (pa3M N (xpM 0 (accM (me0M (codY z.1 - 50) (accM z)))))) := by
  have e1 : me1M z = z := if_pos h1
  have e2 : me2M (accM z) = accM z := by
    unfold me2M
    rw [if_pos (show codY (accM z).1 = 80 from h2), if_neg (show ¬ 10 ≤ (zMs (accM z).1).length from h3)]
  unfold meM
  rw [e1, e2]
  exact if_pos h4
