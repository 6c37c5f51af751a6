/-! for -/
/-- hidden from omega -/
def Hid (P : Prop) : Prop := P
theorem zf_en {j c : Nat} {z : ZS} (h : zFt (enM j c z).1 = 0) : zFt z.1 = 0 := h
theorem zf_xp {c : Int} {z : ZS} (h : zFt (xpM c z).1 = 0) : zFt z.1 = 0 := (gd_xp (c := c) z.1).z h
theorem zf_ac {z : ZS} (h : zFt (accM z).1 = 0) : zFt z.1 = 0 := (gd_acc z.1).z h
theorem zf_co {op a b t : Int} {z : ZS} (h : zFt (coM op a b t z).1 = 0) : zFt z.1 = 0 := h
theorem zf_cx {op a b t : Int} {z : ZS} (h : zFt (cxM op a b t z).1 = 0) : zFt z.1 = 0 := h
theorem zf_se {j : Nat} {f : SrZ → SrZ} {z : ZS} (h : zFt (seM j f z).1 = 0) : zFt z.1 = 0 := h
theorem ka_e {N : Int → Int} {n : Nat} {z : ZS} : (eM N n z).2.2.2 = z.2.2.2 := congrArg (fun q : (Nat × (Nat → SrZ)) × (List (Int × Int) × Int) × ((Nat → Int) × (Nat → Int) × Nat) => q.2) (ks_e z)
theorem ka_va2 {N : Int → Int} {j n : Nat} {f v t : Int} {z : ZS} : (va2M N j n f v t z).2.2.2 = z.2.2.2 := by
  unfold va2M
  split
  · exact ka_e (z := xpM 8 (coM 22 v 2 t z))
  · rfl
theorem ka_va {N : Int → Int} {j n : Nat} {z : ZS} : (vaM N j n z).2.2.2.1.2 = z.2.2.2.1.2 := by
  unfold vaM
  split
  · unfold va1M
    rw [ka_va2]
    rfl
  · unfold va1M
    rw [ka_va2]
    rfl
theorem ka_fxl {N : Int → Int} {n : Nat} : ∀ (f j : Nat) (z : ZS), (fxlM N n f j z).2.2.2 = z.2.2.2 := by
  intro f
  induction f with
  | zero => intro j z; rfl
  | succ f ih =>
    intro j z
    rw [fxlM]
    split
    · rw [ih]
      exact ka_e (z := beM 94 (lvN n) (accM z))
    · rfl
theorem ka_fx {N : Int → Int} {n : Nat} {z : ZS} : (fxM N n z).2.2.2 = z.2.2.2 := by
  unfold fxM
  rw [ka_fxl]
  exact ka_e (z := beM 94 (lvN n) z)
theorem ka_fo1 {N : Int → Int} {j n : Nat} {z : ZS} : (fo1M N j n z).2.2.2.1.2 = z.2.2.2.1.2 := by
  unfold fo1M
  split
  · exact ka_va (z := beM 93 (lvN n) z)
  split
  · rfl
  · show (fxM N n z).2.2.2.1.2 = _
    rw [ka_fx]
theorem ka_fo2 {N : Int → Int} {j k n : Nat} {z : ZS} : (fo2M N j k n z).2.2.2 = z.2.2.2 := by
  unfold fo2M
  split
  · rfl
  · exact ka_e
theorem ka_fo3 {N : Int → Int} {j n : Nat} {z : ZS} : (fo3M N j n z).2.2.2 = z.2.2.2 := by
  unfold fo3M
  split
  · rfl
  · exact ka_fx
theorem vb_0 {k : Int} {n : Nat} {z : ZS} : vbM 0 k n z = beM k (lvN n) z := if_neg (by decide)
theorem fo_eq {j jb : Nat} {v t a p : Int} {out : List (Int × Int)} {X : ZS} (hv : v = (jb : Int)) (h : paS X j = p) (h2 : knS X j = out) : arM p (veM t out (seM j (sBd v) (arM a X))) = veM t (knS X j) (bdM j jb X) := by
  subst hv
  subst h2
  unfold bdM unM
  rw [pa_se, h]
  rfl
/-- what stands between the parts of a for -/
def FoR (kk : Int) (N : Int → Int) (E A B V : Nat → Nat) (n : Nat) (z : ZS) (σ υ : CsC) (Y W U : Nat → Nat) (v : ZS) (so : Option Nat) (sl : Int64) : Prop := (ZC N E Y W U υ v ∧ FzC (cnC σ) (xnM z) E A Y B W V U z v σ υ) ∧ (W (snM z) = cnC σ ∧ snM z < snM v) ∧ ((reS v (snM z)).1 = (kk, zAt z.1, lvN n, z.2.2.2.1.2) ∧ (reS v (snM z)).2.1 = z.2.2.2.1.1) ∧ (so = opA B z.2.2.2.1.2 ∧ KbC sl z.2.2.2.1.1) ∧ cnC σ ≤ cnC υ
set_option maxHeartbeats 4000000 in
theorem pz_readSimple (y : (Int → Int) × (Nat → Nat) × (Nat → Nat) × (Nat → Nat) × (Nat → Nat) × ZS × Nat) : PbC KX7_readSimple [(125, TrP, EqC 125), (142, TrP, EqC 142), (128, TrP, EqC 128), (164, TrP, EqC 164), (129, TrP, EqC 129), (234, TrP, EqC 234), (144, TrP, EqC 144)] [(125, Uz_code), (142, Uz_begin), (128, Uz_accept), (164, Uz_readExp), (129, Uz_expect), (144, Uz_readBlock)] (fun As σ => Pz_readSimple y As σ ∧ cnC σ ≤ 1000000 ∧ ∃ w τ, uqC quL 150 As σ w τ) (Qz_readSimple y) := by
  obtain ⟨N, E, A, B, V, z, n⟩ := y
  rintro As σ ⟨⟨p1, rfl, hZ, hd, hn, hc, hft⟩, hcn, _, _, hQ⟩ K hB hW n_
  have hH : HI0 σ ∧ TyC σ (E 0) 8 := hQ
  have hat := hZ.at0 hH
  have e2 : Hid (codY z.1 = 2 → smM N n (stM N (n - 1)) (rwM N (n - 1)) z = blM (rwM N (n - 1)) n z) := fun q => by
    unfold smM
    rw [if_neg (by omega), if_neg (by omega), if_neg (by omega), if_neg (by omega), if_neg (by omega), if_neg (by omega), if_pos q]
  have e4 : Hid (codY z.1 = 4 → smM N n (stM N (n - 1)) (rwM N (n - 1)) z = emM n z) := fun q => by
    unfold smM
    rw [if_neg (by omega), if_neg (by omega), if_neg (by omega), if_neg (by omega), if_neg (by omega), if_neg (by omega), if_neg (by omega), if_pos q]
  have eJ : Hid ((codY z.1 = 64 ∨ codY z.1 = 65) → smM N n (stM N (n - 1)) (rwM N (n - 1)) z = juM N (codY z.1) n z) := fun q => by
    unfold smM
    rw [if_neg (by omega), if_neg (by omega), if_neg (by omega), if_neg (by omega), if_neg (by omega), if_neg (by omega), if_neg (by omega), if_neg (by omega), if_pos q]
  have eG : Hid ((codY z.1 = 66 ∨ codY z.1 = 67) → smM N n (stM N (n - 1)) (rwM N (n - 1)) z = giM N (codY z.1) n z) := fun q => by
    unfold smM
    rw [if_neg (by omega), if_neg (by omega), if_neg (by omega), if_neg (by omega), if_neg (by omega), if_neg (by omega), if_neg (by omega), if_neg (by omega), if_neg (by omega), if_pos q]
  have g1 : Hid (codY z.1 = 67 → smM N n (stM N (n - 1)) (rwM N (n - 1)) z = enM (snM z) (cnM z) (xpM 4 (cxM (codY z.1 - 18) 1 ((cnM (seM (snM z) (sEx ((xnM (eM N n (accM (bgM (codY z.1) n z))) : Int) - 1)) (eM N n (accM (bgM (codY z.1) n z)))) : Int) - 1) (zAt z.1) (seM (snM z) (sEx ((xnM (eM N n (accM (bgM (codY z.1) n z))) : Int) - 1)) (eM N n (accM (bgM (codY z.1) n z))))))) := fun q => by
    rw [eG (Or.inr q)]
    unfold giM
    dsimp only
    rw [if_pos (Or.inl q), if_neg (show ¬ codY z.1 = 66 by omega)]
    rfl
  have g2 : Hid (codY z.1 = 66 → ¬ codY (accM (bgM (codY z.1) n z)).1 = 4 → smM N n (stM N (n - 1)) (rwM N (n - 1)) z = enM (snM z) (cnM z) (xpM 4 (cxM (codY z.1 - 18) 1 ((cnM (seM (snM z) (sEx ((xnM (eM N n (accM (bgM (codY z.1) n z))) : Int) - 1)) (eM N n (accM (bgM (codY z.1) n z)))) : Int) - 1) (zAt z.1) (seM (snM z) (sLk (((zMs (seM (snM z) (sEx ((xnM (eM N n (accM (bgM (codY z.1) n z))) : Int) - 1)) (eM N n (accM (bgM (codY z.1) n z)))).1).length : Int) - 1)) (seM (snM z) (sEx ((xnM (eM N n (accM (bgM (codY z.1) n z))) : Int) - 1)) (eM N n (accM (bgM (codY z.1) n z)))))))) := fun q q2 => by
    rw [eG (Or.inl q)]
    unfold giM
    dsimp only
    rw [if_pos (Or.inr q2), if_pos q]
    rfl
  have g3 : Hid (codY z.1 = 66 → codY (accM (bgM (codY z.1) n z)).1 = 4 → smM N n (stM N (n - 1)) (rwM N (n - 1)) z = enM (snM z) (cnM z) (xpM 4 (coM (codY z.1 - 18) 0 (-2) (zAt z.1) (seM (snM z) (sLk (((zMs (accM (bgM (codY z.1) n z)).1).length : Int) - 1)) (accM (bgM (codY z.1) n z)))))) := fun q q2 => by
    rw [eG (Or.inl q)]
    unfold giM
    dsimp only
    rw [if_neg (by omega)]
  have j1 : Hid ((codY z.1 = 64 ∨ codY z.1 = 65) → codY (accM (bgM (codY z.1) n z)).1 = 80 → smM N n (stM N (n - 1)) (rwM N (n - 1)) z = enM (snM z) (cnM z) (xpM 4 (accM (coM (codY z.1 - 18) (tqM N (decide (codY z.1 = 65)) (zAt (accM (bgM (codY z.1) n z)).1) (accM (bgM (codY z.1) n z))) 0 (zAt (accM (bgM (codY z.1) n z)).1) (seM (snM z) (sLk (zAt (accM (bgM (codY z.1) n z)).1)) (accM (bgM (codY z.1) n z))))))) := fun q q2 => by
    rw [eJ q]
    unfold juM
    dsimp only
    rw [if_pos q2]
  have j2 : Hid ((codY z.1 = 64 ∨ codY z.1 = 65) → ¬ codY (accM (bgM (codY z.1) n z)).1 = 80 → smM N n (stM N (n - 1)) (rwM N (n - 1)) z = enM (snM z) (cnM z) (xpM 4 (coM (codY z.1 - 18) (tqM N (decide (codY z.1 = 65)) (-1) (accM (bgM (codY z.1) n z))) 0 (zAt z.1) (accM (bgM (codY z.1) n z))))) := fun q q2 => by
    rw [eJ q]
    unfold juM
    dsimp only
    rw [if_neg q2]
  have hzx : Hid ((codY z.1 = 67 ∨ (codY z.1 = 66 ∧ ¬ codY (accM (bgM (codY z.1) n z)).1 = 4)) → zFt (eM N n (accM (bgM (codY z.1) n z))).1 = 0) := fun q => by
    rcases q with q | q
    · rw [g1 q] at hft
      exact zf_se (zf_cx (zf_xp (zf_en hft)))
    · rw [g2 q.1 q.2] at hft
      exact zf_se (zf_se (zf_cx (zf_xp (zf_en hft))))
  have hza : Hid (¬ codY z.1 = 2 → zFt (accM (bgM (codY z.1) n z)).1 = 0) := fun q9 => by
    by_cases q4 : codY z.1 = 4
    · rw [e4 q4] at hft
      exact (show zFt (accY z.1) = 0 from zf_en hft)
    by_cases qj : codY z.1 = 64 ∨ codY z.1 = 65
    · by_cases q8 : codY (accM (bgM (codY z.1) n z)).1 = 80
      · rw [j1 qj q8] at hft
        exact zf_se (zf_co (zf_ac (zf_xp (zf_en hft))))
      · rw [j2 qj q8] at hft
        exact zf_co (zf_xp (zf_en hft))
    by_cases q7 : codY z.1 = 67
    · have h9 := hzx (Or.inl q7)
      rw [lf_e] at h9
      exact (gd_e _).z h9
    have q6 : codY z.1 = 66 := by
      rcases hc with h | h | h | h | h | h
      · exact absurd h q9
      · exact absurd h q4
      · exact absurd (Or.inl h) qj
      · exact absurd (Or.inr h) qj
      · exact h
      · exact absurd h q7
    by_cases q8 : codY (accM (bgM (codY z.1) n z)).1 = 4
    · rw [g3 q6 q8] at hft
      exact zf_se (zf_co (zf_xp (zf_en hft)))
    · have h9 := hzx (Or.inr ⟨q6, q8⟩)
      rw [lf_e] at h9
      exact (gd_e _).z h9
  change K n_ 0 [(0, .inr (.inr (some (E 0)))), (1, .inl p1)] [] σ
  refine hB _ _ _ _ _ (fun m51 hm51 => ?_)
  dsimp only [ucgo, ucwp, ucsC, uqC, uoC, ctC, rfd, KX7_readSimple, KX7_readSimple_0, KX7_readSimple_18, KX7_readSimple_26, KX7_readSimple_38, KX7_readSimple_40, KX7_readSimple_49, KX7_readSimple_58, KX7_readSimple_66, KX7_readSimple_75, KX7_readSimple_84, KX7_readSimple_103, KX7_readSimple_112, KX7_readSimple_121, KX7_readSimple_148, lkC, s1C, s2C, dlC, kyC, Nat.beq, Nat.ble, rcd, rno, rsw, Nat.reduceAdd, Nat.reduceBEq, Nat.reduceDiv, List.drop, List.take, List.reverse, List.reverseAux, Int.toNat, Option.toList, List.append, List.cons_append, List.nil_append, zg211, zg240, zg241, zg242, zg270, zg303]
  intro w52 τ52 o52 q52
  obtain ⟨c52, rfl, hc52, rfl⟩ := q52 (N, E, A, B, V, z) ⟨rfl, hZ⟩
  try dsimp only [Option.toList, List.cons_append, List.nil_append, s1C, s2C, dlC, kyC, Nat.beq, lkC, rcd, rno, rsw]
  intro w53 τ53 o53 q53
  obtain ⟨rfl, hZ53, hf53⟩ := q53 (N, E, A, B, V, z, (codY z.1), (lvN n)) ⟨_, _, rfl, hZ, by omega, by unfold lvN; omega⟩
  have hF53 := FzC.tr (FzC.rf (n := cnC σ) (m := xnM z) (E := E) (A := A) (B := B) (V := V) (z := z) (σ := σ)) (FzC.mo hf53 (Nat.le_refl (cnC σ)) ((FzC.rf (n := cnC σ) (m := xnM z) (E := E) (A := A) (B := B) (V := V) (z := z) (σ := σ))).2.2.1.1.1)
  have hle53 : cnC σ ≤ cnC τ53 := Nat.le_trans (Nat.le_refl (cnC σ)) (hf53).1
  have hb53 : (upA B (snM z) (cnC σ)) (snM z) = cnC σ := upA_e
  have hl53 : snM z < snM (beM (codY z.1) (lvN n) z) := Nat.lt_succ_self _
  have ho53 : cnC σ ≤ cnC σ := (Nat.le_refl (cnC σ))
  have hh53 : (reS (beM (codY z.1) (lvN n) z) (snM z)).1 = ((codY z.1), zAt z.1, (lvN n), z.2.2.2.1.2) ∧ (reS (beM (codY z.1) (lvN n) z) (snM z)).2.1 = z.2.2.2.1.1 := by rw [beM_e]; exact ⟨rfl, rfl⟩
  try dsimp only [Option.toList, List.cons_append, List.nil_append, s1C, s2C, dlC, kyC, Nat.beq, lkC, rcd, rno, rsw]
  intro a54 e54 ob54
  cases e54
  have f55 : (fIC τ53 (cnC σ) 270).toInt = (codY z.1) := by
    have q := (hZ53.2.2.2.2.2.1.1 (snM z) hl53).1.1.1
    rw [hb53, hh53.1] at q
    exact q
  have c56 : (Int32.ofInt 2).toInt = 2 := by decide
  refine ⟨fun h57 => ?_, fun h57 => ?_⟩
  · have g57 := (neI (x := (fIC τ53 (cnC σ) 270)) (y := (Int32.ofInt 2)) h57 : ¬ ((fIC τ53 (cnC σ) 270) : Int32).toInt = ((Int32.ofInt 2) : Int32).toInt)
    have hZ58 : ZC N E A (upA B (snM z) (cnC σ)) V τ53 (bgM (codY z.1) n z) := ZC.co hZ53
    have hF58 : FzC (cnC σ) (xnM z) E A A B (upA B (snM z) (cnC σ)) V V z (bgM (codY z.1) n z) σ τ53 := FzC.co hF53
    refine hB _ _ _ _ _ (fun m59 hm59 => ?_)
    dsimp only [ucgo, ucwp, ucsC, uqC, uoC, ctC, rfd, KX7_readSimple, KX7_readSimple_0, KX7_readSimple_18, KX7_readSimple_26, KX7_readSimple_38, KX7_readSimple_40, KX7_readSimple_49, KX7_readSimple_58, KX7_readSimple_66, KX7_readSimple_75, KX7_readSimple_84, KX7_readSimple_103, KX7_readSimple_112, KX7_readSimple_121, KX7_readSimple_148, lkC, s1C, s2C, dlC, kyC, Nat.beq, Nat.ble, rcd, rno, rsw, Nat.reduceAdd, Nat.reduceBEq, Nat.reduceDiv, List.drop, List.take, List.reverse, List.reverseAux, Int.toNat, Option.toList, List.append, List.cons_append, List.nil_append, zg211, zg240, zg241, zg242, zg270, zg303]
    intro w60 τ60 o60 q60
    obtain ⟨rfl, hZ60, hf60⟩ := q60 (N, E, A, (upA B (snM z) (cnC σ)), V, (bgM (codY z.1) n z)) ⟨rfl, hZ58, (hza (by omega))⟩
    have hF60 := FzC.tr hF58 (FzC.mo hf60 hle53 (hF58).2.2.1.1.1)
    have hle60 : cnC σ ≤ cnC τ60 := Nat.le_trans hle53 (hf60).1
    have hb60_J : (upA B (snM z) (cnC σ)) (snM z) = (cnC σ) := (hf60.2.2.2.1.1.2 (snM z) hl53).1.trans hb53
    have hl60_J : snM z < snM (accM (bgM (codY z.1) n z)) := Nat.lt_of_lt_of_le hl53 hf60.2.2.2.1.1.1
    have hh60_J : (reS (accM (bgM (codY z.1) n z)) (snM z)).1 = ((codY z.1), zAt z.1, (lvN n), z.2.2.2.1.2) ∧ (reS (accM (bgM (codY z.1) n z)) (snM z)).2.1 = z.2.2.2.1.1 := ⟨(hf60.2.2.2.1.1.2 (snM z) hl53).2.1.trans hh53.1, (hf60.2.2.2.1.1.2 (snM z) hl53).2.2.trans hh53.2⟩
    try dsimp only [Option.toList, List.cons_append, List.nil_append, s1C, s2C, dlC, kyC, Nat.beq, lkC, rcd, rno, rsw]
    intro a61 e61 ob61
    cases e61
    have f62 : (fIC τ60 (cnC σ) 270).toInt = (codY z.1) := by
      have q := (hZ60.2.2.2.2.2.1.1 (snM z) hl60_J).1.1.1
      rw [hb60_J, hh60_J.1] at q
      exact q
    have c63 : (Int32.ofInt 4).toInt = 4 := by decide
    refine ⟨fun h64 => ?_, fun h64 => ?_⟩
    · have g64 := (neI (x := (fIC τ60 (cnC σ) 270)) (y := (Int32.ofInt 4)) h64 : ¬ ((fIC τ60 (cnC σ) 270) : Int32).toInt = ((Int32.ofInt 4) : Int32).toInt)
      refine hB _ _ _ _ _ (fun m65 hm65 => ?_)
      dsimp only [ucgo, ucwp, ucsC, uqC, uoC, ctC, rfd, KX7_readSimple, KX7_readSimple_0, KX7_readSimple_18, KX7_readSimple_26, KX7_readSimple_38, KX7_readSimple_40, KX7_readSimple_49, KX7_readSimple_58, KX7_readSimple_66, KX7_readSimple_75, KX7_readSimple_84, KX7_readSimple_103, KX7_readSimple_112, KX7_readSimple_121, KX7_readSimple_148, lkC, s1C, s2C, dlC, kyC, Nat.beq, Nat.ble, rcd, rno, rsw, Nat.reduceAdd, Nat.reduceBEq, Nat.reduceDiv, List.drop, List.take, List.reverse, List.reverseAux, Int.toNat, Option.toList, List.append, List.cons_append, List.nil_append, zg211, zg240, zg241, zg242, zg270, zg303]
      intro a66 e66 ob66
      cases e66
      have f67 : (fIC τ60 (cnC σ) 270).toInt = (codY z.1) := by
        have q := (hZ60.2.2.2.2.2.1.1 (snM z) hl60_J).1.1.1
        rw [hb60_J, hh60_J.1] at q
        exact q
      have c68 : (Int32.ofInt 67).toInt = 67 := by decide
      refine ⟨fun h69 => ?_, fun h69 => ?_⟩
      · have g69 := (eqI (x := (fIC τ60 (cnC σ) 270)) (y := (Int32.ofInt 67)) h69 : ((fIC τ60 (cnC σ) 270) : Int32).toInt = ((Int32.ofInt 67) : Int32).toInt)
        refine hB _ _ _ _ _ (fun m70 hm70 => ?_)
        dsimp only [ucgo, ucwp, ucsC, uqC, uoC, ctC, rfd, KX7_readSimple, KX7_readSimple_0, KX7_readSimple_18, KX7_readSimple_26, KX7_readSimple_38, KX7_readSimple_40, KX7_readSimple_49, KX7_readSimple_58, KX7_readSimple_66, KX7_readSimple_75, KX7_readSimple_84, KX7_readSimple_103, KX7_readSimple_112, KX7_readSimple_121, KX7_readSimple_148, lkC, s1C, s2C, dlC, kyC, Nat.beq, Nat.ble, rcd, rno, rsw, Nat.reduceAdd, Nat.reduceBEq, Nat.reduceDiv, List.drop, List.take, List.reverse, List.reverseAux, Int.toNat, Option.toList, List.append, List.cons_append, List.nil_append, zg211, zg240, zg241, zg242, zg270, zg303]
        intro w71 τ71 o71 q71
        obtain ⟨A71, rfl, hZ71, hf71, ht71, hx71⟩ : ExQ N E A (upA B (snM z) (cnC σ)) V (accM (bgM (codY z.1) n z)) (eM N n (accM (bgM (codY z.1) n z))) τ60 w71 τ71 := q71 (N, E, A, (upA B (snM z) (cnC σ)), V, (accM (bgM (codY z.1) n z)), n) ⟨_, rfl, hZ60, by omega, (hzx (by omega))⟩
        have hF71 := FzC.tr hF60 (FzC.mo hf71 hle60 (hF60).2.2.1.1.1)
        have hle71 : cnC σ ≤ cnC τ71 := Nat.le_trans hle60 (hf71).1
        have hb71_J : (upA B (snM z) (cnC σ)) (snM z) = (cnC σ) := (hf71.2.2.2.1.1.2 (snM z) hl60_J).1.trans hb60_J
        have hl71_J : snM z < snM (eM N n (accM (bgM (codY z.1) n z))) := Nat.lt_of_lt_of_le hl60_J hf71.2.2.2.1.1.1
        have hh71_J : (reS (eM N n (accM (bgM (codY z.1) n z))) (snM z)).1 = ((codY z.1), zAt z.1, (lvN n), z.2.2.2.1.2) ∧ (reS (eM N n (accM (bgM (codY z.1) n z))) (snM z)).2.1 = z.2.2.2.1.1 := ⟨(hf71.2.2.2.1.1.2 (snM z) hl60_J).2.1.trans hh60_J.1, (hf71.2.2.2.1.1.2 (snM z) hl60_J).2.2.trans hh60_J.2⟩
        try dsimp only [Option.toList, List.cons_append, List.nil_append, s1C, s2C, dlC, kyC, Nat.beq, lkC, rcd, rno, rsw]
        intro a72 e72 ob72 fk72
        cases e72
        clear fk72 ob72
        generalize hs72 : pRC τ71 (cnC σ) 279 (some (A71 (xnM (eM N n (accM (bgM (codY z.1) n z))) - 1))) = s72
        have hx72 : SfE (cnC σ) τ71 s72 := by rw [← hs72]; exact SfE.pR (by decide)
        have hZ72 : ZC N E A71 (upA B (snM z) (cnC σ)) V s72 (seM (snM z) (sEx ((xnM (eM N n (accM (bgM (codY z.1) n z))) : Int) - 1)) (eM N n (accM (bgM (codY z.1) n z)))) := by rw [← hs72]; exact ZC.s279 hZ71 hl71_J hb71_J (opA_p (by omega)).symm (by omega)
        have hF72 : FzC (cnC σ) (xnM z) E A A71 B (upA B (snM z) (cnC σ)) V V z (seM (snM z) (sEx ((xnM (eM N n (accM (bgM (codY z.1) n z))) : Int) - 1)) (eM N n (accM (bgM (codY z.1) n z)))) σ s72 := FzC.se hF71 ho53 hx72 (fun _ => ⟨rfl, rfl⟩)
        have hle72 : cnC σ ≤ cnC s72 := by rw [hx72.2.2]; exact hle71
        have hh72_J : (reS (seM (snM z) (sEx ((xnM (eM N n (accM (bgM (codY z.1) n z))) : Int) - 1)) (eM N n (accM (bgM (codY z.1) n z)))) (snM z)).1 = ((codY z.1), zAt z.1, (lvN n), z.2.2.2.1.2) ∧ (reS (seM (snM z) (sEx ((xnM (eM N n (accM (bgM (codY z.1) n z))) : Int) - 1)) (eM N n (accM (bgM (codY z.1) n z)))) (snM z)).2.1 = z.2.2.2.1.1 := by rw [seM_e]; exact hh71_J
        refine hB _ _ _ _ _ (fun m73 hm73 => ?_)
        dsimp only [ucgo, ucwp, ucsC, uqC, uoC, ctC, rfd, KX7_readSimple, KX7_readSimple_0, KX7_readSimple_18, KX7_readSimple_26, KX7_readSimple_38, KX7_readSimple_40, KX7_readSimple_49, KX7_readSimple_58, KX7_readSimple_66, KX7_readSimple_75, KX7_readSimple_84, KX7_readSimple_103, KX7_readSimple_112, KX7_readSimple_121, KX7_readSimple_148, lkC, s1C, s2C, dlC, kyC, Nat.beq, Nat.ble, rcd, rno, rsw, Nat.reduceAdd, Nat.reduceBEq, Nat.reduceDiv, List.drop, List.take, List.reverse, List.reverseAux, Int.toNat, Option.toList, List.append, List.cons_append, List.nil_append, zg211, zg240, zg241, zg242, zg270, zg303]
        intro a74 e74 ob74
        cases e74
        have f75 : (fIC s72 (cnC σ) 270).toInt = (codY z.1) := by
          have q := (hZ72.2.2.2.2.2.1.1 (snM z) (show snM z < snM (seM (snM z) (sEx ((xnM (eM N n (accM (bgM (codY z.1) n z))) : Int) - 1)) (eM N n (accM (bgM (codY z.1) n z)))) from hl71_J)).1.1.1
          rw [hb71_J, hh72_J.1] at q
          exact q
        have c76 : (Int32.ofInt 66).toInt = 66 := by decide
        refine ⟨fun h77 => ?_, fun h77 => ?_⟩
        · have g77 := (neI (x := (fIC s72 (cnC σ) 270)) (y := (Int32.ofInt 66)) h77 : ¬ ((fIC s72 (cnC σ) 270) : Int32).toInt = ((Int32.ofInt 66) : Int32).toInt)
          refine hB _ _ _ _ _ (fun m78 hm78 => ?_)
          dsimp only [ucgo, ucwp, ucsC, uqC, uoC, ctC, rfd, KX7_readSimple, KX7_readSimple_0, KX7_readSimple_18, KX7_readSimple_26, KX7_readSimple_38, KX7_readSimple_40, KX7_readSimple_49, KX7_readSimple_58, KX7_readSimple_66, KX7_readSimple_75, KX7_readSimple_84, KX7_readSimple_103, KX7_readSimple_112, KX7_readSimple_121, KX7_readSimple_148, lkC, s1C, s2C, dlC, kyC, Nat.beq, Nat.ble, rcd, rno, rsw, Nat.reduceAdd, Nat.reduceBEq, Nat.reduceDiv, List.drop, List.take, List.reverse, List.reverseAux, Int.toNat, Option.toList, List.append, List.cons_append, List.nil_append, zg211, zg240, zg241, zg242, zg270, zg303]
          intro a79 e79 ob79
          cases e79
          have f80 : (fIC s72 (cnC σ) 270).toInt = (codY z.1) := by
            have q := (hZ72.2.2.2.2.2.1.1 (snM z) (show snM z < snM (seM (snM z) (sEx ((xnM (eM N n (accM (bgM (codY z.1) n z))) : Int) - 1)) (eM N n (accM (bgM (codY z.1) n z)))) from hl71_J)).1.1.1
            rw [hb71_J, hh72_J.1] at q
            exact q
          have c81 : (Int32.ofInt 67).toInt = 67 := by decide
          refine ⟨fun h82 => ?_, fun h82 => ?_⟩
          · have g82 := (eqI (x := (fIC s72 (cnC σ) 270)) (y := (Int32.ofInt 67)) h82 : ((fIC s72 (cnC σ) 270) : Int32).toInt = ((Int32.ofInt 67) : Int32).toInt)
            refine hB _ _ _ _ _ (fun m83 hm83 => ?_)
            dsimp only [ucgo, ucwp, ucsC, uqC, uoC, ctC, rfd, KX7_readSimple, KX7_readSimple_0, KX7_readSimple_18, KX7_readSimple_26, KX7_readSimple_38, KX7_readSimple_40, KX7_readSimple_49, KX7_readSimple_58, KX7_readSimple_66, KX7_readSimple_75, KX7_readSimple_84, KX7_readSimple_103, KX7_readSimple_112, KX7_readSimple_121, KX7_readSimple_148, lkC, s1C, s2C, dlC, kyC, Nat.beq, Nat.ble, rcd, rno, rsw, Nat.reduceAdd, Nat.reduceBEq, Nat.reduceDiv, List.drop, List.take, List.reverse, List.reverseAux, Int.toNat, Option.toList, List.append, List.cons_append, List.nil_append, zg211, zg240, zg241, zg242, zg270, zg303]
            have c84 : (Int32.ofInt 4).toInt = 4 := by decide
            intro w85 τ85 o85 q85
            have hZ86 : ZC N E A71 (upA B (snM z) (cnC σ)) V s72 (cxM (codY z.1 - 18) 1 ((cnM (seM (snM z) (sEx ((xnM (eM N n (accM (bgM (codY z.1) n z))) : Int) - 1)) (eM N n (accM (bgM (codY z.1) n z)))) : Int) - 1) (zAt z.1) (seM (snM z) (sEx ((xnM (eM N n (accM (bgM (codY z.1) n z))) : Int) - 1)) (eM N n (accM (bgM (codY z.1) n z))))) := ZC.co hZ72
            have hF86 : FzC (cnC σ) (xnM z) E A A71 B (upA B (snM z) (cnC σ)) V V z (cxM (codY z.1 - 18) 1 ((cnM (seM (snM z) (sEx ((xnM (eM N n (accM (bgM (codY z.1) n z))) : Int) - 1)) (eM N n (accM (bgM (codY z.1) n z)))) : Int) - 1) (zAt z.1) (seM (snM z) (sEx ((xnM (eM N n (accM (bgM (codY z.1) n z))) : Int) - 1)) (eM N n (accM (bgM (codY z.1) n z))))) σ s72 := FzC.co hF72
            obtain ⟨rfl, hZ85, hf85⟩ := q85 (N, E, A71, (upA B (snM z) (cnC σ)), V, (cxM (codY z.1 - 18) 1 ((cnM (seM (snM z) (sEx ((xnM (eM N n (accM (bgM (codY z.1) n z))) : Int) - 1)) (eM N n (accM (bgM (codY z.1) n z)))) : Int) - 1) (zAt z.1) (seM (snM z) (sEx ((xnM (eM N n (accM (bgM (codY z.1) n z))) : Int) - 1)) (eM N n (accM (bgM (codY z.1) n z))))), 4) ⟨_, rfl, hZ86, by omega, (by rw [g1 (by omega)] at hft; exact hft)⟩
            have hF85 := FzC.tr hF86 (FzC.mo hf85 hle72 (hF86).2.2.1.1.1)
            have hle85 : cnC σ ≤ cnC τ85 := Nat.le_trans hle72 (hf85).1
            have hb85_J : (upA B (snM z) (cnC σ)) (snM z) = (cnC σ) := (hf85.2.2.2.1.1.2 (snM z) (show snM z < snM (seM (snM z) (sEx ((xnM (eM N n (accM (bgM (codY z.1) n z))) : Int) - 1)) (eM N n (accM (bgM (codY z.1) n z)))) from hl71_J)).1.trans hb71_J
            have hl85_J : snM z < snM (xpM 4 (cxM (codY z.1 - 18) 1 ((cnM (seM (snM z) (sEx ((xnM (eM N n (accM (bgM (codY z.1) n z))) : Int) - 1)) (eM N n (accM (bgM (codY z.1) n z)))) : Int) - 1) (zAt z.1) (seM (snM z) (sEx ((xnM (eM N n (accM (bgM (codY z.1) n z))) : Int) - 1)) (eM N n (accM (bgM (codY z.1) n z)))))) := Nat.lt_of_lt_of_le (show snM z < snM (seM (snM z) (sEx ((xnM (eM N n (accM (bgM (codY z.1) n z))) : Int) - 1)) (eM N n (accM (bgM (codY z.1) n z)))) from hl71_J) hf85.2.2.2.1.1.1
            have hh85_J : (reS (xpM 4 (cxM (codY z.1 - 18) 1 ((cnM (seM (snM z) (sEx ((xnM (eM N n (accM (bgM (codY z.1) n z))) : Int) - 1)) (eM N n (accM (bgM (codY z.1) n z)))) : Int) - 1) (zAt z.1) (seM (snM z) (sEx ((xnM (eM N n (accM (bgM (codY z.1) n z))) : Int) - 1)) (eM N n (accM (bgM (codY z.1) n z)))))) (snM z)).1 = ((codY z.1), zAt z.1, (lvN n), z.2.2.2.1.2) ∧ (reS (xpM 4 (cxM (codY z.1 - 18) 1 ((cnM (seM (snM z) (sEx ((xnM (eM N n (accM (bgM (codY z.1) n z))) : Int) - 1)) (eM N n (accM (bgM (codY z.1) n z)))) : Int) - 1) (zAt z.1) (seM (snM z) (sEx ((xnM (eM N n (accM (bgM (codY z.1) n z))) : Int) - 1)) (eM N n (accM (bgM (codY z.1) n z)))))) (snM z)).2.1 = z.2.2.2.1.1 := ⟨(hf85.2.2.2.1.1.2 (snM z) (show snM z < snM (seM (snM z) (sEx ((xnM (eM N n (accM (bgM (codY z.1) n z))) : Int) - 1)) (eM N n (accM (bgM (codY z.1) n z)))) from hl71_J)).2.1.trans hh72_J.1, (hf85.2.2.2.1.1.2 (snM z) (show snM z < snM (seM (snM z) (sEx ((xnM (eM N n (accM (bgM (codY z.1) n z))) : Int) - 1)) (eM N n (accM (bgM (codY z.1) n z)))) from hl71_J)).2.2.trans hh72_J.2⟩
            try dsimp only [Option.toList, List.cons_append, List.nil_append, s1C, s2C, dlC, kyC, Nat.beq, lkC, rcd, rno, rsw]
            try dsimp only [Qz_readSimple]
            rw [g1 (by omega)]
            exact ⟨_, _, _, by rw [hb85_J], ZC.co hZ85, FzC.co hF85, hl85_J⟩
          · have g82 := (neI (x := (fIC s72 (cnC σ) 270)) (y := (Int32.ofInt 67)) h82 : ¬ ((fIC s72 (cnC σ) 270) : Int32).toInt = ((Int32.ofInt 67) : Int32).toInt)
            exfalso
            omega
        · have g77 := (eqI (x := (fIC s72 (cnC σ) 270)) (y := (Int32.ofInt 66)) h77 : ((fIC s72 (cnC σ) 270) : Int32).toInt = ((Int32.ofInt 66) : Int32).toInt)
          exfalso
          omega
      · have g69 := (neI (x := (fIC τ60 (cnC σ) 270)) (y := (Int32.ofInt 67)) h69 : ¬ ((fIC τ60 (cnC σ) 270) : Int32).toInt = ((Int32.ofInt 67) : Int32).toInt)
        refine hB _ _ _ _ _ (fun m87 hm87 => ?_)
        dsimp only [ucgo, ucwp, ucsC, uqC, uoC, ctC, rfd, KX7_readSimple, KX7_readSimple_0, KX7_readSimple_18, KX7_readSimple_26, KX7_readSimple_38, KX7_readSimple_40, KX7_readSimple_49, KX7_readSimple_58, KX7_readSimple_66, KX7_readSimple_75, KX7_readSimple_84, KX7_readSimple_103, KX7_readSimple_112, KX7_readSimple_121, KX7_readSimple_148, lkC, s1C, s2C, dlC, kyC, Nat.beq, Nat.ble, rcd, rno, rsw, Nat.reduceAdd, Nat.reduceBEq, Nat.reduceDiv, List.drop, List.take, List.reverse, List.reverseAux, Int.toNat, Option.toList, List.append, List.cons_append, List.nil_append, zg211, zg240, zg241, zg242, zg270, zg303]
        intro a88 e88 ob88
        cases e88
        have f89 : (fIC τ60 (cnC σ) 270).toInt = (codY z.1) := by
          have q := (hZ60.2.2.2.2.2.1.1 (snM z) hl60_J).1.1.1
          rw [hb60_J, hh60_J.1] at q
          exact q
        have c90 : (Int32.ofInt 66).toInt = 66 := by decide
        refine ⟨fun h91 => ?_, fun h91 => ?_⟩
        · have g91 := (neI (x := (fIC τ60 (cnC σ) 270)) (y := (Int32.ofInt 66)) h91 : ¬ ((fIC τ60 (cnC σ) 270) : Int32).toInt = ((Int32.ofInt 66) : Int32).toInt)
          refine hB _ _ _ _ _ (fun m92 hm92 => ?_)
          dsimp only [ucgo, ucwp, ucsC, uqC, uoC, ctC, rfd, KX7_readSimple, KX7_readSimple_0, KX7_readSimple_18, KX7_readSimple_26, KX7_readSimple_38, KX7_readSimple_40, KX7_readSimple_49, KX7_readSimple_58, KX7_readSimple_66, KX7_readSimple_75, KX7_readSimple_84, KX7_readSimple_103, KX7_readSimple_112, KX7_readSimple_121, KX7_readSimple_148, lkC, s1C, s2C, dlC, kyC, Nat.beq, Nat.ble, rcd, rno, rsw, Nat.reduceAdd, Nat.reduceBEq, Nat.reduceDiv, List.drop, List.take, List.reverse, List.reverseAux, Int.toNat, Option.toList, List.append, List.cons_append, List.nil_append, zg211, zg240, zg241, zg242, zg270, zg303]
          intro a93 e93 ob93
          cases e93
          have f94 : (fIC τ60 (cnC σ) 270).toInt = (codY z.1) := by
            have q := (hZ60.2.2.2.2.2.1.1 (snM z) hl60_J).1.1.1
            rw [hb60_J, hh60_J.1] at q
            exact q
          have c95 : (Int32.ofInt 66).toInt = 66 := by decide
          refine ⟨fun h96 => ?_, fun h96 => ?_⟩
          · have g96 := (neI (x := (fIC τ60 (cnC σ) 270)) (y := (Int32.ofInt 66)) h96 : ¬ ((fIC τ60 (cnC σ) 270) : Int32).toInt = ((Int32.ofInt 66) : Int32).toInt)
            refine hB _ _ _ _ _ (fun m97 hm97 => ?_)
            dsimp only [ucgo, ucwp, ucsC, uqC, uoC, ctC, rfd, KX7_readSimple, KX7_readSimple_0, KX7_readSimple_18, KX7_readSimple_26, KX7_readSimple_38, KX7_readSimple_40, KX7_readSimple_49, KX7_readSimple_58, KX7_readSimple_66, KX7_readSimple_75, KX7_readSimple_84, KX7_readSimple_103, KX7_readSimple_112, KX7_readSimple_121, KX7_readSimple_148, lkC, s1C, s2C, dlC, kyC, Nat.beq, Nat.ble, rcd, rno, rsw, Nat.reduceAdd, Nat.reduceBEq, Nat.reduceDiv, List.drop, List.take, List.reverse, List.reverseAux, Int.toNat, Option.toList, List.append, List.cons_append, List.nil_append, zg211, zg240, zg241, zg242, zg270, zg303]
            intro a98 e98 ob98
            cases e98
            have f99 : (fIC τ60 (cnC σ) 270).toInt = (codY z.1) := by
              have q := (hZ60.2.2.2.2.2.1.1 (snM z) hl60_J).1.1.1
              rw [hb60_J, hh60_J.1] at q
              exact q
            have c100 : (Int32.ofInt 67).toInt = 67 := by decide
            refine ⟨fun h101 => ?_, fun h101 => ?_⟩
            · have g101 := (eqI (x := (fIC τ60 (cnC σ) 270)) (y := (Int32.ofInt 67)) h101 : ((fIC τ60 (cnC σ) 270) : Int32).toInt = ((Int32.ofInt 67) : Int32).toInt)
              exfalso
              omega
            · have g101 := (neI (x := (fIC τ60 (cnC σ) 270)) (y := (Int32.ofInt 67)) h101 : ¬ ((fIC τ60 (cnC σ) 270) : Int32).toInt = ((Int32.ofInt 67) : Int32).toInt)
              refine hB _ _ _ _ _ (fun m102 hm102 => ?_)
              dsimp only [ucgo, ucwp, ucsC, uqC, uoC, ctC, rfd, KX7_readSimple, KX7_readSimple_0, KX7_readSimple_18, KX7_readSimple_26, KX7_readSimple_38, KX7_readSimple_40, KX7_readSimple_49, KX7_readSimple_58, KX7_readSimple_66, KX7_readSimple_75, KX7_readSimple_84, KX7_readSimple_103, KX7_readSimple_112, KX7_readSimple_121, KX7_readSimple_148, lkC, s1C, s2C, dlC, kyC, Nat.beq, Nat.ble, rcd, rno, rsw, Nat.reduceAdd, Nat.reduceBEq, Nat.reduceDiv, List.drop, List.take, List.reverse, List.reverseAux, Int.toNat, Option.toList, List.append, List.cons_append, List.nil_append, zg211, zg240, zg241, zg242, zg270, zg303]
              intro w103 τ103 o103 q103
              obtain ⟨c103, rfl, hc103, rfl⟩ := q103 (N, E, A, (upA B (snM z) (cnC σ)), V, (accM (bgM (codY z.1) n z))) ⟨rfl, hZ60⟩
              try dsimp only [Option.toList, List.cons_append, List.nil_append, s1C, s2C, dlC, kyC, Nat.beq, lkC, rcd, rno, rsw]
              have c104 : (Int32.ofInt 80).toInt = 80 := by decide
              refine ⟨fun h105 => ?_, fun h105 => ?_⟩
              · have g105 := (neI (x := c103) (y := (Int32.ofInt 80)) h105 : ¬ (c103 : Int32).toInt = ((Int32.ofInt 80) : Int32).toInt)
                refine hB _ _ _ _ _ (fun m106 hm106 => ?_)
                dsimp only [ucgo, ucwp, ucsC, uqC, uoC, ctC, rfd, KX7_readSimple, KX7_readSimple_0, KX7_readSimple_18, KX7_readSimple_26, KX7_readSimple_38, KX7_readSimple_40, KX7_readSimple_49, KX7_readSimple_58, KX7_readSimple_66, KX7_readSimple_75, KX7_readSimple_84, KX7_readSimple_103, KX7_readSimple_112, KX7_readSimple_121, KX7_readSimple_148, lkC, s1C, s2C, dlC, kyC, Nat.beq, Nat.ble, rcd, rno, rsw, Nat.reduceAdd, Nat.reduceBEq, Nat.reduceDiv, List.drop, List.take, List.reverse, List.reverseAux, Int.toNat, Option.toList, List.append, List.cons_append, List.nil_append, zg211, zg240, zg241, zg242, zg270, zg303]
                have c107 : (Int32.ofInt 4).toInt = 4 := by decide
                intro w108 τ108 o108 q108
                have hZ109 : ZC N E A (upA B (snM z) (cnC σ)) V τ60 (coM (codY z.1 - 18) (tqM N (decide (codY z.1 = 65)) (-1) (accM (bgM (codY z.1) n z))) 0 (zAt z.1) (accM (bgM (codY z.1) n z))) := ZC.co hZ60
                have hF109 : FzC (cnC σ) (xnM z) E A A B (upA B (snM z) (cnC σ)) V V z (coM (codY z.1 - 18) (tqM N (decide (codY z.1 = 65)) (-1) (accM (bgM (codY z.1) n z))) 0 (zAt z.1) (accM (bgM (codY z.1) n z))) σ τ60 := FzC.co hF60
                obtain ⟨rfl, hZ108, hf108⟩ := q108 (N, E, A, (upA B (snM z) (cnC σ)), V, (coM (codY z.1 - 18) (tqM N (decide (codY z.1 = 65)) (-1) (accM (bgM (codY z.1) n z))) 0 (zAt z.1) (accM (bgM (codY z.1) n z))), 4) ⟨_, rfl, hZ109, by omega, (by rw [j2 (by omega) (by omega)] at hft; exact hft)⟩
                have hF108 := FzC.tr hF109 (FzC.mo hf108 hle60 (hF109).2.2.1.1.1)
                have hle108 : cnC σ ≤ cnC τ108 := Nat.le_trans hle60 (hf108).1
                have hb108_J : (upA B (snM z) (cnC σ)) (snM z) = (cnC σ) := (hf108.2.2.2.1.1.2 (snM z) hl60_J).1.trans hb60_J
                have hl108_J : snM z < snM (xpM 4 (coM (codY z.1 - 18) (tqM N (decide (codY z.1 = 65)) (-1) (accM (bgM (codY z.1) n z))) 0 (zAt z.1) (accM (bgM (codY z.1) n z)))) := Nat.lt_of_lt_of_le hl60_J hf108.2.2.2.1.1.1
                have hh108_J : (reS (xpM 4 (coM (codY z.1 - 18) (tqM N (decide (codY z.1 = 65)) (-1) (accM (bgM (codY z.1) n z))) 0 (zAt z.1) (accM (bgM (codY z.1) n z)))) (snM z)).1 = ((codY z.1), zAt z.1, (lvN n), z.2.2.2.1.2) ∧ (reS (xpM 4 (coM (codY z.1 - 18) (tqM N (decide (codY z.1 = 65)) (-1) (accM (bgM (codY z.1) n z))) 0 (zAt z.1) (accM (bgM (codY z.1) n z)))) (snM z)).2.1 = z.2.2.2.1.1 := ⟨(hf108.2.2.2.1.1.2 (snM z) hl60_J).2.1.trans hh60_J.1, (hf108.2.2.2.1.1.2 (snM z) hl60_J).2.2.trans hh60_J.2⟩
                try dsimp only [Option.toList, List.cons_append, List.nil_append, s1C, s2C, dlC, kyC, Nat.beq, lkC, rcd, rno, rsw]
                try dsimp only [Qz_readSimple]
                rw [j2 (by omega) (by omega)]
                exact ⟨_, _, _, by rw [hb108_J], ZC.co hZ108, FzC.co hF108, hl108_J⟩
              · have g105 := (eqI (x := c103) (y := (Int32.ofInt 80)) h105 : (c103 : Int32).toInt = ((Int32.ofInt 80) : Int32).toInt)
                refine hB _ _ _ _ _ (fun m110 hm110 => ?_)
                dsimp only [ucgo, ucwp, ucsC, uqC, uoC, ctC, rfd, KX7_readSimple, KX7_readSimple_0, KX7_readSimple_18, KX7_readSimple_26, KX7_readSimple_38, KX7_readSimple_40, KX7_readSimple_49, KX7_readSimple_58, KX7_readSimple_66, KX7_readSimple_75, KX7_readSimple_84, KX7_readSimple_103, KX7_readSimple_112, KX7_readSimple_121, KX7_readSimple_148, lkC, s1C, s2C, dlC, kyC, Nat.beq, Nat.ble, rcd, rno, rsw, Nat.reduceAdd, Nat.reduceBEq, Nat.reduceDiv, List.drop, List.take, List.reverse, List.reverseAux, Int.toNat, Option.toList, List.append, List.cons_append, List.nil_append, zg211, zg240, zg241, zg242, zg270, zg303]
                intro a111 e111 ob111
                cases e111
                have f112 : (fIC τ60 (E 0) 242).toInt = zAt (accM (bgM (codY z.1) n z)).1 := hZ60.2.1.1.1
                intro a113 e113 ob113 fk113
                cases e113
                clear fk113 ob113
                generalize hs113 : pIC τ60 (cnC σ) 280 (fIC τ60 (E 0) 242) = s113
                have hx113 : SfE (cnC σ) τ60 s113 := by rw [← hs113]; exact SfE.pI (by decide)
                have hZ113 : ZC N E A (upA B (snM z) (cnC σ)) V s113 (seM (snM z) (sLk (zAt (accM (bgM (codY z.1) n z)).1)) (accM (bgM (codY z.1) n z))) := by rw [← hs113]; exact ZC.s280 hZ60 hl60_J hb60_J (by omega)
                have hF113 : FzC (cnC σ) (xnM z) E A A B (upA B (snM z) (cnC σ)) V V z (seM (snM z) (sLk (zAt (accM (bgM (codY z.1) n z)).1)) (accM (bgM (codY z.1) n z))) σ s113 := FzC.se hF60 ho53 hx113 (fun _ => ⟨rfl, rfl⟩)
                have hle113 : cnC σ ≤ cnC s113 := by rw [hx113.2.2]; exact hle60
                have hh113_J : (reS (seM (snM z) (sLk (zAt (accM (bgM (codY z.1) n z)).1)) (accM (bgM (codY z.1) n z))) (snM z)).1 = ((codY z.1), zAt z.1, (lvN n), z.2.2.2.1.2) ∧ (reS (seM (snM z) (sLk (zAt (accM (bgM (codY z.1) n z)).1)) (accM (bgM (codY z.1) n z))) (snM z)).2.1 = z.2.2.2.1.1 := by rw [seM_e]; exact hh60_J
                intro a114 e114 ob114
                cases e114
                intro a115 e115 ob115
                obtain rfl : E 2 = a115 := Option.some.inj (hZ113.1.1.2.symm.trans e115)
                intro a116 e116 ob116
                cases e116
                have f117 : (fIC s113 (E 0) 242).toInt = zAt (seM (snM z) (sLk (zAt (accM (bgM (codY z.1) n z)).1)) (accM (bgM (codY z.1) n z))).1 := hZ113.2.1.1.1
                have c118 : (Int32.ofInt 200).toInt = 200 := by decide
                intro a119 e119 t119 v119
                obtain rfl : E 303 = a119 := Option.some.inj (hZ113.1.2.2.1.2.1.symm.trans e119)
                generalize hs119 : qIC s113 (E 303) (upd (eIC s113 (E 303)) (fIC s113 (E 0) 242).toNatClampNeg (Int32.ofInt 200)) = s119
                have hZ119 : ZC N E A (upA B (snM z) (cnC σ)) V s119 (seM (snM z) (sLk (zAt (accM (bgM (codY z.1) n z)).1)) (accM (bgM (codY z.1) n z))) := by rw [← hs119]; exact hZ113.mn
                have hF119 := FzC.tr hF113 (show FzC (cnC σ) (xnM z) E A A (upA B (snM z) (cnC σ)) (upA B (snM z) (cnC σ)) V V (seM (snM z) (sLk (zAt (accM (bgM (codY z.1) n z)).1)) (accM (bgM (codY z.1) n z))) (seM (snM z) (sLk (zAt (accM (bgM (codY z.1) n z)).1)) (accM (bgM (codY z.1) n z))) s113 s119 by rw [← hs119]; exact FzC.mn (by rw [nT_toNat]; omega))
                have hle119 : cnC σ ≤ cnC s119 := by rw [← hs119]; exact hle113
                intro w120 τ120 o120 q120
                have hZ121 : ZC N E A (upA B (snM z) (cnC σ)) V s119 (coM (codY z.1 - 18) (tqM N (decide (codY z.1 = 65)) (zAt (accM (bgM (codY z.1) n z)).1) (accM (bgM (codY z.1) n z))) 0 (zAt (accM (bgM (codY z.1) n z)).1) (seM (snM z) (sLk (zAt (accM (bgM (codY z.1) n z)).1)) (accM (bgM (codY z.1) n z)))) := ZC.co hZ119
                have hF121 : FzC (cnC σ) (xnM z) E A A B (upA B (snM z) (cnC σ)) V V z (coM (codY z.1 - 18) (tqM N (decide (codY z.1 = 65)) (zAt (accM (bgM (codY z.1) n z)).1) (accM (bgM (codY z.1) n z))) 0 (zAt (accM (bgM (codY z.1) n z)).1) (seM (snM z) (sLk (zAt (accM (bgM (codY z.1) n z)).1)) (accM (bgM (codY z.1) n z)))) σ s119 := FzC.co hF119
                have hj1 : zFt (accM (coM (codY z.1 - 18) (tqM N (decide (codY z.1 = 65)) (zAt (accM (bgM (codY z.1) n z)).1) (accM (bgM (codY z.1) n z))) 0 (zAt (accM (bgM (codY z.1) n z)).1) (seM (snM z) (sLk (zAt (accM (bgM (codY z.1) n z)).1)) (accM (bgM (codY z.1) n z))))).1 = 0 := by
                  rw [j1 (by omega) (by omega)] at hft
                  exact GpY.z (gd_xp (c := 4) _) hft
                obtain ⟨rfl, hZ120, hf120⟩ := q120 (N, E, A, (upA B (snM z) (cnC σ)), V, (coM (codY z.1 - 18) (tqM N (decide (codY z.1 = 65)) (zAt (accM (bgM (codY z.1) n z)).1) (accM (bgM (codY z.1) n z))) 0 (zAt (accM (bgM (codY z.1) n z)).1) (seM (snM z) (sLk (zAt (accM (bgM (codY z.1) n z)).1)) (accM (bgM (codY z.1) n z))))) ⟨rfl, hZ121, hj1⟩
                have hF120 := FzC.tr hF121 (FzC.mo hf120 hle119 (hF121).2.2.1.1.1)
                have hle120 : cnC σ ≤ cnC τ120 := Nat.le_trans hle119 (hf120).1
                have hb120_J : (upA B (snM z) (cnC σ)) (snM z) = (cnC σ) := (hf120.2.2.2.1.1.2 (snM z) (show snM z < snM (seM (snM z) (sLk (zAt (accM (bgM (codY z.1) n z)).1)) (accM (bgM (codY z.1) n z))) from hl60_J)).1.trans hb60_J
                have hl120_J : snM z < snM (accM (coM (codY z.1 - 18) (tqM N (decide (codY z.1 = 65)) (zAt (accM (bgM (codY z.1) n z)).1) (accM (bgM (codY z.1) n z))) 0 (zAt (accM (bgM (codY z.1) n z)).1) (seM (snM z) (sLk (zAt (accM (bgM (codY z.1) n z)).1)) (accM (bgM (codY z.1) n z))))) := Nat.lt_of_lt_of_le (show snM z < snM (seM (snM z) (sLk (zAt (accM (bgM (codY z.1) n z)).1)) (accM (bgM (codY z.1) n z))) from hl60_J) hf120.2.2.2.1.1.1
                have hh120_J : (reS (accM (coM (codY z.1 - 18) (tqM N (decide (codY z.1 = 65)) (zAt (accM (bgM (codY z.1) n z)).1) (accM (bgM (codY z.1) n z))) 0 (zAt (accM (bgM (codY z.1) n z)).1) (seM (snM z) (sLk (zAt (accM (bgM (codY z.1) n z)).1)) (accM (bgM (codY z.1) n z))))) (snM z)).1 = ((codY z.1), zAt z.1, (lvN n), z.2.2.2.1.2) ∧ (reS (accM (coM (codY z.1 - 18) (tqM N (decide (codY z.1 = 65)) (zAt (accM (bgM (codY z.1) n z)).1) (accM (bgM (codY z.1) n z))) 0 (zAt (accM (bgM (codY z.1) n z)).1) (seM (snM z) (sLk (zAt (accM (bgM (codY z.1) n z)).1)) (accM (bgM (codY z.1) n z))))) (snM z)).2.1 = z.2.2.2.1.1 := ⟨(hf120.2.2.2.1.1.2 (snM z) (show snM z < snM (seM (snM z) (sLk (zAt (accM (bgM (codY z.1) n z)).1)) (accM (bgM (codY z.1) n z))) from hl60_J)).2.1.trans hh113_J.1, (hf120.2.2.2.1.1.2 (snM z) (show snM z < snM (seM (snM z) (sLk (zAt (accM (bgM (codY z.1) n z)).1)) (accM (bgM (codY z.1) n z))) from hl60_J)).2.2.trans hh113_J.2⟩
                try dsimp only [Option.toList, List.cons_append, List.nil_append, s1C, s2C, dlC, kyC, Nat.beq, lkC, rcd, rno, rsw]
                refine hB _ _ _ _ _ (fun m122 hm122 => ?_)
                dsimp only [ucgo, ucwp, ucsC, uqC, uoC, ctC, rfd, KX7_readSimple, KX7_readSimple_0, KX7_readSimple_18, KX7_readSimple_26, KX7_readSimple_38, KX7_readSimple_40, KX7_readSimple_49, KX7_readSimple_58, KX7_readSimple_66, KX7_readSimple_75, KX7_readSimple_84, KX7_readSimple_103, KX7_readSimple_112, KX7_readSimple_121, KX7_readSimple_148, lkC, s1C, s2C, dlC, kyC, Nat.beq, Nat.ble, rcd, rno, rsw, Nat.reduceAdd, Nat.reduceBEq, Nat.reduceDiv, List.drop, List.take, List.reverse, List.reverseAux, Int.toNat, Option.toList, List.append, List.cons_append, List.nil_append, zg211, zg240, zg241, zg242, zg270, zg303]
                have c123 : (Int32.ofInt 4).toInt = 4 := by decide
                intro w124 τ124 o124 q124
                obtain ⟨rfl, hZ124, hf124⟩ := q124 (N, E, A, (upA B (snM z) (cnC σ)), V, (accM (coM (codY z.1 - 18) (tqM N (decide (codY z.1 = 65)) (zAt (accM (bgM (codY z.1) n z)).1) (accM (bgM (codY z.1) n z))) 0 (zAt (accM (bgM (codY z.1) n z)).1) (seM (snM z) (sLk (zAt (accM (bgM (codY z.1) n z)).1)) (accM (bgM (codY z.1) n z))))), 4) ⟨_, rfl, hZ120, by omega, (by rw [j1 (by omega) (by omega)] at hft; exact hft)⟩
                have hF124 := FzC.tr hF120 (FzC.mo hf124 hle120 (hF120).2.2.1.1.1)
                have hle124 : cnC σ ≤ cnC τ124 := Nat.le_trans hle120 (hf124).1
                have hb124_J : (upA B (snM z) (cnC σ)) (snM z) = (cnC σ) := (hf124.2.2.2.1.1.2 (snM z) hl120_J).1.trans hb120_J
                have hl124_J : snM z < snM (xpM 4 (accM (coM (codY z.1 - 18) (tqM N (decide (codY z.1 = 65)) (zAt (accM (bgM (codY z.1) n z)).1) (accM (bgM (codY z.1) n z))) 0 (zAt (accM (bgM (codY z.1) n z)).1) (seM (snM z) (sLk (zAt (accM (bgM (codY z.1) n z)).1)) (accM (bgM (codY z.1) n z)))))) := Nat.lt_of_lt_of_le hl120_J hf124.2.2.2.1.1.1
                have hh124_J : (reS (xpM 4 (accM (coM (codY z.1 - 18) (tqM N (decide (codY z.1 = 65)) (zAt (accM (bgM (codY z.1) n z)).1) (accM (bgM (codY z.1) n z))) 0 (zAt (accM (bgM (codY z.1) n z)).1) (seM (snM z) (sLk (zAt (accM (bgM (codY z.1) n z)).1)) (accM (bgM (codY z.1) n z)))))) (snM z)).1 = ((codY z.1), zAt z.1, (lvN n), z.2.2.2.1.2) ∧ (reS (xpM 4 (accM (coM (codY z.1 - 18) (tqM N (decide (codY z.1 = 65)) (zAt (accM (bgM (codY z.1) n z)).1) (accM (bgM (codY z.1) n z))) 0 (zAt (accM (bgM (codY z.1) n z)).1) (seM (snM z) (sLk (zAt (accM (bgM (codY z.1) n z)).1)) (accM (bgM (codY z.1) n z)))))) (snM z)).2.1 = z.2.2.2.1.1 := ⟨(hf124.2.2.2.1.1.2 (snM z) hl120_J).2.1.trans hh120_J.1, (hf124.2.2.2.1.1.2 (snM z) hl120_J).2.2.trans hh120_J.2⟩
                try dsimp only [Option.toList, List.cons_append, List.nil_append, s1C, s2C, dlC, kyC, Nat.beq, lkC, rcd, rno, rsw]
                try dsimp only [Qz_readSimple]
                rw [j1 (by omega) (by omega)]
                exact ⟨_, _, _, by rw [hb124_J], ZC.co hZ124, FzC.co hF124, hl124_J⟩
          · have g96 := (eqI (x := (fIC τ60 (cnC σ) 270)) (y := (Int32.ofInt 66)) h96 : ((fIC τ60 (cnC σ) 270) : Int32).toInt = ((Int32.ofInt 66) : Int32).toInt)
            exfalso
            omega
        · have g91 := (eqI (x := (fIC τ60 (cnC σ) 270)) (y := (Int32.ofInt 66)) h91 : ((fIC τ60 (cnC σ) 270) : Int32).toInt = ((Int32.ofInt 66) : Int32).toInt)
          refine hB _ _ _ _ _ (fun m125 hm125 => ?_)
          dsimp only [ucgo, ucwp, ucsC, uqC, uoC, ctC, rfd, KX7_readSimple, KX7_readSimple_0, KX7_readSimple_18, KX7_readSimple_26, KX7_readSimple_38, KX7_readSimple_40, KX7_readSimple_49, KX7_readSimple_58, KX7_readSimple_66, KX7_readSimple_75, KX7_readSimple_84, KX7_readSimple_103, KX7_readSimple_112, KX7_readSimple_121, KX7_readSimple_148, lkC, s1C, s2C, dlC, kyC, Nat.beq, Nat.ble, rcd, rno, rsw, Nat.reduceAdd, Nat.reduceBEq, Nat.reduceDiv, List.drop, List.take, List.reverse, List.reverseAux, Int.toNat, Option.toList, List.append, List.cons_append, List.nil_append, zg211, zg240, zg241, zg242, zg270, zg303]
          intro w126 τ126 o126 q126
          obtain ⟨c126, rfl, hc126, rfl⟩ := q126 (N, E, A, (upA B (snM z) (cnC σ)), V, (accM (bgM (codY z.1) n z))) ⟨rfl, hZ60⟩
          try dsimp only [Option.toList, List.cons_append, List.nil_append, s1C, s2C, dlC, kyC, Nat.beq, lkC, rcd, rno, rsw]
          have c127 : (Int32.ofInt 4).toInt = 4 := by decide
          refine ⟨fun h128 => ?_, fun h128 => ?_⟩
          · have g128 := (eqI (x := c126) (y := (Int32.ofInt 4)) h128 : (c126 : Int32).toInt = ((Int32.ofInt 4) : Int32).toInt)
            refine hB _ _ _ _ _ (fun m129 hm129 => ?_)
            dsimp only [ucgo, ucwp, ucsC, uqC, uoC, ctC, rfd, KX7_readSimple, KX7_readSimple_0, KX7_readSimple_18, KX7_readSimple_26, KX7_readSimple_38, KX7_readSimple_40, KX7_readSimple_49, KX7_readSimple_58, KX7_readSimple_66, KX7_readSimple_75, KX7_readSimple_84, KX7_readSimple_103, KX7_readSimple_112, KX7_readSimple_121, KX7_readSimple_148, lkC, s1C, s2C, dlC, kyC, Nat.beq, Nat.ble, rcd, rno, rsw, Nat.reduceAdd, Nat.reduceBEq, Nat.reduceDiv, List.drop, List.take, List.reverse, List.reverseAux, Int.toNat, Option.toList, List.append, List.cons_append, List.nil_append, zg211, zg240, zg241, zg242, zg270, zg303]
            intro a130 e130 ob130
            cases e130
            have f131 : (fIC τ60 (cnC σ) 270).toInt = (codY z.1) := by
              have q := (hZ60.2.2.2.2.2.1.1 (snM z) hl60_J).1.1.1
              rw [hb60_J, hh60_J.1] at q
              exact q
            have c132 : (Int32.ofInt 66).toInt = 66 := by decide
            refine ⟨fun h133 => ?_, fun h133 => ?_⟩
            · have g133 := (neI (x := (fIC τ60 (cnC σ) 270)) (y := (Int32.ofInt 66)) h133 : ¬ ((fIC τ60 (cnC σ) 270) : Int32).toInt = ((Int32.ofInt 66) : Int32).toInt)
              exfalso
              omega
            · have g133 := (eqI (x := (fIC τ60 (cnC σ) 270)) (y := (Int32.ofInt 66)) h133 : ((fIC τ60 (cnC σ) 270) : Int32).toInt = ((Int32.ofInt 66) : Int32).toInt)
              refine hB _ _ _ _ _ (fun m134 hm134 => ?_)
              dsimp only [ucgo, ucwp, ucsC, uqC, uoC, ctC, rfd, KX7_readSimple, KX7_readSimple_0, KX7_readSimple_18, KX7_readSimple_26, KX7_readSimple_38, KX7_readSimple_40, KX7_readSimple_49, KX7_readSimple_58, KX7_readSimple_66, KX7_readSimple_75, KX7_readSimple_84, KX7_readSimple_103, KX7_readSimple_112, KX7_readSimple_121, KX7_readSimple_148, lkC, s1C, s2C, dlC, kyC, Nat.beq, Nat.ble, rcd, rno, rsw, Nat.reduceAdd, Nat.reduceBEq, Nat.reduceDiv, List.drop, List.take, List.reverse, List.reverseAux, Int.toNat, Option.toList, List.append, List.cons_append, List.nil_append, zg211, zg240, zg241, zg242, zg270, zg303]
              intro a135 e135 ob135
              cases e135
              intro a136 e136 ob136
              obtain rfl : E 1 = a136 := Option.some.inj (hZ60.1.1.1.symm.trans e136)
              rw [hZ60.1.2.1.1]
              try dsimp only
              intro w137 τ137 o137 q137
              obtain ⟨r137, rfl, rfl, hr137a, hr137b, hr137, -⟩ := (show Q_Jx4a65c_size_8abf5 [.inr (.inr (some (E 211)))] τ60 w137 τ137 from o137.1.1)
              have hv137 : r137.toInt = ((zMs (accM (bgM (codY z.1) n z)).1).length : Int) := by rw [← hr137]; exact hZ60.2.2.2.1.2.2.2.1
              try dsimp only [Option.toList, List.cons_append, List.nil_append, s1C, s2C, dlC, kyC, Nat.beq, lkC, rcd, rno, rsw]
              have c138 : (Int32.ofInt 1).toInt = 1 := by decide
              have u139 := tiC r137
              have a139 : (r137 - (Int32.ofInt 1)).toInt = ((zMs (accM (bgM (codY z.1) n z)).1).length : Int) - 1 := subC (by omega) (by omega) (by omega)
              intro a140 e140 ob140 fk140
              cases e140
              clear fk140 ob140
              generalize hs140 : pIC τ60 (cnC σ) 280 (r137 - (Int32.ofInt 1)) = s140
              have hx140 : SfE (cnC σ) τ60 s140 := by rw [← hs140]; exact SfE.pI (by decide)
              have hZ140 : ZC N E A (upA B (snM z) (cnC σ)) V s140 (seM (snM z) (sLk (((zMs (accM (bgM (codY z.1) n z)).1).length : Int) - 1)) (accM (bgM (codY z.1) n z))) := by rw [← hs140]; exact ZC.s280 hZ60 hl60_J hb60_J (by omega)
              have hF140 : FzC (cnC σ) (xnM z) E A A B (upA B (snM z) (cnC σ)) V V z (seM (snM z) (sLk (((zMs (accM (bgM (codY z.1) n z)).1).length : Int) - 1)) (accM (bgM (codY z.1) n z))) σ s140 := FzC.se hF60 ho53 hx140 (fun _ => ⟨rfl, rfl⟩)
              have hle140 : cnC σ ≤ cnC s140 := by rw [hx140.2.2]; exact hle60
              have hh140_J : (reS (seM (snM z) (sLk (((zMs (accM (bgM (codY z.1) n z)).1).length : Int) - 1)) (accM (bgM (codY z.1) n z))) (snM z)).1 = ((codY z.1), zAt z.1, (lvN n), z.2.2.2.1.2) ∧ (reS (seM (snM z) (sLk (((zMs (accM (bgM (codY z.1) n z)).1).length : Int) - 1)) (accM (bgM (codY z.1) n z))) (snM z)).2.1 = z.2.2.2.1.1 := by rw [seM_e]; exact hh60_J
              refine hB _ _ _ _ _ (fun m141 hm141 => ?_)
              dsimp only [ucgo, ucwp, ucsC, uqC, uoC, ctC, rfd, KX7_readSimple, KX7_readSimple_0, KX7_readSimple_18, KX7_readSimple_26, KX7_readSimple_38, KX7_readSimple_40, KX7_readSimple_49, KX7_readSimple_58, KX7_readSimple_66, KX7_readSimple_75, KX7_readSimple_84, KX7_readSimple_103, KX7_readSimple_112, KX7_readSimple_121, KX7_readSimple_148, lkC, s1C, s2C, dlC, kyC, Nat.beq, Nat.ble, rcd, rno, rsw, Nat.reduceAdd, Nat.reduceBEq, Nat.reduceDiv, List.drop, List.take, List.reverse, List.reverseAux, Int.toNat, Option.toList, List.append, List.cons_append, List.nil_append, zg211, zg240, zg241, zg242, zg270, zg303]
              have c142 : (Int32.ofInt 4).toInt = 4 := by decide
              intro w143 τ143 o143 q143
              have hZ144 : ZC N E A (upA B (snM z) (cnC σ)) V s140 (coM (codY z.1 - 18) 0 (-2) (zAt z.1) (seM (snM z) (sLk (((zMs (accM (bgM (codY z.1) n z)).1).length : Int) - 1)) (accM (bgM (codY z.1) n z)))) := ZC.co hZ140
              have hF144 : FzC (cnC σ) (xnM z) E A A B (upA B (snM z) (cnC σ)) V V z (coM (codY z.1 - 18) 0 (-2) (zAt z.1) (seM (snM z) (sLk (((zMs (accM (bgM (codY z.1) n z)).1).length : Int) - 1)) (accM (bgM (codY z.1) n z)))) σ s140 := FzC.co hF140
              obtain ⟨rfl, hZ143, hf143⟩ := q143 (N, E, A, (upA B (snM z) (cnC σ)), V, (coM (codY z.1 - 18) 0 (-2) (zAt z.1) (seM (snM z) (sLk (((zMs (accM (bgM (codY z.1) n z)).1).length : Int) - 1)) (accM (bgM (codY z.1) n z)))), 4) ⟨_, rfl, hZ144, by omega, (by rw [g3 (by omega) (by omega)] at hft; exact hft)⟩
              have hF143 := FzC.tr hF144 (FzC.mo hf143 hle140 (hF144).2.2.1.1.1)
              have hle143 : cnC σ ≤ cnC τ143 := Nat.le_trans hle140 (hf143).1
              have hb143_J : (upA B (snM z) (cnC σ)) (snM z) = (cnC σ) := (hf143.2.2.2.1.1.2 (snM z) (show snM z < snM (seM (snM z) (sLk (((zMs (accM (bgM (codY z.1) n z)).1).length : Int) - 1)) (accM (bgM (codY z.1) n z))) from hl60_J)).1.trans hb60_J
              have hl143_J : snM z < snM (xpM 4 (coM (codY z.1 - 18) 0 (-2) (zAt z.1) (seM (snM z) (sLk (((zMs (accM (bgM (codY z.1) n z)).1).length : Int) - 1)) (accM (bgM (codY z.1) n z))))) := Nat.lt_of_lt_of_le (show snM z < snM (seM (snM z) (sLk (((zMs (accM (bgM (codY z.1) n z)).1).length : Int) - 1)) (accM (bgM (codY z.1) n z))) from hl60_J) hf143.2.2.2.1.1.1
              have hh143_J : (reS (xpM 4 (coM (codY z.1 - 18) 0 (-2) (zAt z.1) (seM (snM z) (sLk (((zMs (accM (bgM (codY z.1) n z)).1).length : Int) - 1)) (accM (bgM (codY z.1) n z))))) (snM z)).1 = ((codY z.1), zAt z.1, (lvN n), z.2.2.2.1.2) ∧ (reS (xpM 4 (coM (codY z.1 - 18) 0 (-2) (zAt z.1) (seM (snM z) (sLk (((zMs (accM (bgM (codY z.1) n z)).1).length : Int) - 1)) (accM (bgM (codY z.1) n z))))) (snM z)).2.1 = z.2.2.2.1.1 := ⟨(hf143.2.2.2.1.1.2 (snM z) (show snM z < snM (seM (snM z) (sLk (((zMs (accM (bgM (codY z.1) n z)).1).length : Int) - 1)) (accM (bgM (codY z.1) n z))) from hl60_J)).2.1.trans hh140_J.1, (hf143.2.2.2.1.1.2 (snM z) (show snM z < snM (seM (snM z) (sLk (((zMs (accM (bgM (codY z.1) n z)).1).length : Int) - 1)) (accM (bgM (codY z.1) n z))) from hl60_J)).2.2.trans hh140_J.2⟩
              try dsimp only [Option.toList, List.cons_append, List.nil_append, s1C, s2C, dlC, kyC, Nat.beq, lkC, rcd, rno, rsw]
              try dsimp only [Qz_readSimple]
              rw [g3 (by omega) (by omega)]
              exact ⟨_, _, _, by rw [hb143_J], ZC.co hZ143, FzC.co hF143, hl143_J⟩
          · have g128 := (neI (x := c126) (y := (Int32.ofInt 4)) h128 : ¬ (c126 : Int32).toInt = ((Int32.ofInt 4) : Int32).toInt)
            refine hB _ _ _ _ _ (fun m145 hm145 => ?_)
            dsimp only [ucgo, ucwp, ucsC, uqC, uoC, ctC, rfd, KX7_readSimple, KX7_readSimple_0, KX7_readSimple_18, KX7_readSimple_26, KX7_readSimple_38, KX7_readSimple_40, KX7_readSimple_49, KX7_readSimple_58, KX7_readSimple_66, KX7_readSimple_75, KX7_readSimple_84, KX7_readSimple_103, KX7_readSimple_112, KX7_readSimple_121, KX7_readSimple_148, lkC, s1C, s2C, dlC, kyC, Nat.beq, Nat.ble, rcd, rno, rsw, Nat.reduceAdd, Nat.reduceBEq, Nat.reduceDiv, List.drop, List.take, List.reverse, List.reverseAux, Int.toNat, Option.toList, List.append, List.cons_append, List.nil_append, zg211, zg240, zg241, zg242, zg270, zg303]
            intro w146 τ146 o146 q146
            obtain ⟨A146, rfl, hZ146, hf146, ht146, hx146⟩ : ExQ N E A (upA B (snM z) (cnC σ)) V (accM (bgM (codY z.1) n z)) (eM N n (accM (bgM (codY z.1) n z))) τ60 w146 τ146 := q146 (N, E, A, (upA B (snM z) (cnC σ)), V, (accM (bgM (codY z.1) n z)), n) ⟨_, rfl, hZ60, by omega, (hzx (by omega))⟩
            have hF146 := FzC.tr hF60 (FzC.mo hf146 hle60 (hF60).2.2.1.1.1)
            have hle146 : cnC σ ≤ cnC τ146 := Nat.le_trans hle60 (hf146).1
            have hb146_J : (upA B (snM z) (cnC σ)) (snM z) = (cnC σ) := (hf146.2.2.2.1.1.2 (snM z) hl60_J).1.trans hb60_J
            have hl146_J : snM z < snM (eM N n (accM (bgM (codY z.1) n z))) := Nat.lt_of_lt_of_le hl60_J hf146.2.2.2.1.1.1
            have hh146_J : (reS (eM N n (accM (bgM (codY z.1) n z))) (snM z)).1 = ((codY z.1), zAt z.1, (lvN n), z.2.2.2.1.2) ∧ (reS (eM N n (accM (bgM (codY z.1) n z))) (snM z)).2.1 = z.2.2.2.1.1 := ⟨(hf146.2.2.2.1.1.2 (snM z) hl60_J).2.1.trans hh60_J.1, (hf146.2.2.2.1.1.2 (snM z) hl60_J).2.2.trans hh60_J.2⟩
            try dsimp only [Option.toList, List.cons_append, List.nil_append, s1C, s2C, dlC, kyC, Nat.beq, lkC, rcd, rno, rsw]
            intro a147 e147 ob147 fk147
            cases e147
            clear fk147 ob147
            generalize hs147 : pRC τ146 (cnC σ) 279 (some (A146 (xnM (eM N n (accM (bgM (codY z.1) n z))) - 1))) = s147
            have hx147 : SfE (cnC σ) τ146 s147 := by rw [← hs147]; exact SfE.pR (by decide)
            have hZ147 : ZC N E A146 (upA B (snM z) (cnC σ)) V s147 (seM (snM z) (sEx ((xnM (eM N n (accM (bgM (codY z.1) n z))) : Int) - 1)) (eM N n (accM (bgM (codY z.1) n z)))) := by rw [← hs147]; exact ZC.s279 hZ146 hl146_J hb146_J (opA_p (by omega)).symm (by omega)
            have hF147 : FzC (cnC σ) (xnM z) E A A146 B (upA B (snM z) (cnC σ)) V V z (seM (snM z) (sEx ((xnM (eM N n (accM (bgM (codY z.1) n z))) : Int) - 1)) (eM N n (accM (bgM (codY z.1) n z)))) σ s147 := FzC.se hF146 ho53 hx147 (fun _ => ⟨rfl, rfl⟩)
            have hle147 : cnC σ ≤ cnC s147 := by rw [hx147.2.2]; exact hle146
            have hh147_J : (reS (seM (snM z) (sEx ((xnM (eM N n (accM (bgM (codY z.1) n z))) : Int) - 1)) (eM N n (accM (bgM (codY z.1) n z)))) (snM z)).1 = ((codY z.1), zAt z.1, (lvN n), z.2.2.2.1.2) ∧ (reS (seM (snM z) (sEx ((xnM (eM N n (accM (bgM (codY z.1) n z))) : Int) - 1)) (eM N n (accM (bgM (codY z.1) n z)))) (snM z)).2.1 = z.2.2.2.1.1 := by rw [seM_e]; exact hh146_J
            refine hB _ _ _ _ _ (fun m148 hm148 => ?_)
            dsimp only [ucgo, ucwp, ucsC, uqC, uoC, ctC, rfd, KX7_readSimple, KX7_readSimple_0, KX7_readSimple_18, KX7_readSimple_26, KX7_readSimple_38, KX7_readSimple_40, KX7_readSimple_49, KX7_readSimple_58, KX7_readSimple_66, KX7_readSimple_75, KX7_readSimple_84, KX7_readSimple_103, KX7_readSimple_112, KX7_readSimple_121, KX7_readSimple_148, lkC, s1C, s2C, dlC, kyC, Nat.beq, Nat.ble, rcd, rno, rsw, Nat.reduceAdd, Nat.reduceBEq, Nat.reduceDiv, List.drop, List.take, List.reverse, List.reverseAux, Int.toNat, Option.toList, List.append, List.cons_append, List.nil_append, zg211, zg240, zg241, zg242, zg270, zg303]
            intro a149 e149 ob149
            cases e149
            have f150 : (fIC s147 (cnC σ) 270).toInt = (codY z.1) := by
              have q := (hZ147.2.2.2.2.2.1.1 (snM z) (show snM z < snM (seM (snM z) (sEx ((xnM (eM N n (accM (bgM (codY z.1) n z))) : Int) - 1)) (eM N n (accM (bgM (codY z.1) n z)))) from hl146_J)).1.1.1
              rw [hb146_J, hh147_J.1] at q
              exact q
            have c151 : (Int32.ofInt 66).toInt = 66 := by decide
            refine ⟨fun h152 => ?_, fun h152 => ?_⟩
            · have g152 := (neI (x := (fIC s147 (cnC σ) 270)) (y := (Int32.ofInt 66)) h152 : ¬ ((fIC s147 (cnC σ) 270) : Int32).toInt = ((Int32.ofInt 66) : Int32).toInt)
              exfalso
              omega
            · have g152 := (eqI (x := (fIC s147 (cnC σ) 270)) (y := (Int32.ofInt 66)) h152 : ((fIC s147 (cnC σ) 270) : Int32).toInt = ((Int32.ofInt 66) : Int32).toInt)
              refine hB _ _ _ _ _ (fun m153 hm153 => ?_)
              dsimp only [ucgo, ucwp, ucsC, uqC, uoC, ctC, rfd, KX7_readSimple, KX7_readSimple_0, KX7_readSimple_18, KX7_readSimple_26, KX7_readSimple_38, KX7_readSimple_40, KX7_readSimple_49, KX7_readSimple_58, KX7_readSimple_66, KX7_readSimple_75, KX7_readSimple_84, KX7_readSimple_103, KX7_readSimple_112, KX7_readSimple_121, KX7_readSimple_148, lkC, s1C, s2C, dlC, kyC, Nat.beq, Nat.ble, rcd, rno, rsw, Nat.reduceAdd, Nat.reduceBEq, Nat.reduceDiv, List.drop, List.take, List.reverse, List.reverseAux, Int.toNat, Option.toList, List.append, List.cons_append, List.nil_append, zg211, zg240, zg241, zg242, zg270, zg303]
              intro a154 e154 ob154
              cases e154
              intro a155 e155 ob155
              obtain rfl : E 1 = a155 := Option.some.inj (hZ147.1.1.1.symm.trans e155)
              rw [hZ147.1.2.1.1]
              try dsimp only
              intro w156 τ156 o156 q156
              obtain ⟨r156, rfl, rfl, hr156a, hr156b, hr156, -⟩ := (show Q_Jx4a65c_size_8abf5 [.inr (.inr (some (E 211)))] s147 w156 τ156 from o156.1.1)
              have hv156 : r156.toInt = ((zMs (seM (snM z) (sEx ((xnM (eM N n (accM (bgM (codY z.1) n z))) : Int) - 1)) (eM N n (accM (bgM (codY z.1) n z)))).1).length : Int) := by rw [← hr156]; exact hZ147.2.2.2.1.2.2.2.1
              try dsimp only [Option.toList, List.cons_append, List.nil_append, s1C, s2C, dlC, kyC, Nat.beq, lkC, rcd, rno, rsw]
              have c157 : (Int32.ofInt 1).toInt = 1 := by decide
              have u158 := tiC r156
              have a158 : (r156 - (Int32.ofInt 1)).toInt = ((zMs (seM (snM z) (sEx ((xnM (eM N n (accM (bgM (codY z.1) n z))) : Int) - 1)) (eM N n (accM (bgM (codY z.1) n z)))).1).length : Int) - 1 := subC (by omega) (by omega) (by omega)
              intro a159 e159 ob159 fk159
              cases e159
              clear fk159 ob159
              generalize hs159 : pIC s147 (cnC σ) 280 (r156 - (Int32.ofInt 1)) = s159
              have hx159 : SfE (cnC σ) s147 s159 := by rw [← hs159]; exact SfE.pI (by decide)
              have hZ159 : ZC N E A146 (upA B (snM z) (cnC σ)) V s159 (seM (snM z) (sLk (((zMs (seM (snM z) (sEx ((xnM (eM N n (accM (bgM (codY z.1) n z))) : Int) - 1)) (eM N n (accM (bgM (codY z.1) n z)))).1).length : Int) - 1)) (seM (snM z) (sEx ((xnM (eM N n (accM (bgM (codY z.1) n z))) : Int) - 1)) (eM N n (accM (bgM (codY z.1) n z))))) := by rw [← hs159]; exact ZC.s280 hZ147 (show snM z < snM (seM (snM z) (sEx ((xnM (eM N n (accM (bgM (codY z.1) n z))) : Int) - 1)) (eM N n (accM (bgM (codY z.1) n z)))) from hl146_J) hb146_J (by omega)
              have hF159 : FzC (cnC σ) (xnM z) E A A146 B (upA B (snM z) (cnC σ)) V V z (seM (snM z) (sLk (((zMs (seM (snM z) (sEx ((xnM (eM N n (accM (bgM (codY z.1) n z))) : Int) - 1)) (eM N n (accM (bgM (codY z.1) n z)))).1).length : Int) - 1)) (seM (snM z) (sEx ((xnM (eM N n (accM (bgM (codY z.1) n z))) : Int) - 1)) (eM N n (accM (bgM (codY z.1) n z))))) σ s159 := FzC.se hF147 ho53 hx159 (fun _ => ⟨rfl, rfl⟩)
              have hle159 : cnC σ ≤ cnC s159 := by rw [hx159.2.2]; exact hle147
              have hh159_J : (reS (seM (snM z) (sLk (((zMs (seM (snM z) (sEx ((xnM (eM N n (accM (bgM (codY z.1) n z))) : Int) - 1)) (eM N n (accM (bgM (codY z.1) n z)))).1).length : Int) - 1)) (seM (snM z) (sEx ((xnM (eM N n (accM (bgM (codY z.1) n z))) : Int) - 1)) (eM N n (accM (bgM (codY z.1) n z))))) (snM z)).1 = ((codY z.1), zAt z.1, (lvN n), z.2.2.2.1.2) ∧ (reS (seM (snM z) (sLk (((zMs (seM (snM z) (sEx ((xnM (eM N n (accM (bgM (codY z.1) n z))) : Int) - 1)) (eM N n (accM (bgM (codY z.1) n z)))).1).length : Int) - 1)) (seM (snM z) (sEx ((xnM (eM N n (accM (bgM (codY z.1) n z))) : Int) - 1)) (eM N n (accM (bgM (codY z.1) n z))))) (snM z)).2.1 = z.2.2.2.1.1 := by rw [seM_e]; exact hh147_J
              refine hB _ _ _ _ _ (fun m160 hm160 => ?_)
              dsimp only [ucgo, ucwp, ucsC, uqC, uoC, ctC, rfd, KX7_readSimple, KX7_readSimple_0, KX7_readSimple_18, KX7_readSimple_26, KX7_readSimple_38, KX7_readSimple_40, KX7_readSimple_49, KX7_readSimple_58, KX7_readSimple_66, KX7_readSimple_75, KX7_readSimple_84, KX7_readSimple_103, KX7_readSimple_112, KX7_readSimple_121, KX7_readSimple_148, lkC, s1C, s2C, dlC, kyC, Nat.beq, Nat.ble, rcd, rno, rsw, Nat.reduceAdd, Nat.reduceBEq, Nat.reduceDiv, List.drop, List.take, List.reverse, List.reverseAux, Int.toNat, Option.toList, List.append, List.cons_append, List.nil_append, zg211, zg240, zg241, zg242, zg270, zg303]
              have c161 : (Int32.ofInt 4).toInt = 4 := by decide
              intro w162 τ162 o162 q162
              have hZ163 : ZC N E A146 (upA B (snM z) (cnC σ)) V s159 (cxM (codY z.1 - 18) 1 ((cnM (seM (snM z) (sEx ((xnM (eM N n (accM (bgM (codY z.1) n z))) : Int) - 1)) (eM N n (accM (bgM (codY z.1) n z)))) : Int) - 1) (zAt z.1) (seM (snM z) (sLk (((zMs (seM (snM z) (sEx ((xnM (eM N n (accM (bgM (codY z.1) n z))) : Int) - 1)) (eM N n (accM (bgM (codY z.1) n z)))).1).length : Int) - 1)) (seM (snM z) (sEx ((xnM (eM N n (accM (bgM (codY z.1) n z))) : Int) - 1)) (eM N n (accM (bgM (codY z.1) n z)))))) := ZC.co hZ159
              have hF163 : FzC (cnC σ) (xnM z) E A A146 B (upA B (snM z) (cnC σ)) V V z (cxM (codY z.1 - 18) 1 ((cnM (seM (snM z) (sEx ((xnM (eM N n (accM (bgM (codY z.1) n z))) : Int) - 1)) (eM N n (accM (bgM (codY z.1) n z)))) : Int) - 1) (zAt z.1) (seM (snM z) (sLk (((zMs (seM (snM z) (sEx ((xnM (eM N n (accM (bgM (codY z.1) n z))) : Int) - 1)) (eM N n (accM (bgM (codY z.1) n z)))).1).length : Int) - 1)) (seM (snM z) (sEx ((xnM (eM N n (accM (bgM (codY z.1) n z))) : Int) - 1)) (eM N n (accM (bgM (codY z.1) n z)))))) σ s159 := FzC.co hF159
              obtain ⟨rfl, hZ162, hf162⟩ := q162 (N, E, A146, (upA B (snM z) (cnC σ)), V, (cxM (codY z.1 - 18) 1 ((cnM (seM (snM z) (sEx ((xnM (eM N n (accM (bgM (codY z.1) n z))) : Int) - 1)) (eM N n (accM (bgM (codY z.1) n z)))) : Int) - 1) (zAt z.1) (seM (snM z) (sLk (((zMs (seM (snM z) (sEx ((xnM (eM N n (accM (bgM (codY z.1) n z))) : Int) - 1)) (eM N n (accM (bgM (codY z.1) n z)))).1).length : Int) - 1)) (seM (snM z) (sEx ((xnM (eM N n (accM (bgM (codY z.1) n z))) : Int) - 1)) (eM N n (accM (bgM (codY z.1) n z)))))), 4) ⟨_, rfl, hZ163, by omega, (by rw [g2 (by omega) (by omega)] at hft; exact hft)⟩
              have hF162 := FzC.tr hF163 (FzC.mo hf162 hle159 (hF163).2.2.1.1.1)
              have hle162 : cnC σ ≤ cnC τ162 := Nat.le_trans hle159 (hf162).1
              have hb162_J : (upA B (snM z) (cnC σ)) (snM z) = (cnC σ) := (hf162.2.2.2.1.1.2 (snM z) (show snM z < snM (seM (snM z) (sLk (((zMs (seM (snM z) (sEx ((xnM (eM N n (accM (bgM (codY z.1) n z))) : Int) - 1)) (eM N n (accM (bgM (codY z.1) n z)))).1).length : Int) - 1)) (seM (snM z) (sEx ((xnM (eM N n (accM (bgM (codY z.1) n z))) : Int) - 1)) (eM N n (accM (bgM (codY z.1) n z))))) from (show snM z < snM (seM (snM z) (sEx ((xnM (eM N n (accM (bgM (codY z.1) n z))) : Int) - 1)) (eM N n (accM (bgM (codY z.1) n z)))) from hl146_J))).1.trans hb146_J
              have hl162_J : snM z < snM (xpM 4 (cxM (codY z.1 - 18) 1 ((cnM (seM (snM z) (sEx ((xnM (eM N n (accM (bgM (codY z.1) n z))) : Int) - 1)) (eM N n (accM (bgM (codY z.1) n z)))) : Int) - 1) (zAt z.1) (seM (snM z) (sLk (((zMs (seM (snM z) (sEx ((xnM (eM N n (accM (bgM (codY z.1) n z))) : Int) - 1)) (eM N n (accM (bgM (codY z.1) n z)))).1).length : Int) - 1)) (seM (snM z) (sEx ((xnM (eM N n (accM (bgM (codY z.1) n z))) : Int) - 1)) (eM N n (accM (bgM (codY z.1) n z))))))) := Nat.lt_of_lt_of_le (show snM z < snM (seM (snM z) (sLk (((zMs (seM (snM z) (sEx ((xnM (eM N n (accM (bgM (codY z.1) n z))) : Int) - 1)) (eM N n (accM (bgM (codY z.1) n z)))).1).length : Int) - 1)) (seM (snM z) (sEx ((xnM (eM N n (accM (bgM (codY z.1) n z))) : Int) - 1)) (eM N n (accM (bgM (codY z.1) n z))))) from (show snM z < snM (seM (snM z) (sEx ((xnM (eM N n (accM (bgM (codY z.1) n z))) : Int) - 1)) (eM N n (accM (bgM (codY z.1) n z)))) from hl146_J)) hf162.2.2.2.1.1.1
              have hh162_J : (reS (xpM 4 (cxM (codY z.1 - 18) 1 ((cnM (seM (snM z) (sEx ((xnM (eM N n (accM (bgM (codY z.1) n z))) : Int) - 1)) (eM N n (accM (bgM (codY z.1) n z)))) : Int) - 1) (zAt z.1) (seM (snM z) (sLk (((zMs (seM (snM z) (sEx ((xnM (eM N n (accM (bgM (codY z.1) n z))) : Int) - 1)) (eM N n (accM (bgM (codY z.1) n z)))).1).length : Int) - 1)) (seM (snM z) (sEx ((xnM (eM N n (accM (bgM (codY z.1) n z))) : Int) - 1)) (eM N n (accM (bgM (codY z.1) n z))))))) (snM z)).1 = ((codY z.1), zAt z.1, (lvN n), z.2.2.2.1.2) ∧ (reS (xpM 4 (cxM (codY z.1 - 18) 1 ((cnM (seM (snM z) (sEx ((xnM (eM N n (accM (bgM (codY z.1) n z))) : Int) - 1)) (eM N n (accM (bgM (codY z.1) n z)))) : Int) - 1) (zAt z.1) (seM (snM z) (sLk (((zMs (seM (snM z) (sEx ((xnM (eM N n (accM (bgM (codY z.1) n z))) : Int) - 1)) (eM N n (accM (bgM (codY z.1) n z)))).1).length : Int) - 1)) (seM (snM z) (sEx ((xnM (eM N n (accM (bgM (codY z.1) n z))) : Int) - 1)) (eM N n (accM (bgM (codY z.1) n z))))))) (snM z)).2.1 = z.2.2.2.1.1 := ⟨(hf162.2.2.2.1.1.2 (snM z) (show snM z < snM (seM (snM z) (sLk (((zMs (seM (snM z) (sEx ((xnM (eM N n (accM (bgM (codY z.1) n z))) : Int) - 1)) (eM N n (accM (bgM (codY z.1) n z)))).1).length : Int) - 1)) (seM (snM z) (sEx ((xnM (eM N n (accM (bgM (codY z.1) n z))) : Int) - 1)) (eM N n (accM (bgM (codY z.1) n z))))) from (show snM z < snM (seM (snM z) (sEx ((xnM (eM N n (accM (bgM (codY z.1) n z))) : Int) - 1)) (eM N n (accM (bgM (codY z.1) n z)))) from hl146_J))).2.1.trans hh159_J.1, (hf162.2.2.2.1.1.2 (snM z) (show snM z < snM (seM (snM z) (sLk (((zMs (seM (snM z) (sEx ((xnM (eM N n (accM (bgM (codY z.1) n z))) : Int) - 1)) (eM N n (accM (bgM (codY z.1) n z)))).1).length : Int) - 1)) (seM (snM z) (sEx ((xnM (eM N n (accM (bgM (codY z.1) n z))) : Int) - 1)) (eM N n (accM (bgM (codY z.1) n z))))) from (show snM z < snM (seM (snM z) (sEx ((xnM (eM N n (accM (bgM (codY z.1) n z))) : Int) - 1)) (eM N n (accM (bgM (codY z.1) n z)))) from hl146_J))).2.2.trans hh159_J.2⟩
              try dsimp only [Option.toList, List.cons_append, List.nil_append, s1C, s2C, dlC, kyC, Nat.beq, lkC, rcd, rno, rsw]
              try dsimp only [Qz_readSimple]
              rw [g2 (by omega) (by omega)]
              exact ⟨_, _, _, by rw [hb162_J], ZC.co hZ162, FzC.co hF162, hl162_J⟩
    · have g64 := (eqI (x := (fIC τ60 (cnC σ) 270)) (y := (Int32.ofInt 4)) h64 : ((fIC τ60 (cnC σ) 270) : Int32).toInt = ((Int32.ofInt 4) : Int32).toInt)
      refine hB _ _ _ _ _ (fun m164 hm164 => ?_)
      dsimp only [ucgo, ucwp, ucsC, uqC, uoC, ctC, rfd, KX7_readSimple, KX7_readSimple_0, KX7_readSimple_18, KX7_readSimple_26, KX7_readSimple_38, KX7_readSimple_40, KX7_readSimple_49, KX7_readSimple_58, KX7_readSimple_66, KX7_readSimple_75, KX7_readSimple_84, KX7_readSimple_103, KX7_readSimple_112, KX7_readSimple_121, KX7_readSimple_148, lkC, s1C, s2C, dlC, kyC, Nat.beq, Nat.ble, rcd, rno, rsw, Nat.reduceAdd, Nat.reduceBEq, Nat.reduceDiv, List.drop, List.take, List.reverse, List.reverseAux, Int.toNat, Option.toList, List.append, List.cons_append, List.nil_append, zg211, zg240, zg241, zg242, zg270, zg303]
      try dsimp only [Qz_readSimple]
      have hk4 : codY z.1 = 4 := by omega
      rw [e4 hk4]
      have hez : (accM (bgM (codY z.1) n z)) = accM (bgM 4 n z) := by rw [hk4]
      have hZe := hZ60
      have hFe := hF60
      have hle_ : snM z < snM (accM (bgM (codY z.1) n z)) := hl60_J
      rw [hez] at hZe hFe hle_
      exact ⟨_, _, _, by rw [hb60_J], ZC.co hZe, FzC.co hFe, hle_⟩
  · have g57 := (eqI (x := (fIC τ53 (cnC σ) 270)) (y := (Int32.ofInt 2)) h57 : ((fIC τ53 (cnC σ) 270) : Int32).toInt = ((Int32.ofInt 2) : Int32).toInt)
    have hk2 : codY z.1 = 2 := by omega
    have hez165 : (beM (codY z.1) (lvN n) z) = (beM 2 (lvN n) z) := by
      rw [hk2]
    have hZ166 : ZC N E A (upA B (snM z) (cnC σ)) V τ53 (beM 2 (lvN n) z) := (by rw [← hez165]; exact hZ53)
    have hF166 : FzC (cnC σ) (xnM z) E A A B (upA B (snM z) (cnC σ)) V V z (beM 2 (lvN n) z) σ τ53 := (by rw [← hez165]; exact hF53)
    have hlw : snM z < snM (beM 2 (lvN n) z) := Nat.lt_succ_self _
    have hhw : (reS (beM 2 (lvN n) z) (snM z)).1 = ((codY z.1), zAt z.1, (lvN n), z.2.2.2.1.2) ∧ (reS (beM 2 (lvN n) z) (snM z)).2.1 = z.2.2.2.1.1 := by rw [← hez165]; exact hh53
    have hZ167 : ZC N E A (upA B (snM z) (cnC σ)) V τ53 (bgM 2 n z) := ZC.co hZ166
    have hF167 : FzC (cnC σ) (xnM z) E A A B (upA B (snM z) (cnC σ)) V V z (bgM 2 n z) σ τ53 := FzC.co hF166
    have hZ168 : ZC N E A (upA B (snM z) (cnC σ)) V τ53 (bgH 2 n z) := ZC.th hZ167
    have hF168 : FzC (cnC σ) (xnM z) E A A B (upA B (snM z) (cnC σ)) V V z (bgH 2 n z) σ τ53 := FzC.th hF167
    refine hB _ _ _ _ _ (fun m169 hm169 => ?_)
    dsimp only [ucgo, ucwp, ucsC, uqC, uoC, ctC, rfd, KX7_readSimple, KX7_readSimple_0, KX7_readSimple_18, KX7_readSimple_26, KX7_readSimple_38, KX7_readSimple_40, KX7_readSimple_49, KX7_readSimple_58, KX7_readSimple_66, KX7_readSimple_75, KX7_readSimple_84, KX7_readSimple_103, KX7_readSimple_112, KX7_readSimple_121, KX7_readSimple_148, lkC, s1C, s2C, dlC, kyC, Nat.beq, Nat.ble, rcd, rno, rsw, Nat.reduceAdd, Nat.reduceBEq, Nat.reduceDiv, List.drop, List.take, List.reverse, List.reverseAux, Int.toNat, Option.toList, List.append, List.cons_append, List.nil_append, zg211, zg240, zg241, zg242, zg270, zg303]
    intro w170 τ170 o170 q170
    obtain ⟨rfl, A170, B170, V170, hZ170, hf170⟩ := q170 (N, E, A, (upA B (snM z) (cnC σ)), V, (bgH 2 n z), n, snM z) ⟨_, _, rfl, hZ168, by omega, by omega, hlw, hb53.symm, (congrArg (fun x : Int × Int × Int × Int => x.2.2.2) hhw.1), (by rw [e2 hk2] at hft; exact hft)⟩
    rw [hb53] at hf170
    have hF170 := FzC.tr hF168 (FzC.mo hf170 ho53 (hF168).2.2.1.1.1)
    have hle170 : cnC σ ≤ cnC τ170 := Nat.le_trans hle53 hf170.1
    have hb170_J : B170 (snM z) = (cnC σ) := (hf170.2.2.2.1.1.2 (snM z) hlw).1.trans hb53
    have hl170_J : snM z < snM (blkM (rwM N (n - 1)) (snM z) (bgH 2 n z).2.2.2.1.1 (bgH 2 n z)) := Nat.lt_of_lt_of_le hlw hf170.2.2.2.1.1.1
    have hh170_J : (reS (blkM (rwM N (n - 1)) (snM z) (bgH 2 n z).2.2.2.1.1 (bgH 2 n z)) (snM z)).1 = ((codY z.1), zAt z.1, (lvN n), z.2.2.2.1.2) ∧ (reS (blkM (rwM N (n - 1)) (snM z) (bgH 2 n z).2.2.2.1.1 (bgH 2 n z)) (snM z)).2.1 = z.2.2.2.1.1 := ⟨(hf170.2.2.2.1.1.2 (snM z) hlw).2.1.trans hhw.1, (hf170.2.2.2.1.1.2 (snM z) hlw).2.2.trans hhw.2⟩
    try dsimp only [Option.toList, List.cons_append, List.nil_append, s1C, s2C, dlC, kyC, Nat.beq, lkC, rcd, rno, rsw]
    try dsimp only [Qz_readSimple]
    rw [e2 hk2]
    exact ⟨_, _, _, by rw [hb170_J], ZC.co hZ170, FzC.co hF170, hl170_J⟩
