/-! exps don't look at S's -/
def swS (g : Nat × (Nat → SrZ)) (z : ZS) : ZS := (z.1, z.2.1, g, z.2.2.2)
abbrev CmM (f : ZS → ZS) : Prop := ∀ g z, f (swS g z) = swS g (f z)
theorem cm_cl {g : Nat × (Nat → SrZ)} {p : Int} : ∀ (W : WtZ) (z : ZS), clM p W (swS g z) = swS g (clM p W z) := by
  intro W
  induction W with
  | nil => intro z; rfl
  | cons w W ih =>
    intro z
    obtain ⟨sg, f, st, a, mk⟩ := w
    rw [clM, clM]
    by_cases c : p ≤ strZ sg
    · rw [if_pos c, if_pos c]
      exact ih (puM (chnZ sg f st a mk (xnM z) z.1) z)
    · rw [if_neg c, if_neg c]
theorem cm_fk {g : Nat × (Nat → SrZ)} {z : ZS} : fkM (swS g z) = swS g (fkM z) := by
  show (if codY z.1 = 20 ∨ codY z.1 = 21 then puM (frkZ (xnM z) z.1) (swS g z) else swS g z) = swS g (if codY z.1 = 20 ∨ codY z.1 = 21 then puM (frkZ (xnM z) z.1) z else z)
  by_cases c : codY z.1 = 20 ∨ codY z.1 = 21
  · rw [if_pos c, if_pos c]
    rfl
  · rw [if_neg c, if_neg c]
theorem cm_tk {N : Int → Int} {g : Nat × (Nat → SrZ)} {z : ZS} : tkM N (swS g z) = swS g (tkM N z) := by
  show (if cobY z.1 = 8 then swS g z else puM (takZ (lkM N z (zAt z.1)) (xnM z) z.1) (swS g z)) = swS g (if cobY z.1 = 8 then z else puM (takZ (lkM N z (zAt z.1)) (xnM z) z.1) z)
  by_cases c : cobY z.1 = 8
  · rw [if_pos c, if_pos c]
  · rw [if_neg c, if_neg c]
    rfl
theorem cm_chl {O : ZS → ZS} (hO : CmM O) {g : Nat × (Nat → SrZ)} : ∀ (f : Nat) (W : WtZ) (r : Int × Int) (z : ZS), chlM O f W r (swS g z) = swS g (chlM O f W r z) := by
  intro f
  induction f with
  | zero => intro W r z; exact cm_cl W z
  | succ f ih =>
    intro W r z
    rw [chlM, chlM]
    by_cases c : 20 ≤ codY z.1 ∧ codY z.1 ≤ 38
    · rw [if_pos (show 20 ≤ codY (swS g z).1 ∧ codY (swS g z).1 ≤ 38 from c), if_pos c]
      have e : clM (strZ (codY (swS g z).1)) W (swS g z) = swS g (clM (strZ (codY z.1)) W z) := cm_cl W z
      rw [e, cm_fk]
      have e2 : O (accM (swS g (fkM (clM (strZ (codY z.1)) W z)))) = swS g (O (accM (fkM (clM (strZ (codY z.1)) W z)))) := hO g (accM (fkM (clM (strZ (codY z.1)) W z)))
      rw [e2]
      exact ih _ _ _
    · rw [if_neg (show ¬ (20 ≤ codY (swS g z).1 ∧ codY (swS g z).1 ≤ 38) from c), if_neg c]
      exact cm_cl W z
theorem cm_ch2 {E C : ZS → ZS} (hE : CmM E) (hC : CmM C) {g : Nat × (Nat → SrZ)} {r : Int × Int} {z : ZS} : ch2M E C r (swS g z) = swS g (ch2M E C r z) := by
  unfold ch2M
  by_cases c : codY z.1 = 7
  · rw [if_pos (show codY (swS g z).1 = 7 from c), if_pos c]
    have e1 : E (accM (puM (thnZ (xnM (swS g z)) (swS g z).1) (swS g z))) = swS g (E (accM (puM (thnZ (xnM z) z.1) z))) := hE g (accM (puM (thnZ (xnM z) z.1) z))
    rw [e1]
    generalize E (accM (puM (thnZ (xnM z) z.1) z)) = y
    unfold ch3M
    have e2 : C (xpM 6 (puM (elsZ (xnM (swS g z)) (xnM (swS g y)) (swS g y).1) (swS g y))) = swS g (C (xpM 6 (puM (elsZ (xnM z) (xnM y) y.1) y))) := hC g (xpM 6 (puM (elsZ (xnM z) (xnM y) y.1) y))
    rw [e2]
    rfl
  · rw [if_neg (show ¬ codY (swS g z).1 = 7 from c), if_neg c]
theorem cm_chc {O E C : ZS → ZS} (hO : CmM O) (hE : CmM E) (hC : CmM C) : CmM (chcM O E C) := by
  intro g z
  show ch2M E C (csrZ 0 [] (rbM z)) (chlM O 501 [] (rbM z) (O (swS g z))) = _
  rw [hO, cm_chl hO, cm_ch2 hE hC]
  rfl
theorem cm_xps {N : Int → Int} {O E C : ZS → ZS} (hO : CmM O) (hE : CmM E) (hC : CmM C) : CmM (xpsM N O E C) := by
  intro g z
  unfold xpsM
  by_cases c : codY z.1 = 80
  · rw [if_pos (show codY (swS g z).1 = 80 from c), if_pos c]
    by_cases d : 8 ≤ cobY z.1 ∧ cobY z.1 ≤ 19
    · rw [if_pos (show 8 ≤ cobY (swS g z).1 ∧ cobY (swS g z).1 ≤ 19 from d), if_pos d]
      unfold asgM
      rw [cm_tk]
      have e : E (accM (accM (swS g (tkM N z)))) = swS g (E (accM (accM (tkM N z)))) := hE g (accM (accM (tkM N z)))
      rw [e]
      rfl
    · rw [if_neg (show ¬ (8 ≤ cobY (swS g z).1 ∧ cobY (swS g z).1 ≤ 19) from d), if_neg d]
      exact cm_chc hO hE hC g z
  · rw [if_neg (show ¬ codY (swS g z).1 = 80 from c), if_neg c]
    exact cm_chc hO hE hC g z
theorem cm_clp {E : ZS → ZS} (hE : CmM E) {r : Int × Int} {g : Nat × (Nat → SrZ)} : ∀ (f : Nat) (l : List Int) (z : ZS), clpM E r f l (swS g z) = swS g (clpM E r f l z) := by
  intro f
  induction f with
  | zero => intro l z; rfl
  | succ f ih =>
    intro l z
    rw [clpM, clpM]
    by_cases c : codY z.1 = 5
    · rw [if_pos (show codY (swS g z).1 = 5 from c), if_pos c]
      have e : E (accM (swS g z)) = swS g (E (accM z)) := hE g (accM z)
      show clpM E r f (l ++ [(xnM (E (accM (swS g z))) : Int) - 1]) (E (accM (swS g z))) = _
      rw [e]
      exact ih _ _
    · rw [if_neg (show ¬ codY (swS g z).1 = 5 from c), if_neg c]
      rfl
theorem cm_opr {N : Int → Int} {m : Nat} {E : ZS → ZS} {I : Int → ZS → ZS} (hE : CmM E) (hI : ∀ q, CmM (I q)) (q : Int) : CmM (oprM N m E I q) := by
  intro g z
  unfold oprM
  by_cases c1 : codY z.1 = 34 ∨ codY z.1 = 35 ∨ codY z.1 = 39 ∨ codY z.1 = 40
  · rw [if_pos (show codY (swS g z).1 = 34 ∨ codY (swS g z).1 = 35 ∨ codY (swS g z).1 = 39 ∨ codY (swS g z).1 = 40 from c1), if_pos c1]
    have e : I (ngZ (codY (swS g z).1)) (accM (swS g z)) = swS g (I (ngZ (codY z.1)) (accM z)) := hI _ g (accM z)
    rw [e]
    rfl
  rw [if_neg (show ¬ (codY (swS g z).1 = 34 ∨ codY (swS g z).1 = 35 ∨ codY (swS g z).1 = 39 ∨ codY (swS g z).1 = 40) from c1), if_neg c1]
  by_cases c2 : codY z.1 = 41 ∨ codY z.1 = 42
  · rw [if_pos (show codY (swS g z).1 = 41 ∨ codY (swS g z).1 = 42 from c2), if_pos c2]
    rfl
  rw [if_neg (show ¬ (codY (swS g z).1 = 41 ∨ codY (swS g z).1 = 42) from c2), if_neg c2]
  by_cases c3 : codY z.1 = 0
  · rw [if_pos (show codY (swS g z).1 = 0 from c3), if_pos c3]
    unfold op2M
    by_cases d : 50 ≤ codY (accM z).1 ∧ codY (accM z).1 ≤ 54
    · rw [if_pos (show 50 ≤ codY (accM (swS g z)).1 ∧ codY (accM (swS g z)).1 ≤ 54 from d), if_pos d]
      have e : I 0 (xpM 1 (typM (accM (swS g z)))) = swS g (I 0 (xpM 1 (typM (accM z)))) := hI 0 g (xpM 1 (typM (accM z)))
      rw [e]
      rfl
    · rw [if_neg (show ¬ (50 ≤ codY (accM (swS g z)).1 ∧ codY (accM (swS g z)).1 ≤ 54) from d), if_neg d]
      have e : E (accM (swS g z)) = swS g (E (accM z)) := hE g (accM z)
      rw [e]
      rfl
  rw [if_neg (show ¬ codY (swS g z).1 = 0 from c3), if_neg c3]
  by_cases c4 : codY z.1 = 80
  · rw [if_pos (show codY (swS g z).1 = 80 from c4), if_pos c4]
    unfold nmeM
    by_cases d : cobY z.1 = 0
    · rw [if_pos (show cobY (swS g z).1 = 0 from d), if_pos d]
      unfold ca2M
      by_cases m0 : m = 0
      · rw [if_pos m0, if_pos m0]
        rfl
      rw [if_neg m0, if_neg m0]
      by_cases d1 : codY (accM (accM z)).1 = 1
      · rw [if_pos (show codY (accM (accM (swS g z))).1 = 1 from d1), if_pos d1]
        rfl
      rw [if_neg (show ¬ codY (accM (accM (swS g z))).1 = 1 from d1), if_neg d1]
      have e : E (accM (accM (swS g z))) = swS g (E (accM (accM z))) := hE g (accM (accM z))
      show clpM E (rbM z) 501 [(xnM (E (accM (accM (swS g z)))) : Int) - 1] (E (accM (accM (swS g z)))) = _
      rw [e]
      exact cm_clp hE _ _ _
    rw [if_neg (show ¬ cobY (swS g z).1 = 0 from d), if_neg d]
    by_cases d1 : cobY z.1 = 41 ∨ cobY z.1 = 42
    · rw [if_pos (show cobY (swS g z).1 = 41 ∨ cobY (swS g z).1 = 42 from d1), if_pos d1]
      rfl
    · rw [if_neg (show ¬ (cobY (swS g z).1 = 41 ∨ cobY (swS g z).1 = 42) from d1), if_neg d1]
      rfl
  rw [if_neg (show ¬ codY (swS g z).1 = 80 from c4), if_neg c4]
  by_cases c5 : codY z.1 = 81 ∨ codY z.1 = 82 ∨ codY z.1 = 83 ∨ codY z.1 = 72 ∨ codY z.1 = 73
  · rw [if_pos (show codY (swS g z).1 = 81 ∨ codY (swS g z).1 = 82 ∨ codY (swS g z).1 = 83 ∨ codY (swS g z).1 = 72 ∨ codY (swS g z).1 = 73 from c5), if_pos c5]
    rfl
  · rw [if_neg (show ¬ (codY (swS g z).1 = 81 ∨ codY (swS g z).1 = 82 ∨ codY (swS g z).1 = 83 ∨ codY (swS g z).1 = 72 ∨ codY (swS g z).1 = 73) from c5), if_neg c5]
    rfl
theorem cm_lv {N : Int → Int} : ∀ n, CmM (eM N n) ∧ CmM (cM N n) ∧ ∀ q, CmM (oM N n q) := by
  intro n
  induction n with
  | zero => exact ⟨fun _ _ => rfl, fun _ _ => rfl, fun _ _ _ => rfl⟩
  | succ n ih => exact ⟨cm_xps (cm_opr ih.1 ih.2.2 0) ih.1 ih.2.1, cm_chc (cm_opr ih.1 ih.2.2 0) ih.1 ih.2.1, fun q => cm_opr ih.1 ih.2.2 q⟩
theorem cm_se {N : Int → Int} {n j : Nat} {f : SrZ → SrZ} {z : ZS} : eM N n (seM j f z) = seM j f (eM N n z) := by
  have e : eM N n (seM j f z) = swS (seM j f z).2.2.1 (eM N n z) := (cm_lv n).1 _ z
  have k : (eM N n z).2.2 = z.2.2 := ks_e z
  rw [e]
  show ((eM N n z).1, (eM N n z).2.1, (z.2.2.1.1, upS z.2.2.1.2 j (f (z.2.2.1.2 j))), (eM N n z).2.2.2) = ((eM N n z).1, (eM N n z).2.1, ((eM N n z).2.2.1.1, upS (eM N n z).2.2.1.2 j (f ((eM N n z).2.2.1.2 j))), (eM N n z).2.2.2)
  rw [k]
theorem se_cm {i j : Nat} {f h : SrZ → SrZ} {z : ZS} (hn : i ≠ j) : seM i h (seM j f z) = seM j f (seM i h z) := by
  have e : upS (upS z.2.2.1.2 j (f (z.2.2.1.2 j))) i (h (upS z.2.2.1.2 j (f (z.2.2.1.2 j)) i)) = upS (upS z.2.2.1.2 i (h (z.2.2.1.2 i))) j (f (upS z.2.2.1.2 i (h (z.2.2.1.2 i)) j)) := by
    funext k
    unfold upS
    by_cases c1 : k = i
    · rw [if_pos c1, if_neg hn, if_pos c1, if_neg (show ¬ k = j by omega)]
    · rw [if_neg c1]
      by_cases c2 : k = j
      · rw [if_pos c2, if_pos c2, if_neg (fun q => hn q.symm)]
      · rw [if_neg c2, if_neg c2, if_neg c1]
  show (z.1, z.2.1, (z.2.2.1.1, upS (upS z.2.2.1.2 j (f (z.2.2.1.2 j))) i (h (upS z.2.2.1.2 j (f (z.2.2.1.2 j)) i))), z.2.2.2) = (z.1, z.2.1, (z.2.2.1.1, upS (upS z.2.2.1.2 i (h (z.2.2.1.2 i))) j (f (upS z.2.2.1.2 i (h (z.2.2.1.2 i)) j))), z.2.2.2)
  rw [e]
theorem fx1_sn {N : Int → Int} {n : Nat} {z : ZS} : snM (fx1M N n z) = snM z + 1 := by
  show (eM N n (beM 94 (lvN n) z)).2.2.1.1 = _
  rw [show (eM N n (beM 94 (lvN n) z)).2.2 = (beM 94 (lvN n) z).2.2 from ks_e _]
  rfl
/-- what stands in a loop of for's exps -/
def FxQ (N : Int → Int) (E A B V : Nat → Nat) (z : ZS) (σ υ : CsC) (Y W : Nat → Nat) (v : ZS) (j o : Nat) : Prop := (ZC N E Y W V υ v ∧ FzC (cnC σ) (xnM z) E A Y B W V V z v σ υ) ∧ (j < snM v ∧ W j = o ∧ cnC σ ≤ o) ∧ (W (snM z) = cnC σ ∧ snM z < snM v) ∧ cnC σ ≤ cnC υ
abbrev Pz_readForExps : ((Int → Int) × (Nat → Nat) × (Nat → Nat) × (Nat → Nat) × (Nat → Nat) × ZS × Nat) → CpC := fun y As σ => match y with
  | (N, E, A, B, V, z, n) => ∃ (p1 : Int32), As = [.inr (.inr (some (E 0))), .inl p1] ∧ (ZC N E A B V σ z) ∧ (p1.toInt + (n : Int) = 21) ∧ (1 ≤ n) ∧ (zFt (fxM N n z).1 = 0)
abbrev Qz_readForExps : ((Int → Int) × (Nat → Nat) × (Nat → Nat) × (Nat → Nat) × (Nat → Nat) × ZS × Nat) → CqC := fun y As σ w τ => match y, As with
  | (N, E, A, B, V, z, n), [_, .inl p1] => SeQ N E A B V z (fxM N n z) σ w τ
  | _, _ => True
abbrev Uz_readForExps : CqC := fun As σ w τ => ∀ y, Pz_readForExps y As σ → Qz_readForExps y As σ w τ
set_option maxHeartbeats 4000000 in
theorem pz_readForExps (y : (Int → Int) × (Nat → Nat) × (Nat → Nat) × (Nat → Nat) × (Nat → Nat) × ZS × Nat) : PbC KX7_readForExps [(142, TrP, EqC 142), (164, TrP, EqC 164), (130, TrP, EqC 130)] [(142, Uz_begin), (164, Uz_readExp), (130, Uz_takes)] (fun As σ => Pz_readForExps y As σ ∧ cnC σ ≤ 1000000 ∧ ∃ w τ, uqC quL 158 As σ w τ) (Qz_readForExps y) := by
  obtain ⟨N, E, A, B, V, z, n⟩ := y
  rintro As σ ⟨⟨p1, rfl, hZ, hd, hn, hft⟩, hcn, _, _, hQ⟩ K hB hW n_
  have hH : HI0 σ ∧ TyC σ (E 0) 8 := hQ
  have hat := hZ.at0 hH
  have hz1 : zFt (eM N n (beM 94 (lvN n) z)).1 = 0 := by
    have h9 := hft
    unfold fxM at h9
    rw [lf_fxl] at h9
    exact GpY.z (gd_clp gd_e 501 _) h9
  have L22 : ∀ (k : Nat) (υ : CsC) (Y W : Nat → Nat) (v : ZS) (j o : Nat) (i : Int32), FxQ N E A B V z σ υ Y W v j o → 0 ≤ i.toInt → i.toInt ≤ 501 → fxlM N n (501 - i.toInt).toNat j v = fxM N n z → K k 22 [(0, .inr (.inr (some (E 0)))), (1, .inl p1), (2, .inr (.inr (some (cnC σ)))), (3, .inr (.inr (some o))), (4, .inl i)] [] υ := by
    intro k
    induction k using Nat.strongRecOn with
    | _ k ih =>
      intro υ Y W v j o i hR hi0 hi1 hP
      refine hB _ _ _ _ _ (fun m51 hm51 => ?_)
      dsimp only [ucgo, ucwp, ucsC, uqC, uoC, ctC, rfd, KX7_readForExps, KX7_readForExps_0, KX7_readForExps_22, KX7_readForExps_30, KX7_readForExps_38, KX7_readForExps_69, lkC, s1C, s2C, dlC, kyC, Nat.beq, Nat.ble, rcd, rno, rsw, Nat.reduceAdd, Nat.reduceBEq, Nat.reduceDiv, List.drop, List.take, List.reverse, List.reverseAux, Int.toNat, Option.toList, List.append, List.cons_append, List.nil_append, zg275]
      have c52 : (Int32.ofInt 500).toInt = 500 := by decide
      refine ⟨fun h53 => ?_, fun h53 => ?_⟩
      · have g53 := ltI (x := (Int32.ofInt 500)) (y := i) h53
        have hE : v = fxM N n z := by rw [show (501 - i.toInt).toNat = 0 by omega] at hP; exact hP
        refine hB _ _ _ _ _ (fun m54 hm54 => ?_)
        dsimp only [ucgo, ucwp, ucsC, uqC, uoC, ctC, rfd, KX7_readForExps, KX7_readForExps_0, KX7_readForExps_22, KX7_readForExps_30, KX7_readForExps_38, KX7_readForExps_69, lkC, s1C, s2C, dlC, kyC, Nat.beq, Nat.ble, rcd, rno, rsw, Nat.reduceAdd, Nat.reduceBEq, Nat.reduceDiv, List.drop, List.take, List.reverse, List.reverseAux, Int.toNat, Option.toList, List.append, List.cons_append, List.nil_append, zg275]
        try dsimp only [Qz_readForExps]
        rw [← hE]
        exact ⟨Y, W, V, by rw [hR.2.2.1.1], hR.1.1, hR.1.2, hR.2.2.1.2⟩
      · have g53 := nltI (x := (Int32.ofInt 500)) (y := i) h53
        refine hB _ _ _ _ _ (fun m55 hm55 => ?_)
        dsimp only [ucgo, ucwp, ucsC, uqC, uoC, ctC, rfd, KX7_readForExps, KX7_readForExps_0, KX7_readForExps_22, KX7_readForExps_30, KX7_readForExps_38, KX7_readForExps_69, lkC, s1C, s2C, dlC, kyC, Nat.beq, Nat.ble, rcd, rno, rsw, Nat.reduceAdd, Nat.reduceBEq, Nat.reduceDiv, List.drop, List.take, List.reverse, List.reverseAux, Int.toNat, Option.toList, List.append, List.cons_append, List.nil_append, zg275]
        have c56 : (Int32.ofInt 5).toInt = 5 := by decide
        intro w57 τ57 o57 q57
        have hP5 : codY v.1 = 5 → fxlM N n (500 - i.toInt).toNat (snM v) (seM j (sNx (snM v)) (fx1M N n (accM v))) = fxM N n z := fun q9 => by
          rw [show (501 - i.toInt).toNat = (500 - i.toInt).toNat + 1 by omega, fxlM, if_pos q9] at hP
          exact hP
        have hPn : ¬ codY v.1 = 5 → v = fxM N n z := fun q9 => by
          rw [show (501 - i.toInt).toNat = (500 - i.toInt).toNat + 1 by omega, fxlM, if_neg q9] at hP
          exact hP
        have he5 : codY v.1 = 5 → zFt (eM N n (beM 94 (lvN n) (accM v))).1 = 0 := fun q9 => by
          have h9 := hft
          rw [← hP5 q9, lf_fxl] at h9
          exact GpY.z (gd_clp gd_e _ _) h9
        have ha5 : codY v.1 = 5 → zFt (accM v).1 = 0 := fun q9 => by
          have h9 := he5 q9
          rw [lf_e] at h9
          exact (gd_e _).z h9
        obtain ⟨r57, rfl, D57⟩ : ∃ r, w57 = some (.inl r) ∧ ((r.toInt = 1 ∧ codY v.1 = 5 ∧ ZC N E Y W V τ57 (accM v) ∧ FzC (cnC υ) (xnM v) E Y Y W W V V v (accM v) υ τ57) ∨ (r.toInt = 0 ∧ ¬ codY v.1 = 5 ∧ υ = τ57)) := by
          rcases q57 (N, E, Y, W, V, v, 5) ⟨_, rfl, hR.1.1, by omega, ha5⟩ with ⟨r, h1, h2⟩ | ⟨r, h1, h2⟩
          · exact ⟨r, h1, Or.inl h2⟩
          · exact ⟨r, h1, Or.inr h2⟩
        try dsimp only [Option.toList, List.cons_append, List.nil_append, s1C, s2C, dlC, kyC, Nat.beq, lkC, rcd, rno, rsw]
        refine ⟨fun h58 => ?_, fun h58 => ?_⟩
        · have g58 := (eqI (x := r57) (y := 0) h58 : (r57 : Int32).toInt = (0 : Int32).toInt)
          have z0_ : (0 : Int32).toInt = 0 := rfl
          obtain ⟨d2, rfl⟩ : ¬ codY v.1 = 5 ∧ υ = τ57 := by
            rcases D57 with ⟨d1, -⟩ | ⟨-, d2⟩
            · exact absurd d1 (by omega)
            · exact d2
          have hE := hPn d2
          refine hB _ _ _ _ _ (fun m59 hm59 => ?_)
          dsimp only [ucgo, ucwp, ucsC, uqC, uoC, ctC, rfd, KX7_readForExps, KX7_readForExps_0, KX7_readForExps_22, KX7_readForExps_30, KX7_readForExps_38, KX7_readForExps_69, lkC, s1C, s2C, dlC, kyC, Nat.beq, Nat.ble, rcd, rno, rsw, Nat.reduceAdd, Nat.reduceBEq, Nat.reduceDiv, List.drop, List.take, List.reverse, List.reverseAux, Int.toNat, Option.toList, List.append, List.cons_append, List.nil_append, zg275]
          try dsimp only [Qz_readForExps]
          rw [← hE]
          exact ⟨Y, W, V, by rw [hR.2.2.1.1], hR.1.1, hR.1.2, hR.2.2.1.2⟩
        · have g58 := (neI (x := r57) (y := 0) h58 : ¬ (r57 : Int32).toInt = (0 : Int32).toInt)
          have z0_ : (0 : Int32).toInt = 0 := rfl
          obtain ⟨d2, hZ57, hf57⟩ : codY v.1 = 5 ∧ ZC N E Y W V τ57 (accM v) ∧ FzC (cnC υ) (xnM v) E Y Y W W V V v (accM v) υ τ57 := by
            rcases D57 with ⟨-, d2⟩ | ⟨d1, -⟩
            · exact d2
            · exact absurd d1 (by omega)
          have hF57 := FzC.tr hR.1.2 (FzC.mo hf57 hR.2.2.2 (hR.1.2).2.2.1.1.1)
          have hle57 : cnC σ ≤ cnC τ57 := Nat.le_trans hR.2.2.2 (hf57).1
          have hb57_J : W (snM z) = (cnC σ) := (hf57.2.2.2.1.1.2 (snM z) hR.2.2.1.2).1.trans hR.2.2.1.1
          have hl57_J : snM z < snM (accM v) := Nat.lt_of_lt_of_le hR.2.2.1.2 hf57.2.2.2.1.1.1
          have hb57_j : W j = o := (hf57.2.2.2.1.1.2 j hR.2.1.1).1.trans hR.2.1.2.1
          have hl57_j : j < snM (accM v) := Nat.lt_of_lt_of_le hR.2.1.1 hf57.2.2.2.1.1.1
          refine hB _ _ _ _ _ (fun m60 hm60 => ?_)
          dsimp only [ucgo, ucwp, ucsC, uqC, uoC, ctC, rfd, KX7_readForExps, KX7_readForExps_0, KX7_readForExps_22, KX7_readForExps_30, KX7_readForExps_38, KX7_readForExps_69, lkC, s1C, s2C, dlC, kyC, Nat.beq, Nat.ble, rcd, rno, rsw, Nat.reduceAdd, Nat.reduceBEq, Nat.reduceDiv, List.drop, List.take, List.reverse, List.reverseAux, Int.toNat, Option.toList, List.append, List.cons_append, List.nil_append, zg275]
          have c61 : (Int32.ofInt 94).toInt = 94 := by decide
          intro w62 τ62 o62 q62
          obtain ⟨rfl, hZ62, hf62⟩ := q62 (N, E, Y, W, V, (accM v), 94, (lvN n)) ⟨_, _, rfl, hZ57, by omega, by unfold lvN; omega⟩
          have hF62 := FzC.tr hF57 (FzC.mo hf62 hle57 (hF57).2.2.1.1.1)
          have hle62 : cnC σ ≤ cnC τ62 := Nat.le_trans hle57 (hf62).1
          have hb62_J : (upA W (snM (accM v)) (cnC τ57)) (snM z) = (cnC σ) := (hf62.2.2.2.1.1.2 (snM z) hl57_J).1.trans hb57_J
          have hl62_J : snM z < snM (beM 94 (lvN n) (accM v)) := Nat.lt_of_lt_of_le hl57_J hf62.2.2.2.1.1.1
          have hb62_j : (upA W (snM (accM v)) (cnC τ57)) j = o := (hf62.2.2.2.1.1.2 j hl57_j).1.trans hb57_j
          have hl62_j : j < snM (beM 94 (lvN n) (accM v)) := Nat.lt_of_lt_of_le hl57_j hf62.2.2.2.1.1.1
          have hb62 : (upA W (snM (accM v)) (cnC τ57)) (snM (accM v)) = cnC τ57 := upA_e
          have hl62 : snM (accM v) < snM (beM 94 (lvN n) (accM v)) := Nat.lt_succ_self _
          have ho62 : cnC σ ≤ cnC τ57 := hle57
          have hh62 : (reS (beM 94 (lvN n) (accM v)) (snM (accM v))).1 = (94, zAt (accM v).1, (lvN n), (accM v).2.2.2.1.2) ∧ (reS (beM 94 (lvN n) (accM v)) (snM (accM v))).2.1 = (accM v).2.2.2.1.1 := by rw [beM_e]; exact ⟨rfl, rfl⟩
          try dsimp only [Option.toList, List.cons_append, List.nil_append, s1C, s2C, dlC, kyC, Nat.beq, lkC, rcd, rno, rsw]
          intro a63 e63 ob63 fk63
          cases e63
          clear fk63 ob63
          generalize hs63 : pRC τ62 o 275 (some (cnC τ57)) = s63
          have hx63 : SfE o τ62 s63 := by rw [← hs63]; exact SfE.pR (by decide)
          have hZ63 : ZC N E Y (upA W (snM (accM v)) (cnC τ57)) V s63 (seM (j) (sNx ((snM (accM v) : Nat) : Int)) (beM 94 (lvN n) (accM v))) := by rw [← hs63]; exact ZC.s275 hZ62 hl62_j hb62_j (by rw [opA_k, hb62]) (by have := hl62; omega)
          have hF63 : FzC (cnC σ) (xnM z) E A Y B (upA W (snM (accM v)) (cnC τ57)) V V z (seM (j) (sNx ((snM (accM v) : Nat) : Int)) (beM 94 (lvN n) (accM v))) σ s63 := FzC.se hF62 hR.2.1.2.2 hx63 (fun _ => ⟨rfl, rfl⟩)
          have hle63 : cnC σ ≤ cnC s63 := by rw [hx63.2.2]; exact hle62
          have hh63_snMaccMv : (reS (seM (j) (sNx ((snM (accM v) : Nat) : Int)) (beM 94 (lvN n) (accM v))) (snM (accM v))).1 = (94, zAt (accM v).1, (lvN n), (accM v).2.2.2.1.2) ∧ (reS (seM (j) (sNx ((snM (accM v) : Nat) : Int)) (beM 94 (lvN n) (accM v))) (snM (accM v))).2.1 = (accM v).2.2.2.1.1 := by rw [seM_n (by omega)]; exact hh62
          intro a64 e64 ob64
          cases e64
          have f65 : (fRC s63 o 275) = some (cnC τ57) := by rw [← hs63]; exact pR_e
          rw [f65]
          intro w66 τ66 o66 q66
          obtain ⟨A66, rfl, hZ66, hf66, ht66, hx66⟩ : ExQ N E Y (upA W (snM (accM v)) (cnC τ57)) V (seM (j) (sNx ((snM (accM v) : Nat) : Int)) (beM 94 (lvN n) (accM v))) (eM N n (seM (j) (sNx ((snM (accM v) : Nat) : Int)) (beM 94 (lvN n) (accM v)))) s63 w66 τ66 := q66 (N, E, Y, (upA W (snM (accM v)) (cnC τ57)), V, (seM (j) (sNx ((snM (accM v) : Nat) : Int)) (beM 94 (lvN n) (accM v))), n) ⟨_, rfl, hZ63, by omega, (by rw [cm_se]; exact he5 d2)⟩
          have hF66 := FzC.tr hF63 (FzC.mo hf66 hle63 (hF63).2.2.1.1.1)
          have hle66 : cnC σ ≤ cnC τ66 := Nat.le_trans hle63 (hf66).1
          have hb66_J : (upA W (snM (accM v)) (cnC τ57)) (snM z) = (cnC σ) := (hf66.2.2.2.1.1.2 (snM z) hl62_J).1.trans hb62_J
          have hl66_J : snM z < snM (eM N n (seM (j) (sNx ((snM (accM v) : Nat) : Int)) (beM 94 (lvN n) (accM v)))) := Nat.lt_of_lt_of_le hl62_J hf66.2.2.2.1.1.1
          have hb66_j : (upA W (snM (accM v)) (cnC τ57)) j = o := (hf66.2.2.2.1.1.2 j (show j < snM (seM (j) (sNx ((snM (accM v) : Nat) : Int)) (beM 94 (lvN n) (accM v))) from hl62_j)).1.trans hb62_j
          have hl66_j : j < snM (eM N n (seM (j) (sNx ((snM (accM v) : Nat) : Int)) (beM 94 (lvN n) (accM v)))) := Nat.lt_of_lt_of_le (show j < snM (seM (j) (sNx ((snM (accM v) : Nat) : Int)) (beM 94 (lvN n) (accM v))) from hl62_j) hf66.2.2.2.1.1.1
          have hb66_snMaccMv : (upA W (snM (accM v)) (cnC τ57)) (snM (accM v)) = (cnC τ57) := (hf66.2.2.2.1.1.2 (snM (accM v)) hl62).1.trans hb62
          have hl66_snMaccMv : snM (accM v) < snM (eM N n (seM (j) (sNx ((snM (accM v) : Nat) : Int)) (beM 94 (lvN n) (accM v)))) := Nat.lt_of_lt_of_le hl62 hf66.2.2.2.1.1.1
          have hh66_snMaccMv : (reS (eM N n (seM (j) (sNx ((snM (accM v) : Nat) : Int)) (beM 94 (lvN n) (accM v)))) (snM (accM v))).1 = (94, zAt (accM v).1, (lvN n), (accM v).2.2.2.1.2) ∧ (reS (eM N n (seM (j) (sNx ((snM (accM v) : Nat) : Int)) (beM 94 (lvN n) (accM v)))) (snM (accM v))).2.1 = (accM v).2.2.2.1.1 := ⟨(hf66.2.2.2.1.1.2 (snM (accM v)) hl62).2.1.trans hh63_snMaccMv.1, (hf66.2.2.2.1.1.2 (snM (accM v)) hl62).2.2.trans hh63_snMaccMv.2⟩
          try dsimp only [Option.toList, List.cons_append, List.nil_append, s1C, s2C, dlC, kyC, Nat.beq, lkC, rcd, rno, rsw]
          intro a67 e67 ob67 fk67
          cases e67
          clear fk67 ob67
          generalize hs67 : pRC τ66 (cnC τ57) 279 (some (A66 (xnM (eM N n (seM (j) (sNx ((snM (accM v) : Nat) : Int)) (beM 94 (lvN n) (accM v)))) - 1))) = s67
          have hx67 : SfE (cnC τ57) τ66 s67 := by rw [← hs67]; exact SfE.pR (by decide)
          have hZ67 : ZC N E A66 (upA W (snM (accM v)) (cnC τ57)) V s67 (seM (snM (accM v)) (sEx ((xnM (eM N n (seM (j) (sNx ((snM (accM v) : Nat) : Int)) (beM 94 (lvN n) (accM v)))) : Int) - 1)) (eM N n (seM (j) (sNx ((snM (accM v) : Nat) : Int)) (beM 94 (lvN n) (accM v))))) := by rw [← hs67]; exact ZC.s279 hZ66 hl66_snMaccMv hb66_snMaccMv (opA_p (by omega)).symm (by omega)
          have hF67 : FzC (cnC σ) (xnM z) E A A66 B (upA W (snM (accM v)) (cnC τ57)) V V z (seM (snM (accM v)) (sEx ((xnM (eM N n (seM (j) (sNx ((snM (accM v) : Nat) : Int)) (beM 94 (lvN n) (accM v)))) : Int) - 1)) (eM N n (seM (j) (sNx ((snM (accM v) : Nat) : Int)) (beM 94 (lvN n) (accM v))))) σ s67 := FzC.se hF66 ho62 hx67 (fun _ => ⟨rfl, rfl⟩)
          have hle67 : cnC σ ≤ cnC s67 := by rw [hx67.2.2]; exact hle66
          have hh67_snMaccMv : (reS (seM (snM (accM v)) (sEx ((xnM (eM N n (seM (j) (sNx ((snM (accM v) : Nat) : Int)) (beM 94 (lvN n) (accM v)))) : Int) - 1)) (eM N n (seM (j) (sNx ((snM (accM v) : Nat) : Int)) (beM 94 (lvN n) (accM v))))) (snM (accM v))).1 = (94, zAt (accM v).1, (lvN n), (accM v).2.2.2.1.2) ∧ (reS (seM (snM (accM v)) (sEx ((xnM (eM N n (seM (j) (sNx ((snM (accM v) : Nat) : Int)) (beM 94 (lvN n) (accM v)))) : Int) - 1)) (eM N n (seM (j) (sNx ((snM (accM v) : Nat) : Int)) (beM 94 (lvN n) (accM v))))) (snM (accM v))).2.1 = (accM v).2.2.2.1.1 := by rw [seM_e]; exact hh66_snMaccMv
          have c68 : (Int32.ofInt 1).toInt = 1 := by decide
          have u69 := tiC i
          have a69 : (i + (Int32.ofInt 1)).toInt = i.toInt + 1 := addC (by omega) (by omega) (by omega)
          have hez70 : (seM (snM (accM v)) (sEx ((xnM (eM N n (seM (j) (sNx ((snM (accM v) : Nat) : Int)) (beM 94 (lvN n) (accM v)))) : Int) - 1)) (eM N n (seM (j) (sNx ((snM (accM v) : Nat) : Int)) (beM 94 (lvN n) (accM v))))) = (seM j (sNx ((snM (accM v) : Nat) : Int)) (seM (snM (accM v)) (sEx ((xnM (eM N n (beM 94 (lvN n) (accM v))) : Int) - 1)) (eM N n (beM 94 (lvN n) (accM v))))) := by
            rw [cm_se]
            exact se_cm (by have := hR.2.1.1; have e9 : snM (accM v) = snM v := rfl; omega)
          have hZ71 : ZC N E A66 (upA W (snM (accM v)) (cnC τ57)) V s67 (seM j (sNx ((snM (accM v) : Nat) : Int)) (seM (snM (accM v)) (sEx ((xnM (eM N n (beM 94 (lvN n) (accM v))) : Int) - 1)) (eM N n (beM 94 (lvN n) (accM v))))) := (by rw [← hez70]; exact hZ67)
          have hF71 : FzC (cnC σ) (xnM z) E A A66 B (upA W (snM (accM v)) (cnC τ57)) V V z (seM j (sNx ((snM (accM v) : Nat) : Int)) (seM (snM (accM v)) (sEx ((xnM (eM N n (beM 94 (lvN n) (accM v))) : Int) - 1)) (eM N n (beM 94 (lvN n) (accM v))))) σ s67 := (by rw [← hez70]; exact hF67)
          have hZ72 : ZC N E A66 (upA W (snM (accM v)) (cnC τ57)) V s67 (seM j (sNx (snM v)) (fx1M N n (accM v))) := ZC.co hZ71
          have hF72 : FzC (cnC σ) (xnM z) E A A66 B (upA W (snM (accM v)) (cnC τ57)) V V z (seM j (sNx (snM v)) (fx1M N n (accM v))) σ s67 := FzC.co hF71
          exact hW _ 22 [(0, .inr (.inr (some (E 0)))), (1, .inl p1), (2, .inr (.inr (some (cnC σ)))), (3, .inr (.inr (some (cnC τ57)))), (4, .inl (i + (Int32.ofInt 1)))] _ _ _ (List.forall_mem_cons.2 ⟨List.Mem.tail _ (List.Mem.tail _ (List.Mem.head _)), List.forall_mem_cons.2 ⟨List.Mem.tail _ (List.Mem.tail _ (List.Mem.tail _ (List.Mem.head _))), List.forall_mem_cons.2 ⟨List.Mem.tail _ (List.Mem.tail _ (List.Mem.tail _ (List.Mem.tail _ (List.Mem.head _)))), List.forall_mem_cons.2 ⟨List.Mem.tail _ (List.Mem.head _), List.forall_mem_cons.2 ⟨List.Mem.head _, fun _ h => absurd h List.not_mem_nil⟩⟩⟩⟩⟩) (ih _ (by omega) _ _ _ _ _ _ _ ⟨⟨hZ72, hF72⟩, ⟨(show snM (accM v) < snM (fx1M N n (accM v)) by rw [fx1_sn]; exact Nat.lt_succ_self _), hb66_snMaccMv, ho62⟩, ⟨hb66_J, (show snM z < snM (fx1M N n (accM v)) by rw [fx1_sn]; have := hR.2.2.1.2; have e9 : snM (accM v) = snM v := rfl; omega)⟩, hle67⟩ (by omega) (by omega) (by rw [show (501 - (i + (Int32.ofInt 1)).toInt).toNat = (500 - i.toInt).toNat by omega]; exact hP5 d2))
  change K n_ 0 [(0, .inr (.inr (some (E 0)))), (1, .inl p1)] [] σ
  refine hB _ _ _ _ _ (fun m51 hm51 => ?_)
  dsimp only [ucgo, ucwp, ucsC, uqC, uoC, ctC, rfd, KX7_readForExps, KX7_readForExps_0, KX7_readForExps_22, KX7_readForExps_30, KX7_readForExps_38, KX7_readForExps_69, lkC, s1C, s2C, dlC, kyC, Nat.beq, Nat.ble, rcd, rno, rsw, Nat.reduceAdd, Nat.reduceBEq, Nat.reduceDiv, List.drop, List.take, List.reverse, List.reverseAux, Int.toNat, Option.toList, List.append, List.cons_append, List.nil_append, zg275]
  have c52 : (Int32.ofInt 94).toInt = 94 := by decide
  intro w53 τ53 o53 q53
  obtain ⟨rfl, hZ53, hf53⟩ := q53 (N, E, A, B, V, z, 94, (lvN n)) ⟨_, _, rfl, hZ, by omega, by unfold lvN; omega⟩
  have hF53 := FzC.tr (FzC.rf (n := cnC σ) (m := xnM z) (E := E) (A := A) (B := B) (V := V) (z := z) (σ := σ)) (FzC.mo hf53 (Nat.le_refl (cnC σ)) ((FzC.rf (n := cnC σ) (m := xnM z) (E := E) (A := A) (B := B) (V := V) (z := z) (σ := σ))).2.2.1.1.1)
  have hle53 : cnC σ ≤ cnC τ53 := Nat.le_trans (Nat.le_refl (cnC σ)) (hf53).1
  have hb53 : (upA B (snM z) (cnC σ)) (snM z) = cnC σ := upA_e
  have hl53 : snM z < snM (beM 94 (lvN n) z) := Nat.lt_succ_self _
  have ho53 : cnC σ ≤ cnC σ := (Nat.le_refl (cnC σ))
  have hh53 : (reS (beM 94 (lvN n) z) (snM z)).1 = (94, zAt z.1, (lvN n), z.2.2.2.1.2) ∧ (reS (beM 94 (lvN n) z) (snM z)).2.1 = z.2.2.2.1.1 := by rw [beM_e]; exact ⟨rfl, rfl⟩
  try dsimp only [Option.toList, List.cons_append, List.nil_append, s1C, s2C, dlC, kyC, Nat.beq, lkC, rcd, rno, rsw]
  intro w54 τ54 o54 q54
  obtain ⟨A54, rfl, hZ54, hf54, ht54, hx54⟩ : ExQ N E A (upA B (snM z) (cnC σ)) V (beM 94 (lvN n) z) (eM N n (beM 94 (lvN n) z)) τ53 w54 τ54 := q54 (N, E, A, (upA B (snM z) (cnC σ)), V, (beM 94 (lvN n) z), n) ⟨_, rfl, hZ53, by omega, hz1⟩
  have hF54 := FzC.tr hF53 (FzC.mo hf54 hle53 (hF53).2.2.1.1.1)
  have hle54 : cnC σ ≤ cnC τ54 := Nat.le_trans hle53 (hf54).1
  have hb54_J : (upA B (snM z) (cnC σ)) (snM z) = (cnC σ) := (hf54.2.2.2.1.1.2 (snM z) hl53).1.trans hb53
  have hl54_J : snM z < snM (eM N n (beM 94 (lvN n) z)) := Nat.lt_of_lt_of_le hl53 hf54.2.2.2.1.1.1
  have hh54_J : (reS (eM N n (beM 94 (lvN n) z)) (snM z)).1 = (94, zAt z.1, (lvN n), z.2.2.2.1.2) ∧ (reS (eM N n (beM 94 (lvN n) z)) (snM z)).2.1 = z.2.2.2.1.1 := ⟨(hf54.2.2.2.1.1.2 (snM z) hl53).2.1.trans hh53.1, (hf54.2.2.2.1.1.2 (snM z) hl53).2.2.trans hh53.2⟩
  try dsimp only [Option.toList, List.cons_append, List.nil_append, s1C, s2C, dlC, kyC, Nat.beq, lkC, rcd, rno, rsw]
  intro a55 e55 ob55 fk55
  cases e55
  clear fk55 ob55
  generalize hs55 : pRC τ54 (cnC σ) 279 (some (A54 (xnM (eM N n (beM 94 (lvN n) z)) - 1))) = s55
  have hx55 : SfE (cnC σ) τ54 s55 := by rw [← hs55]; exact SfE.pR (by decide)
  have hZ55 : ZC N E A54 (upA B (snM z) (cnC σ)) V s55 (seM (snM z) (sEx ((xnM (eM N n (beM 94 (lvN n) z)) : Int) - 1)) (eM N n (beM 94 (lvN n) z))) := by rw [← hs55]; exact ZC.s279 hZ54 hl54_J hb54_J (opA_p (by omega)).symm (by omega)
  have hF55 : FzC (cnC σ) (xnM z) E A A54 B (upA B (snM z) (cnC σ)) V V z (seM (snM z) (sEx ((xnM (eM N n (beM 94 (lvN n) z)) : Int) - 1)) (eM N n (beM 94 (lvN n) z))) σ s55 := FzC.se hF54 ho53 hx55 (fun _ => ⟨rfl, rfl⟩)
  have hle55 : cnC σ ≤ cnC s55 := by rw [hx55.2.2]; exact hle54
  have hh55_J : (reS (seM (snM z) (sEx ((xnM (eM N n (beM 94 (lvN n) z)) : Int) - 1)) (eM N n (beM 94 (lvN n) z))) (snM z)).1 = (94, zAt z.1, (lvN n), z.2.2.2.1.2) ∧ (reS (seM (snM z) (sEx ((xnM (eM N n (beM 94 (lvN n) z)) : Int) - 1)) (eM N n (beM 94 (lvN n) z))) (snM z)).2.1 = z.2.2.2.1.1 := by rw [seM_e]; exact hh54_J
  have c56 : (Int32.ofInt 0).toInt = 0 := by decide
  have hZ57 : ZC N E A54 (upA B (snM z) (cnC σ)) V s55 (fx1M N n z) := ZC.co hZ55
  have hF57 : FzC (cnC σ) (xnM z) E A A54 B (upA B (snM z) (cnC σ)) V V z (fx1M N n z) σ s55 := FzC.co hF55
  exact hW _ 22 [(0, .inr (.inr (some (E 0)))), (1, .inl p1), (2, .inr (.inr (some (cnC σ)))), (3, .inr (.inr (some (cnC σ)))), (4, .inl (Int32.ofInt 0))] _ _ _ (List.forall_mem_cons.2 ⟨List.Mem.tail _ (List.Mem.tail _ (List.Mem.tail _ (List.Mem.head _))), List.forall_mem_cons.2 ⟨List.Mem.tail _ (List.Mem.tail _ (List.Mem.tail _ (List.Mem.tail _ (List.Mem.head _)))), List.forall_mem_cons.2 ⟨List.Mem.tail _ (List.Mem.tail _ (List.Mem.head _)), List.forall_mem_cons.2 ⟨List.Mem.tail _ (List.Mem.head _), List.forall_mem_cons.2 ⟨List.Mem.head _, fun _ h => absurd h List.not_mem_nil⟩⟩⟩⟩⟩) (L22 _ _ _ _ _ _ _ _ ⟨⟨hZ57, hF57⟩, ⟨(show snM z < snM (seM (snM z) (sEx ((xnM (eM N n (beM 94 (lvN n) z)) : Int) - 1)) (eM N n (beM 94 (lvN n) z))) from hl54_J), hb54_J, ho53⟩, ⟨hb54_J, (show snM z < snM (seM (snM z) (sEx ((xnM (eM N n (beM 94 (lvN n) z)) : Int) - 1)) (eM N n (beM 94 (lvN n) z))) from hl54_J)⟩, hle55⟩ (by omega) (by omega) (by rw [show (501 - (Int32.ofInt 0).toInt).toNat = 501 by omega]; rfl))
theorem wz_readForExps : ∀ (L : Nat) (As : List AvC) (σ : CsC) (w : Option AvC) (τ : CsC), EvF L 158 As σ w τ → Uz_readForExps As σ w τ := by
  intro L
  cases L with
  | zero => exact fun _ _ _ _ h => h.elim
  | succ L => exact fun As σ w τ h y hy => EvF.us (cs := [142, 164, 130]) (pz_readForExps y) rfl (List.forall_mem_cons.2 ⟨wz_begin L, List.forall_mem_cons.2 ⟨wz_readExp L, List.forall_mem_cons.2 ⟨wz_takes L, fun _ h => absurd h List.not_mem_nil⟩⟩⟩) h hy
