/-! exps of for; variables that are told -/
theorem fx1_1 {N : Int → Int} {n : Nat} {z : ZS} : (fx1M N n z).1 = eY n z.1 := by
  show (eM N n (beM 94 (lvN n) z)).1 = _
  rw [lf_e]
  rfl
theorem cod_fZ {s : SpC} (h : ¬ zFt s = 0) : codY s = -1 := by unfold codY; rw [if_neg h]
theorem fxl_f {N : Int → Int} {n k j : Nat} {z : ZS} (h : ¬ zFt z.1 = 0) : fxlM N n k j z = z := by
  cases k with
  | zero => rfl
  | succ k => rw [fxlM, if_neg (by rw [cod_fZ h]; decide)]
theorem fxl_fu {N : Int → Int} {n : Nat} : ∀ (k j : Nat) (z : ZS), zAt z.1 ≤ 500 → 501 - zAt z.1 ≤ k → fxlM N n k j z = fxlM N n (k + 1) j z := by
  intro k
  induction k with
  | zero => intro j z h1 h2; omega
  | succ k ih =>
    intro j z h1 h2
    rw [fxlM, fxlM]
    by_cases h5 : codY z.1 = 5
    · rw [if_pos h5, if_pos h5]
      have e : (seM j (sNx (snM z)) (fx1M N n (accM z))).1 = eY n (accY z.1) := fx1_1
      by_cases q : zFt (accY z.1) = 0
      · have a := acc_pg q
        have b := (gd_e (n := n) (accY z.1)).2 (by omega)
        exact ih _ _ (by rw [e]; exact b.2) (by rw [e]; omega)
      · have f := (gd_e (n := n) (accY z.1)).ft q
        rw [fxl_f (by rw [e]; exact f), fxl_f (by rw [e]; exact f)]
    · rw [if_neg h5, if_neg h5]
theorem fxl_one {N : Int → Int} {n j : Nat} {z : ZS} (h0 : 0 ≤ zAt z.1) (h : zAt z.1 ≤ 500) (hc : codY z.1 = 5) : fxlM N n 501 j z = fxlM N n 501 (snM (accM z)) (nxM (j : Int) (snM (accM z)) (fx1M N n (accM z))) := by
  have en : nxM (j : Int) (snM (accM z)) (fx1M N n (accM z)) = seM j (sNx (snM z)) (fx1M N n (accM z)) := by
    unfold nxM
    rw [if_neg (by omega)]
    rfl
  have e : (seM j (sNx (snM z)) (fx1M N n (accM z))).1 = eY n (accY z.1) := fx1_1
  rw [en, fxlM, if_pos hc]
  by_cases q : zFt (accY z.1) = 0
  · have a := acc_pg q
    have b := (gd_e (n := n) (accY z.1)).2 (by omega)
    exact fxl_fu 500 _ _ (by rw [e]; exact b.2) (by rw [e]; omega)
  · have f := (gd_e (n := n) (accY z.1)).ft q
    rw [fxl_f (by rw [e]; exact f), fxl_f (by rw [e]; exact f)]
theorem fxl_no {N : Int → Int} {n k j : Nat} {z : ZS} (hc : ¬ codY z.1 = 5) : fxlM N n k j z = z := by
  cases k with
  | zero => rfl
  | succ k => rw [fxlM, if_neg hc]
theorem PhZ.fx1 {N : Int → Int} {n : Nat} {z0 z : ZS} (h : PhZ z0 z) : PhZ z0 (fx1M N n z) := by
  have a : PhZ z0 (exS N (snM z) n (beM 94 (lvN n) z)) := PhZ.ex (h.t SgZ.be List.suffix_rfl)
  exact a.co
theorem PhZ.nx {z0 z : ZS} {j : Nat} {v : Int} (h : PhZ z0 z) : PhZ z0 (seM j (sNx v) z) := h.t (SgZ.se (fun _ => ⟨rfl, rfl, rfl⟩) (fun _ _ => rfl)) List.suffix_rfl
theorem PhZ.nq {z0 z : ZS} {j : Nat} {l : Int} (h : PhZ z0 z) : PhZ z0 (nxM l j z) := by
  unfold nxM
  split
  · exact h
  · exact h.nx
theorem PhZ.fxl {N : Int → Int} {n : Nat} {z0 : ZS} : ∀ (k j : Nat) (z : ZS), PhZ z0 z → PhZ z0 (fxlM N n k j z) := by
  intro k
  induction k with
  | zero => intro j z h; exact h
  | succ k ih =>
    intro j z h
    rw [fxlM]
    split
    · exact ih _ _ (PhZ.nx (PhZ.fx1 (h.e (z' := accM z) rfl rfl)))
    · exact h
theorem PhZ.fx {N : Int → Int} {n : Nat} {z : ZS} : PhZ z (fxM N n z) := PhZ.fxl 501 _ _ (PhZ.fx1 PhZ.rf)
theorem tn_ex {N : Int → Int} {j n : Nat} {z : ZS} : (exS N j n z).2.2.2 = z.2.2.2 := by
  show (eM N n z).2.2.2 = _
  rw [ks_e]
theorem tn_fx1 {N : Int → Int} {n : Nat} {z : ZS} : (fx1M N n z).2.2.2 = z.2.2.2 := by
  show (exS N (snM z) n (beM 94 (lvN n) z)).2.2.2 = _
  rw [tn_ex]
  rfl
theorem tn_fxl {N : Int → Int} {n : Nat} : ∀ (k j : Nat) (z : ZS), (fxlM N n k j z).2.2.2 = z.2.2.2 := by
  intro k
  induction k with
  | zero => intro j z; rfl
  | succ k ih =>
    intro j z
    rw [fxlM]
    split
    · rw [ih]
      show (fx1M N n (accM z)).2.2.2 = _
      rw [tn_fx1]
      rfl
    · rfl
theorem tn_fx {N : Int → Int} {n : Nat} {z : ZS} : (fxM N n z).2.2.2 = z.2.2.2 := by
  show (fxlM N n 501 (snM z) (fx1M N n z)).2.2.2 = _
  rw [tn_fxl, tn_fx1]
theorem vaM_y {N : Int → Int} {j n : Nat} {z : ZS} (h : codY z.1 = 71) : vaM N j n z = va1M N j n 1 (tyvY (accY z.1)) (typM (accM z)) := if_pos h
theorem vaM_n {N : Int → Int} {j n : Nat} {z : ZS} (h : ¬ codY z.1 = 71) : vaM N j n z = va1M N j n 0 (tyvY z.1) (typM z) := if_neg h
theorem va2_yM {N : Int → Int} {j n : Nat} {f v t : Int} {z : ZS} (h : f = 1 ∨ codY z.1 = 8) : va2M N j n f v t z = puM (stoZ v (fiS (exS N j n (xpM 8 (coM 22 v 2 t z))) j) (xnM (coM 22 v 2 t z)) (xnM (exS N j n (xpM 8 (coM 22 v 2 t z)))) (exS N j n (xpM 8 (coM 22 v 2 t z))).1) (exS N j n (xpM 8 (coM 22 v 2 t z))) := if_pos h
theorem va2_nM {N : Int → Int} {j n : Nat} {f v t : Int} {z : ZS} (h : ¬ (f = 1 ∨ codY z.1 = 8)) : va2M N j n f v t z = coM 22 v 0 t z := if_neg h
theorem PhZ.va2 {N : Int → Int} {j n : Nat} {f v t : Int} {z0 z : ZS} (h : PhZ z0 z) : PhZ z0 (va2M N j n f v t z) := by
  by_cases q : f = 1 ∨ codY z.1 = 8
  · rw [va2_yM q]
    have a : PhZ z0 (xpM 8 (coM 22 v 2 t z)) := PhZ.e (z := coM 22 v 2 t z) h.co rfl rfl
    exact (PhZ.ex a).co
  · rw [va2_nM q]
    exact h.co
theorem PhZ.va1 {N : Int → Int} {j n : Nat} {f ty : Int} {z0 z : ZS} (h : PhZ z0 z) (hk : ¬ kjS z j = 6) : PhZ z0 (va1M N j n f ty z) := by
  unfold va1M
  refine PhZ.va2 ?_
  have a : PhZ z0 (dcM N ty f 1 z) := h.e rfl rfl
  exact a.t (SgZ.se (fun _ => ⟨rfl, rfl, rfl⟩) (fun q => absurd (show kjS z j = 6 from q) hk)) List.suffix_rfl
theorem PhZ.va {N : Int → Int} {j n : Nat} {z : ZS} (hk : ¬ kjS z j = 6) : PhZ z (vaM N j n z) := by
  by_cases q : codY z.1 = 71
  · rw [vaM_y q]
    exact PhZ.va1 (PhZ.rf.e rfl rfl) hk
  · rw [vaM_n q]
    exact PhZ.va1 (PhZ.rf.e rfl rfl) hk
theorem tn_va2 {N : Int → Int} {j n : Nat} {f v t : Int} {z : ZS} : (va2M N j n f v t z).2.2.2 = z.2.2.2 := by
  by_cases q : f = 1 ∨ codY z.1 = 8
  · rw [va2_yM q]
    show (exS N j n (xpM 8 (coM 22 v 2 t z))).2.2.2 = _
    rw [tn_ex]
    rfl
  · rw [va2_nM q]
    rfl
theorem tn_va {N : Int → Int} {j n : Nat} {z : ZS} : tnM (vaM N j n z) = tnM z := by
  unfold tnM
  by_cases q : codY z.1 = 71
  · rw [vaM_y q]
    unfold va1M
    rw [tn_va2]
    rfl
  · rw [vaM_n q]
    unfold va1M
    rw [tn_va2]
    rfl
theorem ar_va {N : Int → Int} {j n : Nat} {z : ZS} : (vaM N j n z).2.2.2.1.2 = z.2.2.2.1.2 := by
  by_cases q : codY z.1 = 71
  · rw [vaM_y q]
    unfold va1M
    rw [tn_va2]
    rfl
  · rw [vaM_n q]
    unfold va1M
    rw [tn_va2]
    rfl
theorem kK_typ {s : SpC} : zK (typY s) = zK s := kK_2 (p2_typ s)
theorem BZ.ty {N : Int → Int} {σ τ : RS} {z : ZS} {F K : List FrZ} (h : BZ N σ z F K) (e : S1 14 σ τ) (l : aL τ = aL σ) : BZ N τ (typM z) F K := h.s1 e (by decide) l rfl kK_typ
theorem KtR.ty {σ τ : RS} {z : ZS} (h : KtR σ z) (e : S1 14 σ τ) : KtR τ (typM z) := h.s1 e rfl
theorem KtR.sto {σ τ : RS} {z : ZS} {x : XrZ} (h : KtR σ z) (q : ∀ a, 51 ≤ a → a ≤ 61 → aI τ a = aI σ a) : KtR τ (puM x z) := h.w XsR.pu rfl q
theorem fo1_tM {N : Int → Int} {j n : Nat} {z : ZS} {c : Int} (e : codY z.1 = c) (h : c = 71 ∨ (50 ≤ c ∧ c ≤ 54)) : fo1M N j n z = seM j (sOt (snM z)) (vaM N (snM z) n (beM 93 (lvN n) z)) := if_pos (by rw [e]; exact h)
theorem fo1_eM {N : Int → Int} {j n : Nat} {z : ZS} {c : Int} (e : codY z.1 = c) (h : c = 4) : fo1M N j n z = z := by unfold fo1M; rw [if_neg (by omega), if_pos (by omega)]
theorem fo1_xM {N : Int → Int} {j n : Nat} {z : ZS} {c : Int} (e : codY z.1 = c) (h : ¬ (c = 71 ∨ (50 ≤ c ∧ c ≤ 54))) (h4 : ¬ c = 4) : fo1M N j n z = seM j (sOt (snM z)) (fxM N n z) := by unfold fo1M; rw [if_neg (by rw [e]; exact h), if_neg (by rw [e]; exact h4)]
theorem fo2_eM {N : Int → Int} {j k n : Nat} {z : ZS} {c : Int} (e : codY z.1 = c) (h : c = 4) : fo2M N j k n z = coM 33 k 0 (fiS z j) z := if_pos (by rw [e]; exact h)
theorem fo2_xM {N : Int → Int} {j k n : Nat} {z : ZS} {c : Int} (e : codY z.1 = c) (h : ¬ c = 4) : fo2M N j k n z = cxM 33 k 1 (fiS (exS N j n z) j) (exS N j n z) := if_neg (by rw [e]; exact h)
theorem fo3_eM {N : Int → Int} {j n : Nat} {z : ZS} {c : Int} (e : codY z.1 = c) (h : c = 1) : fo3M N j n z = z := if_pos (by rw [e]; exact h)
theorem fo3_xM {N : Int → Int} {j n : Nat} {z : ZS} {c : Int} (e : codY z.1 = c) (h : ¬ c = 1) : fo3M N j n z = seM j (sLs (snM z)) (fxM N n z) := if_neg (by rw [e]; exact h)
