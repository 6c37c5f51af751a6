/-! the steps of an exp's reading: what is still to be done stays the same -/
theorem zFt_acc {s : SpC} (z : zFt s = 0) (h : zAt s < 500) : zFt (accY s) = 0 := by rw [accY_s z h]; exact z
theorem xp_y {c : Int} {s : SpC} (h : codY s = c) : xpY c s = accY s := by unfold xpY; rw [if_pos h]
theorem xp_n {c : Int} {s : SpC} (h : ¬ codY s = c) : xpY c s = raiY 2 s := by unfold xpY; rw [if_neg h]
theorem typ_y {s : SpC} (h : 50 ≤ codY s ∧ codY s ≤ 54) : typY s = accY s := by unfold typY; rw [if_pos h]
theorem typ_n {s : SpC} (h : ¬ (50 ≤ codY s ∧ codY s ≤ 54)) : typY s = raiY 2 s := by unfold typY; rw [if_neg h]
/-- an exp begins that is no assignment -/
abbrev nasY (s : SpC) : Prop := ¬ (codY s = 80 ∧ 8 ≤ cobY s ∧ cobY s ≤ 19)
theorem ex_no {n : Nat} {s : SpC} (h : nasY s) : exY n s = chY n s := by
  unfold exY xpsY chY
  split
  · split
    · next a b => exact absurd ⟨a, b⟩ h
    · rfl
  · rfl
theorem ch_tl {n : Nat} {s : SpC} : chY n s = tlY n (opY n s) := rfl
theorem wt_beg {O : List Int} {n : Nat} {s : SpC} (hn : 1 ≤ n) (ht : ¬ tpY O = 0 ∧ ¬ tpY O = 1 ∧ ¬ tpY O = 2 ∧ ¬ tpY O = 7) (h : nasY s) : wtY 1 O n s = foY O n (opY n s) := by
  unfold wtY
  rw [if_pos rfl, eY_s hn, ex_no h, ch_tl, fo_cf ⟨ht.1, ht.2.1, ht.2.2.1⟩, cf_ef ht.2.2.2]
theorem wt_op {O : List Int} {n : Nat} {s : SpC} : wtY 0 O n s = foY O n (opY n s) := by
  unfold wtY
  rw [if_neg (by decide)]
theorem wt_asg {O : List Int} {n : Nat} {s : SpC} (hc : codY s = 80) (hb : 8 ≤ cobY s ∧ cobY s ≤ 19) : wtY 1 O (n + 1) s = wtY 1 (5 :: O) n (accY (accY s)) := by
  unfold wtY
  rw [if_pos rfl, if_pos rfl, eY_s (by omega), ef_set]
  unfold exY xpsY
  rw [if_pos hc, if_pos hb]
  rfl
/-- operands -/
theorem op_lit {n : Nat} {s : SpC} (h : codY s = 81 ∨ codY s = 82 ∨ codY s = 83 ∨ codY s = 72 ∨ codY s = 73) : opY n s = accY s := by
  unfold opY oprY
  rw [if_neg (by omega), if_neg (by omega), if_neg (by omega), if_neg (by omega), if_pos h]
theorem op_pre {O : List Int} {n : Nat} {s : SpC} (h : codY s = 34 ∨ codY s = 35 ∨ codY s = 39 ∨ codY s = 40) : foY O (n + 1) (opY (n + 1) s) = foY (0 :: O) n (oY n (accY s)) := by
  rw [fo_pre (Or.inl rfl)]
  unfold opY oprY
  rw [if_pos h]
  rfl
theorem op_cnt {n : Nat} {s : SpC} (h : codY s = 41 ∨ codY s = 42) : opY n s = xpY 80 (accY s) := by
  unfold opY oprY
  rw [if_neg (by omega), if_pos h]
  rfl
theorem op_cast {O : List Int} {n : Nat} {s : SpC} (h : codY s = 0) (ht : 50 ≤ codY (accY s) ∧ codY (accY s) ≤ 54) : foY O (n + 1) (opY (n + 1) s) = foY (1 :: O) n (oY n (xpY 1 (accY (accY s)))) := by
  rw [fo_pre (Or.inr rfl)]
  unfold opY oprY
  rw [if_neg (by omega), if_neg (by omega), if_pos h]
  unfold opnY op2Y
  rw [if_pos ht, typ_y ht]
  rfl
theorem op_grp {O : List Int} {n : Nat} {s : SpC} (h : codY s = 0) (ht : ¬ (50 ≤ codY (accY s) ∧ codY (accY s) ≤ 54)) : foY O (n + 1) (opY (n + 1) s) = wtY 1 (3 :: O) n (accY s) := by
  unfold wtY
  rw [if_pos rfl, ef_grp]
  unfold opY oprY
  rw [if_neg (by omega), if_neg (by omega), if_pos h]
  unfold opnY op2Y
  rw [if_neg ht]
  rfl
theorem op_nam {n : Nat} {s : SpC} (h : codY s = 80) : opY n s = nmeY (n - 1) (eY (n - 1)) s := by
  unfold opY oprY
  rw [if_neg (by omega), if_neg (by omega), if_neg (by omega), if_pos h]
theorem op_bad {n : Nat} {s : SpC} (h : ¬ codY s = 34 ∧ ¬ codY s = 35 ∧ ¬ codY s = 39 ∧ ¬ codY s = 40 ∧ ¬ codY s = 41 ∧ ¬ codY s = 42 ∧ ¬ codY s = 0 ∧ ¬ codY s = 80 ∧ ¬ codY s = 81 ∧ ¬ codY s = 82 ∧ ¬ codY s = 83 ∧ ¬ codY s = 72 ∧ ¬ codY s = 73) : opY n s = raiY 2 s := by
  unfold opY oprY
  rw [if_neg (by omega), if_neg (by omega), if_neg (by omega), if_neg (by omega), if_neg (by omega)]
theorem nm_var {m : Nat} {E : SpC → SpC} {s : SpC} (h : ¬ cobY s = 0 ∧ ¬ cobY s = 41 ∧ ¬ cobY s = 42) : nmeY m E s = accY s := by
  unfold nmeY
  rw [if_neg h.1, if_neg (by omega)]
theorem nm_cnt {m : Nat} {E : SpC → SpC} {s : SpC} (h : cobY s = 41 ∨ cobY s = 42) : nmeY m E s = accY (accY s) := by
  unfold nmeY
  rw [if_neg (by omega), if_pos h]
theorem nm_cal0 {E : SpC → SpC} {s : SpC} (h : cobY s = 0) : nmeY 0 E s = xpY 1 (raiY 3 (accY (accY s))) := by
  unfold nmeY calY ca2Y
  rw [if_pos h, if_pos rfl]
theorem nm_cale {m : Nat} {E : SpC → SpC} {s : SpC} (h : cobY s = 0) (hm : 1 ≤ m) (hc : codY (accY (accY s)) = 1) : nmeY m E s = accY (accY (accY s)) := by
  unfold nmeY calY ca2Y
  rw [if_pos h, if_neg (by omega), if_pos hc, xp_y hc]
theorem nm_cal {O : List Int} {m : Nat} {s : SpC} (h : cobY s = 0) (hm : 1 ≤ m) (hc : ¬ codY (accY (accY s)) = 1) : foY O (m + 1) (nmeY m (eY m) s) = wtY 1 (4 :: O) m (accY (accY s)) := by
  unfold wtY nmeY calY ca2Y
  rw [if_pos h, if_neg (by omega), if_neg hc, if_pos rfl, ef_cal]
/-- behind an operand -/
theorem fo_chain {O : List Int} : ∀ {n : Nat} {s : SpC}, wfY O → ¬ tpY O = 0 ∧ ¬ tpY O = 1 → 0 ≤ zAt s → zAt s ≤ 500 → 20 ≤ codY s ∧ codY s ≤ 38 → foY O n s = foY (2 :: O) n (opY n (accY s)) := by
  induction O with
  | nil =>
    intro n s hw ht h0 h5 hc
    rw [fo_bin]
    show tlY n s = tlY n _
    unfold tlY
    rw [chl_one gd_op h0 h5 hc]
  | cons k O ih =>
    intro n s hw ht h0 h5 hc
    have ht : ¬ k = 0 ∧ ¬ k = 1 := ht
    by_cases h2 : k = 2
    · subst h2
      rw [fo_bin, fo_bin, ih hw.2.2.2.2 (hw.2.1 rfl) h0 h5 hc]
    · rw [fo_bin, fo_cf (O := k :: O) ⟨ht.1, ht.2, h2⟩, fo_cf (O := k :: O) ⟨ht.1, ht.2, h2⟩]
      unfold tlY
      rw [chl_one gd_op h0 h5 hc]
theorem tl_no {n : Nat} {s : SpC} (h1 : ¬ (20 ≤ codY s ∧ codY s ≤ 38)) (h2 : ¬ codY s = 7) : tlY n s = s := by
  unfold tlY ch2Y
  rw [chl_no h1, if_neg h2]
theorem fo_end {O : List Int} {n : Nat} {s : SpC} (ht : ¬ tpY O = 0 ∧ ¬ tpY O = 1 ∧ ¬ tpY O = 2) (h1 : ¬ (20 ≤ codY s ∧ codY s ≤ 38)) (h2 : ¬ codY s = 7) : foY O n s = cfY O n s := by
  rw [fo_cf ht, tl_no h1 h2]
theorem fo_que {O : List Int} {n : Nat} {s : SpC} (ht : ¬ tpY O = 0 ∧ ¬ tpY O = 1 ∧ ¬ tpY O = 2) (h : codY s = 7) : foY O (n + 1) s = wtY 1 (6 :: O) n (accY s) := by
  rw [fo_cf ht]
  unfold wtY tlY ch2Y
  rw [if_pos rfl, ef_que, chl_no (by omega), if_pos h]
  rfl
theorem cf_col2 {O : List Int} {n : Nat} {s : SpC} (hn : 1 ≤ n) (h : codY s = 6) : cfY (6 :: O) n s = wtY 0 (7 :: O) n (accY s) := by
  rw [wt_op, cf_ef (O := 6 :: O) (show ¬ (6 : Int) = 7 by decide), ef_que, xp_y h, fo_cf (O := 7 :: O) (show ¬ (7 : Int) = 0 ∧ ¬ (7 : Int) = 1 ∧ ¬ (7 : Int) = 2 by decide), cf_col, cY_s hn, ch_tl]
theorem cf_com {O : List Int} {n : Nat} {s : SpC} (h0 : 0 ≤ zAt s) (h5 : zAt s ≤ 500) (h : codY s = 5) : cfY (4 :: O) n s = wtY 1 (4 :: O) n (accY s) := by
  unfold wtY
  rw [if_pos rfl, cf_ef (O := 4 :: O) (show ¬ (4 : Int) = 7 by decide), ef_cal, ef_cal, clp_one gd_e h0 h5 h]
theorem cf_clo {O : List Int} {n : Nat} {s : SpC} (h : codY s = 1) : cfY (4 :: O) n s = foY O (n + 1) (accY s) := by
  rw [cf_ef (O := 4 :: O) (show ¬ (4 : Int) = 7 by decide), ef_cal, clp_no (by omega), xp_y h]
theorem cf_grp {O : List Int} {n : Nat} {s : SpC} (h : codY s = 1) : cfY (3 :: O) n s = foY O (n + 1) (accY s) := by
  rw [cf_ef (O := 3 :: O) (show ¬ (3 : Int) = 7 by decide), ef_grp, xp_y h]
/-- faults -/
theorem gp_eq {s t : SpC} (h : GpY s t) (z : ¬ zFt s = 0) : zFt t = zFt s ∧ zPl t = zPl s := by
  unfold zFt zPl
  rw [h.1 z]
  exact ⟨rfl, rfl⟩
theorem cf_bad {O : List Int} {n : Nat} {s : SpC} (ht : tpY O = 3 ∨ tpY O = 4 ∨ tpY O = 6) (h3 : tpY O = 3 → ¬ codY s = 1) (h4 : tpY O = 4 → ¬ codY s = 1 ∧ ¬ codY s = 5) (h6 : tpY O = 6 → ¬ codY s = 6) : zFt (cfY O n s) = zFt (raiY 2 s) ∧ zPl (cfY O n s) = zPl (raiY 2 s) := by
  cases O with
  | nil => exact absurd ht (by decide)
  | cons k O =>
    have z : ¬ zFt (raiY 2 s) = 0 := raiY_z (by decide)
    rcases ht with ht | ht | ht
    · have hc := h3 ht
      have ht : k = 3 := ht
      subst ht
      rw [cf_ef (O := 3 :: O) (show ¬ (3 : Int) = 7 by decide), ef_grp, xp_n hc]
      exact gp_eq (gd_fo _) z
    · have hc := h4 ht
      have ht : k = 4 := ht
      subst ht
      rw [cf_ef (O := 4 :: O) (show ¬ (4 : Int) = 7 by decide), ef_cal, clp_no hc.2, xp_n hc.1]
      exact gp_eq (gd_fo _) z
    · have hc := h6 ht
      have ht : k = 6 := ht
      subst ht
      rw [cf_ef (O := 6 :: O) (show ¬ (6 : Int) = 7 by decide), ef_que, xp_n hc]
      exact gp_eq ((gd_c _).tr (gd_cf _)) z
