/-! S's: what is read is what was read -/
theorem lf_ex {N : Int → Int} {j n : Nat} {z : ZS} : (exS N j n z).1 = eY n z.1 := lf_e z
theorem lf_cd {N : Int → Int} {j n : Nat} {z : ZS} : (cdM N j n z).1 = cndY n z.1 := by
  show xpY 1 (exS N j n (xpM 0 z)).1 = _
  rw [lf_ex]
  rfl
theorem lf_xs {N : Int → Int} {n : Nat} {z : ZS} : (xsM N n z).1 = xstY n z.1 := by
  show xpY 4 (exS N (snM z) n (bgM 90 n z)).1 = _
  rw [lf_ex]
  rfl
theorem lf_va2 {N : Int → Int} {j n : Nat} {f v t : Int} {z : ZS} : (va2M N j n f v t z).1 = va2Y n f z.1 := by
  unfold va2M va2Y
  split
  · show (exS N j n (xpM 8 (coM 22 v 2 t z))).1 = _
    rw [lf_ex]
    rfl
  · rfl
theorem lf_va1 {N : Int → Int} {j n : Nat} {f ty : Int} {z : ZS} : (va1M N j n f ty z).1 = va2Y n f (dclY ty f 1 z.1) := by
  unfold va1M
  rw [lf_va2]
  rfl
theorem lf_va {N : Int → Int} {j n : Nat} {z : ZS} : (vaM N j n z).1 = varY n z.1 := by
  unfold vaM varY
  split
  · rw [lf_va1]; rfl
  · rw [lf_va1]; rfl
theorem lf_to {N : Int → Int} {n : Nat} {z : ZS} : (toM N n z).1 = xpY 4 (varY n z.1) := by
  show xpY 4 (vaM N (snM z) n (bgM 91 n z)).1 = _
  rw [lf_va]
  rfl
theorem lf_fx1 {N : Int → Int} {n : Nat} {z : ZS} : (fx1M N n z).1 = eY n z.1 := by
  show (exS N (snM z) n (beM 94 (lvN n) z)).1 = _
  rw [lf_ex]
  rfl
theorem lf_fxl {N : Int → Int} {n : Nat} : ∀ (f j : Nat) (z : ZS), (fxlM N n f j z).1 = clpY (eY n) f z.1 := by
  intro f
  induction f with
  | zero => intro j z; rfl
  | succ f ih =>
    intro j z
    rw [fxlM, clpY]
    split
    · rw [ih]
      show clpY (eY n) f (fx1M N n (accM z)).1 = _
      rw [lf_fx1]
      rfl
    · rfl
theorem lf_fx {N : Int → Int} {n : Nat} {z : ZS} : (fxM N n z).1 = fexY n z.1 := by
  unfold fxM
  rw [lf_fxl, lf_fx1]
  rfl
theorem lf_cs {N : Int → Int} {js : Int} {n : Nat} {z : ZS} : (csM N js n z).1 = casY n z.1 := by
  unfold csM casY
  split
  · show xpY 6 (exS N (snM z) n (accM (beM 62 (lvN n) z))).1 = _
    rw [lf_ex]
    rfl
  · rfl
theorem lf_ju {N : Int → Int} {k : Int} {n : Nat} {z : ZS} (hk : k = 64 ∨ k = 65) : (juM N k n z).1 = xpY 4 (si3Y k (si2Y n k (accY z.1))) := by
  rw [si_jmp hk]
  show xpY 4 (if codY (accY z.1) = 80 then _ else _ : ZS).1 = _
  split <;> rfl
theorem lf_gi {N : Int → Int} {k : Int} {n : Nat} {z : ZS} (hk : k = 66 ∨ k = 67) : (giM N k n z).1 = xpY 4 (si3Y k (si2Y n k (accY z.1))) := by
  show xpY 4 (if k = 67 ∨ ¬ codY (accY z.1) = 4 then _ else _ : ZS).1 = _
  rcases hk with rfl | rfl
  · rw [si_ret]
    by_cases h : codY (accY z.1) = 4
    · rw [if_neg (by omega), if_pos h]
      rfl
    · rw [if_pos (Or.inr h), if_neg h]
      show xpY 4 (exS N (snM z) n (accM (bgM 66 n z))).1 = _
      rw [lf_ex]
      rfl
  · rw [si_thr, if_pos (Or.inl rfl)]
    show xpY 4 (exS N (snM z) n (accM (bgM 67 n z))).1 = _
    rw [lf_ex]
    rfl
abbrev LrM (F : Int → Nat → ZS → ZS × Int) (g : Int → SpC → SpC) : Prop := ∀ sw j z, (F sw j z).1.1 = g sw z.1
theorem lf_blk {Rw : Int → Nat → ZS → ZS × Int} {rw_ : Int → SpC → SpC} (h : LrM Rw rw_) {j : Nat} {out : List (Int × Int)} {z : ZS} : (blkM Rw j out z).1 = blkY rw_ z.1 := by
  show xpY 3 (Rw 0 0 (xpM 2 (arM j z))).1.1 = _
  rw [h]
  rfl
theorem lf_bo {Rw : Int → Nat → ZS → ZS × Int} {rw_ : Int → SpC → SpC} (h : LrM Rw rw_) {n : Nat} {out : List (Int × Int)} {z : ZS} : (boM Rw n out z).1 = blkY rw_ z.1 := by
  unfold boM
  rw [lf_blk h]
  rfl
theorem lf_fo1 {N : Int → Int} {j n : Nat} {z : ZS} : (fo1M N j n z).1 = fo1Y n z.1 := by
  unfold fo1M fo1Y
  split
  · show (vaM N (snM z) n (beM 93 (lvN n) z)).1 = _
    rw [lf_va]
    rfl
  split
  · rfl
  · show (fxM N n z).1 = _
    exact lf_fx
theorem lf_fo2 {N : Int → Int} {j k n : Nat} {z : ZS} : (fo2M N j k n z).1 = fo2Y n z.1 := by
  unfold fo2M fo2Y
  split
  · rfl
  · exact lf_ex (j := j)
theorem lf_fo3 {N : Int → Int} {j n : Nat} {z : ZS} : (fo3M N j n z).1 = fo3Y n z.1 := by
  unfold fo3M fo3Y
  split
  · rfl
  · exact lf_fx
theorem lf_foB {N : Int → Int} {j k n : Nat} {z : ZS} : (foB N j k n z).1 = xpY 1 (fo3Y n (xpY 4 (fo2Y n (xpY 4 (fo1Y n (xpY 0 z.1)))))) := by
  show xpY 1 (fo3M N j n _).1 = _
  rw [lf_fo3]
  show xpY 1 (fo3Y n (xpY 4 (fo2M N j k n _).1)) = _
  rw [lf_fo2]
  show xpY 1 (fo3Y n (xpY 4 (fo2Y n (xpY 4 (fo1M N j n _).1)))) = _
  rw [lf_fo1]
  rfl
theorem lf_tr1 {z : ZS} : (tr1M z).1 = tr1Y z.1 := by unfold tr1M tr1Y; split <;> rfl
theorem lf_tr2 {N : Int → Int} {Rw : Int → Nat → ZS → ZS × Int} {rw_ : Int → SpC → SpC} (h : LrM Rw rw_) {j k n : Nat} {z : ZS} : (tr2M N Rw j k n z).1 = tr2Y rw_ z.1 := by
  unfold tr2M tr2Y
  split
  · show (boM Rw n _ _).1 = _
    rw [lf_bo h]
    rfl
  · rfl
theorem lf_tr3 {Rw : Int → Nat → ZS → ZS × Int} {rw_ : Int → SpC → SpC} (h : LrM Rw rw_) {j k n : Nat} {z : ZS} : (tr3M Rw j k n z).1 = tr3Y rw_ z.1 := by
  unfold tr3M tr3Y
  split
  · show (boM Rw n _ _).1 = _
    rw [lf_bo h]
    rfl
  · rfl
theorem lf_if2 {St : ZS → ZS} {st : SpC → SpC} (h : LfM St st) {j k c : Nat} {z : ZS} : (if2M St j k c z).1 = if2Y st z.1 := by
  unfold if2M if2Y
  split
  · show (St (arM j (accM (coM 24 k 0 (zAt z.1) z)))).1 = _
    rw [h]
    rfl
  · rfl
theorem lf_sm {N : Int → Int} {n : Nat} {St : ZS → ZS} {Rw : Int → Nat → ZS → ZS × Int} {st : SpC → SpC} {rw_ : Int → SpC → SpC} (h : LfM St st) (hR : LrM Rw rw_) : LfM (smM N n St Rw) (smY n st rw_) := by
  intro z
  unfold smM smY
  by_cases h56 : codY z.1 = 56
  · rw [if_pos h56, if_pos h56]
    show (if2M St _ _ _ _).1 = _
    rw [lf_if2 h]
    show if2Y st (St (ifB N n z)).1 = _
    rw [h]
    show if2Y st (st (cdM N (snM z) n (accM (bgH 56 n z))).1) = _
    rw [lf_cd]
    rfl
  rw [if_neg h56, if_neg h56]
  by_cases h58 : codY z.1 = 58
  · rw [if_pos h58, if_pos h58]
    show (St (whB N n z)).1 = _
    rw [h]
    show st (cdM N (snM z) n _).1 = _
    rw [lf_cd]
    rfl
  rw [if_neg h58, if_neg h58]
  by_cases h59 : codY z.1 = 59
  · rw [if_pos h59, if_pos h59]
    show xpY 4 (cdM N (snM z) n _).1 = _
    rw [lf_cd]
    show xpY 4 (cndY n (xpY 58 (St (doB n z)).1)) = _
    rw [h]
    rfl
  rw [if_neg h59, if_neg h59]
  by_cases h60 : codY z.1 = 60
  · rw [if_pos h60, if_pos h60]
    show (St (foB N (snM z) (tnM z) n (accM (bgH 60 n z)))).1 = _
    rw [h, lf_foB]
    rfl
  rw [if_neg h60, if_neg h60]
  by_cases h61 : codY z.1 = 61
  · rw [if_pos h61, if_pos h61]
    show xpY 3 (Rw 1 (tnM z) (swB N n z)).1.1 = _
    rw [hR]
    show xpY 3 (rw_ 1 (xpY 2 (cdM N (snM z) n (accM (bgH 61 n z))).1)) = _
    rw [lf_cd]
    rfl
  rw [if_neg h61, if_neg h61]
  by_cases h68 : codY z.1 = 68
  · rw [if_pos h68, if_pos h68]
    show (tr3M Rw _ _ n _).1 = _
    rw [lf_tr3 hR, lf_tr2 hR, lf_tr1]
    show tr3Y rw_ (tr2Y rw_ (tr1Y (boM Rw n _ (trB n z)).1)) = _
    rw [lf_bo hR]
    rfl
  rw [if_neg h68, if_neg h68]
  by_cases h2 : codY z.1 = 2
  · rw [if_pos h2, if_pos (Or.inl h2)]
    unfold simY
    rw [if_pos h2]
    exact lf_blk hR
  rw [if_neg h2]
  by_cases h4 : codY z.1 = 4
  · rw [if_pos h4, if_pos (Or.inr (Or.inl h4))]
    unfold simY
    rw [if_neg h2, if_pos h4]
    rfl
  rw [if_neg h4]
  by_cases h5 : codY z.1 = 64 ∨ codY z.1 = 65
  · rw [if_pos h5, if_pos (by omega)]
    unfold simY
    rw [if_neg h2, if_neg h4]
    exact lf_ju h5
  rw [if_neg h5]
  by_cases h6 : codY z.1 = 66 ∨ codY z.1 = 67
  · rw [if_pos h6, if_pos (by omega)]
    unfold simY
    rw [if_neg h2, if_neg h4]
    exact lf_gi h6
  rw [if_neg h6, if_neg (show ¬ (codY z.1 = 2 ∨ codY z.1 = 4 ∨ codY z.1 = 64 ∨ codY z.1 = 65 ∨ codY z.1 = 66 ∨ codY z.1 = 67) by omega)]
  by_cases h80 : codY z.1 = 80
  · rw [if_pos h80, if_pos h80]
    by_cases hb : cobY z.1 = 6
    · rw [if_pos hb, if_pos hb]
      show (St (laB n z)).1 = _
      rw [h]
      rfl
    · rw [if_neg hb, if_neg hb]
      exact lf_xs
  · rw [if_neg h80, if_neg h80]
    exact lf_xs
theorem lf_rp2 {N : Int → Int} {n : Nat} {S : ZS → ZS} {st : SpC → SpC} (h : LfM S st) : LfM (rp2M N n S) (rp2Y n st) := by
  intro z
  unfold rp2M rp2Y
  split
  · exact lf_to
  · exact h z
theorem lf_rp {N : Int → Int} {n : Nat} {S : ZS → ZS} {st : SpC → SpC} (h : LfM S st) {sw b : Int} {js : Nat} {z : ZS} : (rpM N n S sw js b z).1 = rpaY n st sw b z.1 := by
  unfold rpM rpaY
  split
  · split
    · exact lf_cs
    split
    · exact lf_rp2 h (raiM 2 z)
    · exact lf_rp2 h z
  · exact lf_rp2 h z
theorem lf_nx {l : Int} {j : Nat} {z : ZS} : (nxM l j z).1 = z.1 := by unfold nxM; split <;> rfl
theorem lf_rwl {N : Int → Int} {n : Nat} {S : ZS → ZS} {st : SpC → SpC} (h : LfM S st) {sw : Int} {js : Nat} : ∀ (k : Nat) (f l : Int) (z : ZS), (rwlM N n S sw js k f l z).1.1 = rwlY n st sw k (if f < 0 then 1 else 0) z.1 := by
  intro k
  induction k with
  | zero => intro f l z; rfl
  | succ k ih =>
    intro f l z
    rw [rwlM, rwlY]
    by_cases h0 : zFt z.1 = 0
    · rw [if_pos h0, if_pos h0]
      by_cases h3 : codY z.1 = 3
      · rw [if_pos h3, if_pos h3]
      · rw [if_neg h3, if_neg h3, ih, lf_nx, lf_rp h]
        have e : (if (if f < 0 then (snM z : Int) else f) < 0 then (1 : Int) else 0) = 0 := by
          by_cases hf : f < 0
          · rw [if_pos hf, if_neg (by omega)]
          · rw [if_neg hf, if_neg hf]
        rw [e]
    · rw [if_neg h0, if_neg h0]
theorem lf_ls {N : Int → Int} : ∀ n, LfM (stM N n) (stY n) ∧ LrM (rwM N n) (rwY n) := by
  intro n
  induction n with
  | zero => exact ⟨fun _ => rfl, fun _ _ _ => rfl⟩
  | succ n ih => exact ⟨lf_sm ih.1 ih.2, fun sw j z => lf_rwl (lf_sm ih.1 ih.2) 501 (-1) (-1) z⟩
theorem lf_st {N : Int → Int} {n : Nat} : LfM (stM N n) (stY n) := (lf_ls n).1
theorem lf_rw {N : Int → Int} {n : Nat} : LrM (rwM N n) (rwY n) := (lf_ls n).2
theorem lf_pa2 {N : Int → Int} {i : Nat} {ty f : Int} {z : ZS} : (pa2M N i ty f z).1 = pa2Y i ty f z.1 := by unfold pa2M pa2Y; split <;> rfl
theorem lf_pa1 {N : Int → Int} {i : Nat} {z : ZS} : (pa1M N i z).1 = pa1Y i z.1 := by
  unfold pa1M pa1Y
  split
  · exact lf_pa2
  · exact lf_pa2
theorem lf_pal {N : Int → Int} : ∀ (f i : Nat) (z : ZS), (palM N f i z).1 = palY f i z.1 := by
  intro f
  induction f with
  | zero => intro i z; rfl
  | succ f ih =>
    intro i z
    rw [palM, palY, lf_pa1]
    split
    · rw [ih]
      show palY f (i + 1) (accY (pa1M N i z).1) = _
      rw [lf_pa1]
    · exact lf_pa1
theorem lf_pa {N : Int → Int} {z : ZS} : (paM N z).1 = parY z.1 := by
  show xpY 1 (pa3M N (xpM 0 z)).1 = xpY 1 (pa3Y (xpY 0 z.1))
  unfold pa3M pa3Y
  show xpY 1 (if codY (xpY 0 z.1) = 1 then _ else _ : ZS).1 = _
  split
  · rfl
  · rw [lf_pal]
    rfl
theorem lf_me {N : Int → Int} : LfM (meM N) mthY := by
  intro z
  have e1 : (me1M z).1 = me1Y z.1 := by unfold me1M me1Y; split <;> rfl
  have e2 : (me2M (accM (me1M z))).1 = me2Y (accY (me1Y z.1)) := by
    have e : (accM (me1M z)).1 = accY (me1Y z.1) := congrArg accY e1
    unfold me2M me2Y
    rw [e]
    split
    · split
      · show raiY 3 (accM (me1M z)).1 = _
        rw [e]
      · exact e
    · show raiY 2 (accM (me1M z)).1 = _
      rw [e]
  unfold meM mthY me3M me3Y
  rw [e2]
  split
  · show (boM (rwM N 20) 21 [] _).1 = _
    rw [lf_bo lf_rw, lf_pa]
    show blkY (rwY 20) (parY (accY (metY _ (me2M (accM (me1M z))).1))) = _
    rw [e2]
  · exact e2
theorem lf_pr {N : Int → Int} : ∀ (f : Nat) (z : ZS), (prM N f z).1 = prlY f z.1 := by
  intro f
  induction f with
  | zero => intro z; rfl
  | succ f ih =>
    intro z
    rw [prM, prlY]
    split
    · split
      · rfl
      · rw [ih, lf_me]
    · rfl
