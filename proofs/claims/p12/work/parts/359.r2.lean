/-! the same along all that is read: what no step but records of exps can hurt -/
def ClA (N : Int → Int) (I : ZS → Prop) : Prop := ((∀ z z', I z → z'.2.1 = z.2.1 → zAt z.1 ≤ zAt z'.1 → I z') ∧ ∀ z c, I z → I (z.1, .inr c :: z.2.1, z.2.2)) ∧ (∀ z x, I z → x.1.1 = 15 → 0 ≤ x.2.2.1.1 ∧ x.2.2.1.1 ≤ (xnM z : Int) → I (puM x z)) ∧ ∀ n, IvM I (eM N n)
theorem mv_dcl {ty f h : Int} {s : SpC} : zAt s ≤ zAt (dclY ty f h s) := by
  have a : zAt s ≤ zAt (dc1Y h s) := by
    unfold dc1Y
    split
    · split
      · exact mv_rai.2
      · exact Int.le_refl _
    · exact mv_rai.2
  show zAt s ≤ zAt (dc2Y ty f (dc1Y h s))
  unfold dc2Y
  split
  · exact Int.le_trans a (mv_acc (s := vadY ty f (dc1Y h s))).2
  · exact a
section
variable {N : Int → Int} {I : ZS → Prop} {z : ZS}
theorem ClA.ac (h : ClA N I) (q : I z) : I (accM z) := h.1.1 z _ q rfl mv_acc.2
theorem ClA.ra (h : ClA N I) {c : Int} (q : I z) : I (raiM c z) := h.1.1 z _ q rfl mv_rai.2
theorem ClA.xp (h : ClA N I) {c : Int} (q : I z) : I (xpM c z) := h.1.1 z _ q rfl mv_xp.2
theorem ClA.ty (h : ClA N I) (q : I z) : I (typM z) := h.1.1 z _ q rfl mv_typ.2
theorem ClA.se (h : ClA N I) {j : Nat} {f : SrZ → SrZ} (q : I z) : I (seM j f z) := h.1.1 z _ q rfl (Int.le_refl _)
theorem ClA.ar (h : ClA N I) {j : Int} (q : I z) : I (arM j z) := h.1.1 z _ q rfl (Int.le_refl _)
theorem ClA.un (h : ClA N I) {j : Nat} (q : I z) : I (unM j z) := h.ar q
theorem ClA.be (h : ClA N I) {k l : Int} (q : I z) : I (beM k l z) := h.1.1 z _ q rfl (Int.le_refl _)
theorem ClA.th (h : ClA N I) (q : I z) : I (thM z) := h.1.1 z _ q rfl (Int.le_refl _)
theorem ClA.ve (h : ClA N I) {t : Int} {o : List (Int × Int)} (q : I z) : I (veM t o z) := h.1.1 z _ q rfl (Int.le_refl _)
theorem ClA.dc (h : ClA N I) {ty f g : Int} (q : I z) : I (dcM N ty f g z) := h.1.1 z _ q rfl mv_dcl
theorem ClA.co (h : ClA N I) {o a b t : Int} (q : I z) : I (coM o a b t z) := h.1.2 z _ q
theorem ClA.cx (h : ClA N I) {o a b t : Int} (q : I z) : I (cxM o a b t z) := h.1.2 z _ q
theorem ClA.bg (h : ClA N I) {k : Int} {n : Nat} (q : I z) : I (bgM k n z) := h.co (h.be q)
theorem ClA.bh (h : ClA N I) {k : Int} {n : Nat} (q : I z) : I (bgH k n z) := h.th (h.bg q)
theorem ClA.en (h : ClA N I) {j c : Nat} (q : I z) : I (enM j c z) := h.co q
theorem ClA.po (h : ClA N I) (q : I z) : I (poM z) := h.cx q
theorem ClA.ex (h : ClA N I) {j n : Nat} (q : I z) : I (exS N j n z) := h.se (h.2.2 n z q)
theorem ClA.cd (h : ClA N I) {j n : Nat} (q : I z) : I (cdM N j n z) := h.xp (h.ex (h.xp q))
theorem ClA.bd (h : ClA N I) {j k : Nat} (q : I z) : I (bdM j k z) := h.un (h.se q)
theorem ClA.xs (h : ClA N I) {n : Nat} (q : I z) : I (xsM N n z) := h.en (h.xp (h.po (h.ex (h.bg q))))
theorem ClA.va2 (h : ClA N I) {j n : Nat} {f v t : Int} (q : I z) : I (va2M N j n f v t z) := by
  unfold va2M
  split
  · have q1 : I (coM 22 v 2 t z) := h.co q
    have q2 : I (exS N j n (xpM 8 (coM 22 v 2 t z))) := h.ex (h.xp q1)
    refine h.2.1 _ _ q2 rfl ?_
    have u : xnM (coM 22 v 2 t z) ≤ xnM (exS N j n (xpM 8 (coM 22 v 2 t z))) := xc_suf (ig_e (N := N) (n := n) (xpM 8 (coM 22 v 2 t z)))
    show 0 ≤ ((xnM (coM 22 v 2 t z) : Nat) : Int) ∧ ((xnM (coM 22 v 2 t z) : Nat) : Int) ≤ ((xnM (exS N j n (xpM 8 (coM 22 v 2 t z))) : Nat) : Int)
    omega
  · exact h.co q
theorem ClA.va1 (h : ClA N I) {j n : Nat} {f ty : Int} (q : I z) : I (va1M N j n f ty z) := h.va2 (h.se (h.dc q))
theorem ClA.va (h : ClA N I) {j n : Nat} (q : I z) : I (vaM N j n z) := by
  unfold vaM
  split
  · exact h.va1 (h.ty (h.ac q))
  · exact h.va1 (h.ty q)
theorem ClA.to (h : ClA N I) {n : Nat} (q : I z) : I (toM N n z) := h.en (h.xp (h.va (h.bg q)))
theorem ClA.fx1 (h : ClA N I) {n : Nat} (q : I z) : I (fx1M N n z) := h.po (h.ex (h.be q))
end
theorem ClA.fxl {N : Int → Int} {I : ZS → Prop} (h : ClA N I) {n : Nat} : ∀ (f j : Nat) (z : ZS), I z → I (fxlM N n f j z) := by
  intro f
  induction f with
  | zero => exact fun _ _ q => q
  | succ f ih =>
    intro j z q
    rw [fxlM]
    split
    · exact ih _ _ (h.se (h.fx1 (h.ac q)))
    · exact q
section
variable {N : Int → Int} {I : ZS → Prop} {z : ZS}
theorem ClA.fx (h : ClA N I) {n : Nat} (q : I z) : I (fxM N n z) := h.fxl 501 _ _ (h.fx1 q)
theorem ClA.cs (h : ClA N I) {n : Nat} {js : Int} (q : I z) : I (csM N js n z) := by
  unfold csM
  split
  · exact h.xp (h.cx (h.ex (h.ac (h.be q))))
  · exact h.xp (h.co (h.ac (h.be q)))
theorem ClA.ju (h : ClA N I) {n : Nat} {k : Int} (q : I z) : I (juM N k n z) := by
  have q1 : I (accM (bgM k n z)) := h.ac (h.bg q)
  refine h.en (h.xp ?_)
  split
  · exact h.ac (h.co (h.se q1))
  · exact h.co q1
theorem ClA.gi (h : ClA N I) {n : Nat} {k : Int} (q : I z) : I (giM N k n z) := by
  have q1 : I (accM (bgM k n z)) := h.ac (h.bg q)
  refine h.en (h.xp ?_)
  dsimp only
  split
  · refine h.cx ?_
    split
    · exact h.se (h.ex q1)
    · exact h.ex q1
  · exact h.co (h.se q1)
/-- rows -/
abbrev RvA (I : ZS → Prop) (Rw : Int → Nat → ZS → ZS × Int) : Prop := ∀ sw js z, I z → I (Rw sw js z).1
variable {St : ZS → ZS} {Rw : Int → Nat → ZS → ZS × Int}
theorem ClA.blk (h : ClA N I) (r : RvA I Rw) {j : Nat} {o : List (Int × Int)} (q : I z) : I (blkM Rw j o z) := h.xp (h.ve (h.un (h.se (r _ _ _ (h.xp (h.ar q))))))
theorem ClA.bo (h : ClA N I) (r : RvA I Rw) {n : Nat} {o : List (Int × Int)} (q : I z) : I (boM Rw n o z) := h.blk r (h.be q)
theorem ClA.bl (h : ClA N I) (r : RvA I Rw) {n : Nat} (q : I z) : I (blM Rw n z) := h.en (h.blk r (h.bh q))
theorem ClA.em (h : ClA N I) {n : Nat} (q : I z) : I (emM n z) := h.en (h.ac (h.bg q))
theorem ClA.la (h : ClA N I) (s : IvM I St) {n : Nat} (q : I z) : I (laM n St z) := h.en (h.co (h.bd (s _ (h.ar (h.xp (h.ac (h.se (h.co (h.bh q)))))))))
theorem ClA.ifX (h : ClA N I) {j k c : Nat} (q : I z) : I (ifX j k c z) := h.en (h.co q)
theorem ClA.if2 (h : ClA N I) (s : IvM I St) {j k c : Nat} (q : I z) : I (if2M St j k c z) := by
  unfold if2M
  split
  · exact h.ifX (h.un (h.se (s _ (h.ar (h.ac (h.co q))))))
  · exact h.ifX q
theorem ClA.if (h : ClA N I) (s : IvM I St) {n : Nat} (q : I z) : I (ifM N n St z) := h.if2 s (h.bd (s _ (h.ar (h.cx (h.cd (h.ac (h.bh q)))))))
theorem ClA.wh (h : ClA N I) (s : IvM I St) {n : Nat} (q : I z) : I (whM N n St z) := h.en (h.co (h.bd (s _ (h.ar (h.cx (h.cd (h.ac (h.co (h.bh q)))))))))
theorem ClA.do (h : ClA N I) (s : IvM I St) {n : Nat} (q : I z) : I (doM N n St z) := h.en (h.cx (h.xp (h.cd (h.co (h.xp (h.bd (s _ (h.ar (h.ac (h.co (h.bh q)))))))))))
theorem ClA.fo1 (h : ClA N I) {j n : Nat} (q : I z) : I (fo1M N j n z) := by
  unfold fo1M
  split
  · exact h.se (h.va (h.be q))
  split
  · exact q
  · exact h.se (h.fx q)
theorem ClA.fo2 (h : ClA N I) {j k n : Nat} (q : I z) : I (fo2M N j k n z) := by
  unfold fo2M
  split
  · exact h.co q
  · exact h.cx (h.ex q)
theorem ClA.fo3 (h : ClA N I) {j n : Nat} (q : I z) : I (fo3M N j n z) := by
  unfold fo3M
  split
  · exact q
  · exact h.se (h.fx q)
theorem ClA.foB (h : ClA N I) {j k n : Nat} (q : I z) : I (foB N j k n z) := h.co (h.xp (h.fo3 (h.co (h.xp (h.fo2 (h.co (h.xp (h.fo1 (h.ar (h.xp q))))))))))
theorem ClA.fo (h : ClA N I) (s : IvM I St) {n : Nat} (q : I z) : I (foM2 N n St z) := h.en (h.co (h.ve (h.bd (s _ (h.foB (h.ac (h.bh q)))))))
theorem ClA.sw (h : ClA N I) (r : RvA I Rw) {n : Nat} (q : I z) : I (swM N n Rw z) := h.en (h.co (h.xp (h.ve (h.un (h.se (r _ _ _ (h.xp (h.ar (h.cx (h.cd (h.ac (h.bh q)))))))))))) 
theorem ClA.tr1 (h : ClA N I) (q : I z) : I (tr1M z) := by
  unfold tr1M
  split
  · exact q
  · exact h.ra q
theorem ClA.tr2 (h : ClA N I) (r : RvA I Rw) {j k n : Nat} (q : I z) : I (tr2M N Rw j k n z) := by
  unfold tr2M
  split
  · refine h.se (h.bo r (h.xp (h.se (h.dc (h.xp (h.ac ?_))))))
    exact h.1.2 z _ q
  · exact q
theorem ClA.tr3 (h : ClA N I) (r : RvA I Rw) {j k n : Nat} (q : I z) : I (tr3M Rw j k n z) := by
  unfold tr3M
  split
  · exact h.se (h.bo r (h.ac (h.co q)))
  · exact q
theorem ClA.tr (h : ClA N I) (r : RvA I Rw) {n : Nat} (q : I z) : I (trM N n Rw z) := h.en (h.co (h.un (h.tr3 r (h.tr2 r (h.tr1 (h.se (h.bo r (h.ar (h.co (h.ac (h.bh q)))))))))))
theorem iv_if {c : Prop} [Decidable c] {a b : ZS} (p : I a) (q : I b) : I (if c then a else b) := by
  split
  · exact p
  · exact q
theorem ClA.sm (h : ClA N I) (s : IvM I St) (r : RvA I Rw) {n : Nat} (q : I z) : I (smM N n St Rw z) := iv_if (h.if s q) (iv_if (h.wh s q) (iv_if (h.do s q) (iv_if (h.fo s q) (iv_if (h.sw r q) (iv_if (h.tr r q) (iv_if (h.bl r q) (iv_if (h.em q) (iv_if (h.ju q) (iv_if (h.gi q) (iv_if (iv_if (h.la s q) (h.xs q)) (h.xs q)))))))))))
theorem ClA.rp2 (h : ClA N I) (s : IvM I St) {n : Nat} (q : I z) : I (rp2M N n St z) := by
  unfold rp2M
  split
  · exact h.to q
  · exact s _ q
theorem ClA.rp (h : ClA N I) (s : IvM I St) {n js : Nat} {sw b : Int} (q : I z) : I (rpM N n St sw js b z) := by
  unfold rpM
  split
  · split
    · exact h.cs q
    split
    · exact h.rp2 s (h.ra q)
    · exact h.rp2 s q
  · exact h.rp2 s q
theorem ClA.nx (h : ClA N I) {l : Int} {j : Nat} (q : I z) : I (nxM l j z) := by
  unfold nxM
  split
  · exact q
  · exact h.se q
end
theorem ClA.rwl {N : Int → Int} {I : ZS → Prop} (h : ClA N I) {St : ZS → ZS} (s : IvM I St) {n js : Nat} {sw : Int} : ∀ (k : Nat) (f l : Int) (z : ZS), I z → I (rwlM N n St sw js k f l z).1 := by
  intro k
  induction k with
  | zero => exact fun _ _ _ q => q
  | succ k ih =>
    intro f l z q
    rw [rwlM]
    split
    · split
      · exact q
      · exact ih _ _ _ (h.nx (h.rp s q))
    · exact q
theorem ClA.ls {N : Int → Int} {I : ZS → Prop} (h : ClA N I) : ∀ n, IvM I (lsM N n).1 ∧ RvA I (lsM N n).2 := by
  intro n
  induction n with
  | zero => exact ⟨fun _ q => h.ra q, fun _ _ _ q => h.ra q⟩
  | succ n ih =>
    have s : IvM I (smM N (n + 1) (lsM N n).1 (lsM N n).2) := fun _ q => h.sm ih.1 ih.2 q
    exact ⟨s, fun sw js z q => h.rwl s 501 (-1) (-1) z q⟩
section
variable {N : Int → Int} {I : ZS → Prop} {z : ZS}
theorem ClA.pa2 (h : ClA N I) {i : Nat} {ty f : Int} (q : I z) : I (pa2M N i ty f z) := by
  unfold pa2M
  split
  · exact h.1.1 (dcM N ty f 1 z) _ (h.dc q) rfl (Int.le_refl _)
  · exact h.dc q
theorem ClA.pa1 (h : ClA N I) {i : Nat} (q : I z) : I (pa1M N i z) := by
  unfold pa1M
  split
  · exact h.pa2 (h.ty (h.ac q))
  · exact h.pa2 (h.ty q)
end
theorem ClA.pal {N : Int → Int} {I : ZS → Prop} (h : ClA N I) : ∀ (f i : Nat) (z : ZS), I z → I (palM N f i z) := by
  intro f
  induction f with
  | zero => exact fun _ _ q => q
  | succ f ih =>
    intro i z q
    rw [palM]
    split
    · exact ih _ _ (h.ac (h.pa1 q))
    · exact h.pa1 q
theorem ClA.pa {N : Int → Int} {I : ZS → Prop} (h : ClA N I) {z : ZS} (q : I z) : I (paM N z) := by
  refine h.xp ?_
  have q1 : I (xpM 0 z) := h.xp q
  unfold pa3M
  split
  · exact q1
  · exact h.pal 7 0 _ q1
theorem ClA.me {N : Int → Int} {I : ZS → Prop} (h : ClA N I) {z : ZS} (q : I z) : I (meM N z) := by
  have q1 : I (me1M z) := by
    unfold me1M
    split
    · exact q
    · exact h.ra q
  have q2 : I (me2M (accM (me1M z))) := by
    have q3 := h.ac q1
    unfold me2M
    split
    · split
      · exact h.ra q3
      · exact q3
    · exact h.ra q3
  show I (me3M N (codY z.1 - 50) (me2M (accM (me1M z))))
  generalize me2M (accM (me1M z)) = y at q2 ⊢
  unfold me3M
  split
  · refine h.co (h.bo (h.ls 20).2 (h.pa (h.ac (h.th ?_))))
    exact h.1.1 y _ q2 rfl (Int.le_refl _)
  · exact q2
/-- all that is read keeps it -/
theorem ClA.pr {N : Int → Int} {I : ZS → Prop} (h : ClA N I) : ∀ (f : Nat) (z : ZS), I z → I (prM N f z) := by
  intro f
  induction f with
  | zero => exact fun _ q => q
  | succ f ih =>
    intro z q
    rw [prM]
    split
    · split
      · exact q
      · exact ih _ (h.me q)
    · exact q
/-- of exps' records: where they start, their kinds; a call's first argument -/
def RxA (i : Nat) (x : XrZ) : Prop := ((0 ≤ x.2.2.1.1 ∧ x.2.2.1.1 ≤ (i : Int)) ∧ 0 ≤ x.1.1 ∧ x.1.1 ≤ 15) ∧ (x.1.1 = 10 → x.2.2.1.2.1 = x.2.2.2.headD (-1) ∧ 0 ≤ x.1.2.2.1)
def XsA (z : ZS) : Prop := 0 ≤ zAt z.1 ∧ ∀ i, i < xnM z → RxA i (xth z i)
theorem XsA.pu {z : ZS} {x : XrZ} (h : XsA z) (q : RxA (xnM z) x) : XsA (puM x z) := by
  refine ⟨h.1, fun i hi => ?_⟩
  have e : xth (puM x z) i = if i = xnM z then x else xth z i := rfl
  rw [e]
  split
  · rename_i e9
    rw [e9]
    exact q
  · have : i < xnM z + 1 := hi
    exact h.2 i (by omega)
theorem xs_cl {N : Int → Int} : ClX N XsA := ⟨⟨fun _ h => h.1, fun z s' h _ q => ⟨Int.le_trans h.1 q, h.2⟩⟩, fun _ _ h q => h.pu ⟨⟨q.1.2, q.1.1.1, by have := q.1.1.2; omega⟩, q.2.2⟩⟩
theorem xs_ca {N : Int → Int} : ClA N XsA := ⟨⟨fun z z' h e q => ⟨Int.le_trans h.1 q, fun i hi => by
    have e1 : xnM z' = xnM z := congrArg xcZ e
    have e2 : xth z' i = xth z i := congrArg (fun l => xgZ l i) e
    rw [e2]
    exact h.2 i (e1 ▸ hi)⟩, fun _ _ h => ⟨h.1, h.2⟩⟩, fun _ _ h k s => h.pu ⟨⟨s, by omega⟩, fun q => by omega⟩, fun _ => iv_e xs_cl⟩
/-- what judgeProgram asks of exps' records -/
theorem xs_pr {N : Int → Int} {f : Nat} {z : ZS} (h0 : 0 ≤ zAt z.1) (he : z.2.1 = []) : XsA (prM N f z) := xs_ca.pr f z ⟨h0, fun i hi => by
  have : xnM z = 0 := congrArg xcZ he
  omega⟩
