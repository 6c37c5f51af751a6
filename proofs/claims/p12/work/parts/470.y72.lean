/-! a walk along all that is read, for any relation that its single steps keep -/
abbrev CdN (o : Int) : Prop := ¬ o = 54 ∧ ¬ o = 41 ∧ ¬ o = 46 ∧ ¬ o = 47 ∧ ¬ o = 22
def WkC (N : Int → Int) (R : ZS → ZS → Prop) : Prop := (∀ z, R z z) ∧ (∀ a b c, R a b → R b c → R a c) ∧ (∀ z s', GpY z.1 s' → s'.2 = z.1.2 → R z (s', z.2)) ∧ (∀ z (y : Int × Int × Int × Int × Int), CdN y.1 → R z (z.1, .inr y :: z.2.1, z.2.2)) ∧ (∀ z j n f ty, 0 ≤ ty ∧ ty ≤ 4 → R z (va1M N j n f ty z)) ∧ (∀ z i, R z (arM i z)) ∧ (∀ z, R z (thM z)) ∧ (∀ z j (f : SrZ → SrZ), (∀ x, (f x).2.1 = x.2.1) → R z (seM j f z)) ∧ (∀ z c l, R z (beM c l z)) ∧ (∀ z t o, R z (veM t o z)) ∧ (∀ z ty f h, 0 ≤ ty ∧ ty ≤ 4 → R z (dcM N ty f h z)) ∧ (∀ z ty, 0 ≤ ty ∧ ty ≤ 4 → R z (padY ty z.1, z.2)) ∧ (∀ z n, R z (eM N n z)) ∧ (∀ z n, codY z.1 = 80 → R z (laB n z)) ∧ (∀ z n c, c = 64 ∨ c = 65 → R z (juM N c n z)) ∧ (∀ z ty, zFt z.1 = 0 → codY z.1 = 80 → 0 ≤ ty ∧ ty ≤ 5 → R z (accM (me0M ty z))) ∧ (∀ z a t, R z (coM 54 a 0 t z))
theorem WkC.rf {N : Int → Int} {R : ZS → ZS → Prop} (h : WkC N R) : ∀ z, R z z := h.1
theorem WkC.tr {N : Int → Int} {R : ZS → ZS → Prop} (h : WkC N R) : ∀ a b c, R a b → R b c → R a c := h.2.1
theorem WkC.s {N : Int → Int} {R : ZS → ZS → Prop} (h : WkC N R) : ∀ z s', GpY z.1 s' → s'.2 = z.1.2 → R z (s', z.2) := h.2.2.1
theorem WkC.it {N : Int → Int} {R : ZS → ZS → Prop} (h : WkC N R) : ∀ z (y : Int × Int × Int × Int × Int), CdN y.1 → R z (z.1, .inr y :: z.2.1, z.2.2) := h.2.2.2.1
theorem WkC.va1 {N : Int → Int} {R : ZS → ZS → Prop} (h : WkC N R) : ∀ z j n f ty, 0 ≤ ty ∧ ty ≤ 4 → R z (va1M N j n f ty z) := h.2.2.2.2.1
theorem WkC.ar {N : Int → Int} {R : ZS → ZS → Prop} (h : WkC N R) : ∀ z i, R z (arM i z) := h.2.2.2.2.2.1
theorem WkC.th {N : Int → Int} {R : ZS → ZS → Prop} (h : WkC N R) : ∀ z, R z (thM z) := h.2.2.2.2.2.2.1
theorem WkC.se {N : Int → Int} {R : ZS → ZS → Prop} (h : WkC N R) : ∀ z j (f : SrZ → SrZ), (∀ x, (f x).2.1 = x.2.1) → R z (seM j f z) := h.2.2.2.2.2.2.2.1
theorem WkC.be {N : Int → Int} {R : ZS → ZS → Prop} (h : WkC N R) : ∀ z c l, R z (beM c l z) := h.2.2.2.2.2.2.2.2.1
theorem WkC.ve {N : Int → Int} {R : ZS → ZS → Prop} (h : WkC N R) : ∀ z t o, R z (veM t o z) := h.2.2.2.2.2.2.2.2.2.1
theorem WkC.dc {N : Int → Int} {R : ZS → ZS → Prop} (h : WkC N R) : ∀ z ty f h, 0 ≤ ty ∧ ty ≤ 4 → R z (dcM N ty f h z) := h.2.2.2.2.2.2.2.2.2.2.1
theorem WkC.pad {N : Int → Int} {R : ZS → ZS → Prop} (h : WkC N R) : ∀ z ty, 0 ≤ ty ∧ ty ≤ 4 → R z (padY ty z.1, z.2) := h.2.2.2.2.2.2.2.2.2.2.2.1
theorem WkC.ee {N : Int → Int} {R : ZS → ZS → Prop} (h : WkC N R) : ∀ z n, R z (eM N n z) := h.2.2.2.2.2.2.2.2.2.2.2.2.1
theorem WkC.lb {N : Int → Int} {R : ZS → ZS → Prop} (h : WkC N R) : ∀ z n, codY z.1 = 80 → R z (laB n z) := h.2.2.2.2.2.2.2.2.2.2.2.2.2.1
theorem WkC.ju {N : Int → Int} {R : ZS → ZS → Prop} (h : WkC N R) : ∀ z n c, c = 64 ∨ c = 65 → R z (juM N c n z) := h.2.2.2.2.2.2.2.2.2.2.2.2.2.2.1
theorem WkC.me {N : Int → Int} {R : ZS → ZS → Prop} (h : WkC N R) : ∀ z ty, zFt z.1 = 0 → codY z.1 = 80 → 0 ≤ ty ∧ ty ≤ 5 → R z (accM (me0M ty z)) := h.2.2.2.2.2.2.2.2.2.2.2.2.2.2.2.1
theorem WkC.en {N : Int → Int} {R : ZS → ZS → Prop} (h : WkC N R) : ∀ z a t, R z (coM 54 a 0 t z) := h.2.2.2.2.2.2.2.2.2.2.2.2.2.2.2.2
def Rl (N : Int → Int) (R : ZS → ZS → Prop) (a b : ZS) : Prop := WkC N R → R a b
section
variable {N : Int → Int} {R : ZS → ZS → Prop} {a b c z0 z : ZS} {j n k : Nat}
theorem Rl.rf : Rl N R z z := fun w => w.rf z
theorem Rl.tr (h : Rl N R a b) (g : Rl N R b c) : Rl N R a c := fun w => w.tr _ _ _ (h w) (g w)
theorem Rl.ac : Rl N R z (accM z) := fun w => w.s _ _ (gd_acc _) mv_acc.1
theorem Rl.ra {c : Int} : Rl N R z (raiM c z) := fun w => w.s _ _ (gd_rai _) mv_rai.1
theorem Rl.xp {c : Int} : Rl N R z (xpM c z) := fun w => w.s _ _ (gd_xp _) mv_xp.1
theorem Rl.ty : Rl N R z (typM z) := fun w => w.s _ _ (gd_typ _) mv_typ.1
theorem Rl.it {y : Int × Int × Int × Int × Int} (h : CdN y.1) : Rl N R z (z.1, .inr y :: z.2.1, z.2.2) := fun w => w.it _ _ h
theorem Rl.co {o a b t : Int} (h : CdN o) : Rl N R z (coM o a b t z) := fun w => w.it _ _ h
theorem Rl.cx {o a b t : Int} (h : CdN o) : Rl N R z (cxM o a b t z) := fun w => w.it _ _ h
theorem Rl.va1 {f ty : Int} (ht : 0 ≤ ty ∧ ty ≤ 4) : Rl N R z (va1M N j n f ty z) := fun w => w.va1 _ _ _ _ _ ht
theorem Rl.ar {i : Int} : Rl N R z (arM i z) := fun w => w.ar _ _
theorem Rl.un : Rl N R z (unM j z) := fun w => w.ar _ _
theorem Rl.th : Rl N R z (thM z) := fun w => w.th _
theorem Rl.se {f : SrZ → SrZ} (q : ∀ x : SrZ, (f x).2.1 = x.2.1) : Rl N R z (seM j f z) := fun w => w.se _ _ _ q
theorem Rl.be {c l : Int} : Rl N R z (beM c l z) := fun w => w.be _ _ _
theorem Rl.dc {ty f h : Int} (ht : 0 ≤ ty ∧ ty ≤ 4) : Rl N R z (dcM N ty f h z) := fun w => w.dc _ _ _ _ ht
theorem Rl.ee : Rl N R z (eM N n z) := fun w => w.ee _ _
theorem Rl.pad {ty : Int} (h : 0 ≤ ty ∧ ty ≤ 4) : Rl N R z (padY ty z.1, z.2) := fun w => w.pad _ _ h
theorem Rl.lb (c : codY z.1 = 80) : Rl N R z (laB n z) := fun w => w.lb _ _ c
theorem Rl.ju {c : Int} (hc : c = 64 ∨ c = 65) : Rl N R z (juM N c n z) := fun w => w.ju _ _ _ hc
theorem Rl.bg {c : Int} : Rl N R z (bgM c n z) := Rl.be.tr (Rl.co (by decide))
theorem Rl.bh {c : Int} : Rl N R z (bgH c n z) := Rl.bg.tr Rl.th
theorem Rl.en {c : Nat} : Rl N R z (enM j c z) := Rl.co (by decide)
theorem Rl.po : Rl N R z (poM z) := Rl.cx (by decide)
theorem Rl.vx {c : Int} {out : List (Int × Int)} (h : Rl N R z0 z) : Rl N R z0 (xpM c (veM (zAt z.1) out z)) := Rl.tr (Rl.tr h (fun w => w.ve _ _ _)) Rl.xp
theorem Rl.vf {out : List (Int × Int)} (h : Rl N R z0 z) : Rl N R z0 (veM (zAt z.1 - 1) out z) := Rl.tr h (fun w => w.ve _ _ _)
theorem Rl.ex : Rl N R z (exS N j n z) := Rl.ee.tr (Rl.se (by intro _; rfl))
theorem Rl.cd : Rl N R z (cdM N j n z) := (Rl.xp.tr Rl.ex).tr Rl.xp
theorem Rl.bd : Rl N R z (bdM j k z) := (Rl.se (f := sBd k) (by intro _; rfl)).tr Rl.un
theorem Rl.xs : Rl N R z (xsM N n z) := (((Rl.bg.tr Rl.ex).tr Rl.po).tr Rl.xp).tr Rl.en
theorem Rl.va : Rl N R z (vaM N j n z) := by
  unfold vaM
  split
  · exact (Rl.ac.tr Rl.ty).tr (Rl.va1 tyv_rg)
  · exact Rl.ty.tr (Rl.va1 tyv_rg)
theorem Rl.to : Rl N R z (toM N n z) := ((Rl.bg.tr Rl.va).tr Rl.xp).tr Rl.en
theorem Rl.fx1 : Rl N R z (fx1M N n z) := (Rl.be.tr Rl.ex).tr Rl.po
end
theorem Rl.fxl {N : Int → Int} {R : ZS → ZS → Prop} {n : Nat} : ∀ (f j : Nat) (z : ZS), Rl N R z (fxlM N n f j z) := by
  intro f
  induction f with
  | zero => exact fun _ _ => Rl.rf
  | succ f ih =>
    intro j z
    rw [fxlM]
    split
    · exact ((Rl.ac.tr Rl.fx1).tr (Rl.se (by intro _; rfl))).tr (ih _ _)
    · exact Rl.rf
section
variable {N : Int → Int} {R : ZS → ZS → Prop} {z0 z : ZS} {j n k : Nat}
theorem Rl.fx : Rl N R z (fxM N n z) := Rl.fx1.tr (Rl.fxl 501 _ _)
theorem Rl.cs {jn : Int} : Rl N R z (csM N jn n z) := by
  unfold csM
  split
  · exact (((Rl.be.tr Rl.ac).tr Rl.ex).tr (Rl.cx (by decide))).tr Rl.xp
  · exact ((Rl.be.tr Rl.ac).tr (Rl.co (by decide))).tr Rl.xp
theorem Rl.gi {c : Int} (hc : c = 66 ∨ c = 67) : Rl N R z (giM N c n z) := by
  have q1 : Rl N R z (accM (bgM c n z)) := Rl.bg.tr Rl.ac
  refine Rl.tr (Rl.tr ?_ Rl.xp) Rl.en
  dsimp only
  split
  · refine Rl.tr ?_ (Rl.cx (by omega))
    split
    · exact (q1.tr Rl.ex).tr (Rl.se (by intro _; rfl))
    · exact q1.tr Rl.ex
  · exact (q1.tr (Rl.se (by intro _; rfl))).tr (Rl.co (by omega))
abbrev RlS (N : Int → Int) (R : ZS → ZS → Prop) (St : ZS → ZS) : Prop := ∀ z, Rl N R z (St z)
abbrev RlR (N : Int → Int) (R : ZS → ZS → Prop) (Rw : Int → Nat → ZS → ZS × Int) : Prop := ∀ (sw : Int) (jn : Nat) (z : ZS), Rl N R z (Rw sw jn z).1
variable {St : ZS → ZS} {Rw : Int → Nat → ZS → ZS × Int}
theorem Rl.blk (h : Rl N R z0 z) (r : RlR N R Rw) {o : List (Int × Int)} : Rl N R z0 (blkM Rw j o z) := by
  show Rl N R z0 (xpM 3 (veM (zAt (Rw 0 0 (xpM 2 (arM j z))).1.1) o (unM j (seM j (sBd (Rw 0 0 (xpM 2 (arM j z))).2) (Rw 0 0 (xpM 2 (arM j z))).1))))
  have q : Rl N R z0 (unM j (seM j (sBd (Rw 0 0 (xpM 2 (arM j z))).2) (Rw 0 0 (xpM 2 (arM j z))).1)) := ((((h.tr Rl.ar).tr Rl.xp).tr (r 0 0 _)).tr (Rl.se (by intro _; rfl))).tr Rl.un
  exact q.vx
theorem Rl.bo (h : Rl N R z0 z) (r : RlR N R Rw) {o : List (Int × Int)} : Rl N R z0 (boM Rw n o z) := (h.tr Rl.be).blk r
theorem Rl.bl (r : RlR N R Rw) : Rl N R z (blM Rw n z) := (Rl.blk (Rl.bh) r).tr Rl.en
theorem Rl.em : Rl N R z (emM n z) := (Rl.bg.tr Rl.ac).tr Rl.en
theorem Rl.la (c : codY z.1 = 80) (s : RlS N R St) : Rl N R z (laM n St z) := ((((Rl.lb (n := n) c).tr (s _)).tr Rl.bd).tr (Rl.co (by decide))).tr Rl.en
theorem Rl.if2 (s : RlS N R St) {c : Nat} : Rl N R z (if2M St j k c z) := by
  unfold if2M
  split
  · exact ((((((Rl.co (by decide)).tr Rl.ac).tr Rl.ar).tr (s _)).tr (Rl.se (by intro _; rfl))).tr Rl.un).tr ((Rl.co (by decide)).tr Rl.en)
  · exact (Rl.co (by decide)).tr Rl.en
theorem Rl.if (s : RlS N R St) : Rl N R z (ifM N n St z) := by
  have q : Rl N R z (ifB N n z) := (((Rl.bh.tr Rl.ac).tr Rl.cd).tr (Rl.cx (by decide))).tr Rl.ar
  exact ((q.tr (s _)).tr Rl.bd).tr (Rl.if2 s)
theorem Rl.wh (s : RlS N R St) : Rl N R z (whM N n St z) := by
  have q : Rl N R z (whB N n z) := ((((Rl.bh.tr (Rl.co (by decide))).tr Rl.ac).tr Rl.cd).tr (Rl.cx (by decide))).tr Rl.ar
  exact (((q.tr (s _)).tr Rl.bd).tr (Rl.co (by decide))).tr Rl.en
theorem Rl.do (s : RlS N R St) : Rl N R z (doM N n St z) := by
  have q : Rl N R z (doB n z) := ((Rl.bh.tr (Rl.co (by decide))).tr Rl.ac).tr Rl.ar
  exact (((((((q.tr (s _)).tr Rl.bd).tr Rl.xp).tr (Rl.co (by decide))).tr Rl.cd).tr Rl.xp).tr (Rl.cx (by decide))).tr Rl.en
theorem Rl.fo1 : Rl N R z (fo1M N j n z) := by
  unfold fo1M
  split
  · exact (Rl.be.tr Rl.va).tr (Rl.se (by intro _; rfl))
  split
  · exact Rl.rf
  · exact Rl.fx.tr (Rl.se (by intro _; rfl))
theorem Rl.fo2 : Rl N R z (fo2M N j k n z) := by
  unfold fo2M
  split
  · exact Rl.co (by decide)
  · exact Rl.ex.tr (Rl.cx (by decide))
theorem Rl.fo3 : Rl N R z (fo3M N j n z) := by
  unfold fo3M
  split
  · exact Rl.rf
  · exact Rl.fx.tr (Rl.se (by intro _; rfl))
theorem Rl.fob : Rl N R z (foB N j k n z) := by
  have a1 : Rl N R z (fo1M N j n (arM j (xpM 0 z))) := (Rl.xp.tr Rl.ar).tr Rl.fo1
  have a2 : ∀ w : ZS, Rl N R w (coM 32 k 0 (fiS (xpM 4 w) j) (xpM 4 w)) := fun w => Rl.xp.tr (Rl.co (by decide))
  have a3 : ∀ w : ZS, Rl N R w (coM 34 k 0 (fiS (xpM 4 w) j) (xpM 4 w)) := fun w => Rl.xp.tr (Rl.co (by decide))
  have a4 : ∀ w : ZS, Rl N R w (coM 35 k 0 (fiS (xpM 1 w) j) (xpM 1 w)) := fun w => Rl.xp.tr (Rl.co (by decide))
  exact ((((a1.tr (a2 _)).tr Rl.fo2).tr (a3 _)).tr Rl.fo3).tr (a4 _)
theorem Rl.fo (s : RlS N R St) : Rl N R z (foM2 N n St z) := by
  have q0 : Rl N R (bgH 60 n z) (foB N (snM z) (tnM z) n (accM (bgH 60 n z))) := Rl.ac.tr Rl.fob
  have q1 := q0.tr (s _)
  have q2 : Rl N R (bgH 60 n z) (bdM (snM z) (snM (foB N (snM z) (tnM z) n (accM (bgH 60 n z)))) (St (foB N (snM z) (tnM z) n (accM (bgH 60 n z))))) := q1.tr Rl.bd
  have q3 := Rl.vf (out := knS (St (foB N (snM z) (tnM z) n (accM (bgH 60 n z)))) (snM z)) q2
  exact Rl.bh.tr ((q3.tr (Rl.co (by decide))).tr Rl.en)
theorem Rl.sw (r : RlR N R Rw) : Rl N R z (swM N n Rw z) := by
  have q0 : Rl N R (bgH 61 n z) (swB N n z) := (((Rl.ac.tr Rl.cd).tr (Rl.cx (by decide))).tr Rl.ar).tr Rl.xp
  have q1 := q0.tr (r 1 (tnM z) _)
  have q2 := (q1.tr (Rl.se (j := snM z) (f := sBd (Rw 1 (tnM z) (swB N n z)).2) (by intro _; rfl))).tr (Rl.un (j := snM z))
  have q3 := Rl.vx (c := 3) (out := knS (Rw 1 (tnM z) (swB N n z)).1 (snM z)) q2
  exact Rl.bh.tr ((q3.tr (Rl.co (by decide))).tr Rl.en)
theorem Rl.tr1 : Rl N R z (tr1M z) := by
  unfold tr1M
  split
  · exact Rl.rf
  · exact Rl.ra
theorem Rl.tr2 (h : Rl N R z0 z) (r : RlR N R Rw) : Rl N R z0 (tr2M N Rw j k n z) := by
  unfold tr2M
  split
  · have b0 : Rl N R z (caM k z) := Rl.it (by show CdN 51; decide)
    have b1 : ∀ w : ZS, Rl N R w (xpM 1 (seM j (sLk (zVs w.1).length) (dcM N 3 0 1 w))) := fun w => ((Rl.dc (by decide)).tr (Rl.se (by intro _; rfl))).tr Rl.xp
    have b2 := (((h.tr b0).tr Rl.ac).tr (Rl.xp (c := 0))).tr (b1 _)
    exact (Rl.bo b2 r).tr (Rl.se (by intro _; rfl))
  · exact h
theorem Rl.tr3 (h : Rl N R z0 z) (r : RlR N R Rw) : Rl N R z0 (tr3M Rw j k n z) := by
  unfold tr3M
  split
  · exact (Rl.bo ((h.tr (Rl.co (by decide))).tr Rl.ac) r).tr (Rl.se (by intro _; rfl))
  · exact h
theorem Rl.trr (r : RlR N R Rw) : Rl N R z (trM N n Rw z) := by
  have q0 : Rl N R (bgH 68 n z) (trB n z) := (Rl.ac.tr (Rl.co (by decide))).tr Rl.ar
  have q1 := Rl.bo (n := n) (o := z.2.2.2.1.1) q0 r
  have q2 := (q1.tr (Rl.se (j := snM z) (f := sBd (snM z + 1)) (by intro _; rfl))).tr Rl.tr1
  have q3 := Rl.tr2 (j := snM z) (n := n) (k := tnM z) q2 r
  have q4 := Rl.tr3 (j := snM z) (n := n) (k := tnM z) q3 r
  exact Rl.bh.tr (((q4.tr (Rl.un (j := snM z))).tr (Rl.co (by decide))).tr Rl.en)
theorem Rl.sm (s : RlS N R St) (r : RlR N R Rw) : Rl N R z (smM N n St Rw z) := iv_ifc (I := Rl N R z) (fun _ => Rl.if s) (fun _ => iv_ifc (I := Rl N R z) (fun _ => Rl.wh s) (fun _ => iv_ifc (I := Rl N R z) (fun _ => Rl.do s) (fun _ => iv_ifc (I := Rl N R z) (fun _ => Rl.fo s) (fun _ => iv_ifc (I := Rl N R z) (fun _ => Rl.sw r) (fun _ => iv_ifc (I := Rl N R z) (fun _ => Rl.trr r) (fun _ => iv_ifc (I := Rl N R z) (fun _ => Rl.bl r) (fun _ => iv_ifc (I := Rl N R z) (fun _ => Rl.em) (fun _ => iv_ifc (I := Rl N R z) (fun c => Rl.ju c) (fun _ => iv_ifc (I := Rl N R z) (fun c => Rl.gi c) (fun _ => iv_ifc (I := Rl N R z) (fun c => iv_ifc (I := Rl N R z) (fun _ => Rl.la c s) (fun _ => Rl.xs)) (fun _ => Rl.xs)))))))))))
theorem Rl.rp2 (s : RlS N R St) : Rl N R z (rp2M N n St z) := by
  unfold rp2M
  split
  · exact Rl.to
  · exact s _
theorem Rl.rp (s : RlS N R St) {jn : Nat} {sw c : Int} : Rl N R z (rpM N n St sw jn c z) := by
  unfold rpM
  split
  · split
    · exact Rl.cs
    split
    · exact Rl.ra.tr (Rl.rp2 s)
    · exact Rl.rp2 s
  · exact Rl.rp2 s
theorem Rl.nx {l : Int} {i : Nat} : Rl N R z (nxM l i z) := by
  unfold nxM
  split
  · exact Rl.rf
  · exact Rl.se (by intro _; rfl)
end
theorem Rl.rwl {N : Int → Int} {R : ZS → ZS → Prop} {St : ZS → ZS} (s : RlS N R St) {n jn : Nat} {sw : Int} : ∀ (k : Nat) (f l : Int) (z : ZS), Rl N R z (rwlM N n St sw jn k f l z).1 := by
  intro k
  induction k with
  | zero => exact fun _ _ _ => Rl.rf
  | succ k ih =>
    intro f l z
    rw [rwlM]
    split
    · split
      · exact Rl.rf
      · exact ((Rl.rp s).tr Rl.nx).tr (ih _ _ _)
    · exact Rl.rf
theorem Rl.ls {N : Int → Int} {R : ZS → ZS → Prop} : ∀ n, RlS N R (lsM N n).1 ∧ RlR N R (lsM N n).2 := by
  intro n
  induction n with
  | zero => exact ⟨fun _ => Rl.ra, fun _ _ _ => Rl.ra⟩
  | succ n ih =>
    have s : RlS N R (smM N (n + 1) (lsM N n).1 (lsM N n).2) := fun _ => Rl.sm ih.1 ih.2
    exact ⟨s, fun sw jn z => Rl.rwl s 501 (-1) (-1) z⟩
section
variable {N : Int → Int} {R : ZS → ZS → Prop} {z : ZS}
theorem Rl.pa2 {i : Nat} {ty f : Int} (ht : 0 ≤ ty ∧ ty ≤ 4) : Rl N R z (pa2M N i ty f z) := by
  unfold pa2M
  split
  · exact (Rl.dc (N := N) (ty := ty) (f := f) (h := 1) ht).tr (Rl.pad ht)
  · exact Rl.dc ht
theorem Rl.pa1 {i : Nat} : Rl N R z (pa1M N i z) := by
  unfold pa1M
  split
  · exact (Rl.ac.tr Rl.ty).tr (Rl.pa2 tyv_rg)
  · exact Rl.ty.tr (Rl.pa2 tyv_rg)
theorem Rl.pal : ∀ (f i : Nat) (z : ZS), Rl N R z (palM N f i z) := by
  intro f
  induction f with
  | zero => exact fun _ _ => Rl.rf
  | succ f ih =>
    intro i z
    rw [palM]
    split
    · exact (Rl.pa1.tr Rl.ac).tr (ih _ _)
    · exact Rl.pa1
theorem Rl.pa : Rl N R z (paM N z) := by
  show Rl N R z (xpM 1 (pa3M N (xpM 0 z)))
  refine Rl.tr (Rl.tr (Rl.xp (c := 0)) ?_) (Rl.xp (c := 1))
  unfold pa3M
  split
  · exact Rl.rf
  · exact Rl.pal _ _ _
end
section
variable {N : Int → Int} {R : ZS → ZS → Prop} {z : ZS}
theorem Rl.me : Rl N R z (meM N z) := by
  have m1 : Rl N R z (me1M z) := by
    unfold me1M
    split
    · exact Rl.rf
    · exact Rl.ra
  have m2 : Rl N R z (accM (me1M z)) := m1.tr Rl.ac
  have m3 : Rl N R (accM (me1M z)) (me2M (accM (me1M z))) ∧ (zFt (me2M (accM (me1M z))).1 = 0 → codY (me2M (accM (me1M z))).1 = 80) := by
    generalize accM (me1M z) = u
    unfold me2M
    split
    · split
      · exact ⟨Rl.ra, fun h => absurd h (ra_ft (by decide))⟩
      · rename_i c _
        exact ⟨Rl.rf, fun _ => c⟩
    · exact ⟨Rl.ra, fun h => absurd h (ra_ft (by decide))⟩
  refine (m2.tr m3.1).tr ?_
  show Rl N R (me2M (accM (me1M z))) (me3M N (codY z.1 - 50) (me2M (accM (me1M z))))
  have m4 := m3.2
  have m5 : zFt (me2M (accM (me1M z))).1 = 0 → 0 ≤ codY z.1 - 50 ∧ codY z.1 - 50 ≤ 5 := fun f => by
    have f2 : zFt (accM (me1M z)).1 = 0 := by
      unfold me2M at f
      split at f
      · split at f
        · exact absurd f (ra_ft (by decide))
        · exact f
      · exact absurd f (ra_ft (by decide))
    have f1 : zFt (me1M z).1 = 0 := (gd_acc _).z f2
    unfold me1M at f1
    split at f1
    · omega
    · exact absurd f1 (ra_ft (by decide))
  generalize codY z.1 - 50 = ty at m5 ⊢
  generalize me2M (accM (me1M z)) = u at m4 m5 ⊢
  unfold me3M
  split
  · rename_i c
    have q0 : Rl N R u (paM N (accM (me0M ty u))) := Rl.tr (fun w => w.me u ty c (m4 c) (m5 c)) Rl.pa
    have r : RlR N R (rwM N 20) := (Rl.ls (N := N) 20).2
    have q1 := Rl.bo (n := 21) (o := []) q0 r
    exact q1.tr (fun w => w.en _ _ _)
  · exact Rl.rf
end
theorem Rl.pr {N : Int → Int} {R : ZS → ZS → Prop} : ∀ (f : Nat) (z : ZS), Rl N R z (prM N f z) := by
  intro f
  induction f with
  | zero => exact fun _ => Rl.rf
  | succ f ih =>
    intro z
    rw [prM]
    split
    · split
      · exact Rl.rf
      · exact Rl.me.tr (ih _)
    · exact Rl.rf
