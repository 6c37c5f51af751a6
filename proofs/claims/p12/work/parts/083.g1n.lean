/-! codes and places of tokens stay -/
def NpY (s t : SpC) : Prop := t.2.2 = s.2.2 ∧ True
theorem NpY.rf {s : SpC} : NpY s s := ⟨rfl, trivial⟩
theorem NpY.tr {s t u : SpC} (h : NpY s t) (g : NpY t u) : NpY s u := ⟨g.1.trans h.1, trivial⟩
abbrev GnY (f : SpC → SpC) : Prop := ∀ s, NpY s (f s)
theorem NpY.s2 {s t : SpC} (h : t.2.2 = s.2.2) : NpY s t := ⟨h, trivial⟩
theorem gn_rai {n : Int} : GnY (raiY n) := by
  intro s
  refine NpY.s2 ?_
  unfold raiY
  split <;> rfl
theorem gn_acc : GnY accY := by
  intro s
  unfold accY
  split
  · exact gn_rai s
  · split <;> exact NpY.s2 rfl
theorem gn_vad {ty f : Int} : GnY (vadY ty f) := fun _ => NpY.s2 rfl
theorem gn_met {ty : Int} : GnY (metY ty) := fun _ => NpY.s2 rfl
theorem gn_pad {ty : Int} : GnY (padY ty) := fun _ => NpY.s2 rfl
def PnY (s t : SpC) : Prop := NpY s t ∧ True
theorem PnY.l {s t u : SpC} (h : PnY s t) (g : NpY t u) : PnY s u := ⟨h.1.tr g, trivial⟩
theorem PnY.r {s t u : SpC} (g : NpY s t) (h : PnY t u) : PnY s u := ⟨g.tr h.1, trivial⟩
theorem pn_acc {s : SpC} : PnY s (accY s) := ⟨gn_acc s, trivial⟩
theorem pn_rai {n : Int} {s : SpC} (hn : ¬ n = 0) : PnY s (raiY n s) := ⟨gn_rai s, trivial⟩
theorem gn_xp {c : Int} : GnY (xpY c) := by
  intro s
  unfold xpY
  split
  · exact gn_acc s
  · exact gn_rai s
theorem gn_typ : GnY typY := by
  intro s
  unfold typY
  split
  · exact gn_acc s
  · exact gn_rai s
theorem gn_dc1 {h : Int} : GnY (dc1Y h) := by
  intro s
  unfold dc1Y
  split
  · split
    · exact gn_rai s
    · exact NpY.rf
  · exact gn_rai s
theorem gn_dc2 {ty f : Int} : GnY (dc2Y ty f) := by
  intro s
  unfold dc2Y
  split
  · exact (gn_vad s).tr (gn_acc _)
  · exact NpY.rf
theorem gn_dcl {ty f h : Int} : GnY (dclY ty f h) := fun s => (gn_dc1 s).tr (gn_dc2 _)
theorem gn_clp {E : SpC → SpC} (hE : GnY E) : ∀ n, GnY (clpY E n) := by
  intro n
  induction n with
  | zero => exact fun s => NpY.rf
  | succ n ih =>
    intro s
    rw [clpY]
    split
    · exact (gn_acc s).tr ((hE _).tr (ih _))
    · exact NpY.rf
theorem gn_chl {E : SpC → SpC} (hE : GnY E) : ∀ n, GnY (chlY E n) := by
  intro n
  induction n with
  | zero => exact fun s => NpY.rf
  | succ n ih =>
    intro s
    rw [chlY]
    split
    · exact (gn_acc s).tr ((hE _).tr (ih _))
    · exact NpY.rf
theorem gn_opr {m : Nat} {E I : SpC → SpC} (hE : GnY E) (hI : GnY I) : GnY (oprY m E I) := by
  intro s
  unfold oprY
  split
  · exact (gn_acc s).tr (hI _)
  split
  · exact (gn_acc s).tr (gn_xp _)
  split
  · unfold opnY
    refine (gn_acc s).tr ?_
    unfold op2Y
    split
    · exact (gn_typ _).tr ((gn_xp _).tr (hI _))
    · exact (hE _).tr (gn_xp _)
  split
  · unfold nmeY
    split
    · unfold calY
      refine ((gn_acc s).tr (gn_acc _)).tr (NpY.tr ?_ (gn_xp _))
      unfold ca2Y
      split
      · exact gn_rai _
      split
      · exact NpY.rf
      · exact (hE _).tr (gn_clp hE _ _)
    split
    · exact (gn_acc s).tr (gn_acc _)
    · exact gn_acc s
  split
  · exact gn_acc s
  · exact gn_rai s
theorem gn_chc {O E C : SpC → SpC} (hO : GnY O) (hE : GnY E) (hC : GnY C) : GnY (chcY O E C) := by
  intro s
  unfold chcY chnY ch2Y
  refine ((hO s).tr (gn_chl hO 501 _)).tr ?_
  split
  · exact (gn_acc _).tr ((hE _).tr ((gn_xp _).tr (hC _)))
  · exact NpY.rf
theorem gn_xps {O E C : SpC → SpC} (hO : GnY O) (hE : GnY E) (hC : GnY C) : GnY (xpsY O E C) := by
  intro s
  unfold xpsY
  split
  · split
    · unfold asgY
      exact ((gn_acc s).tr (gn_acc _)).tr (hE _)
    · exact gn_chc hO hE hC s
  · exact gn_chc hO hE hC s
theorem gn_lv : ∀ n, GnY (lvY n).1 ∧ GnY (lvY n).2.1 ∧ GnY (lvY n).2.2 := by
  intro n
  induction n with
  | zero => exact ⟨gn_rai, gn_rai, gn_rai⟩
  | succ n ih => exact ⟨gn_xps (gn_opr ih.1 ih.2.2) ih.1 ih.2.1, gn_chc (gn_opr ih.1 ih.2.2) ih.1 ih.2.1, gn_opr ih.1 ih.2.2⟩
theorem gn_e {n : Nat} : GnY (eY n) := (gn_lv n).1
theorem gn_c {n : Nat} : GnY (cY n) := (gn_lv n).2.1
theorem gn_o {n : Nat} : GnY (oY n) := (gn_lv n).2.2
theorem gn_op {n : Nat} : GnY (opY n) := gn_opr gn_e gn_o
theorem pn_xp {c : Int} {s : SpC} : PnY s (xpY c s) := by
  unfold xpY
  split
  · exact pn_acc
  · exact pn_rai (by decide)
theorem pn_typ {s : SpC} : PnY s (typY s) := by
  unfold typY
  split
  · exact pn_acc
  · exact pn_rai (by decide)
theorem gn_cnd {n : Nat} : GnY (cndY n) := fun s => ((gn_xp s).tr (gn_e _)).tr (gn_xp _)
theorem gn_va2 {n : Nat} {f : Int} : GnY (va2Y n f) := by
  intro s
  unfold va2Y
  split
  · exact (gn_xp s).tr (gn_e _)
  · exact NpY.rf
theorem pn_var {n : Nat} {s : SpC} : PnY s (varY n s) := by
  unfold varY
  split
  · exact pn_acc.l (((gn_typ _).tr (gn_dcl _)).tr (gn_va2 _))
  · exact pn_typ.l ((gn_dcl _).tr (gn_va2 _))
theorem gn_fex {n : Nat} : GnY (fexY n) := fun s => (gn_e s).tr (gn_clp gn_e _ _)
theorem pn_cas {n : Nat} {s : SpC} : PnY s (casY n s) := by
  unfold casY
  split
  · exact pn_acc.l ((gn_e _).tr (gn_xp _))
  · exact pn_acc.l (gn_xp _)
theorem gn_blk {Rw : Int → SpC → SpC} (h : ∀ sw, GnY (Rw sw)) : GnY (blkY Rw) := fun s => ((gn_xp s).tr (h _ _)).tr (gn_xp _)
theorem gn_si3 {k : Int} : GnY (si3Y k) := by
  intro s
  unfold si3Y
  split
  · exact NpY.rf
  split
  · exact NpY.rf
  split
  · exact gn_acc s
  · exact NpY.rf
theorem gn_si2 {n : Nat} {k : Int} : GnY (si2Y n k) := by
  intro s
  unfold si2Y
  split
  · exact gn_e s
  split
  · split
    · exact NpY.rf
    · exact gn_e s
  · exact NpY.rf
theorem gn_if2 {St : SpC → SpC} (h : GnY St) : GnY (if2Y St) := by
  intro s
  unfold if2Y
  split
  · exact (gn_acc s).tr (h _)
  · exact NpY.rf
theorem gn_tr1 : GnY tr1Y := by
  intro s
  unfold tr1Y
  split
  · exact NpY.rf
  · exact gn_rai s
theorem gn_tr2 {Rw : Int → SpC → SpC} (h : ∀ sw, GnY (Rw sw)) : GnY (tr2Y Rw) := by
  intro s
  unfold tr2Y
  split
  · exact (((gn_acc s).tr (gn_xp _)).tr ((gn_dcl _).tr (gn_xp _))).tr (gn_blk h _)
  · exact NpY.rf
theorem gn_tr3 {Rw : Int → SpC → SpC} (h : ∀ sw, GnY (Rw sw)) : GnY (tr3Y Rw) := by
  intro s
  unfold tr3Y
  split
  · exact (gn_acc s).tr (gn_blk h _)
  · exact NpY.rf
theorem gn_fo1 {n : Nat} : GnY (fo1Y n) := by
  intro s
  unfold fo1Y
  split
  · exact pn_var.1
  split
  · exact NpY.rf
  · exact gn_fex s
theorem gn_fo2 {n : Nat} : GnY (fo2Y n) := by
  intro s
  unfold fo2Y
  split
  · exact NpY.rf
  · exact gn_e s
theorem gn_fo3 {n : Nat} : GnY (fo3Y n) := by
  intro s
  unfold fo3Y
  split
  · exact NpY.rf
  · exact gn_fex s
theorem pn_sm {n : Nat} {St : SpC → SpC} {Rw : Int → SpC → SpC} (hS : GnY St) (hR : ∀ sw, GnY (Rw sw)) {s : SpC} : PnY s (smY n St Rw s) := by
  unfold smY
  split
  · unfold ifY
    exact pn_acc.l (((gn_cnd _).tr (hS _)).tr (gn_if2 hS _))
  split
  · unfold whiY
    exact pn_acc.l ((gn_cnd _).tr (hS _))
  split
  · unfold doY
    exact pn_acc.l ((((hS _).tr (gn_xp _)).tr (gn_cnd _)).tr (gn_xp _))
  split
  · unfold forY
    exact pn_acc.l ((((((((gn_xp _).tr (gn_fo1 _)).tr (gn_xp _)).tr (gn_fo2 _)).tr (gn_xp _)).tr (gn_fo3 _)).tr (gn_xp _)).tr (hS _))
  split
  · unfold swiY
    exact pn_acc.l ((((gn_cnd _).tr (gn_xp _)).tr (hR _ _)).tr (gn_xp _))
  split
  · unfold tryY
    exact pn_acc.l ((((gn_blk hR _).tr (gn_tr1 _)).tr (gn_tr2 hR _)).tr (gn_tr3 hR _))
  split
  · unfold simY
    split
    · unfold blkY
      exact pn_xp.l ((hR _ _).tr (gn_xp _))
    split
    · exact pn_acc
    · exact pn_acc.l (((gn_si2 _).tr (gn_si3 _)).tr (gn_xp _))
  split
  · split
    · unfold labY
      exact pn_acc.l ((gn_xp _).tr (hS _))
    · unfold xstY
      exact PnY.r (gn_e _) pn_xp
  · unfold xstY
    exact PnY.r (gn_e _) pn_xp
theorem gn_rp2 {n : Nat} {S : SpC → SpC} (hS : GnY S) : GnY (rp2Y n S) := by
  intro s
  unfold rp2Y
  split
  · exact pn_var.1.tr (gn_xp _)
  · exact hS s
theorem gn_rpa {n : Nat} {S : SpC → SpC} (hS : GnY S) {sw b : Int} : GnY (rpaY n S sw b) := by
  intro s
  unfold rpaY
  split
  · split
    · exact pn_cas.1
    split
    · exact (gn_rai s).tr (gn_rp2 hS _)
    · exact gn_rp2 hS s
  · exact gn_rp2 hS s
theorem gn_rwl {n : Nat} {S : SpC → SpC} (hS : GnY S) {sw : Int} : ∀ (f : Nat) (b : Int), GnY (rwlY n S sw f b) := by
  intro f
  induction f with
  | zero => exact fun b s => NpY.rf
  | succ f ih =>
    intro b s
    rw [rwlY]
    split
    · split
      · exact NpY.rf
      · exact (gn_rpa hS s).tr (ih _ _)
    · exact NpY.rf
theorem gn_ls : ∀ n, GnY (lsY n).1 ∧ ∀ sw, GnY ((lsY n).2 sw) := by
  intro n
  induction n with
  | zero => exact ⟨gn_rai, fun _ => gn_rai⟩
  | succ n ih =>
    have h : GnY (smY (n + 1) (lsY n).1 (lsY n).2) := fun s => (pn_sm ih.1 ih.2).1
    exact ⟨h, fun sw s => gn_rwl h _ _ s⟩
theorem gn_st {n : Nat} : GnY (stY n) := (gn_ls n).1
theorem gn_rw {n : Nat} {sw : Int} : GnY (rwY n sw) := (gn_ls n).2 sw
theorem pn_st {n : Nat} {s : SpC} : PnY s (stY n s) := by
  cases n with
  | zero => exact pn_rai (by decide)
  | succ n => exact pn_sm gn_st (fun _ => gn_rw)
theorem pn_rp2 {n : Nat} {s : SpC} : PnY s (rp2Y n (stY n) s) := by
  unfold rp2Y
  split
  · exact pn_var.l (gn_xp _)
  · exact pn_st
theorem gn_pa2 {i : Nat} {ty f : Int} : GnY (pa2Y i ty f) := by
  intro s
  unfold pa2Y
  split
  · exact (gn_dcl s).tr (gn_pad _)
  · exact gn_dcl s
theorem gn_pa1 {i : Nat} : GnY (pa1Y i) := by
  intro s
  unfold pa1Y
  split
  · exact ((gn_acc s).tr (gn_typ _)).tr (gn_pa2 _)
  · exact (gn_typ s).tr (gn_pa2 _)
theorem gn_pal : ∀ f i, GnY (palY f i) := by
  intro f
  induction f with
  | zero => exact fun i s => NpY.rf
  | succ f ih =>
    intro i s
    rw [palY]
    split
    · exact ((gn_pa1 s).tr (gn_acc _)).tr (ih _ _)
    · exact gn_pa1 s
theorem gn_par : GnY parY := by
  intro s
  unfold parY pa3Y
  refine NpY.tr ((gn_xp (c := 0) s).tr ?_) (gn_xp _)
  split
  · exact NpY.rf
  · exact gn_pal _ _ _
theorem gn_me3 {ty : Int} : GnY (me3Y ty) := by
  intro s
  unfold me3Y
  split
  · exact (((gn_met s).tr (gn_acc _)).tr (gn_par _)).tr (gn_blk (Rw := rwY 20) (fun _ => gn_rw) _)
  · exact NpY.rf
theorem gn_mth : GnY mthY := by
  intro s
  have a : NpY s (me1Y s) := by
    unfold me1Y
    split
    · exact NpY.rf
    · exact gn_rai s
  have b : NpY (accY (me1Y s)) (me2Y (accY (me1Y s))) := by
    unfold me2Y
    split
    · split
      · exact gn_rai _
      · exact NpY.rf
    · exact gn_rai _
  unfold mthY
  exact ((a.tr (gn_acc _)).tr b).tr (gn_me3 _)
theorem gn_prl : ∀ n, GnY (prlY n) := by
  intro n
  induction n with
  | zero => exact fun _ => NpY.rf
  | succ n ih =>
    intro s
    rw [prlY]
    split
    · split
      · exact NpY.rf
      · exact (gn_mth s).tr (ih _)
    · exact NpY.rf
